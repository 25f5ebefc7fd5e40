/-! PURE: the line and the queues -/
def RC (n : Nat) (aw : Nat → Option Nat) (la : Nat → Nat) (k : Nat) (qs qu : Nat → Nat) : Prop := n ≤ 60 ∧ (lst la 0 k).Nodup ∧ (∀ u, u ∈ lst la 0 k ↔ u < n ∧ ¬ aw u = none) ∧ ∀ o, o < 85 → (lst la 0 k).filter (fun u => decide (aw u = some o)) = lst qu (60 * o) (qs o)
theorem RC_mem {n k : Nat} {aw : Nat → Option Nat} {la qs qu : Nat → Nat} (h : RC n aw la k qs qu) {o u : Nat} (ho : o < 85) : u ∈ lst qu (60 * o) (qs o) ↔ u < n ∧ aw u = some o := by
  rw [← h.2.2.2 o ho, List.mem_filter, h.2.2.1, decide_eq_true_iff]
  constructor
  · rintro ⟨⟨a, _⟩, c⟩; exact ⟨a, c⟩
  · rintro ⟨a, c⟩; exact ⟨⟨a, by rw [c]; simp⟩, c⟩
theorem RC_nd {n k : Nat} {aw : Nat → Option Nat} {la qs qu : Nat → Nat} (h : RC n aw la k qs qu) {o : Nat} (ho : o < 85) : (lst qu (60 * o) (qs o)).Nodup := by
  rw [← h.2.2.2 o ho]
  exact List.Pairwise.filter _ h.2.1
theorem fl_ne {aw : Nat → Option Nat} {t o : Nat} (L : List Nat) : (L.filter (fun u => decide (u ≠ t))).filter (fun u => decide (va_up aw t none u = some o)) = (L.filter (fun u => decide (aw u = some o))).filter (fun u => decide (u ≠ t)) := by
  rw [List.filter_filter, List.filter_filter]
  refine List.filter_congr (fun u _ => ?_)
  unfold va_up
  by_cases e : u = t
  · simp [e]
  · simp [e]
theorem RC_leave {n k : Nat} {aw : Nat → Option Nat} {la qs qu : Nat → Nat} (h : RC n aw la k qs qu) {t o : Nat} (ho : o < 85) (ha : aw t = some o) (hq : ∀ o, qs o ≤ 60) : RC n (va_up aw t none) (lqF t k 0 0 la).1 (lqF t k 0 0 la).2 (va_up qs o ((lqF t (qs o) (60 * o) (60 * o) qu).2 - 60 * o)) (lqF t (qs o) (60 * o) (60 * o) qu).1 := by
  obtain ⟨h0, h1, h2, h3⟩ := h
  obtain ⟨a1, a2, a3, a4⟩ := lqF_lst (t := t) k 0 0 la (Nat.le_refl _)
  obtain ⟨b1, b2, b3, b4⟩ := lqF_lst (t := t) (qs o) (60 * o) (60 * o) qu (Nat.le_refl _)
  rw [Nat.sub_zero] at a4
  refine ⟨h0, ?_, fun u => ?_, fun p hp => ?_⟩
  · rw [a4]; exact List.Pairwise.filter _ h1
  · rw [a4, List.mem_filter, h2]
    unfold va_up
    by_cases e : u = t
    · simp [e]
    · simp [e]
  · rw [a4, fl_ne, h3 p hp]
    by_cases e : p = o
    · subst e
      rw [va_up_self, b4]
    · rw [va_up_ne _ _ e]
      rw [lst_congr (l := (lqF t (qs o) (60 * o) (60 * o) qu).1) (l' := qu) _ _ (fun x x1 x2 => ?_)]
      · rw [List.filter_eq_self]
        intro u hu
        rw [← h3 p hp, List.mem_filter, decide_eq_true_iff] at hu
        rw [decide_eq_true_iff]
        intro q
        rw [q, ha] at hu
        exact e (Option.some.inj hu.2).symm
      · have g1 := hq p
        have g2 := hq o
        rcases Nat.lt_or_gt_of_ne e with q | q
        · exact b1 x (by omega)
        · exact b2 x (by omega)
theorem RC_leave0 {n k : Nat} {aw : Nat → Option Nat} {la qs qu : Nat → Nat} (h : RC n aw la k qs qu) {t : Nat} (ha : aw t = none) : RC n (va_up aw t none) (lqF t k 0 0 la).1 (lqF t k 0 0 la).2 qs qu := by
  obtain ⟨h0, h1, h2, h3⟩ := h
  obtain ⟨a1, a2, a3, a4⟩ := lqF_lst (t := t) k 0 0 la (Nat.le_refl _)
  rw [Nat.sub_zero] at a4
  refine ⟨h0, ?_, fun u => ?_, fun p hp => ?_⟩
  · rw [a4]; exact List.Pairwise.filter _ h1
  · rw [a4, List.mem_filter, h2]
    unfold va_up
    by_cases e : u = t
    · simp [e]
    · simp [e]
  · rw [a4, fl_ne, h3 p hp, List.filter_eq_self]
    intro u hu
    rw [← h3 p hp, List.mem_filter, decide_eq_true_iff] at hu
    rw [decide_eq_true_iff]
    intro q
    rw [q, ha] at hu
    exact nomatch hu.2
/-- what one's coming into the line does; c: it holds the object already; cv says so of those that stand there -/
theorem RC_join {n k : Nat} {aw : Nat → Option Nat} {la qs qu : Nat → Nat} {ha : Nat → Int64} (h : RC n aw la k qs qu) {t o : Nat} (ht : t < n) (hw : aw t = none) (ho : o < 85) (hq : ∀ o, qs o ≤ 60) {cv : Nat → Bool} (hcv : ∀ u, u ∈ lst qu (60 * o) (qs o) → cv u = (hm ha u o).isSome) (hct : cv t = (hm ha t o).isSome) (hso : (lst qu (60 * o) (qs o)).Pairwise (fun a b => cv b = true → cv a = true)) (hqo : qs o < 60) :
    RC n (va_up aw t (some o)) (va_up (shF (k - plc aw ha la k t o) k la) (plc aw ha la k t o) t) (k + 1) (va_up qs o (qs o + 1)) (eqF cv t o (qs o) qu) ∧ (∃ A B, lst qu (60 * o) (qs o) = A ++ B ∧ lst (eqF cv t o (qs o) qu) (60 * o) (qs o + 1) = A ++ t :: B ∧ (A ++ t :: B).Pairwise (fun a b => cv b = true → cv a = true)) ∧ ∀ p, p ≠ o → lst (eqF cv t o (qs o) qu) (60 * p) (qs p) = lst qu (60 * p) (qs p) := by
  have hmem := fun u => RC_mem h (o := o) (u := u) ho
  obtain ⟨h0, h1, h2, h3⟩ := h
  obtain ⟨e0, A, B, e1, e2, e3, e4⟩ := eqF_lst (cv := cv) (t := t) (o := o) (qs o) qu
  have hpk : plc aw ha la k t o ≤ k := by
    unfold plc
    split
    · exact Nat.le_refl _
    · have := (pnF_at (aw := aw) (ha := ha) (la := la) (o := o) k 0).2.1; omega
  have hL := shF_lst (l := la) (k := k) (p := plc aw ha la k t o) (t := t) hpk
  have hsplit : lst la 0 k = lst la 0 (plc aw ha la k t o) ++ lst la (plc aw ha la k t o) (k - plc aw ha la k t o) := by
    have := lst_app (l := la) (b := k - plc aw ha la k t o) (plc aw ha la k t o) 0
    rw [Nat.zero_add, Nat.add_sub_cancel' hpk] at this
    exact this
  have htn : ¬ t ∈ lst la 0 k := fun q => ((h2 t).mp q).2 hw
  have hoth : ∀ p, p ≠ o → lst (eqF cv t o (qs o) qu) (60 * p) (qs p) = lst qu (60 * p) (qs p) := fun p e => by
    refine lst_congr _ _ (fun x x1 x2 => ?_)
    have g1 := hq p
    rcases Nat.lt_or_gt_of_ne e with q | q
    · exact e0 x (by omega)
    · exact e0 x (by omega)
  have hAB : (lst la 0 (plc aw ha la k t o)).filter (fun u => decide (aw u = some o)) = A ∧ (lst la (plc aw ha la k t o) (k - plc aw ha la k t o)).filter (fun u => decide (aw u = some o)) = B := by
    have hj : (lst la 0 (plc aw ha la k t o)).filter (fun u => decide (aw u = some o)) ++ (lst la (plc aw ha la k t o) (k - plc aw ha la k t o)).filter (fun u => decide (aw u = some o)) = A ++ B := by
      rw [← List.filter_append, ← hsplit, h3 o ho, e1]
    cases hc : cv t with
    | false =>
      have hB : B = [] := by
        cases B with
        | nil => rfl
        | cons b B => have := (e3 b (List.mem_cons_self ..)).1; rw [hc] at this; cases this
      have hp : plc aw ha la k t o = k := by
        unfold plc
        rw [hc] at hct
        cases hm' : hm ha t o with
        | none => rw [if_pos rfl]
        | some m => rw [hm'] at hct; cases hct
      rw [hp, Nat.sub_self] at hj ⊢
      subst hB
      rw [List.append_nil] at hj
      have z : (lst la k 0).filter (fun u => decide (aw u = some o)) = [] := rfl
      rw [z, List.append_nil] at hj
      exact ⟨hj, rfl⟩
    | true =>
      have hp : plc aw ha la k t o = pnF aw ha la o k 0 := by
        unfold plc
        rw [hc] at hct
        cases hm' : hm ha t o with
        | none => rw [hm'] at hct; cases hct
        | some m => rw [if_neg (by simp)]
      obtain ⟨p1, p2, p3, p4⟩ := pnF_at (aw := aw) (ha := ha) (la := la) (o := o) k 0
      rw [← hp] at p1 p2 p3 p4
      rw [Nat.zero_add] at p2 p4
      have hcvm : ∀ u, u ∈ lst la 0 k → aw u = some o → cv u = (hm ha u o).isSome := fun u hu ha' => hcv u ((hmem u).mpr ⟨((h2 u).mp hu).1, ha'⟩)
      refine sp_uniq (p := cv) hj ?_ ?_ ?_ ?_
      · intro u hu
        rw [List.mem_filter, decide_eq_true_iff] at hu
        obtain ⟨hu1, hu2⟩ := hu
        obtain ⟨j, hj1, hj2⟩ := (lst_mem _ _).mp hu1
        rw [Nat.zero_add] at hj2
        have := p3 j (by omega) hj1
        rw [hj2] at this
        rw [hcvm u (by rw [hsplit]; exact List.mem_append_left _ hu1) hu2]
        cases hx : hm ha u o with
        | none => exact absurd ⟨hu2, hx⟩ this
        | some m => rfl
      · intro u hu
        have hlt : plc aw ha la k t o < k := by
          rcases Nat.lt_or_ge (plc aw ha la k t o) k with q | q
          · exact q
          · rw [show k - plc aw ha la k t o = 0 by omega] at hu
            exact nomatch hu
        obtain ⟨c1, c2⟩ := p4 hlt
        have hsp : (lst la (plc aw ha la k t o) (k - plc aw ha la k t o)).filter (fun u => decide (aw u = some o)) = la (plc aw ha la k t o) :: (lst la (plc aw ha la k t o + 1) (k - plc aw ha la k t o - 1)).filter (fun u => decide (aw u = some o)) := by
          rw [show k - plc aw ha la k t o = (k - plc aw ha la k t o - 1) + 1 by omega]
          show (la _ :: lst la _ _).filter _ = _
          rw [List.filter_cons_of_pos (by simp [c1])]
          rfl
        have hfirst : cv (la (plc aw ha la k t o)) = false := by
          rw [hcvm _ ?_ c1, c2]
          · rfl
          · exact (lst_mem _ _).mpr ⟨_, hlt, by rw [Nat.zero_add]⟩
        have hso2 := hso
        rw [e1, ← hj, List.pairwise_append] at hso2
        have hso3 := hso2.2.1
        rw [hsp] at hso3 hu
        rw [List.pairwise_cons] at hso3
        rcases List.mem_cons.mp hu with q | q
        · rw [q]; exact hfirst
        · cases hcu : cv u with
          | false => rfl
          | true => have := hso3.1 u q hcu; rw [hfirst] at this; cases this
      · intro u hu
        rcases e4 with e4 | ⟨A', v, e4, e5⟩
        · rw [e4] at hu; exact nomatch hu
        · have hv : cv v = true := by
            cases hcv' : cv v with
            | true => rfl
            | false => exact absurd ⟨hc, hcv'⟩ e5
          have hso2 := hso
          rw [e1, e4, List.pairwise_append] at hso2
          have hso3 := List.pairwise_append.mp hso2.1
          rw [e4] at hu
          rcases List.mem_append.mp hu with q | q
          · exact hso3.2.2 u q v (List.mem_singleton.mpr rfl) hv
          · rw [List.mem_singleton] at q; rw [q]; exact hv
      · intro u hu
        exact (e3 u hu).2
  have hneq : ∀ (L : List Nat) (p : Nat), (∀ u, u ∈ L → u ∈ lst la 0 k) → L.filter (fun u => decide (va_up aw t (some o) u = some p)) = L.filter (fun u => decide (aw u = some p)) := by
    intro L p hL'
    refine List.filter_congr (fun u hu => ?_)
    rw [va_up_ne _ _ (fun q : u = t => htn (by rw [← q]; exact hL' u hu))]
  have hin1 : ∀ u, u ∈ lst la 0 (plc aw ha la k t o) → u ∈ lst la 0 k := fun u hu => by rw [hsplit]; exact List.mem_append_left _ hu
  have hin2 : ∀ u, u ∈ lst la (plc aw ha la k t o) (k - plc aw ha la k t o) → u ∈ lst la 0 k := fun u hu => by rw [hsplit]; exact List.mem_append_right _ hu
  refine ⟨⟨h0, ?_, fun u => ?_, fun p hp => ?_⟩, ⟨A, B, e1, e2, ?_⟩, hoth⟩
  · rw [hL, List.nodup_append]
    rw [hsplit, List.nodup_append] at h1
    refine ⟨h1.1, List.nodup_cons.mpr ⟨fun q => htn (hin2 t q), h1.2.1⟩, fun a ha1 b hb => ?_⟩
    rcases List.mem_cons.mp hb with q | q
    · intro e; rw [e, q] at ha1; exact htn (hin1 t ha1)
    · exact h1.2.2 a ha1 b q
  · rw [hL, List.mem_append, List.mem_cons]
    have hu := h2 u
    rw [hsplit, List.mem_append] at hu
    unfold va_up
    by_cases e : u = t
    · subst e; simp [ht]
    · simp only [if_neg e, e, false_or]; exact hu
  · rw [hL, List.filter_append]
    by_cases e : p = o
    · subst e
      rw [List.filter_cons_of_pos (by rw [va_up_self]; simp), hneq _ p hin1, hneq _ p hin2, hAB.1, hAB.2, va_up_self, e2]
    · rw [List.filter_cons_of_neg (by rw [va_up_self]; simp; exact fun q => e q.symm), hneq _ p hin1, hneq _ p hin2, va_up_ne _ _ e, hoth p e, ← h3 p hp, hsplit, List.filter_append]
  · rw [List.pairwise_append, List.pairwise_cons]
    rw [e1, List.pairwise_append] at hso
    refine ⟨hso.1, ⟨fun b hb hcb => ?_, hso.2.1⟩, fun a ha1 b hb hcb => ?_⟩
    · have := (e3 b hb).2; rw [this] at hcb; cases hcb
    · rcases List.mem_cons.mp hb with q | q
      · subst q
        rcases e4 with e4 | ⟨A', v, e4, e5⟩
        · rw [e4] at ha1; exact nomatch ha1
        · have hv : cv v = true := by
            cases hcv' : cv v with
            | true => rfl
            | false => exact absurd ⟨hcb, hcv'⟩ e5
          have hso3 := hso.1
          rw [e4] at hso3 ha1
          have hso4 := List.pairwise_append.mp hso3
          rcases List.mem_append.mp ha1 with q | q
          · exact hso4.2.2 a q v (List.mem_singleton.mpr rfl) hv
          · rw [List.mem_singleton] at q; rw [q]; exact hv
      · exact hso.2.2 a ha1 b q hcb
