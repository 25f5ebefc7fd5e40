/-! THE MACHINE OF POSITIONS, 1: values, cells and locals; a reference is the number of its cell in the world, 'ad' gives the cell's address, 'kt' the class of an array kind (0 int, 1 long, 2 boolean) -/
def aq_v (ad : Nat → Nat) (v : Value) : Value := match v with
  | .ref k => .ref (ad k)
  | .int x => .int x
  | .long x => .long x
  | .float x => .float x
  | .double x => .double x
  | .null => .null
  | .retAddr x => .retAddr x
theorem aq_v_cat (ad : Nat → Nat) (v : Value) : (aq_v ad v).category = v.category := by cases v <;> rfl
theorem aq_v_cats (ad : Nat → Nat) (st : List Value) : ((st.map (aq_v ad)).map fun v => v.category).sum = (st.map fun v => v.category).sum := by
  induction st with
  | nil => rfl
  | cons v r ih => simp only [List.map_cons, List.sum_cons, aq_v_cat, ih]
def aq_e (ad kt : Nat → Nat) (k : Nat) (e : va_E) : Nat × va_E := match e with
  | .inl a => (ad k, .inl (kt a.1, a.2))
  | .inr o => (ad k, .inr (o.1, o.2.map (aq_v ad)))
def aq_w (ad kt : Nat → Nat) (w : List va_E) : va_W := w.mapIdx (aq_e ad kt)
theorem aq_w_at {ad kt : Nat → Nat} {w : List va_E} {k : Nat} {e : va_E} (h : w[k]? = some e) : (aq_w ad kt w)[k]? = some (aq_e ad kt k e) := by
  unfold aq_w
  rw [List.getElem?_mapIdx, h]
  rfl
theorem aq_w_set (ad kt : Nat → Nat) (w : List va_E) (k : Nat) (e : va_E) : aq_w ad kt (w.set k e) = (aq_w ad kt w).set k (aq_e ad kt k e) := by
  unfold aq_w
  rw [List.mapIdx_set]
def aq_l (ad : Nat → Nat) (al : List (Option Value)) : List (Nat × Value) := al.zipIdx.filterMap (fun q => q.1.map (fun v => (q.2, aq_v ad v)))
theorem aq_l_in {ad : Nat → Nat} {al : List (Option Value)} {j : Nat} {v : Value} (h : al[j]? = some (some v)) : (j, aq_v ad v) ∈ aq_l ad al := by
  unfold aq_l
  rw [List.mem_filterMap]
  exact ⟨(some v, j), List.mk_mem_zipIdx_iff_getElem?.mpr h, rfl⟩
theorem aq_l_of {ad : Nat → Nat} {al : List (Option Value)} {j : Nat} {x : Value} (h : (j, x) ∈ aq_l ad al) : ∃ v, al[j]? = some (some v) ∧ x = aq_v ad v := by
  unfold aq_l at h
  rw [List.mem_filterMap] at h
  obtain ⟨⟨o, i⟩, h1, h2⟩ := h
  have h1 := List.mk_mem_zipIdx_iff_getElem?.mp h1
  cases o with
  | none => simp at h2
  | some v =>
    simp only [Option.map_some, Option.some.injEq, Prod.mk.injEq] at h2
    obtain ⟨rfl, rfl⟩ := h2
    exact ⟨v, h1, rfl⟩
/-- the locals hold al: a place with 'none' may hold anything -/
def aq_Lo (ad : Nat → Nat) (ls : Array Slot) (nL : Nat) (al : List (Option Value)) : Prop := al.length = nL ∧ lv_has ls nL (aq_l ad al)
theorem aq_Lo_at {ad : Nat → Nat} {ls : Array Slot} {nL : Nat} {al : List (Option Value)} (h : aq_Lo ad ls nL al) {j : Nat} {v : Value} (hj : al[j]? = some (some v)) : ls[j]? = some (.val (aq_v ad v)) := h.2.2.2 _ (aq_l_in hj)
theorem aq_Lo_le {ad : Nat → Nat} {ls : Array Slot} {nL : Nat} {al al' : List (Option Value)} (h : aq_Lo ad ls nL al) (hn : al'.length = al.length) (hle : ∀ (j : Nat) (v : Value), al'[j]? = some (some v) → al[j]? = some (some v)) : aq_Lo ad ls nL al' :=
  ⟨hn.trans h.1, h.2.1, h.2.2.1, fun q hq => by
    obtain ⟨j, x⟩ := q
    obtain ⟨v, h1, rfl⟩ := aq_l_of hq
    exact aq_Lo_at h (hle _ _ h1)⟩
def aq_k2 (al : List (Option Value)) (i : Nat) : List (Option Value) := match i with
  | 0 => al
  | j + 1 => match al[j]? with
    | some (some (.long _)) => al.set j none
    | some (some (.double _)) => al.set j none
    | _ => al
theorem aq_k2_len (al : List (Option Value)) (i : Nat) : (aq_k2 al i).length = al.length := by
  unfold aq_k2
  split
  · rfl
  · split <;> simp
theorem aq_set_none {al : List (Option Value)} {j k : Nat} {u : Value} (h : (al.set k none)[j]? = some (some u)) : j ≠ k ∧ al[j]? = some (some u) := by
  rw [List.getElem?_set] at h
  split at h
  · split at h <;> simp at h
  · rename_i hne
    exact ⟨fun q => hne q.symm, h⟩
theorem aq_k2_spec {al : List (Option Value)} {i j : Nat} {u : Value} (h : (aq_k2 al i)[j]? = some (some u)) : al[j]? = some (some u) ∧ ¬ (j + 1 = i ∧ u.category = 2) := by
  cases i with
  | zero => exact ⟨h, fun q => by omega⟩
  | succ k =>
    unfold aq_k2 at h
    dsimp only at h
    split at h
    · obtain ⟨h1, h2⟩ := aq_set_none h
      exact ⟨h2, fun q => by omega⟩
    · obtain ⟨h1, h2⟩ := aq_set_none h
      exact ⟨h2, fun q => by omega⟩
    · rename_i n1 n2
      refine ⟨h, ?_⟩
      rintro ⟨hj, hu⟩
      have hjk : j = k := by omega
      subst hjk
      cases u with
      | long y => exact n1 y h
      | double y => exact n2 y h
      | _ => simp [Value.category] at hu
def aq_s1 (al : List (Option Value)) (i : Nat) (v : Value) : List (Option Value) := (aq_k2 al i).set i (some v)
def aq_s2 (al : List (Option Value)) (i : Nat) (v : Value) : List (Option Value) := ((aq_k2 al i).set i (some v)).set (i + 1) none
theorem aq_Lo_s1 {ad : Nat → Nat} {ls ls' : Array Slot} {nL i : Nat} {al : List (Option Value)} {v : Value} (h0 : aq_Lo ad ls nL al) (h : lv_has ls' nL ((i, aq_v ad v) :: (aq_l ad al).filter (fun q => !(q.1 == i) && !(q.1 + 1 == i && q.2.category == 2)))) : aq_Lo ad ls' nL (aq_s1 al i v) := by
  refine ⟨by unfold aq_s1; rw [List.length_set, aq_k2_len]; exact h0.1, h.1, h.2.1, fun q hq => ?_⟩
  obtain ⟨j, x⟩ := q
  obtain ⟨u, h1, rfl⟩ := aq_l_of hq
  unfold aq_s1 at h1
  rw [List.getElem?_set] at h1
  split at h1
  · rename_i hij
    subst hij
    split at h1
    · simp only [Option.some.injEq] at h1
      subst h1
      exact h.2.2 _ List.mem_cons_self
    · simp at h1
  · rename_i hne
    obtain ⟨h2, h3⟩ := aq_k2_spec h1
    refine h.2.2 _ (List.mem_cons_of_mem _ (List.mem_filter.mpr ⟨aq_l_in h2, ?_⟩))
    have e1 : (j == i) = false := by simp; exact fun q => hne q.symm
    have e2 : (j + 1 == i && (aq_v ad u).category == 2) = false := by
      rw [aq_v_cat]
      cases hx : (j + 1 == i && u.category == 2) with
      | false => rfl
      | true =>
        simp only [Bool.and_eq_true, beq_iff_eq] at hx
        exact absurd hx h3
    simp only [e1, e2, Bool.not_false, Bool.and_self]
theorem aq_Lo_s2 {ad : Nat → Nat} {ls ls' : Array Slot} {nL i : Nat} {al : List (Option Value)} {v : Value} (h0 : aq_Lo ad ls nL al) (h : lv_has ls' nL ((i, aq_v ad v) :: (aq_l ad al).filter (fun q => !(q.1 == i) && (!(q.1 == i + 1) && !(q.1 + 1 == i && q.2.category == 2))))) : aq_Lo ad ls' nL (aq_s2 al i v) := by
  refine ⟨by unfold aq_s2; rw [List.length_set, List.length_set, aq_k2_len]; exact h0.1, h.1, h.2.1, fun q hq => ?_⟩
  obtain ⟨j, x⟩ := q
  obtain ⟨u, h1, rfl⟩ := aq_l_of hq
  unfold aq_s2 at h1
  obtain ⟨hj1, h7⟩ := aq_set_none h1
  rw [List.getElem?_set] at h7
  split at h7
  · rename_i hij
    subst hij
    split at h7
    · simp only [Option.some.injEq] at h7
      subst h7
      exact h.2.2 _ List.mem_cons_self
    · simp at h7
  · rename_i hne
    obtain ⟨h2, h3⟩ := aq_k2_spec h7
    refine h.2.2 _ (List.mem_cons_of_mem _ (List.mem_filter.mpr ⟨aq_l_in h2, ?_⟩))
    have e1 : (j == i) = false := by simp; exact fun q => hne q.symm
    have e3 : (j == i + 1) = false := by simp; exact hj1
    have e2 : (j + 1 == i && (aq_v ad u).category == 2) = false := by
      rw [aq_v_cat]
      cases hx : (j + 1 == i && u.category == 2) with
      | false => rfl
      | true =>
        simp only [Bool.and_eq_true, beq_iff_eq] at hx
        exact absurd hx h3
    simp only [e1, e2, e3, Bool.not_false, Bool.and_self]
/-- the locals with which a method begins -/
def aq_args : List Value → List (Option Value)
  | [] => []
  | v :: r => match v with
    | .long x => some (.long x) :: none :: aq_args r
    | .double x => some (.double x) :: none :: aq_args r
    | v => some v :: aq_args r
theorem aq_args_in {ad : Nat → Nat} : ∀ (as : List Value) (i j : Nat) (u : Value), (aq_args as)[j]? = some (some u) → (i + j, aq_v ad u) ∈ lv_args i (as.map (aq_v ad)) := by
  intro as
  induction as with
  | nil => intro i j u h; simp [aq_args] at h
  | cons v r ih =>
    intro i j u h
    have two : v.category = 2 → (some v :: none :: aq_args r)[j]? = some (some u) → (i + j, aq_v ad u) ∈ lv_args i ((v :: r).map (aq_v ad)) := by
      intro hc h
      match j, h with
      | 0, h =>
        simp only [List.getElem?_cons_zero, Option.some.injEq] at h
        subst h
        exact List.mem_cons_self
      | 1, h => simp at h
      | j + 2, h =>
        simp only [List.getElem?_cons_succ] at h
        have := ih (i + 2) j u h
        simp only [List.map_cons, lv_args, aq_v_cat, hc, if_true]
        exact List.mem_cons_of_mem _ (by rw [show i + (j + 2) = i + 2 + j by omega]; exact this)
    have one : ¬ v.category = 2 → (some v :: aq_args r)[j]? = some (some u) → (i + j, aq_v ad u) ∈ lv_args i ((v :: r).map (aq_v ad)) := by
      intro hc h
      match j, h with
      | 0, h =>
        simp only [List.getElem?_cons_zero, Option.some.injEq] at h
        subst h
        exact List.mem_cons_self
      | j + 1, h =>
        simp only [List.getElem?_cons_succ] at h
        have := ih (i + 1) j u h
        simp only [List.map_cons, lv_args, aq_v_cat, hc, if_false]
        exact List.mem_cons_of_mem _ (by rw [show i + (j + 1) = i + 1 + j by omega]; exact this)
    cases v with
    | long x => exact two rfl h
    | double x => exact two rfl h
    | _ => exact one (by simp [Value.category]) h
theorem aq_args_len {ad : Nat → Nat} (as : List Value) : (lg_sl (as.map (aq_v ad))).length = (aq_args as).length := by
  induction as with
  | nil => rfl
  | cons v r ih =>
    have e : lg_sl ((v :: r).map (aq_v ad)) = (if (aq_v ad v).category = 2 then [.val (aq_v ad v), .second] else [.val (aq_v ad v)]) ++ lg_sl (r.map (aq_v ad)) := rfl
    rw [e, aq_v_cat, List.length_append, ih]
    cases v <;> simp [Value.category, aq_args] <;> omega
def aq_ent (as : List Value) (nL : Nat) : List (Option Value) := aq_args as ++ List.replicate (nL - (aq_args as).length) none
theorem aq_Lo_ent {ad : Nat → Nat} {as : List Value} {nL : Nat} (h : (aq_args as).length ≤ nL) : aq_Lo ad ((lg_sl (as.map (aq_v ad)) ++ List.replicate (nL - (lg_sl (as.map (aq_v ad))).length) Slot.unset).toArray) nL (aq_ent as nL) := by
  have h0 := lv_entry (as.map (aq_v ad)) (n := nL) (by rw [aq_args_len]; exact h)
  refine ⟨by unfold aq_ent; simp; omega, h0.1, h0.2.1, fun q hq => ?_⟩
  obtain ⟨j, x⟩ := q
  obtain ⟨u, h1, rfl⟩ := aq_l_of hq
  unfold aq_ent at h1
  rw [List.getElem?_append] at h1
  split at h1
  · have := aq_args_in (ad := ad) as 0 j u h1
    rw [Nat.zero_add] at this
    exact h0.2.2 _ this
  · rw [List.getElem?_replicate] at h1
    split at h1 <;> simp at h1
