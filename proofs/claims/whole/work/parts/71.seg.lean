/-! A WORLD IN THREE PARTS: a call works on the middle one -/
def shv (n : Nat) (v : Value) : Value := match v with
  | .ref k => .ref (k + n)
  | .int x => .int x
  | .long x => .long x
  | .float x => .float x
  | .double x => .double x
  | .null => .null
  | .retAddr x => .retAddr x
def she (n : Nat) (e : va_E) : va_E := match e with
  | .inl a => .inl a
  | .inr o => .inr (o.1, o.2.map (shv n))
abbrev adn (ad : Nat → Nat) (n : Nat) : Nat → Nat := fun k => ad (k + n)
theorem aq_v_shv (ad : Nat → Nat) (n : Nat) (v : Value) : aq_v ad (shv n v) = aq_v (adn ad n) v := by cases v <;> rfl
theorem aq_e_she (ad kt : Nat → Nat) (n k : Nat) (e : va_E) : aq_e ad kt (k + n) (she n e) = aq_e (adn ad n) kt k e := by
  cases e with
  | inl a => rfl
  | inr o =>
    have h : (o.2.map (shv n)).map (aq_v ad) = o.2.map (aq_v (adn ad n)) := by
      rw [List.map_map]
      exact List.map_congr_left (fun v _ => aq_v_shv ad n v)
    show (ad (k + n), (Sum.inr (o.1, (o.2.map (shv n)).map (aq_v ad)) : va_E)) = _
    rw [h]
    rfl
theorem she_0 (v : List va_E) : v.map (she 0) = v := by
  have h0 : ∀ x : Value, shv 0 x = x := fun x => by cases x <;> rfl
  have h : ∀ e : va_E, she 0 e = e := fun e => by
    cases e with
    | inl a => rfl
    | inr o =>
      show (Sum.inr (o.1, o.2.map (shv 0)) : va_E) = Sum.inr o
      have e2 : o.2.map (shv 0) = o.2 := by
        rw [List.map_congr_left (g := id) (fun x _ => h0 x)]
        exact List.map_id _
      rw [e2]
  rw [List.map_congr_left (g := id) (fun x _ => h x)]
  exact List.map_id _
def aq_z (ad kt : Nat → Nat) (n : Nat) (z : List va_E) : va_W := z.mapIdx (fun i e => aq_e ad kt (i + n) e)
theorem aq_w_seg (ad kt : Nat → Nat) (u v z : List va_E) : aq_w ad kt (u ++ (v.map (she u.length) ++ z)) = aq_w ad kt u ++ (aq_w (adn ad u.length) kt v ++ aq_z ad kt (u.length + v.length) z) := by
  unfold aq_w aq_z
  rw [List.mapIdx_append, List.mapIdx_append]
  congr 1
  congr 1
  · apply List.ext_getElem?
    intro i
    rw [List.getElem?_mapIdx, List.getElem?_mapIdx, List.getElem?_map]
    cases v[i]? with
    | none => rfl
    | some e => exact congrArg some (aq_e_she ad kt u.length i e)
  · congr 1
    funext i e
    rw [List.length_map]
    congr 1
    omega
theorem sg_P {D : va_G} {cl : List vw_C} {a b c : va_W} {H : Heap} (h : va_P D cl (a ++ (b ++ c)) H) : va_P D cl a H ∧ va_P D cl b H ∧ va_P D cl c H := by
  have key : ∀ q ∈ a ++ (b ++ c), va_at D cl q H := fun q hq => by
    obtain ⟨k, hk⟩ := List.getElem?_of_mem hq
    exact h k q hk
  exact ⟨fun k q hk => key q (List.mem_append_left _ (List.mem_of_getElem? hk)), fun k q hk => key q (List.mem_append_right _ (List.mem_append_left _ (List.mem_of_getElem? hk))), fun k q hk => key q (List.mem_append_right _ (List.mem_append_right _ (List.mem_of_getElem? hk)))⟩
theorem sg_2 {A : Nat → Prop} {a b : va_W} (h : va_D A (a ++ b)) : va_D A a ∧ va_D A b ∧ ∀ (i j : Nat) (p q : Nat × va_E), a[i]? = some p → b[j]? = some q → p.1 ≠ q.1 := by
  have la : ∀ {i : Nat} {p : Nat × va_E}, a[i]? = some p → (a ++ b)[i]? = some p := fun {i p} hp => by
    rw [List.getElem?_append_left (List.getElem?_eq_some_iff.mp hp).1]; exact hp
  have lb : ∀ {i : Nat} {p : Nat × va_E}, b[i]? = some p → (a ++ b)[a.length + i]? = some p := fun {i p} hp => by
    rw [List.getElem?_append_right (by omega), Nat.add_sub_cancel_left]; exact hp
  refine ⟨⟨fun i j p q hp hq e => h.1 i j p q (la hp) (la hq) e, fun k q hk => h.2 k q (la hk)⟩, ⟨fun i j p q hp hq e => ?_, fun k q hk => h.2 _ q (lb hk)⟩, fun i j p q hp hq e => ?_⟩
  · have := h.1 _ _ p q (lb hp) (lb hq) e
    omega
  · have := h.1 _ _ p q (la hp) (lb hq) e
    have := (List.getElem?_eq_some_iff.mp hp).1
    omega
theorem sg_D {A : Nat → Prop} {a b c : va_W} (h : va_D A (a ++ (b ++ c))) : va_D A b := (sg_2 (sg_2 h).2.1).1
theorem sg_join {A0 : Nat → Prop} {D : va_G} {cl : List vw_C} {a b c b1 : va_W} {H H1 : Heap} (hP : va_P D cl (a ++ (b ++ c)) H) (hD : va_D A0 (a ++ (b ++ c))) (hk : ∀ q : Nat, q < H.size → ¬ va_A b H.size q → H1[q]? = H[q]?) (hF : ∀ q, va_A b H.size q → A0 q) (hP1 : va_P D cl b1 H1) (hD1 : va_D (va_A b H.size) b1) : va_P D cl (a ++ (b1 ++ c)) H1 ∧ va_D A0 (a ++ (b1 ++ c)) := by
  obtain ⟨pa, pb, pc⟩ := sg_P hP
  obtain ⟨da, dbc, xa⟩ := sg_2 hD
  obtain ⟨db, dc, xb⟩ := sg_2 dbc
  have na : ∀ (k : Nat) (q : Nat × va_E), a[k]? = some q → q.1 < H.size ∧ ¬ va_A b H.size q.1 := fun k q hq => by
    have hl := (pa k q hq).lt
    refine ⟨hl, fun h => ?_⟩
    rcases h with ⟨k2, e, h⟩ | h
    · have h2 : (b ++ c)[k2]? = some (q.1, e) := by rw [List.getElem?_append_left (List.getElem?_eq_some_iff.mp h).1]; exact h
      exact xa k k2 q (q.1, e) hq h2 rfl
    · omega
  have nc : ∀ (k : Nat) (q : Nat × va_E), c[k]? = some q → q.1 < H.size ∧ ¬ va_A b H.size q.1 := fun k q hq => by
    have hl := (pc k q hq).lt
    refine ⟨hl, fun h => ?_⟩
    rcases h with ⟨k2, e, h⟩ | h
    · exact xb k2 k (q.1, e) q h hq rfl
    · omega
  refine ⟨va_P.app (fun k q hq => (pa k q hq).kept (hk q.1 (na k q hq).1 (na k q hq).2)) (va_P.app hP1 (fun k q hq => (pc k q hq).kept (hk q.1 (nc k q hq).1 (nc k q hq).2))), va_D.app da (va_D.app (hD1.weaken (fun k q _ h => hF q.1 h)) dc ?_) ?_⟩
  · exact fun i j p q hp hq e => (nc j q hq).2 (by rw [← e]; exact hD1.2 i p hp)
  · intro i j p q hp hq e
    rcases List.mem_append.mp (List.mem_of_getElem? hq) with h | h
    · obtain ⟨k, hk9⟩ := List.getElem?_of_mem h
      exact (na i p hp).2 (by rw [e]; exact hD1.2 k q hk9)
    · obtain ⟨k, hk9⟩ := List.getElem?_of_mem h
      have h2 : (b ++ c)[b.length + k]? = some q := by rw [List.getElem?_append_right (by omega), Nat.add_sub_cancel_left]; exact hk9
      exact xa i _ p q hp h2 e
/-- the world of the middle part, ready for a call -/
theorem sg_free {A : Nat → Prop} {a b c : va_W} {H0 H : Heap} {locs : List Loc} (hD : va_D A (a ++ (b ++ c))) (hS : va_S A H0 H locs) (hA : ∀ q, H0.size ≤ q → A q) : ∀ q, va_A b H.size q → A q := by
  intro q h
  rcases h with ⟨k, e, h⟩ | h
  · exact (sg_D hD).2 k (q, e) h
  · exact hA q (Nat.le_trans hS.1 h)
section SG
variable {X : gq_X} {mi mj : aq_M} {d ce sl : Nat} {O1 : aq_O} {u v v1 z : List va_E} {pc nx tg len idx : Nat} {kc : Int32} {al : List (Option Value)} {st stk as : List Value}
theorem gq_runV {ci : Nat} {fs : List Value} {r : vw_C} (hF : gq_Fix X mi) (hok : aq_okM mi = true) (hat : aq_at (aq_t mi) pc = some (.invokevirtual idx, len, nx, kc, tg)) (hcv : aq_cv (aq_y mi).cls idx mj as.length = true) (hM : AM mj d O1 (.ref 0 :: as) v v1)
    (hwt : (st.map fun v => v.category).sum ≤ 8) (hq : v[0]? = some (.inr (ci, fs))) (hr : vwCl[ci]? = some r) (hrc : r.1 = (aq_y mj).cls) {H : Heap} {locs : List Loc} {ls : Array Slot}
    (hW : aq_Wo (xD X) (xk X) (xd X) (xA X) (u ++ (v.map (she u.length) ++ z)) (xs X) H locs) (hL : aq_Lo (xd X) ls (aq_n mi) al) (hf : d + 1 + aq_mf O1 ≤ (xR X).frames) (hl : 28 * d + 28 + aq_ml O1 ≤ (xR X).locals) (hc : ce + aq_mc O1 ≤ (xR X).cells ∧ sl + aq_ms O1 ≤ (xR X).slots) :
    nx = pc + 3 ∧ vx_Run (xp X) (xl X) (xe X) (xR X) (xs X) (xm X) (xa X) (xb X) (xt X) (xc X) H locs ce sl (aq_mc O1) (aq_ms O1) (F0 (xm X) pc ls (((as.map (shv u.length)).reverse ++ .ref u.length :: st).map (aq_v (xd X)))) (st.map (aq_v (xd X))) (aq_R O1 (xD X) (xk X) (adn (xd X) u.length) v1 (va_A (aq_w (adn (xd X) u.length) (xk X) v) H.size) (Value.ref (adn (xd X) u.length 0) :: as.map (aq_v (adn (xd X) u.length))).toArray) (aq_XC O1 (xD X) (xk X) (adn (xd X) u.length) v1 (va_A (aq_w (adn (xd X) u.length) (xk X) v) H.size)) (va_A (aq_w (adn (xd X) u.length) (xk X) v) H.size) := by
  obtain ⟨p, l, e, R, s, m, args, below, meth, c, D, kt, ad, A, Q⟩ := X
  obtain ⟨hdec, hlen, hnx, -, -⟩ := aq_ok_at hok hat
  dsimp only at hdec hlen hnx
  have e9 := aq_l1 hlen rfl rfl; subst e9; subst hnx
  unfold aq_cv at hcv
  simp only [Bool.and_eq_true, decide_eq_true_eq] at hcv
  obtain ⟨hcb, hin, hse⟩ := hcv
  obtain ⟨hx, hb, hml, -, -, hown, hts, hlt, hA⟩ := hF
  obtain ⟨hK, hP, hD, hS⟩ := hW
  rw [aq_w_seg] at hP hD
  have hPb := (sg_P hP).2.1
  have hDb := sg_D hD
  have hrv := va_recv hK hPb hr (aq_w_at (ad := adn ad u.length) (kt := kt) hq)
  rw [hrc] at hrv
  have hfr := sg_free hD hS hA.1
  have hmap : (as.map (shv u.length)).map (aq_v ad) = as.map (aq_v (adn ad u.length)) := by
    rw [List.map_map]
    exact List.map_congr_left (fun x _ => aq_v_shv ad u.length x)
  refine ⟨rfl, vx_runV (As := as.map (aq_v (adn ad u.length))) (rest := st.map (aq_v ad)) (b := adn ad u.length 0) ⟨hx, hb, hml, hown, hts⟩ (hM l D kt (adn ad u.length) H.size hlt) ⟨aq_callB (O1 := O1) hts hcb hf hl, hts _ hin, hts _ hse⟩
    ⟨aq_P_blind _ _ _ _ _ _, hrv, fun U hU hWm => ⟨rfl, by rw [hU], by rw [hU]; exact hPb, va_K.moved hWm.alike hK, hDb.weaken (fun _ _ _ _ => trivial), aq_Ex_call hA.2 hS hfr hWm hU⟩⟩
    rfl (by simp) hL.2.1 ?_ (by rw [aq_v_cats]; exact lv_room (m := m) (pc := pc) (ls := ls) (rest := []) hwt) hdec hc⟩
  show ((as.map (shv u.length)).reverse ++ .ref u.length :: st).map (aq_v ad) = _
  rw [List.map_append, List.map_reverse, hmap, List.map_cons]
  show _ ++ (Value.ref (ad u.length) :: _) = _ ++ (Value.ref (ad (0 + u.length)) :: _)
  rw [Nat.zero_add]
/-- what a call leaves: the whole world -/
theorem gq_after (hF : gq_Fix X mi) {H : Heap} {locs L : List Loc} {st₀ t T' : State} (hlen : v1.length = v.length) (hW : aq_Wo (xD X) (xk X) (xd X) (xA X) (u ++ (v.map (she u.length) ++ z)) (xs X) H locs) (h0 : st₀.heap = H) (e1 : T'.heap = t.heap) (hL : ∀ q ∈ L, va_A (aq_w (adn (xd X) u.length) (xk X) v) H.size q.base)
    (hP1 : va_P (xD X) vwCl (aq_w (adn (xd X) u.length) (xk X) v1) t.heap) (hD1 : va_D (va_A (aq_w (adn (xd X) u.length) (xk X) v) H.size) (aq_w (adn (xd X) u.length) (xk X) v1)) (hF1 : va_F (va_A (aq_w (adn (xd X) u.length) (xk X) v) H.size) st₀ t) :
    aq_Wo (xD X) (xk X) (xd X) (xA X) (u ++ (v1.map (she u.length) ++ z)) (xs X) T'.heap (locs ++ L) := by
  obtain ⟨hK, hP, hD, hS⟩ := hW
  rw [aq_w_seg] at hP hD
  have hfr := sg_free hD hS hF.2.2.2.2.2.2.2.2.1
  have hS1 := aq_Sc hS h0 e1 hfr hL hF1
  obtain ⟨hz, hk⟩ := hF1
  rw [h0] at hz hk
  obtain ⟨j1, j2⟩ := sg_join hP hD (H1 := T'.heap) (fun q h1 h2 => by rw [e1]; exact hk q h1 h2) hfr (by rw [e1]; exact hP1) hD1
  refine ⟨hK, ?_, ?_, hS1⟩
  · rw [aq_w_seg, hlen]; exact j1
  · rw [aq_w_seg, hlen]; exact j2
theorem gq_callV {ci : Nat} {o : Option Value} {fs : List Value} {r : vw_C} (hF : gq_Fix X mi) (hok : aq_okM mi = true) (hat : aq_at (aq_t mi) pc = some (.invokevirtual idx, len, nx, kc, tg)) (hcv : aq_cv (aq_y mi).cls idx mj as.length = true) (hM : AM mj d (.inl o) (.ref 0 :: as) v v1)
    (hst : stk = (as.map (shv u.length)).reverse ++ .ref u.length :: st) (hwt : (st.map fun v => v.category).sum ≤ 8) (hq : v[0]? = some (.inr (ci, fs))) (hr : vwCl[ci]? = some r) (hrc : r.1 = (aq_y mj).cls) (hlen : v1.length = v.length) (hf : d + 1 ≤ (xR X).frames) (hl : 28 * d + 28 ≤ (xR X).locals) (hc : ce ≤ (xR X).cells ∧ sl ≤ (xR X).slots)
    (k : GW X mi ce sl (nx, al, (o.map (shv u.length)).toList ++ st, u ++ (v1.map (she u.length) ++ z))) : GW X mi ce sl (pc, al, stk, u ++ (v.map (she u.length) ++ z)) := by
  subst hst
  intro H locs ls hW hL
  obtain ⟨hnx, hrun⟩ := gq_runV (ce := ce) (sl := sl) hF hok hat hcv hM hwt hq hr hrc hW hL hf hl hc
  subst hnx
  intro T hT Y
  rcases hrun T hT Y with ⟨vr, st₀, t, T', L, h0, X', hL', e1, e2, ⟨hv, ⟨hP1, hD1⟩, hF1⟩, go⟩ | ⟨q, st₀, t, T', L, E, ce, h0, X', hL', e1, e2, hx, h9⟩
  · have hvr : vr = o.map (aq_v (adn (xd X) u.length)) := by injection hv
    subst hvr
    obtain ⟨t2, a1, b1⟩ := k T'.heap (locs ++ L) ls (gq_after hF hlen hW h0 e1 hL' hP1 hD1 hF1) hL T' rfl X'
    have e9 : ((o.map (shv u.length)).toList ++ st).map (aq_v (xd X)) = (o.map (aq_v (adn (xd X) u.length))).toList ++ st.map (aq_v (xd X)) := by
      cases o with
      | none => simp
      | some x => simp [aq_v_shv]
    rw [e9] at a1
    exact ⟨t2, go t2 a1, b1⟩
  · exact hx.elim
end SG
