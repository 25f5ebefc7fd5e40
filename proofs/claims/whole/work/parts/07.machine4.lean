/-! THE MACHINE OF POSITIONS, 4: runs, branches, calls, ends -/
theorem aq_run_sound {mi : aq_M} (hok : aq_okM mi = true) (hcl : ∀ (ci : Nat) (r : vw_C), vwCl[ci]? = some r → aq_okK r) {d : Nat} {O : aq_O} {w' : List va_E} : ∀ (n : Nat) {c0 c1 : aq_C} {P : Option Prop}, aq_run mi n c0 = some (c1, P) → aq_pp P → AW mi d O w' c1 → AW mi d O w' c0 := by
  intro n
  induction n with
  | zero =>
    intro c0 c1 P h _ k
    cases h
    exact k
  | succ n ih =>
    intro c0 c1 P h hP k
    unfold aq_run at h
    split at h
    · cases h
    · rename_i c2 P1 h1
      split at h
      · cases h
      · rename_i c3 P2 h2
        cases h
        obtain ⟨p1, p2⟩ := aq_and_pp hP
        exact aq_step_sound hok hcl h1 p1 (ih h2 p2 k)
section AQ4
variable {mi mj : aq_M} {d : Nat} {O : aq_O} {w w' w1 : List va_E} {pc nx tg len idx : Nat} {kc : Int32} {al : List (Option Value)} {st stk as : List Value} {off : Int} {x y : Int32}
theorem aq_if_eq (hok : aq_okM mi = true) (hat : aq_at (aq_t mi) pc = some (.ifCond .eq off, len, nx, kc, tg)) (kt : x = 0 → AW mi d O w' (tg, al, st, w)) (kf : ¬ x = 0 → AW mi d O w' (nx, al, st, w)) : AW mi d O w' (pc, al, .int x :: st, w) := by
  obtain ⟨hdec, hlen, hnx, -, htg⟩ := aq_ok_at hok hat
  dsimp only at hdec hlen hnx htg
  have e := aq_l1 hlen rfl rfl; subst e; subst hnx
  intro p l e s m args below meth c D kt' ad A H locs ls hF hA hW hL
  exact lv_if_eq hF.1 hF.2.1 hdec (by simpa [aq_okT] using htg) (fun h => kt h p l e s m args below meth c D kt' ad A H locs ls hF hA hW hL) (fun h => kf h p l e s m args below meth c D kt' ad A H locs ls hF hA hW hL)
theorem aq_icmp_eq (hok : aq_okM mi = true) (hat : aq_at (aq_t mi) pc = some (.if_icmp .eq off, len, nx, kc, tg)) (kt : x = y → AW mi d O w' (tg, al, st, w)) (kf : ¬ x = y → AW mi d O w' (nx, al, st, w)) : AW mi d O w' (pc, al, .int y :: .int x :: st, w) := by
  obtain ⟨hdec, hlen, hnx, -, htg⟩ := aq_ok_at hok hat
  dsimp only at hdec hlen hnx htg
  have e := aq_l1 hlen rfl rfl; subst e; subst hnx
  intro p l e s m args below meth c D kt' ad A H locs ls hF hA hW hL
  exact lv_icmp_eq hF.1 hF.2.1 hdec (by simpa [aq_okT] using htg) (fun h => kt h p l e s m args below meth c D kt' ad A H locs ls hF hA hW hL) (fun h => kf h p l e s m args below meth c D kt' ad A H locs ls hF hA hW hL)
theorem aq_if_ne (hok : aq_okM mi = true) (hat : aq_at (aq_t mi) pc = some (.ifCond .ne off, len, nx, kc, tg)) (kt : ¬ x = 0 → AW mi d O w' (tg, al, st, w)) (kf : x = 0 → AW mi d O w' (nx, al, st, w)) : AW mi d O w' (pc, al, .int x :: st, w) := by
  obtain ⟨hdec, hlen, hnx, -, htg⟩ := aq_ok_at hok hat
  dsimp only at hdec hlen hnx htg
  have e := aq_l1 hlen rfl rfl; subst e; subst hnx
  intro p l e s m args below meth c D kt' ad A H locs ls hF hA hW hL
  exact lv_if_ne hF.1 hF.2.1 hdec (by simpa [aq_okT] using htg) (fun h => kt h p l e s m args below meth c D kt' ad A H locs ls hF hA hW hL) (fun h => kf h p l e s m args below meth c D kt' ad A H locs ls hF hA hW hL)
theorem aq_icmp_ne (hok : aq_okM mi = true) (hat : aq_at (aq_t mi) pc = some (.if_icmp .ne off, len, nx, kc, tg)) (kt : ¬ x = y → AW mi d O w' (tg, al, st, w)) (kf : x = y → AW mi d O w' (nx, al, st, w)) : AW mi d O w' (pc, al, .int y :: .int x :: st, w) := by
  obtain ⟨hdec, hlen, hnx, -, htg⟩ := aq_ok_at hok hat
  dsimp only at hdec hlen hnx htg
  have e := aq_l1 hlen rfl rfl; subst e; subst hnx
  intro p l e s m args below meth c D kt' ad A H locs ls hF hA hW hL
  exact lv_icmp_ne hF.1 hF.2.1 hdec (by simpa [aq_okT] using htg) (fun h => kt h p l e s m args below meth c D kt' ad A H locs ls hF hA hW hL) (fun h => kf h p l e s m args below meth c D kt' ad A H locs ls hF hA hW hL)
theorem aq_if_lt (hok : aq_okM mi = true) (hat : aq_at (aq_t mi) pc = some (.ifCond .lt off, len, nx, kc, tg)) (kt : x < 0 → AW mi d O w' (tg, al, st, w)) (kf : ¬ x < 0 → AW mi d O w' (nx, al, st, w)) : AW mi d O w' (pc, al, .int x :: st, w) := by
  obtain ⟨hdec, hlen, hnx, -, htg⟩ := aq_ok_at hok hat
  dsimp only at hdec hlen hnx htg
  have e := aq_l1 hlen rfl rfl; subst e; subst hnx
  intro p l e s m args below meth c D kt' ad A H locs ls hF hA hW hL
  exact lv_if_lt hF.1 hF.2.1 hdec (by simpa [aq_okT] using htg) (fun h => kt h p l e s m args below meth c D kt' ad A H locs ls hF hA hW hL) (fun h => kf h p l e s m args below meth c D kt' ad A H locs ls hF hA hW hL)
theorem aq_icmp_lt (hok : aq_okM mi = true) (hat : aq_at (aq_t mi) pc = some (.if_icmp .lt off, len, nx, kc, tg)) (kt : x < y → AW mi d O w' (tg, al, st, w)) (kf : ¬ x < y → AW mi d O w' (nx, al, st, w)) : AW mi d O w' (pc, al, .int y :: .int x :: st, w) := by
  obtain ⟨hdec, hlen, hnx, -, htg⟩ := aq_ok_at hok hat
  dsimp only at hdec hlen hnx htg
  have e := aq_l1 hlen rfl rfl; subst e; subst hnx
  intro p l e s m args below meth c D kt' ad A H locs ls hF hA hW hL
  exact lv_icmp_lt hF.1 hF.2.1 hdec (by simpa [aq_okT] using htg) (fun h => kt h p l e s m args below meth c D kt' ad A H locs ls hF hA hW hL) (fun h => kf h p l e s m args below meth c D kt' ad A H locs ls hF hA hW hL)
theorem aq_if_ge (hok : aq_okM mi = true) (hat : aq_at (aq_t mi) pc = some (.ifCond .ge off, len, nx, kc, tg)) (kt : 0 ≤ x → AW mi d O w' (tg, al, st, w)) (kf : ¬ 0 ≤ x → AW mi d O w' (nx, al, st, w)) : AW mi d O w' (pc, al, .int x :: st, w) := by
  obtain ⟨hdec, hlen, hnx, -, htg⟩ := aq_ok_at hok hat
  dsimp only at hdec hlen hnx htg
  have e := aq_l1 hlen rfl rfl; subst e; subst hnx
  intro p l e s m args below meth c D kt' ad A H locs ls hF hA hW hL
  exact lv_if_ge hF.1 hF.2.1 hdec (by simpa [aq_okT] using htg) (fun h => kt h p l e s m args below meth c D kt' ad A H locs ls hF hA hW hL) (fun h => kf h p l e s m args below meth c D kt' ad A H locs ls hF hA hW hL)
theorem aq_icmp_ge (hok : aq_okM mi = true) (hat : aq_at (aq_t mi) pc = some (.if_icmp .ge off, len, nx, kc, tg)) (kt : y ≤ x → AW mi d O w' (tg, al, st, w)) (kf : ¬ y ≤ x → AW mi d O w' (nx, al, st, w)) : AW mi d O w' (pc, al, .int y :: .int x :: st, w) := by
  obtain ⟨hdec, hlen, hnx, -, htg⟩ := aq_ok_at hok hat
  dsimp only at hdec hlen hnx htg
  have e := aq_l1 hlen rfl rfl; subst e; subst hnx
  intro p l e s m args below meth c D kt' ad A H locs ls hF hA hW hL
  exact lv_icmp_ge hF.1 hF.2.1 hdec (by simpa [aq_okT] using htg) (fun h => kt h p l e s m args below meth c D kt' ad A H locs ls hF hA hW hL) (fun h => kf h p l e s m args below meth c D kt' ad A H locs ls hF hA hW hL)
theorem aq_if_gt (hok : aq_okM mi = true) (hat : aq_at (aq_t mi) pc = some (.ifCond .gt off, len, nx, kc, tg)) (kt : 0 < x → AW mi d O w' (tg, al, st, w)) (kf : ¬ 0 < x → AW mi d O w' (nx, al, st, w)) : AW mi d O w' (pc, al, .int x :: st, w) := by
  obtain ⟨hdec, hlen, hnx, -, htg⟩ := aq_ok_at hok hat
  dsimp only at hdec hlen hnx htg
  have e := aq_l1 hlen rfl rfl; subst e; subst hnx
  intro p l e s m args below meth c D kt' ad A H locs ls hF hA hW hL
  exact lv_if_gt hF.1 hF.2.1 hdec (by simpa [aq_okT] using htg) (fun h => kt h p l e s m args below meth c D kt' ad A H locs ls hF hA hW hL) (fun h => kf h p l e s m args below meth c D kt' ad A H locs ls hF hA hW hL)
theorem aq_icmp_gt (hok : aq_okM mi = true) (hat : aq_at (aq_t mi) pc = some (.if_icmp .gt off, len, nx, kc, tg)) (kt : y < x → AW mi d O w' (tg, al, st, w)) (kf : ¬ y < x → AW mi d O w' (nx, al, st, w)) : AW mi d O w' (pc, al, .int y :: .int x :: st, w) := by
  obtain ⟨hdec, hlen, hnx, -, htg⟩ := aq_ok_at hok hat
  dsimp only at hdec hlen hnx htg
  have e := aq_l1 hlen rfl rfl; subst e; subst hnx
  intro p l e s m args below meth c D kt' ad A H locs ls hF hA hW hL
  exact lv_icmp_gt hF.1 hF.2.1 hdec (by simpa [aq_okT] using htg) (fun h => kt h p l e s m args below meth c D kt' ad A H locs ls hF hA hW hL) (fun h => kf h p l e s m args below meth c D kt' ad A H locs ls hF hA hW hL)
theorem aq_if_le (hok : aq_okM mi = true) (hat : aq_at (aq_t mi) pc = some (.ifCond .le off, len, nx, kc, tg)) (kt : x ≤ 0 → AW mi d O w' (tg, al, st, w)) (kf : ¬ x ≤ 0 → AW mi d O w' (nx, al, st, w)) : AW mi d O w' (pc, al, .int x :: st, w) := by
  obtain ⟨hdec, hlen, hnx, -, htg⟩ := aq_ok_at hok hat
  dsimp only at hdec hlen hnx htg
  have e := aq_l1 hlen rfl rfl; subst e; subst hnx
  intro p l e s m args below meth c D kt' ad A H locs ls hF hA hW hL
  exact lv_if_le hF.1 hF.2.1 hdec (by simpa [aq_okT] using htg) (fun h => kt h p l e s m args below meth c D kt' ad A H locs ls hF hA hW hL) (fun h => kf h p l e s m args below meth c D kt' ad A H locs ls hF hA hW hL)
theorem aq_icmp_le (hok : aq_okM mi = true) (hat : aq_at (aq_t mi) pc = some (.if_icmp .le off, len, nx, kc, tg)) (kt : x ≤ y → AW mi d O w' (tg, al, st, w)) (kf : ¬ x ≤ y → AW mi d O w' (nx, al, st, w)) : AW mi d O w' (pc, al, .int y :: .int x :: st, w) := by
  obtain ⟨hdec, hlen, hnx, -, htg⟩ := aq_ok_at hok hat
  dsimp only at hdec hlen hnx htg
  have e := aq_l1 hlen rfl rfl; subst e; subst hnx
  intro p l e s m args below meth c D kt' ad A H locs ls hF hA hW hL
  exact lv_icmp_le hF.1 hF.2.1 hdec (by simpa [aq_okT] using htg) (fun h => kt h p l e s m args below meth c D kt' ad A H locs ls hF hA hW hL) (fun h => kf h p l e s m args below meth c D kt' ad A H locs ls hF hA hW hL)
/-- the words of a call -/
def aq_cb (own : String) (i : Nat) (mj : aq_M) (n : Nat) : Bool := decide (Cond.methodLink own i (aq_y mj) ∈ aq_TB) && (decide (Cond.initialized (aq_y mj).cls ∈ aq_TB) && (decide (Cond.code (aq_y mj) (aq_b mj) (aq_n mj) (aq_r mj) ∈ aq_TB) && (decide ((aq_y mj).cls ≠ "java/lang/invoke/MethodHandle") && (decide ((aq_y mj).cls ≠ "java/lang/invoke/VarHandle") && (decide ((parseMethodDescriptor (aq_y mj).desc).map (fun d => d.parameters.length) = some n) && decide (aq_n mj ≤ 9))))))
def aq_cv (own : String) (i : Nat) (mj : aq_M) (n : Nat) : Bool := aq_cb own i mj n && (decide (Cond.instanceMethod (aq_y mj) ∈ aq_TB) && decide (Cond.selects (aq_y mj).cls (aq_y mj) (aq_y mj) ∈ aq_TB))
def aq_cs (own : String) (i : Nat) (mj : aq_M) (n : Nat) : Bool := aq_cb own i mj n && decide (Cond.static (aq_y mj) ∈ aq_TB)
theorem aq_callB {R : Room} {s : State} {args : Array Value} {own : String} {i n : Nat} {O1 : aq_O} (hts : ∀ w ∈ aq_TB, w.before args s = true) (h : aq_cb own i mj n = true) (hf : d + 1 + aq_mf O1 ≤ R.frames) (hl : 28 * d + 28 + aq_ml O1 ≤ R.locals) : CallB R s args own i (aq_y mj) (aq_b mj) (aq_n mj) (aq_r mj) (aq_ws mj) (aq_rm d O1) (aq_mc O1) (aq_ms O1) n := by
  unfold aq_cb at h
  simp only [Bool.and_eq_true, decide_eq_true_eq] at h
  obtain ⟨h1, h2, h3, h4, h5, h6, h7⟩ := h
  refine callB_of (ws' := aq_TB) n hts (aq_good (fun w hw => ?_)) rfl rfl rfl (hts _ h2) (hts _ h1) ⟨h4, h5, h6⟩ ⟨?_, ?_⟩
  · rcases List.mem_cons.mp hw with rfl | hw
    · exact h3
    · exact hw
  · show d + aq_mf O1 + 1 ≤ R.frames
    omega
  · show 8 + (aq_n mj + 11) + (28 * d + aq_ml O1) ≤ R.locals
    omega
theorem aq_free_call {A : Nat → Prop} {ad kt : Nat → Nat} {H0 H : Heap} {locs : List Loc} (hD : va_D A (aq_w ad kt w)) (hS : va_S A H0 H locs) (hA : ∀ q, H0.size ≤ q → A q) : ∀ q, va_A (aq_w ad kt w) H.size q → A q := by
  intro q h
  rcases h with ⟨k, e, h⟩ | h
  · exact hD.2 k (q, e) h
  · exact hA q (Nat.le_trans hS.1 h)
theorem aq_Sc {A B : Nat → Prop} {s st₀ t T' : State} {H : Heap} {locs L : List Loc} (hS : va_S A s.heap H locs) (h0 : st₀.heap = H) (e1 : T'.heap = t.heap) (hfr : ∀ q, B q → A q) (hL : ∀ q ∈ L, B q.base) (hF : va_F B st₀ t) : va_S A s.heap T'.heap (locs ++ L) := by
  obtain ⟨hz, hk⟩ := hF
  rw [h0] at hz hk
  exact ⟨Nat.le_trans hS.1 (by rw [e1]; exact hz), fun q h1 h2 => by rw [e1, hk q (Nat.lt_of_lt_of_le h1 hS.1) (fun z => h2 (hfr q z))]; exact hS.2.1 q h1 h2, fun q hq => by
    rcases List.mem_append.mp hq with h | h
    · exact hS.2.2 q h
    · exact hfr _ (hL q h)⟩
/-- behind a call that came back -/
theorem aq_back {p : Program} {l : Launch} {e : Env} {R : Room} {s : State} {m : MethodId} {args a : Array Value} {below : List Frame} {meth : Method} {c : Code} {D : va_G} {kt ad : Nat → Nat} {A : Nat → Prop} {H : Heap} {locs : List Loc} {ls : Array Slot} {Q : State → Prop} {v : Option Value} {stk : List Value}
    (hA : aq_Ao A s) (hW : aq_Wo D kt ad A w s H locs) (hr : vx_Run p l e R s m args below meth c H locs 0 0 0 0 (F0 m pc ls stk) (st.map (aq_v ad)) (aq_R (.inl v) D kt ad w1 (va_A (aq_w ad kt w) H.size) a) (aq_XC (.inl v) D kt ad w1 (va_A (aq_w ad kt w) H.size)) (va_A (aq_w ad kt w) H.size))
    (k : ∀ (H1 : Heap) (locs1 : List Loc), aq_Wo D kt ad A w1 s H1 locs1 → W p l e R s m args below meth c H1 locs1 0 0 Q (F0 m (pc + 3) ls ((v.toList ++ st).map (aq_v ad)))) : W p l e R s m args below meth c H locs 0 0 Q (F0 m pc ls stk) := by
  obtain ⟨hK, hP, hD, hS⟩ := hW
  have hfr := aq_free_call hD hS hA.1
  intro T hT X
  rcases hr T hT X with ⟨vr, st₀, t, T', L, h0, X', hL', e1, e2, ⟨hv, ⟨hP1, hD1⟩, hF1⟩, go⟩ | ⟨q, st₀, t, T', L, E, ce, h0, X', hL', e1, e2, hx, h9⟩
  · have hvr : vr = v.map (aq_v ad) := by injection hv
    subst hvr
    have hS1 := aq_Sc hS h0 e1 hfr hL' hF1
    obtain ⟨t2, a1, b1⟩ := k T'.heap (locs ++ L) ⟨hK, by rw [e1]; exact hP1, hD1.weaken (fun _ _ _ h => hfr _ h), hS1⟩ T' rfl X'
    have e9 : (v.toList ++ st).map (aq_v ad) = (v.map (aq_v ad)).toList ++ st.map (aq_v ad) := by cases v <;> simp
    rw [e9] at a1
    exact ⟨t2, go t2 a1, b1⟩
  · exact hx.elim
/-- a call that throws: it goes through -/
theorem aq_thru {p : Program} {l : Launch} {e : Env} {R : Room} {s : State} {m : MethodId} {args a : Array Value} {below : List Frame} {meth : Method} {c : Code} {D : va_G} {kt ad : Nat → Nat} {A : Nat → Prop} {H : Heap} {locs : List Loc} {ls : Array Slot} {z : Nat} {stk : List Value}
    (hA : aq_Ao A s) (hW : aq_Wo D kt ad A w s H locs) (hlocks : meth.locks = false) (hex : ∀ x ∈ c.exceptionTable.toList, False) (hr : vx_Run p l e R s m args below meth c H locs 0 0 1 6 (F0 m pc ls stk) (st.map (aq_v ad)) (aq_R (.inr z) D kt ad w1 (va_A (aq_w ad kt w) H.size) a) (aq_XC (.inr z) D kt ad w1 (va_A (aq_w ad kt w) H.size)) (va_A (aq_w ad kt w) H.size)) :
    W p l e R s m args below meth c H locs 0 0 (aq_Q (.inr z) D kt ad A w1 below args s) (F0 m pc ls stk) := by
  obtain ⟨hK, hP, hD, hS⟩ := hW
  have hfr := aq_free_call hD hS hA.1
  intro T hT X
  rcases hr T hT X with ⟨vr, st₀, t, T', L, h0, X', hL', e1, e2, hx, go⟩ | ⟨q, st₀, t, T', L, E, ce, h0, X', hL', e1, e2, ⟨hE, ⟨hP1, hD1⟩, hF1⟩, hce, hcv, hcl, hst⟩
  · exact hx.elim
  · have hS1 := aq_Sc hS h0 e1 hfr hL' hF1
    obtain ⟨t2, a1, b1⟩ := vx_out (p := p) (l := l) (e := e) (R := R) (s := s) (m := m) (args := args) (below := below) (meth := meth) (c := c) (H := T'.heap) (locs := locs ++ L) (cells := 0 + 1) (slots := 0 + 6) (Qc := aq_R (.inr z) D kt ad w1 A) (XC := aq_XC (.inr z) D kt ad w1 A) (free := A) (pc := pc) (ls := ls) (rest := st.map (aq_v ad)) (E := E) (ce := ce) (q := q) (mc := 1) (ms := 6)
      (fun x hx => (hex x hx).elim) hlocks (by rw [e1]; exact hce) hcv hcl (fun t9 ht9 _ => ⟨hE, ⟨by rw [ht9, e1]; exact hP1, hD1.weaken (fun _ _ _ h => hfr _ h)⟩, hS1.F ht9⟩) hS1.2.2 (Nat.le_refl _) (Nat.le_refl _) T' rfl X'
    exact ⟨t2, hst.trans a1, b1⟩
theorem aq_runV {q ci : Nat} {O1 : aq_O} {fs : List Value} {r : vw_C} (hok : aq_okM mi = true) (hat : aq_at (aq_t mi) pc = some (.invokevirtual idx, len, nx, kc, tg)) (hcv : aq_cv (aq_y mi).cls idx mj as.length = true) (hM : AM mj d O1 (.ref q :: as) w w1)
    (hwt : (st.map fun v => v.category).sum ≤ 8) (hq : w[q]? = some (.inr (ci, fs))) (hr : vwCl[ci]? = some r) (hrc : r.1 = (aq_y mj).cls)
    {p : Program} {l : Launch} {e : Env} {R : Room} {s : State} {m : MethodId} {args : Array Value} {below : List Frame} {meth : Method} {c : Code} {D : va_G} {kt ad : Nat → Nat} {A : Nat → Prop} {H : Heap} {locs : List Loc} {ls : Array Slot}
    (hF : aq_Fix mi p l s m args meth c) (hA : aq_Ao A s) (hW : aq_Wo D kt ad A w s H locs) (hL : aq_Lo ad ls (aq_n mi) al) (hf : d + 1 + aq_mf O1 ≤ R.frames) (hl : 28 * d + 28 + aq_ml O1 ≤ R.locals) (hc : aq_mc O1 ≤ R.cells ∧ aq_ms O1 ≤ R.slots) :
    nx = pc + 3 ∧ vx_Run p l e R s m args below meth c H locs 0 0 (aq_mc O1) (aq_ms O1) (F0 m pc ls ((as.reverse ++ .ref q :: st).map (aq_v ad))) (st.map (aq_v ad)) (aq_R O1 D kt ad w1 (va_A (aq_w ad kt w) H.size) (Value.ref (ad q) :: as.map (aq_v ad)).toArray) (aq_XC O1 D kt ad w1 (va_A (aq_w ad kt w) H.size)) (va_A (aq_w ad kt w) H.size) := by
  obtain ⟨hdec, hlen, hnx, -, -⟩ := aq_ok_at hok hat
  dsimp only at hdec hlen hnx
  have e := aq_l1 hlen rfl rfl; subst e; subst hnx
  unfold aq_cv at hcv
  simp only [Bool.and_eq_true, decide_eq_true_eq] at hcv
  obtain ⟨hcb, hin, hse⟩ := hcv
  obtain ⟨hx, hb, hml, -, -, hown, hts, hlt, -⟩ := hF
  have hrv := va_recv hW.1 hW.2.1 hr (aq_w_at (ad := ad) (kt := kt) hq)
  rw [hrc] at hrv
  have hfr := aq_free_call hW.2.2.1 hW.2.2.2 hA.1
  exact ⟨rfl, vx_runV (As := as.map (aq_v ad)) (rest := st.map (aq_v ad)) (b := ad q) ⟨hx, hb, hml, hown, hts⟩ (hM l D kt ad H.size hlt) ⟨aq_callB (O1 := O1) hts hcb hf hl, hts _ hin, hts _ hse⟩
    ⟨aq_P_blind _ _ _ _ _ _, hrv, fun U hU hWm => ⟨rfl, by rw [hU], by rw [hU]; exact hW.2.1, va_K.moved hWm.alike hW.1, hW.2.2.1.weaken (fun _ _ _ _ => trivial), aq_Ex_call hA.2 hW.2.2.2 hfr hWm hU⟩⟩
    rfl (by simp) hL.2.1 (by simp [aq_v]) (by rw [aq_v_cats]; exact lv_room (m := m) (pc := pc) (ls := ls) (rest := []) hwt) hdec ⟨by rw [Nat.zero_add]; exact hc.1, by rw [Nat.zero_add]; exact hc.2⟩⟩
theorem aq_runS {O1 : aq_O} (hok : aq_okM mi = true) (hat : aq_at (aq_t mi) pc = some (.invokestatic idx, len, nx, kc, tg)) (hcv : aq_cs (aq_y mi).cls idx mj as.length = true) (hM : AM mj d O1 as w w1)
    (hwt : (st.map fun v => v.category).sum ≤ 8)
    {p : Program} {l : Launch} {e : Env} {R : Room} {s : State} {m : MethodId} {args : Array Value} {below : List Frame} {meth : Method} {c : Code} {D : va_G} {kt ad : Nat → Nat} {A : Nat → Prop} {H : Heap} {locs : List Loc} {ls : Array Slot}
    (hF : aq_Fix mi p l s m args meth c) (hA : aq_Ao A s) (hW : aq_Wo D kt ad A w s H locs) (hL : aq_Lo ad ls (aq_n mi) al) (hf : d + 1 + aq_mf O1 ≤ R.frames) (hl : 28 * d + 28 + aq_ml O1 ≤ R.locals) (hc : aq_mc O1 ≤ R.cells ∧ aq_ms O1 ≤ R.slots) :
    nx = pc + 3 ∧ vx_Run p l e R s m args below meth c H locs 0 0 (aq_mc O1) (aq_ms O1) (F0 m pc ls ((as.reverse ++ st).map (aq_v ad))) (st.map (aq_v ad)) (aq_R O1 D kt ad w1 (va_A (aq_w ad kt w) H.size) (as.map (aq_v ad)).toArray) (aq_XC O1 D kt ad w1 (va_A (aq_w ad kt w) H.size)) (va_A (aq_w ad kt w) H.size) := by
  obtain ⟨hdec, hlen, hnx, -, -⟩ := aq_ok_at hok hat
  dsimp only at hdec hlen hnx
  have e := aq_l1 hlen rfl rfl; subst e; subst hnx
  unfold aq_cs at hcv
  simp only [Bool.and_eq_true, decide_eq_true_eq] at hcv
  obtain ⟨hcb, hin⟩ := hcv
  obtain ⟨hx, hb, hml, -, -, hown, hts, hlt, -⟩ := hF
  have hfr := aq_free_call hW.2.2.1 hW.2.2.2 hA.1
  exact ⟨rfl, vx_runS (As := as.map (aq_v ad)) (rest := st.map (aq_v ad)) ⟨hx, hb, hml, hown, hts⟩ (hM l D kt ad H.size hlt) ⟨aq_callB (O1 := O1) hts hcb hf hl, hts _ hin⟩
    ⟨aq_P_blind _ _ _ _ _ _, fun U hU hWm => ⟨rfl, by rw [hU], by rw [hU]; exact hW.2.1, va_K.moved hWm.alike hW.1, hW.2.2.1.weaken (fun _ _ _ _ => trivial), aq_Ex_call hA.2 hW.2.2.2 hfr hWm hU⟩⟩
    rfl (by simp) hL.2.1 (by simp) (by rw [aq_v_cats]; exact lv_room (m := m) (pc := pc) (ls := ls) (rest := []) hwt) hdec ⟨by rw [Nat.zero_add]; exact hc.1, by rw [Nat.zero_add]; exact hc.2⟩⟩
theorem aq_callV {q ci : Nat} {v : Option Value} {fs : List Value} {r : vw_C} (hok : aq_okM mi = true) (hat : aq_at (aq_t mi) pc = some (.invokevirtual idx, len, nx, kc, tg)) (hcv : aq_cv (aq_y mi).cls idx mj as.length = true) (hM : AM mj d (.inl v) (.ref q :: as) w w1)
    (hst : stk = as.reverse ++ .ref q :: st) (hwt : (st.map fun v => v.category).sum ≤ 8) (hq : w[q]? = some (.inr (ci, fs))) (hr : vwCl[ci]? = some r) (hrc : r.1 = (aq_y mj).cls)
    (k : AW mi (d + 1) O w' (nx, al, v.toList ++ st, w1)) : AW mi (d + 1) O w' (pc, al, stk, w) := by
  subst hst
  intro p l e s m args below meth c D kt ad A H locs ls hF hA hW hL
  obtain ⟨hnx, hrun⟩ := aq_runV (e := e) (below := below) (R := aq_rm (d + 1) O) hok hat hcv hM hwt hq hr hrc hF hA hW hL (by show d + 1 + 0 ≤ d + 1 + aq_mf O; omega) (by show 28 * d + 28 + 0 ≤ 28 * (d + 1) + aq_ml O; omega) ⟨Nat.zero_le _, Nat.zero_le _⟩
  subst hnx
  exact aq_back hA hW hrun (fun H1 locs1 h1 => k p l e s m args below meth c D kt ad A H1 locs1 ls hF hA h1 hL)
theorem aq_callVT {q ci z : Nat} {fs : List Value} {r : vw_C} (hok : aq_okM mi = true) (hat : aq_at (aq_t mi) pc = some (.invokevirtual idx, len, nx, kc, tg)) (hcv : aq_cv (aq_y mi).cls idx mj as.length = true) (hM : AM mj d (.inr z) (.ref q :: as) w w1)
    (hst : stk = as.reverse ++ .ref q :: st) (hwt : (st.map fun v => v.category).sum ≤ 8) (hq : w[q]? = some (.inr (ci, fs))) (hr : vwCl[ci]? = some r) (hrc : r.1 = (aq_y mj).cls) : AW mi (d + 1) (.inr z) w1 (pc, al, stk, w) := by
  subst hst
  intro p l e s m args below meth c D kt ad A H locs ls hF hA hW hL
  obtain ⟨hnx, hrun⟩ := aq_runV (e := e) (below := below) (R := aq_rm (d + 1) (.inr z)) hok hat hcv hM hwt hq hr hrc hF hA hW hL (by show d + 1 + 6 ≤ d + 1 + 6; omega) (by show 28 * d + 28 + 96 ≤ 28 * (d + 1) + 96; omega) ⟨Nat.le_refl _, Nat.le_refl _⟩
  exact aq_thru hA hW hF.2.2.2.2.1 hF.2.2.2.2.2.2.2.2 hrun
theorem aq_callS {v : Option Value} (hok : aq_okM mi = true) (hat : aq_at (aq_t mi) pc = some (.invokestatic idx, len, nx, kc, tg)) (hcv : aq_cs (aq_y mi).cls idx mj as.length = true) (hM : AM mj d (.inl v) as w w1)
    (hst : stk = as.reverse ++ st) (hwt : (st.map fun v => v.category).sum ≤ 8)
    (k : AW mi (d + 1) O w' (nx, al, v.toList ++ st, w1)) : AW mi (d + 1) O w' (pc, al, stk, w) := by
  subst hst
  intro p l e s m args below meth c D kt ad A H locs ls hF hA hW hL
  obtain ⟨hnx, hrun⟩ := aq_runS (e := e) (below := below) (R := aq_rm (d + 1) O) hok hat hcv hM hwt hF hA hW hL (by show d + 1 + 0 ≤ d + 1 + aq_mf O; omega) (by show 28 * d + 28 + 0 ≤ 28 * (d + 1) + aq_ml O; omega) ⟨Nat.zero_le _, Nat.zero_le _⟩
  subst hnx
  exact aq_back hA hW hrun (fun H1 locs1 h1 => k p l e s m args below meth c D kt ad A H1 locs1 ls hF hA h1 hL)
theorem aq_callST {z : Nat} (hok : aq_okM mi = true) (hat : aq_at (aq_t mi) pc = some (.invokestatic idx, len, nx, kc, tg)) (hcv : aq_cs (aq_y mi).cls idx mj as.length = true) (hM : AM mj d (.inr z) as w w1)
    (hst : stk = as.reverse ++ st) (hwt : (st.map fun v => v.category).sum ≤ 8) : AW mi (d + 1) (.inr z) w1 (pc, al, stk, w) := by
  subst hst
  intro p l e s m args below meth c D kt ad A H locs ls hF hA hW hL
  obtain ⟨hnx, hrun⟩ := aq_runS (e := e) (below := below) (R := aq_rm (d + 1) (.inr z)) hok hat hcv hM hwt hF hA hW hL (by show d + 1 + 6 ≤ d + 1 + 6; omega) (by show 28 * d + 28 + 96 ≤ 28 * (d + 1) + 96; omega) ⟨Nat.le_refl _, Nat.le_refl _⟩
  exact aq_thru hA hW hF.2.2.2.2.1 hF.2.2.2.2.2.2.2.2 hrun
theorem aq_iret (hok : aq_okM mi = true) (hat : aq_at (aq_t mi) pc = some (.ireturn, len, nx, kc, tg)) (hr : aq_r mi = some .int) : AW mi d (.inl (some (.int x))) w (pc, al, [.int x], w) := by
  obtain ⟨hdec, hlen, hnx, -, -⟩ := aq_ok_at hok hat
  dsimp only at hdec hlen hnx
  have e := aq_l1 hlen rfl rfl; subst e; subst hnx
  intro p l e s m args below meth c D kt ad A H locs ls hF hA hW hL
  exact vx_ret (W.iret (v := x) hF.1 hF.2.1 (hF.2.2.2.1.trans hr) (fun t ht hWm => ⟨rfl, ⟨by rw [ht]; exact hW.2.1, hW.2.2.1⟩, hW.2.2.2.F ht⟩) hW.2.2.2.2.2 hdec hF.2.2.2.2.1)
theorem aq_zret (hok : aq_okM mi = true) (hat : aq_at (aq_t mi) pc = some (.ireturn, len, nx, kc, tg)) (hr : aq_r mi = some .boolean) (hn : narrow .boolean (.int x) = .int x) : AW mi d (.inl (some (.int x))) w (pc, al, [.int x], w) := by
  obtain ⟨hdec, hlen, hnx, -, -⟩ := aq_ok_at hok hat
  dsimp only at hdec hlen hnx
  have e := aq_l1 hlen rfl rfl; subst e; subst hnx
  intro p l e s m args below meth c D kt ad A H locs ls hF hA hW hL
  exact vx_ret (W.zret (v := x) hF.1 hF.2.1 (hF.2.2.2.1.trans hr) hn (fun t ht hWm => ⟨rfl, ⟨by rw [ht]; exact hW.2.1, hW.2.2.1⟩, hW.2.2.2.F ht⟩) hW.2.2.2.2.2 hdec hF.2.2.2.2.1)
theorem aq_lret {z : Int64} (hok : aq_okM mi = true) (hat : aq_at (aq_t mi) pc = some (.lreturn, len, nx, kc, tg)) (hr : aq_r mi = some .long) : AW mi d (.inl (some (.long z))) w (pc, al, [.long z], w) := by
  obtain ⟨hdec, hlen, hnx, -, -⟩ := aq_ok_at hok hat
  dsimp only at hdec hlen hnx
  have e := aq_l1 hlen rfl rfl; subst e; subst hnx
  intro p l e s m args below meth c D kt ad A H locs ls hF hA hW hL
  exact vx_ret (W.lret (v := z) hF.1 hF.2.1 (hF.2.2.2.1.trans hr) (fun t ht hWm => ⟨rfl, ⟨by rw [ht]; exact hW.2.1, hW.2.2.1⟩, hW.2.2.2.F ht⟩) hW.2.2.2.2.2 hdec hF.2.2.2.2.1)
theorem aq_vret (hok : aq_okM mi = true) (hat : aq_at (aq_t mi) pc = some (.return_, len, nx, kc, tg)) (hr : aq_r mi = none) : AW mi d (.inl none) w (pc, al, [], w) := by
  obtain ⟨hdec, hlen, hnx, -, -⟩ := aq_ok_at hok hat
  dsimp only at hdec hlen hnx
  have e := aq_l1 hlen rfl rfl; subst e; subst hnx
  intro p l e s m args below meth c D kt ad A H locs ls hF hA hW hL
  exact vx_ret (W.vret hF.1 hF.2.1 (hF.2.2.2.1.trans hr) (fun t ht hWm => ⟨rfl, ⟨by rw [ht]; exact hW.2.1, hW.2.2.1⟩, hW.2.2.2.F ht⟩) hW.2.2.2.2.2 hdec hF.2.2.2.2.1)
/-- the contract out of the walk -/
theorem aq_enter (hpl : plainFor (aq_y mi) = true) (hn : (aq_args as).length ≤ aq_n mi) (k : AW mi d O w' (0, aq_ent as (aq_n mi), [], w)) : AM mi d O as w w' := by
  intro l D kt ad sz hl
  refine MetFree.of_bodySF (code := aq_b mi) (maxLocals := aq_n mi) (ret := aq_r mi) hpl ?_ ?_
  · intro args s m h hn
    obtain ⟨meth, c, h1, h2, h3, h4, h5, h6, -, -⟩ := Cond.code_spec hn (atoms_spec (ws := aq_ws mi) h _ List.mem_cons_self)
    exact ⟨meth, c, h1, h2, h3, h4, h5, h6⟩
  · intro p e s m args below meth c s₁ B hml hv _
    obtain ⟨rfl, hsz, hP, hK, hD0, hE⟩ := hv
    subst hsz
    have hts0 := atoms_spec (ws := aq_ws mi) B.pre
    have hex : ∀ x ∈ c.exceptionTable.toList, False := fun x hx => by
      rw [Array.isEmpty_iff.mp (B.noHandlers (hts0 _ List.mem_cons_self))] at hx
      simp at hx
    have hFix : aq_Fix mi p l s m (as.map (aq_v ad)).toArray meth c := ⟨B.exec, B.bytes, hml, B.returns, B.notSynchronized, findClass_of_methodNamed B.named, fun w h => hts0 w (List.mem_cons_of_mem _ h), hl, hex⟩
    have K := k p l e s m (as.map (aq_v ad)).toArray below meth c D kt ad (va_A (aq_w ad kt w) s.heap.size) s.heap [] _ hFix ⟨fun q h => Or.inr h, hE⟩ ⟨hK, hP, hD0.self, va_S.rf⟩ (aq_Lo_ent hn)
    have hh0 : s₁.heap = s.heap := by rw [B.state]; rfl
    obtain ⟨t, a1, o, b1, b2, b3⟩ := K s₁ hh0 (Stand.of_body B)
    refine ⟨t, o, ?_, b1, b2, b3⟩
    rw [lg_entry_eq]
    exact a1
end AQ4
