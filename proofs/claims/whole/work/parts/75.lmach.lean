/-! THE LAW'S OWN STEPS: calls of helpers and of the reference, the script, the end -/
section LQ
variable {X : gq_X} {mi mj : aq_M} {d ce sl : Nat} {O1 : aq_O} {u v v1 z : List va_E} {pc nx tg len idx : Nat} {kc : Int32} {al : List (Option Value)} {st stk as : List Value} {hh : List (Nat × Nat × Nat × Nat)}
theorem gq_callH {k : Int32} (hF : gq_Fix X mi) (hN : aq_Nc (xs X)) (hcls : (aq_y mi).cls = "LockDeskLaw") (hok : aq_okM mi = true) (hat : aq_at (aq_t mi) pc = some (.invokestatic idx, len, nx, kc, tg)) (hch : aq_ch idx mj hh as.length = true) (hM : HM mj hh d O1 as v v1 k)
    (hst : stk = as.reverse ++ st) (hwt : (st.map fun v => v.category).sum ≤ 8) (hlen : v1.length = v.length) (hf : d + 2 + aq_mf O1 ≤ (xR X).frames) (hl : 28 * d + 56 + aq_ml O1 ≤ (xR X).locals) (hc : ce + aq_mc O1 ≤ (xR X).cells ∧ sl + aq_ms O1 ≤ (xR X).slots)
    (kk : GW X mi (ce + aq_mc O1) (sl + aq_ms O1) (nx, al, .int k :: st, v1 ++ z)) : GW X mi ce sl (pc, al, stk, v ++ z) := by
  subst hst
  obtain ⟨p, l, e, R, s, m, args, below, meth, c, D, kt, ad, A, Q⟩ := X
  have hF0 := hF
  obtain ⟨hdec, hl3, hnx, -, -⟩ := aq_ok_at hok hat
  dsimp only at hdec hl3 hnx
  have e9 := aq_l1 hl3 rfl rfl; subst e9; subst hnx
  unfold aq_ch at hch
  simp only [Bool.and_eq_true, decide_eq_true_eq] at hch
  obtain ⟨w1, w2, w3, w4, w5, w6, w7, w8⟩ := hch
  obtain ⟨hx, hb, hml, -, -, hown, hts, hlt, hA⟩ := hF
  rw [hcls] at hown
  have e1 : ∀ q : List va_E, q ++ z = [] ++ (q.map (she ([] : List va_E).length) ++ z) := fun q => by
    show q ++ z = q.map (she 0) ++ z
    rw [she_0]
  have ead : adn ad ([] : List va_E).length = ad := by funext x; rfl
  intro H locs ls hW hL
  have hW' : aq_Wo D kt ad A ([] ++ (v.map (she ([] : List va_E).length) ++ z)) s H locs := by rw [← e1 v]; exact hW
  have hW0 := hW'
  obtain ⟨hK, hP, hD, hS⟩ := hW'
  rw [aq_w_seg] at hP hD
  have hPb := (sg_P hP).2.1
  have hDb := sg_D hD
  have hfr := sg_free hD hS hA.1
  rw [ead] at hPb hDb hfr
  have hcs : vx_CSW R s args "LockDeskLaw" idx (aq_y mj) (aq_b mj) (aq_n mj) (aq_r mj) hh (aq_wh mj hh) (aq_rm (d + 1) O1) (aq_mc O1) (aq_ms O1) as.length := by
    refine vx_cwSW (Ts := aq_TB) (ws' := aq_TB) as.length hts (aq_good (fun w hw => ?_)) rfl rfl rfl ⟨w5, w6, w7⟩ ⟨?_, ?_⟩
    · unfold va_wsS at hw
      rcases List.mem_append.mp hw with h | h
      · simp only [List.mem_cons, List.not_mem_nil, or_false] at h
        rcases h with rfl | rfl | rfl
        · exact w1
        · exact w2
        · exact w3
      · rcases List.mem_cons.mp h with rfl | h
        · exact w4
        · exact h
    · show d + 1 + aq_mf O1 + 1 ≤ R.frames
      have : d + 2 + aq_mf O1 ≤ R.frames := hf
      omega
    · show 8 + (aq_n mj + 11) + (28 * (d + 1) + aq_ml O1) ≤ R.locals
      have : 28 * d + 56 + aq_ml O1 ≤ R.locals := hl
      omega
  have hrun := vx_runSX (p := p) (e := e) (below := below) (meth := meth) (H := H) (locs := locs) (cells := ce) (slots := sl) (g := F0 m pc ls ((as.reverse ++ st).map (aq_v ad))) (As := as.map (aq_v ad)) (rest := st.map (aq_v ad)) (S := ⟨hx, hb, hml, hown, hts⟩) (hM l D kt ad H.size hlt) hcs
    ⟨aq_PN_blind _ _ _ _ _ _, fun U hU hWm => ⟨⟨rfl, by rw [hU], by rw [hU]; exact hPb, va_K.moved hWm.alike hK, hDb.weaken (fun _ _ _ _ => trivial), aq_Ex_call hA.2 hS hfr hWm hU⟩, fun q hq => va_Nc.moved hWm.alike (hN q hq)⟩⟩
    rfl (by simp) hL.2.1 (by show ((as.reverse ++ st).map (aq_v ad)) = _; simp) (by rw [aq_v_cats]; exact lv_room (m := m) (pc := pc) (ls := ls) (rest := []) hwt) hdec hc
  intro T hT Y
  rcases hrun T hT Y with ⟨vr, st₀, t, T', L, h0, X', hL', e11, e2, ⟨hv, ⟨hP1, hD1⟩, hF1⟩, go⟩ | ⟨q, st₀, t, T', L, E, cx, h00, X', hL', e11, e2, hx9, h9⟩
  · have hvr : vr = some (.int k) := by injection hv
    subst hvr
    have hWo := gq_after (u := []) (v1 := v1) hF0 hlen hW0 h0 e11 (by rw [show adn (xd (p, l, e, R, s, m, args, below, meth, c, D, kt, ad, A, Q)) ([] : List va_E).length = ad from ead]; exact hL') (by rw [show adn (xd (p, l, e, R, s, m, args, below, meth, c, D, kt, ad, A, Q)) ([] : List va_E).length = ad from ead]; exact hP1) (by rw [show adn (xd (p, l, e, R, s, m, args, below, meth, c, D, kt, ad, A, Q)) ([] : List va_E).length = ad from ead]; exact hD1) (by rw [show adn (xd (p, l, e, R, s, m, args, below, meth, c, D, kt, ad, A, Q)) ([] : List va_E).length = ad from ead]; exact hF1)
    rw [← e1 v1] at hWo
    obtain ⟨t2, a1, b1⟩ := kk T'.heap (locs ++ L) ls hWo hL T' rfl X'
    exact ⟨t2, go t2 a1, b1⟩
  · exact hx9.elim
/-- a call of the reference: the last part -/
theorem gq_callV1 {ci n : Nat} {o : Option Value} {fs : List Value} {r : vw_C} (hn : u.length = n) (hF : gq_Fix X mi) (hok : aq_okM mi = true) (hat : aq_at (aq_t mi) pc = some (.invokevirtual idx, len, nx, kc, tg)) (hcv : aq_cv (aq_y mi).cls idx mj as.length = true) (hM : AM mj d (.inl o) (.ref 0 :: as) v v1)
    (hst : stk = (as.map (shv n)).reverse ++ .ref n :: st) (hwt : (st.map fun v => v.category).sum ≤ 8) (hq : v[0]? = some (.inr (ci, fs))) (hr : vwCl[ci]? = some r) (hrc : r.1 = (aq_y mj).cls) (hlen : v1.length = v.length) (hf : d + 1 ≤ (xR X).frames) (hl : 28 * d + 28 ≤ (xR X).locals) (hc : ce ≤ (xR X).cells ∧ sl ≤ (xR X).slots)
    (k : GW X mi ce sl (nx, al, (o.map (shv n)).toList ++ st, u ++ v1.map (she n))) : GW X mi ce sl (pc, al, stk, u ++ v.map (she n)) := by
  subst hn
  have e1 : ∀ q : List va_E, u ++ q.map (she u.length) = u ++ (q.map (she u.length) ++ []) := fun q => by rw [List.append_nil]
  rw [e1 v]
  refine gq_callV (st := st) (z := []) hF hok hat hcv hM hst hwt hq hr hrc hlen hf hl hc ?_
  rw [← e1 v1]
  exact k
/-- the script: the cell at 18 -/
def lx_S (X : gq_X) (L : Nat) (sc : Nat → Int32) : Prop := va_X (xd X 18) L sc (xs X) (xs X).heap ∧ xd X 18 < (xs X).heap.size ∧ ¬ xA X (xd X 18)
theorem gq_sld {L : Nat} {sc : Nat → Int32} {i : Int32} {w : List va_E} (hF : gq_Fix X mi) (hS : lx_S X L sc) (hok : aq_okM mi = true) (hat : aq_at (aq_t mi) pc = some (.iaload, len, nx, kc, tg)) (hin : vp_in i L) (k : GW X mi ce sl (nx, al, .int (sc i.toNatClampNeg) :: st, w)) : GW X mi ce sl (pc, al, .int i :: .ref 18 :: st, w) := by
  obtain ⟨hdec, hl3, hnx, -, -⟩ := aq_ok_at hok hat
  dsimp only at hdec hl3 hnx
  have e9 := aq_l1 hl3 rfl rfl; subst e9; subst hnx
  exact gq_read (fun hW _ kk => va_sld (A := xA X) hF.1 hF.2.1 hS.1 hS.2.1 hS.2.2 hW.2.2.2 hin hdec kk) k
theorem gq_slen {L : Nat} {sc : Nat → Int32} {w : List va_E} (hF : gq_Fix X mi) (hS : lx_S X L sc) (hok : aq_okM mi = true) (hat : aq_at (aq_t mi) pc = some (.arraylength, len, nx, kc, tg)) (k : GW X mi ce sl (nx, al, .int (nI L) :: st, w)) : GW X mi ce sl (pc, al, .ref 18 :: st, w) := by
  obtain ⟨hdec, hl3, hnx, -, -⟩ := aq_ok_at hok hat
  dsimp only at hdec hl3 hnx
  have e9 := aq_l1 hl3 rfl rfl; subst e9; subst hnx
  exact gq_read (fun hW _ kk => va_slen (A := xA X) hF.1 hF.2.1 hS.1 hS.2.1 hS.2.2 hW.2.2.2 hdec kk) k
theorem gw_any {a b : aq_M} {k : aq_C} (h : aq_n a = aq_n b) (g : GW X a ce sl k) : GW X b ce sl k := by
  unfold GW at g ⊢
  rw [← h]
  exact g
theorem gf_any {a b : aq_M} (h1 : aq_b a = aq_b b) (h2 : aq_n a = aq_n b) (h3 : aq_r a = aq_r b) (h4 : aq_y a = aq_y b) (g : gq_Fix X a) : gq_Fix X b := by
  unfold gq_Fix at g ⊢
  rw [← h1, ← h2, ← h3, ← h4]
  exact g
end LQ
