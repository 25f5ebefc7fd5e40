/-! THE LAW'S HELPERS: a call of the class, its exceptions caught -/
def aq_nc : List (String × String) := [(aq_ex 0, aq_ex 1), (aq_ex 0, aq_ex 2), (aq_ex 1, aq_ex 0), (aq_ex 1, aq_ex 2), (aq_ex 2, aq_ex 0), (aq_ex 2, aq_ex 1)]
def aq_Nc (U : State) : Prop := ∀ q ∈ aq_nc, va_Nc q.1 q.2 U
def oL (f : Nat → Int64) : va_E := .inl (1, 1, .inr (.inl f))
def aq_wh (mi : aq_M) (hh : List (Nat × Nat × Nat × Nat)) : List Cond := Cond.codeWith (aq_y mi) (aq_b mi) (aq_n mi) (aq_r mi) hh :: aq_TB
def aq_PN (D : va_G) (kt ad : Nat → Nat) (as : List Value) (w : List va_E) (sz : Nat) : Array Value → State → Prop := fun a U => aq_P D kt ad as w sz a U ∧ aq_Nc U
theorem aq_PN_blind (D : va_G) (kt ad : Nat → Nat) (as : List Value) (w : List va_E) (sz : Nat) : FrameBlind (aq_PN D kt ad as w sz) := fun a U g mk q => ⟨aq_P_blind D kt ad as w sz a U g mk q.1, fun x hx => va_Nc.moved (u := U) (U := U.calling g mk a) (Vm.Alike.refl U.vm) (q.2 x hx)⟩
/-- a helper's contract: it answers k, whatever the class's method does; O1 says how that method ends -/
def HM (mi : aq_M) (hh : List (Nat × Nat × Nat × Nat)) (d : Nat) (O1 : aq_O) (as : List Value) (w w' : List va_E) (k : Int32) : Prop :=
  ∀ (l : Launch) (D : va_G) (kt ad : Nat → Nat) (sz : Nat), l.stackTraces = false →
    vx_Met l (aq_y mi) (aq_wh mi hh) (aq_rm (d + 1) O1) (aq_PN D kt ad as w sz) (aq_R (.inl (some (.int k))) D kt ad w' (va_A (aq_w ad kt w) sz)) (fun _ _ _ => False) (aq_mc O1) (aq_ms O1) (va_A (aq_w ad kt w) sz)
/-- the frame of a helper -/
def hq_X (X : gq_X) (hh : List (Nat × Nat × Nat × Nat)) (d : Nat) (O1 : aq_O) (w' : List va_E) (k : Int32) : Prop := xR X = aq_rm (d + 1) O1 ∧ (xc X).exceptionTable.toList = tableOf hh ∧ aq_Nc (xs X) ∧ xQ X = vx_MQ (xb X) (aq_R (.inl (some (.int k))) (xD X) (xk X) (xd X) w' (xA X)) (fun _ _ _ => False) (xa X) (xs X) (aq_mc O1) (aq_ms O1) (xA X)
theorem hq_enter {mi : aq_M} {hh : List (Nat × Nat × Nat × Nat)} {d : Nat} {O1 : aq_O} {as : List Value} {w w' : List va_E} {k : Int32} (hpl : plainName (aq_y mi).cls = true) (hn : (aq_args as).length ≤ aq_n mi)
    (K : ∀ X : gq_X, gq_Fix X mi → hq_X X hh d O1 w' k → GW X mi 0 0 (0, aq_ent as (aq_n mi), [], w)) : HM mi hh d O1 as w w' k := by
  intro l D kt ad sz hl
  refine vx_ofWH (cc := aq_b mi) (maxL := aq_n mi) (ret := aq_r mi) (hh := hh) (ws' := aq_TB) hpl rfl ?_
  intro p e s m args below meth c s₁ B hml hv
  obtain ⟨⟨rfl, hsz, hP, hK, hD0, hE⟩, hN⟩ := hv
  subst hsz
  have hts0 := atoms_spec (ws := aq_wh mi hh) B.pre
  have htab := vx_table (x := aq_y mi) B (hts0 _ List.mem_cons_self)
  have h := K (p, l, e, aq_rm (d + 1) O1, s, m, (as.map (aq_v ad)).toArray, below, meth, c, D, kt, ad, va_A (aq_w ad kt w) s.heap.size, vx_MQ below (aq_R (.inl (some (.int k))) D kt ad w' (va_A (aq_w ad kt w) s.heap.size)) (fun _ _ _ => False) (as.map (aq_v ad)).toArray s (aq_mc O1) (aq_ms O1) (va_A (aq_w ad kt w) s.heap.size))
    ⟨B.exec, B.bytes, hml, B.returns, B.notSynchronized, findClass_of_methodNamed B.named, fun w h => hts0 w (List.mem_cons_of_mem _ h), hl, fun q h => Or.inr h, hE⟩ ⟨rfl, htab, hN, rfl⟩ s.heap [] _ ⟨hK, hP, hD0.self, va_S.rf⟩ (aq_Lo_ent hn)
  rw [lg_entry_eq]
  exact h
section HQ
variable {X : gq_X} {mi mj : aq_M} {d ce sl : Nat} {O1 : aq_O} {v v1 z : List va_E} {pc nx tg len idx : Nat} {kc : Int32} {al : List (Option Value)} {st stk as : List Value} {hh : List (Nat × Nat × Nat × Nat)}
theorem shv_0 (l : List Value) : l.map (shv 0) = l := by
  have h0 : ∀ x : Value, shv 0 x = x := fun x => by cases x <;> rfl
  rw [List.map_congr_left (g := id) (fun x _ => h0 x)]
  exact List.map_id _
/-- a call on the first part -/
theorem gq_callV0 {ci : Nat} {o : Option Value} {fs : List Value} {r : vw_C} (hF : gq_Fix X mi) (hok : aq_okM mi = true) (hat : aq_at (aq_t mi) pc = some (.invokevirtual idx, len, nx, kc, tg)) (hcv : aq_cv (aq_y mi).cls idx mj as.length = true) (hM : AM mj d (.inl o) (.ref 0 :: as) v v1)
    (hst : stk = as.reverse ++ .ref 0 :: st) (hwt : (st.map fun v => v.category).sum ≤ 8) (hq : v[0]? = some (.inr (ci, fs))) (hr : vwCl[ci]? = some r) (hrc : r.1 = (aq_y mj).cls) (hlen : v1.length = v.length) (hf : d + 1 ≤ (xR X).frames) (hl : 28 * d + 28 ≤ (xR X).locals) (hc : ce ≤ (xR X).cells ∧ sl ≤ (xR X).slots)
    (k : GW X mi ce sl (nx, al, o.toList ++ st, v1 ++ z)) : GW X mi ce sl (pc, al, stk, v ++ z) := by
  have e1 : ∀ q : List va_E, q ++ z = [] ++ (q.map (she ([] : List va_E).length) ++ z) := fun q => by
    show q ++ z = q.map (she 0) ++ z
    rw [she_0]
  rw [e1 v]
  refine gq_callV (u := []) (st := st) hF hok hat hcv hM ?_ hwt hq hr hrc hlen hf hl hc ?_
  · show stk = (as.map (shv 0)).reverse ++ .ref 0 :: st
    rw [shv_0]; exact hst
  · rw [← e1 v1]
    have e2 : (o.map (shv ([] : List va_E).length)).toList = o.toList := by
      cases o with
      | none => rfl
      | some x => cases x <;> rfl
    rw [e2]
    exact k
/-- the end of a helper -/
theorem hq_ret {w' : List va_E} {k : Int32} (hF : gq_Fix X mi) (hX : hq_X X hh d O1 w' k) (hok : aq_okM mi = true) (hat : aq_at (aq_t mi) pc = some (.ireturn, len, nx, kc, tg)) (hr : aq_r mi = some .int) (h1 : ce ≤ aq_mc O1) (h2 : sl ≤ aq_ms O1) : GW X mi ce sl (pc, al, [.int k], w') := by
  obtain ⟨p, l, e, R, s, m, args, below, meth, c, D, kt, ad, A, Q⟩ := X
  obtain ⟨hdec, hlen, hnx, -, -⟩ := aq_ok_at hok hat
  dsimp only at hdec hlen hnx
  have e9 := aq_l1 hlen rfl rfl; subst e9; subst hnx
  obtain ⟨-, -, -, hQ⟩ := hX
  intro H locs ls hW hL
  show W p l e R s m args below meth c H locs ce sl Q _
  have hQ' : Q = vx_MQ below (aq_R (.inl (some (.int k))) D kt ad w' A) (fun _ _ _ => False) args s (aq_mc O1) (aq_ms O1) A := hQ
  rw [hQ']
  refine W.widen h1 h2 (vx_ret (W.iret (v := k) hF.1 hF.2.1 (hF.2.2.2.1.trans hr) (fun t ht hWm => ⟨rfl, ⟨by rw [ht]; exact hW.2.1, hW.2.2.1⟩, hW.2.2.2.F ht⟩) hW.2.2.2.2.2 hdec hF.2.2.2.2.1))
/-- behind a throw that is caught: astore, a constant, the end -/
theorem hq_caught {w' : List va_E} {k : Int32} (hF : gq_Fix X mi) (hX : hq_X X hh d O1 w' k) {hpc la i q : Nat} {kn : Int} {H : Heap} {locs : List Loc} {ls : Array Slot} (hi : i < aq_n mi) (hst : (∃ j : Fin 4, decode (aq_b mi) hpc = .ok (.astore_n j, 1) ∧ (j : Nat) = i ∧ la = 1) ∨ (decode (aq_b mi) hpc = .ok (.astore i, 2) ∧ la = 2))
    (hcn : decode (aq_b mi) (hpc + la) = .ok (.iconst kn, 1)) (hk : Int32.ofInt kn = k) (hre : decode (aq_b mi) (hpc + la + 1) = .ok (.ireturn, 1)) (hr : aq_r mi = some .int) (hW : aq_Wo (xD X) (xk X) (xd X) (xA X) w' (xs X) H locs) (hL : aq_Lo (xd X) ls (aq_n mi) al) :
    W (xp X) (xl X) (xe X) (xR X) (xs X) (xm X) (xa X) (xb X) (xt X) (xc X) H locs (aq_mc O1) (aq_ms O1) (xQ X) (F0 (xm X) hpc ls [.ref q]) := by
  obtain ⟨p, l, e, R, s, m, args, below, meth, c, D, kt, ad, A, Q⟩ := X
  obtain ⟨-, -, -, hQ⟩ := hX
  have hQ' : Q = vx_MQ below (aq_R (.inl (some (.int k))) D kt ad w' A) (fun _ _ _ => False) args s (aq_mc O1) (aq_ms O1) A := hQ
  show W p l e R s m args below meth c H locs _ _ Q _
  rw [hQ']
  have fin : ∀ ls' : Array Slot, W p l e R s m args below meth c H locs (aq_mc O1) (aq_ms O1) (vx_MQ below (aq_R (.inl (some (.int k))) D kt ad w' A) (fun _ _ _ => False) args s (aq_mc O1) (aq_ms O1) A) (F0 m (hpc + la) ls' []) := fun ls' =>
    lv_iconst hF.1 hF.2.1 hcn hk (vx_ret (W.iret (v := k) hF.1 hF.2.1 (hF.2.2.2.1.trans hr) (fun t ht hWm => ⟨rfl, ⟨by rw [ht]; exact hW.2.1, hW.2.2.1⟩, hW.2.2.2.F ht⟩) hW.2.2.2.2.2 hre hF.2.2.2.2.1))
  rcases hst with ⟨j, h1, h2, rfl⟩ | ⟨h1, rfl⟩
  · exact lv_astore_n hF.1 hF.2.1 h1 h2 hL.2 hi rfl (fun ls' _ => fin ls')
  · exact lv_astore hF.1 hF.2.1 h1 hL.2 hi rfl (fun ls' _ => fin ls')
/-- a call that throws, caught -/
theorem hq_callX {ci x : Nat} {fs : List Value} {r : vw_C} {k : Int32} (hF : gq_Fix X mi) (hX : hq_X X hh d (.inr x) (v1 ++ z) k) (hok : aq_okM mi = true) (hat : aq_at (aq_t mi) pc = some (.invokevirtual idx, len, nx, kc, tg)) (hcv : aq_cv (aq_y mi).cls idx mj as.length = true) (hM : AM mj d (.inr x) (.ref 0 :: as) v v1)
    (hst : stk = as.reverse ++ .ref 0 :: st) (hwt : (st.map fun v => v.category).sum ≤ 8) (hq : v[0]? = some (.inr (ci, fs))) (hr : vwCl[ci]? = some r) (hrc : r.1 = (aq_y mj).cls) (hlen : v1.length = v.length)
    (pre : List ExceptionTableEntry) (y : ExceptionTableEntry) (suf : List ExceptionTableEntry) (hsplit : tableOf hh = pre ++ y :: suf) (hpass : ∀ z ∈ pre, z.catchType ≠ 0 ∧ ∃ nm : String, Cond.classLink (aq_y mi).cls z.catchType nm ∈ aq_TB ∧ (aq_ex x, nm) ∈ aq_nc) (hcov : covers y pc = true) (h0 : y.catchType ≠ 0) (hlink : Cond.classLink (aq_y mi).cls y.catchType (aq_ex x) ∈ aq_TB) (hcast : Cond.castable (aq_ex x) (aq_ex x) ∈ aq_ext)
    {la i : Nat} {kn : Int} (hi : i < aq_n mi) (hst2 : (∃ j : Fin 4, decode (aq_b mi) y.handlerPc = .ok (.astore_n j, 1) ∧ (j : Nat) = i ∧ la = 1) ∨ (decode (aq_b mi) y.handlerPc = .ok (.astore i, 2) ∧ la = 2)) (hcn : decode (aq_b mi) (y.handlerPc + la) = .ok (.iconst kn, 1)) (hk : Int32.ofInt kn = k) (hre : decode (aq_b mi) (y.handlerPc + la + 1) = .ok (.ireturn, 1)) (hrt : aq_r mi = some .int) :
    GW X mi 0 0 (pc, al, stk, v ++ z) := by
  subst hst
  have e1 : ∀ q : List va_E, q ++ z = [] ++ (q.map (she ([] : List va_E).length) ++ z) := fun q => by
    show q ++ z = q.map (she 0) ++ z
    rw [she_0]
  intro H locs ls hW hL
  have hW' : aq_Wo (xD X) (xk X) (xd X) (xA X) ([] ++ (v.map (she ([] : List va_E).length) ++ z)) (xs X) H locs := by rw [← e1 v]; exact hW
  obtain ⟨hnx, hrun⟩ := gq_runV (u := []) (ce := 0) (sl := 0) (st := st) hF hok hat hcv hM hwt hq hr hrc hW' hL (by rw [hX.1]; show d + 1 + 6 ≤ d + 1 + 6; omega) (by rw [hX.1]; show 28 * d + 28 + 96 ≤ 28 * (d + 1) + 96; omega) (by rw [hX.1]; exact ⟨Nat.le_refl _, Nat.le_refl _⟩)
  intro T hT Y
  have eS : ((as.map (shv ([] : List va_E).length)).reverse ++ .ref ([] : List va_E).length :: st) = as.reverse ++ .ref 0 :: st := by
    show ((as.map (shv 0)).reverse ++ .ref 0 :: st) = _
    rw [shv_0]
  rw [eS] at hrun
  rcases hrun T hT Y with ⟨vr, st₀, t, T', L, h0, X', hL', e1, e2, hx, go⟩ | ⟨q, st₀, t, T', L, E, cx, h00, X', hL', e11, e2, ⟨hE, ⟨hP1, hD1⟩, hF1⟩, hce, hcv9, hcl, hsteps⟩
  · exact hx.elim
  · have hWo := gq_after (u := []) hF hlen hW' h00 e11 hL' hP1 hD1 hF1
    rw [← e1 v1] at hWo
    subst hE
    have hcat := vx_catch (p := xp X) (l := xl X) (e := xe X) (R := xR X) (s := xs X) (m := xm X) (args := xa X) (below := xb X) (meth := xt X) (c := xc X) (H := T'.heap) (locs := locs ++ L) (cells := 0 + 1) (slots := 0 + 6) (Q := xQ X) (pc := pc) (ls := ls) (rest := st.map (aq_v (xd X))) (own := (aq_y mi).cls) (name := aq_ex x) (E := aq_ex x) (ce := cx) (q := q) hF.2.2.2.2.2.1 pre y suf (by rw [hX.2.1]; exact hsplit)
      (fun z hz => by
        obtain ⟨g1, nm, g2, g3⟩ := hpass z hz
        exact Or.inr ⟨g1, nm, hF.2.2.2.2.2.2.1 _ g2, hX.2.2.1 _ g3⟩) hcov h0 (hF.2.2.2.2.2.2.1 _ hlink) (aq_cd_any (List.mem_filter.mp hcast).2 (hF.2.2.2.2.2.2.2.2.2.2.2.2 _ hcast)) (by rw [e11]; exact hce) hcv9 hcl
      (hq_caught hF hX hi hst2 hcn hk hre hrt hWo hL)
    obtain ⟨t2, a1, b1⟩ := hcat T' rfl X'
    exact ⟨t2, hsteps.trans a1, b1⟩
end HQ
