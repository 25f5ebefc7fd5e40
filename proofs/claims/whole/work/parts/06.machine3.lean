/-! THE MACHINE OF POSITIONS, 3: what a configuration comes to (AW), a method's contract (AM); the steps are sound -/
/-- how a method ends: it returns, or it throws the exception with that number -/
abbrev aq_O : Type := (Option Value) ⊕ Nat
def aq_mc (O : aq_O) : Nat := match O with
  | .inl _ => 0
  | .inr _ => 1
def aq_ms (O : aq_O) : Nat := match O with
  | .inl _ => 0
  | .inr _ => 6
def aq_mf (O : aq_O) : Nat := match O with
  | .inl _ => 0
  | .inr _ => 6
def aq_ml (O : aq_O) : Nat := match O with
  | .inl _ => 0
  | .inr _ => 96
def aq_rm (d : Nat) (O : aq_O) : Room := { frames := d + aq_mf O, cells := aq_mc O, slots := aq_ms O, locals := 28 * d + aq_ml O }
def aq_ws (mi : aq_M) : List Cond := Cond.code (aq_y mi) (aq_b mi) (aq_n mi) (aq_r mi) :: aq_TB
def aq_Fix (mi : aq_M) (p : Program) (l : Launch) (s : State) (m : MethodId) (args : Array Value) (meth : Method) (c : Code) : Prop :=
  p.tables.exec = Jvm.exec ∧ c.code = aq_b mi ∧ c.maxLocals = aq_n mi ∧ meth.sig.returnType = aq_r mi ∧ meth.locks = false ∧ s.vm.findClass (aq_y mi).cls = some m.cls ∧ (∀ w ∈ aq_TB, w.before args s = true) ∧ l.stackTraces = false ∧ ∀ x ∈ c.exceptionTable.toList, False
abbrev aq_ty (kt : Nat → Nat) : List (ClassId × FieldType) := [(kt 0, .int), (kt 1, .long), (kt 2, .boolean)]
def aq_Wo (D : va_G) (kt ad : Nat → Nat) (A : Nat → Prop) (w : List va_E) (s : State) (H : Heap) (locs : List Loc) : Prop :=
  va_K D vwCl (aq_ty kt) s ∧ va_P D vwCl (aq_w ad kt w) H ∧ va_D A (aq_w ad kt w) ∧ va_S A s.heap H locs
/-- what a throw needs of the start: Throwable's two statics, the class's texts -/
def aq_Ex (A : Nat → Prop) (U : State) : Prop := vx_Zq Bundle.tN "UNASSIGNED_STACK" Bundle.steD A U U.heap ∧ vx_Zq Bundle.tN "SUPPRESSED_SENTINEL" Bundle.listD A U U.heap ∧ (∀ q ∈ aq_str, ∃ a, vk_R "LockDesk" q.1 q.2 a U) ∧ ∀ w ∈ aq_ext, w.before #[] U = true
theorem aq_cd_warm {s U : State} {w : Cond} (hw : aq_cd w = true) (hW : s.WarmedH U.vm) (h : w.before #[] s = true) : w.before #[] U = true := by
  cases w with
  | castable a b =>
    have h1 : (Cond.castable a b).before #[] (s.setVm U.vm) = true := Cond.before_warmed hW (.castable a b) trivial h
    exact h1
  | declares x =>
    have h1 : (Cond.declares x).before #[] (s.setVm U.vm) = true := Cond.before_warmed hW (.declares x) trivial h
    exact h1
  | _ => cases hw
theorem aq_cd_any {s : State} {w : Cond} {a b : Array Value} (hw : aq_cd w = true) (h : w.before a s = true) : w.before b s = true := by
  cases w with
  | castable x y => exact h
  | declares x => exact h
  | _ => cases hw
def aq_Ao (A : Nat → Prop) (s : State) : Prop := (∀ q, s.heap.size ≤ q → A q) ∧ aq_Ex A s
theorem aq_Ex_call {A B : Nat → Prop} {s U : State} {H : Heap} {locs : List Loc} (h : aq_Ex A s) (hS : va_S A s.heap H locs) (hAB : ∀ q, B q → A q) (hW : s.WarmedH U.vm) (hU : U.heap = H) : aq_Ex B U := by
  subst hU
  exact ⟨((h.1.kept hS.2.1).narrow hAB).moved hW.alike, ((h.2.1.kept hS.2.1).narrow hAB).moved hW.alike, fun q hq => by
    obtain ⟨a, ha⟩ := h.2.2.1 q hq
    exact ⟨a, vk_R.warm hW ha⟩, fun w hw => aq_cd_warm (List.mem_filter.mp hw).2 hW (h.2.2.2 w hw)⟩
def aq_P (D : va_G) (kt ad : Nat → Nat) (as : List Value) (w : List va_E) (sz : Nat) : Array Value → State → Prop := fun a U => a = (as.map (aq_v ad)).toArray ∧ U.heap.size = sz ∧ va_P D vwCl (aq_w ad kt w) U.heap ∧ va_K D vwCl (aq_ty kt) U ∧ va_D (fun _ => True) (aq_w ad kt w) ∧ aq_Ex (va_A (aq_w ad kt w) sz) U
theorem aq_P_blind (D : va_G) (kt ad : Nat → Nat) (as : List Value) (w : List va_E) (sz : Nat) : FrameBlind (aq_P D kt ad as w sz) := fun a U g mk q => by
  obtain ⟨q0, q1, qP, qK, qD, qE⟩ := q
  exact ⟨q0, q1, qP, va_K.moved (u := U) (U := U.calling g mk a) (Vm.Alike.refl U.vm) qK, qD, vx_Zq.moved (u := U) (U := U.calling g mk a) (Vm.Alike.refl U.vm) qE.1, vx_Zq.moved (u := U) (U := U.calling g mk a) (Vm.Alike.refl U.vm) qE.2.1, fun q hq => by
    obtain ⟨b, hb⟩ := qE.2.2.1 q hq
    exact ⟨b, vk_R.same (u := U) (U := U.calling g mk a) rfl hb⟩, fun w hw => aq_cd_warm (s := U) (U := U.calling g mk a) (List.mem_filter.mp hw).2 (State.WarmedH.refl U) (qE.2.2.2 w hw)⟩
def aq_ex (x : Nat) : String := match x with
  | 0 => "java/lang/IndexOutOfBoundsException"
  | 1 => "java/lang/IllegalArgumentException"
  | _ => "java/lang/IllegalStateException"
def aq_R (O : aq_O) (D : va_G) (kt ad : Nat → Nat) (w : List va_E) (A : Nat → Prop) : Array Value → State → Outcome → State → Prop := fun _ st oc t => match O with
  | .inl v => oc = .returned (v.map (aq_v ad)) ∧ (va_P D vwCl (aq_w ad kt w) t.heap ∧ va_D A (aq_w ad kt w)) ∧ va_F A st t
  | .inr _ => False
def aq_XC (O : aq_O) (D : va_G) (kt ad : Nat → Nat) (w : List va_E) (A : Nat → Prop) : String → State → State → Prop := fun E st t => match O with
  | .inl _ => False
  | .inr x => E = aq_ex x ∧ (va_P D vwCl (aq_w ad kt w) t.heap ∧ va_D A (aq_w ad kt w)) ∧ va_F A st t
def aq_Q (O : aq_O) (D : va_G) (kt ad : Nat → Nat) (A : Nat → Prop) (w' : List va_E) (below : List Frame) (args : Array Value) (s : State) : State → Prop := vx_MQ below (aq_R O D kt ad w' A) (aq_XC O D kt ad w' A) args s (aq_mc O) (aq_ms O) A
/-- from this configuration of the method mi, with room for d frames more, it ends as O says, the world is w' -/
def AW (mi : aq_M) (d : Nat) (O : aq_O) (w' : List va_E) (k : aq_C) : Prop :=
  ∀ (p : Program) (l : Launch) (e : Env) (s : State) (m : MethodId) (args : Array Value) (below : List Frame) (meth : Method) (c : Code) (D : va_G) (kt ad : Nat → Nat) (A : Nat → Prop) (H : Heap) (locs : List Loc) (ls : Array Slot),
    aq_Fix mi p l s m args meth c → aq_Ao A s → aq_Wo D kt ad A k.2.2.2 s H locs → aq_Lo ad ls (aq_n mi) k.2.1 →
    W p l e (aq_rm d O) s m args below meth c H locs 0 0 (aq_Q O D kt ad A w' below args s) (F0 m k.1 ls (k.2.2.1.map (aq_v ad)))
/-- the contract: called with as in the world w, with room for d frames more, it ends as O says, the world is w' -/
def AM (mi : aq_M) (d : Nat) (O : aq_O) (as : List Value) (w w' : List va_E) : Prop :=
  ∀ (l : Launch) (D : va_G) (kt ad : Nat → Nat) (sz : Nat), l.stackTraces = false →
    vx_Met l (aq_y mi) (aq_ws mi) (aq_rm d O) (aq_P D kt ad as w sz) (aq_R O D kt ad w' (va_A (aq_w ad kt w) sz)) (aq_XC O D kt ad w' (va_A (aq_w ad kt w) sz)) (aq_mc O) (aq_ms O) (va_A (aq_w ad kt w) sz)
section AQ1
variable {mi : aq_M} {d : Nat} {O : aq_O} {w w' : List va_E} {pc nx : Nat} {al : List (Option Value)} {st st1 : List Value}
/-- a step that leaves locals and world -/
theorem aq_read (h : ∀ {p : Program} {l : Launch} {e : Env} {s : State} {m : MethodId} {args : Array Value} {below : List Frame} {meth : Method} {c : Code} {D : va_G} {kt ad : Nat → Nat} {A : Nat → Prop} {H : Heap} {locs : List Loc} {ls : Array Slot} {Q : State → Prop},
      aq_Fix mi p l s m args meth c → aq_Wo D kt ad A w s H locs → aq_Lo ad ls (aq_n mi) al → W p l e (aq_rm d O) s m args below meth c H locs 0 0 Q (F0 m nx ls (st1.map (aq_v ad))) → W p l e (aq_rm d O) s m args below meth c H locs 0 0 Q (F0 m pc ls (st.map (aq_v ad))))
    (k : AW mi d O w' (nx, al, st1, w)) : AW mi d O w' (pc, al, st, w) :=
  fun p l e s m args below meth c D kt ad A H locs ls hF hA hW hL => h hF hW hL (k p l e s m args below meth c D kt ad A H locs ls hF hA hW hL)
/-- fewer locals are known -/
theorem aq_less {al' : List (Option Value)} (hn : al'.length = al.length) (hle : ∀ (j : Nat) (v : Value), al'[j]? = some (some v) → al[j]? = some (some v)) (k : AW mi d O w' (pc, al', st, w)) : AW mi d O w' (pc, al, st, w) :=
  fun p l e s m args below meth c D kt ad A H locs ls hF hA hW hL => k p l e s m args below meth c D kt ad A H locs ls hF hA hW (aq_Lo_le hL hn hle)
theorem aq_drop (i : Nat) (k : AW mi d O w' (pc, al.set i none, st, w)) : AW mi d O w' (pc, al, st, w) := aq_less (by simp) (fun _ _ h => (aq_set_none h).2) k
end AQ1
theorem aq_l1 {i : Instr} {len n : Nat} (h : aq_free i = true ∨ len = aq_len i) (h1 : aq_free i = false) (h2 : aq_len i = n) : len = n := by
  rcases h with h | h
  · rw [h1] at h; cases h
  · rw [h, h2]
theorem aq_lc_ok : ∀ n : Fin 2, Int64.ofNat (n : Nat) = aq_lc n := by decide
set_option maxHeartbeats 4000000 in
theorem aq_step_sound {mi : aq_M} (hok : aq_okM mi = true) (hcl : ∀ (ci : Nat) (r : vw_C), vwCl[ci]? = some r → aq_okK r) {d : Nat} {O : aq_O} {w' : List va_E} {c0 c1 : aq_C} {P : Option Prop} (h : aq_step mi c0 = some (c1, P)) (hP : aq_pp P) (k : AW mi d O w' c1) : AW mi d O w' c0 := by
  obtain ⟨pc, al, st, w⟩ := c0
  unfold aq_step at h
  split at h
  · cases h
  · rename_i j hat
    obtain ⟨ins, len, nx, kc, tg⟩ := j
    obtain ⟨hdec, hlen, hnx, hkc, htg⟩ := aq_ok_at hok hat
    dsimp only at hdec hlen hnx hkc htg h
    cases ins with
    | iconst n =>
      cases h
      have e := aq_l1 hlen rfl rfl; subst e; subst hnx
      exact aq_read (fun hF _ _ kk => lv_iconst hF.1 hF.2.1 hdec (by simpa [aq_okC] using hkc) kk) k
    | bipush n =>
      cases h
      have e := aq_l1 hlen rfl rfl; subst e; subst hnx
      exact aq_read (fun hF _ _ kk => lv_bipush hF.1 hF.2.1 hdec (by simpa [aq_okC] using hkc) kk) k
    | sipush n =>
      cases h
      have e := aq_l1 hlen rfl rfl; subst e; subst hnx
      exact aq_read (fun hF _ _ kk => lv_sipush hF.1 hF.2.1 hdec (by simpa [aq_okC] using hkc) kk) k
    | lconst n =>
      cases h
      have e := aq_l1 hlen rfl rfl; subst e; subst hnx
      exact aq_read (fun hF _ _ kk => lv_lconst hF.1 hF.2.1 hdec (aq_lc_ok n) kk) k
    | ldc2_w i =>
      unfold aq_op at h
      dsimp only at h
      split at h
      · rename_i v hv
        cases h
        have e := aq_l1 hlen rfl rfl; subst e; subst hnx
        exact aq_read (fun hF _ _ kk => lv_ldc2 hF.1 hF.2.1 hF.2.2.2.2.2.1 (hF.2.2.2.2.2.2.1 _ (aq_ok_j hok hv)) hdec kk) k
      · cases h
    | iload i =>
      unfold aq_op aq_ldi at h
      dsimp only at h
      split at h
      · rename_i x hx
        cases h
        have e := aq_l1 hlen rfl rfl; subst e; subst hnx
        exact aq_read (fun hF _ hL kk => lv_iload hF.1 hF.2.1 hdec (aq_Lo_at hL hx) kk) k
      · cases h
    | iload_n i =>
      unfold aq_op aq_ldi at h
      dsimp only at h
      split at h
      · rename_i x hx
        cases h
        have e := aq_l1 hlen rfl rfl; subst e; subst hnx
        exact aq_read (fun hF _ hL kk => lv_iload_n hF.1 hF.2.1 hdec rfl (aq_Lo_at hL hx) kk) k
      · cases h
    | lload i =>
      unfold aq_op aq_ldl at h
      dsimp only at h
      split at h
      · rename_i x hx
        cases h
        have e := aq_l1 hlen rfl rfl; subst e; subst hnx
        exact aq_read (fun hF _ hL kk => lv_lload hF.1 hF.2.1 hdec (aq_Lo_at hL hx) kk) k
      · cases h
    | lload_n i =>
      unfold aq_op aq_ldl at h
      dsimp only at h
      split at h
      · rename_i x hx
        cases h
        have e := aq_l1 hlen rfl rfl; subst e; subst hnx
        exact aq_read (fun hF _ hL kk => lv_lload_n hF.1 hF.2.1 hdec rfl (aq_Lo_at hL hx) kk) k
      · cases h
    | aload i =>
      unfold aq_op aq_lda at h
      dsimp only at h
      split at h
      · rename_i x hx
        cases h
        have e := aq_l1 hlen rfl rfl; subst e; subst hnx
        exact aq_read (fun hF _ hL kk => lv_aload hF.1 hF.2.1 hdec (aq_Lo_at hL hx) kk) k
      · cases h
    | aload_n i =>
      unfold aq_op aq_lda at h
      dsimp only at h
      split at h
      · rename_i x hx
        cases h
        have e := aq_l1 hlen rfl rfl; subst e; subst hnx
        exact aq_read (fun hF _ hL kk => lv_aload_n hF.1 hF.2.1 hdec rfl (aq_Lo_at hL hx) kk) k
      · cases h
    | istore i =>
      unfold aq_op aq_sti at h
      dsimp only at h
      split at h
      · rename_i x r hi
        cases h
        have e := aq_l1 hlen rfl rfl; subst e; subst hnx
        intro p l e s m args below meth c D kt ad A H locs ls hF hA hW hL
        have hi' : i < aq_n mi := by rw [← hL.1]; simpa using hi
        exact lv_istore hF.1 hF.2.1 hdec hL.2 hi' rfl (fun ls' h' => k p l e s m args below meth c D kt ad A H locs ls' hF hA hW (aq_Lo_s1 hL h'))
      · cases h
    | istore_n i =>
      unfold aq_op aq_sti at h
      dsimp only at h
      split at h
      · rename_i x r hi
        cases h
        have e := aq_l1 hlen rfl rfl; subst e; subst hnx
        intro p l e s m args below meth c D kt ad A H locs ls hF hA hW hL
        have hi' : i.val < aq_n mi := by rw [← hL.1]; simpa using hi
        exact lv_istore_n hF.1 hF.2.1 hdec rfl hL.2 hi' rfl (fun ls' h' => k p l e s m args below meth c D kt ad A H locs ls' hF hA hW (aq_Lo_s1 hL h'))
      · cases h
    | lstore i =>
      unfold aq_op aq_stl at h
      dsimp only at h
      split at h
      · rename_i x r hi
        cases h
        have e := aq_l1 hlen rfl rfl; subst e; subst hnx
        intro p l e s m args below meth c D kt ad A H locs ls hF hA hW hL
        have hi' : i + 1 < aq_n mi := by rw [← hL.1]; simpa using hi
        exact lv_lstore hF.1 hF.2.1 hdec hL.2 hi' rfl (fun ls' h' => k p l e s m args below meth c D kt ad A H locs ls' hF hA hW (aq_Lo_s2 hL h'))
      · cases h
    | lstore_n i =>
      unfold aq_op aq_stl at h
      dsimp only at h
      split at h
      · rename_i x r hi
        cases h
        have e := aq_l1 hlen rfl rfl; subst e; subst hnx
        intro p l e s m args below meth c D kt ad A H locs ls hF hA hW hL
        have hi' : i.val + 1 < aq_n mi := by rw [← hL.1]; simpa using hi
        exact lv_lstore_n hF.1 hF.2.1 hdec rfl hL.2 hi' rfl (fun ls' h' => k p l e s m args below meth c D kt ad A H locs ls' hF hA hW (aq_Lo_s2 hL h'))
      · cases h
    | astore i =>
      unfold aq_op aq_sta at h
      dsimp only at h
      split at h
      · rename_i x r hi
        cases h
        have e := aq_l1 hlen rfl rfl; subst e; subst hnx
        intro p l e s m args below meth c D kt ad A H locs ls hF hA hW hL
        have hi' : i < aq_n mi := by rw [← hL.1]; simpa using hi
        exact lv_astore hF.1 hF.2.1 hdec hL.2 hi' rfl (fun ls' h' => k p l e s m args below meth c D kt ad A H locs ls' hF hA hW (aq_Lo_s1 hL h'))
      · cases h
    | astore_n i =>
      unfold aq_op aq_sta at h
      dsimp only at h
      split at h
      · rename_i x r hi
        cases h
        have e := aq_l1 hlen rfl rfl; subst e; subst hnx
        intro p l e s m args below meth c D kt ad A H locs ls hF hA hW hL
        have hi' : i.val < aq_n mi := by rw [← hL.1]; simpa using hi
        exact lv_astore_n hF.1 hF.2.1 hdec rfl hL.2 hi' rfl (fun ls' h' => k p l e s m args below meth c D kt ad A H locs ls' hF hA hW (aq_Lo_s1 hL h'))
      · cases h
    | iinc i n =>
      unfold aq_op aq_inc at h
      dsimp only at h
      split at h
      · rename_i x hi hx
        cases h
        have e := aq_l1 hlen rfl rfl; subst e; subst hnx
        intro p l e s m args below meth c D kt ad A H locs ls hF hA hW hL
        have hi' : i < aq_n mi := by rw [← hL.1]; simpa using hi
        obtain ⟨q, hq⟩ := List.getElem?_of_mem (aq_l_in (ad := ad) hx)
        have e2 : Int32.ofInt n = kc := by simpa [aq_okC] using hkc
        exact lv_iinc (v := x + kc) hF.1 hF.2.1 hdec hL.2 (k := q) hq (by rw [e2]) hi' rfl (fun ls' h' => k p l e s m args below meth c D kt ad A H locs ls' hF hA hW (aq_Lo_s1 hL h'))
      · cases h
    | iadd =>
      unfold aq_op aq_b2 at h
      dsimp only at h
      split at h
      · cases h
        have e := aq_l1 hlen rfl rfl; subst e; subst hnx
        exact aq_read (fun hF _ _ kk => lv_iadd hF.1 hF.2.1 hdec kk) k
      · cases h
    | isub =>
      unfold aq_op aq_b2 at h
      dsimp only at h
      split at h
      · cases h
        have e := aq_l1 hlen rfl rfl; subst e; subst hnx
        exact aq_read (fun hF _ _ kk => lv_isub hF.1 hF.2.1 hdec kk) k
      · cases h
    | imul =>
      unfold aq_op aq_b2 at h
      dsimp only at h
      split at h
      · cases h
        have e := aq_l1 hlen rfl rfl; subst e; subst hnx
        exact aq_read (fun hF _ _ kk => lv_imul hF.1 hF.2.1 hdec kk) k
      · cases h
    | iand =>
      unfold aq_op aq_b2 at h
      dsimp only at h
      split at h
      · cases h
        have e := aq_l1 hlen rfl rfl; subst e; subst hnx
        exact aq_read (fun hF _ _ kk => lv_iand hF.1 hF.2.1 hdec kk) k
      · cases h
    | ior =>
      unfold aq_op aq_b2 at h
      dsimp only at h
      split at h
      · cases h
        have e := aq_l1 hlen rfl rfl; subst e; subst hnx
        exact aq_read (fun hF _ _ kk => lv_ior hF.1 hF.2.1 hdec kk) k
      · cases h
    | ixor =>
      unfold aq_op aq_b2 at h
      dsimp only at h
      split at h
      · cases h
        have e := aq_l1 hlen rfl rfl; subst e; subst hnx
        exact aq_read (fun hF _ _ kk => lv_ixor hF.1 hF.2.1 hdec kk) k
      · cases h
    | iushr =>
      unfold aq_op aq_b2 at h
      dsimp only at h
      split at h
      · cases h
        have e := aq_l1 hlen rfl rfl; subst e; subst hnx
        exact aq_read (fun hF _ _ kk => lv_iushr hF.1 hF.2.1 hdec rfl kk) k
      · cases h
    | idiv =>
      unfold aq_op aq_div at h
      dsimp only at h
      split at h
      · cases h
        have e := aq_l1 hlen rfl rfl; subst e; subst hnx
        exact aq_read (fun hF _ _ kk => lv_idiv hF.1 hF.2.1 hdec hP kk) k
      · cases h
    | ldc_w i =>
      cases h
      have hw := aq_ok_w hok hat
      have e := aq_l1 hlen rfl rfl; subst e; subst hnx
      exact aq_read (fun hF _ _ kk => lv_ldcw hF.1 hF.2.1 hF.2.2.2.2.2.1 (hF.2.2.2.2.2.2.1 _ hw) hdec kk) k
    | ladd =>
      unfold aq_op aq_b2l at h
      dsimp only at h
      split at h
      · cases h
        have e := aq_l1 hlen rfl rfl; subst e; subst hnx
        exact aq_read (fun hF _ _ kk => lv_ladd hF.1 hF.2.1 hdec kk) k
      · cases h
    | lsub =>
      unfold aq_op aq_b2l at h
      dsimp only at h
      split at h
      · cases h
        have e := aq_l1 hlen rfl rfl; subst e; subst hnx
        exact aq_read (fun hF _ _ kk => lv_lsub hF.1 hF.2.1 hdec kk) k
      · cases h
    | land =>
      unfold aq_op aq_b2l at h
      dsimp only at h
      split at h
      · cases h
        have e := aq_l1 hlen rfl rfl; subst e; subst hnx
        exact aq_read (fun hF _ _ kk => lv_land hF.1 hF.2.1 hdec kk) k
      · cases h
    | lor =>
      unfold aq_op aq_b2l at h
      dsimp only at h
      split at h
      · cases h
        have e := aq_l1 hlen rfl rfl; subst e; subst hnx
        exact aq_read (fun hF _ _ kk => lv_lor hF.1 hF.2.1 hdec kk) k
      · cases h
    | lxor =>
      unfold aq_op aq_b2l at h
      dsimp only at h
      split at h
      · cases h
        have e := aq_l1 hlen rfl rfl; subst e; subst hnx
        exact aq_read (fun hF _ _ kk => lv_lxor hF.1 hF.2.1 hdec kk) k
      · cases h
    | lshl =>
      unfold aq_op aq_shl at h
      dsimp only at h
      split at h
      · cases h
        have e := aq_l1 hlen rfl rfl; subst e; subst hnx
        exact aq_read (fun hF _ _ kk => lv_lshl hF.1 hF.2.1 hdec rfl kk) k
      · cases h
    | lushr =>
      unfold aq_op aq_shl at h
      dsimp only at h
      split at h
      · cases h
        have e := aq_l1 hlen rfl rfl; subst e; subst hnx
        exact aq_read (fun hF _ _ kk => lv_lushr hF.1 hF.2.1 hdec rfl kk) k
      · cases h
    | lshr =>
      unfold aq_op aq_shl at h
      dsimp only at h
      split at h
      · cases h
        have e := aq_l1 hlen rfl rfl; subst e; subst hnx
        exact aq_read (fun hF _ _ kk => lv_lshr hF.1 hF.2.1 hdec rfl kk) k
      · cases h
    | lcmp =>
      unfold aq_op aq_cmp at h
      dsimp only at h
      split at h
      · cases h
        have e := aq_l1 hlen rfl rfl; subst e; subst hnx
        exact aq_read (fun hF _ _ kk => W.lcmp hF.1 hF.2.1 hdec kk) k
      · cases h
    | i2l =>
      unfold aq_op aq_i2l at h
      dsimp only at h
      split at h
      · cases h
        have e := aq_l1 hlen rfl rfl; subst e; subst hnx
        exact aq_read (fun hF _ _ kk => lv_i2l hF.1 hF.2.1 hdec rfl kk) k
      · cases h
    | l2i =>
      unfold aq_op aq_l2i at h
      dsimp only at h
      split at h
      · cases h
        have e := aq_l1 hlen rfl rfl; subst e; subst hnx
        exact aq_read (fun hF _ _ kk => lv_l2i hF.1 hF.2.1 hdec rfl kk) k
      · cases h
    | dup =>
      unfold aq_op aq_dup at h
      dsimp only at h
      split at h
      · cases h
        have e := aq_l1 hlen rfl rfl; subst e; subst hnx
        exact aq_read (fun hF _ _ kk => lv_dup hF.1 hF.2.1 hdec rfl kk) k
      · cases h
        have e := aq_l1 hlen rfl rfl; subst e; subst hnx
        exact aq_read (fun hF _ _ kk => lv_dup hF.1 hF.2.1 hdec rfl kk) k
      · cases h
    | pop =>
      unfold aq_op aq_pop at h
      dsimp only at h
      split at h
      · cases h
        have e := aq_l1 hlen rfl rfl; subst e; subst hnx
        exact aq_read (fun hF _ _ kk => lv_pop hF.1 hF.2.1 hdec rfl kk) k
      · cases h
        have e := aq_l1 hlen rfl rfl; subst e; subst hnx
        exact aq_read (fun hF _ _ kk => lv_pop hF.1 hF.2.1 hdec rfl kk) k
      · cases h
    | dup2 =>
      unfold aq_op aq_dup2 at h
      dsimp only at h
      split at h
      · cases h
        have e := aq_l1 hlen rfl rfl; subst e; subst hnx
        exact aq_read (fun hF _ _ kk => lv_dup2_11 hF.1 hF.2.1 hdec rfl rfl kk) k
      · cases h
        have e := aq_l1 hlen rfl rfl; subst e; subst hnx
        exact aq_read (fun hF _ _ kk => lv_dup2_2 hF.1 hF.2.1 hdec rfl kk) k
      · cases h
    | dup_x1 =>
      unfold aq_op aq_dx1 at h
      dsimp only at h
      split at h
      · cases h
        have e := aq_l1 hlen rfl rfl; subst e; subst hnx
        exact aq_read (fun hF _ _ kk => lv_dup_x1 hF.1 hF.2.1 hdec rfl rfl kk) k
      · cases h
        have e := aq_l1 hlen rfl rfl; subst e; subst hnx
        exact aq_read (fun hF _ _ kk => lv_dup_x1 hF.1 hF.2.1 hdec rfl rfl kk) k
      · cases h
    | getfield i =>
      unfold aq_op aq_gf at h
      dsimp only at h
      split at h
      · rename_i ci f q r hfo
        split at h
        · rename_i c2 fs hw
          split at h
          · rename_i v hc2 hv
            cases h
            have e := aq_l1 hlen rfl rfl; subst e; subst hnx
            have e2 := Nat.eq_of_beq_eq_true hc2
            subst e2
            obtain ⟨rr, hr, hk, hl⟩ := aq_ok_f hok hfo
            obtain ⟨k1, k2, k3⟩ := hcl _ _ hr
            refine aq_read (fun {p l e s m args below meth c D kt ad A H locs ls Q} hF hW _ kk => ?_) k
            exact va_get (D := D) (ci := c2) (v := aq_v ad v) (C := rr.1) (T := rr.2.1) (N := rr.2.2) hF.1 hF.2.1 hF.2.2.2.2.2.2.1 k1 hF.2.2.2.2.2.1 hW.1 hW.2.1 q (aq_w_at hw) hr f hk (hF.2.2.2.2.2.2.1 _ hl) (fun _ h9 => h9) (by rw [List.getElem?_map, hv]; rfl) hdec kk
          · cases h
        · cases h
      · cases h
    | putfield i =>
      unfold aq_op aq_pf at h
      dsimp only at h
      split at h
      · rename_i ci f x q r hfo
        split at h
        · rename_i c2 fs hw
          split at h
          · rename_i hc2 hlt
            cases h
            have e := aq_l1 hlen rfl rfl; subst e; subst hnx
            have e2 := Nat.eq_of_beq_eq_true hc2
            subst e2
            obtain ⟨rr, hr, hk, hl⟩ := aq_ok_f hok hfo
            obtain ⟨k1, k2, k3⟩ := hcl _ _ hr
            have hfi : aq_fi c2 f = true := hP
            unfold aq_fi at hfi
            rw [hr] at hfi
            simp only [Bool.and_eq_true, Bool.not_eq_true', decide_eq_true_eq] at hfi
            intro p l e s m args below meth c D kt ad A H locs ls hF hA hW hL
            have hlt' : f < (fs.map (aq_v ad)).length := by rw [List.length_map]; simpa using hlt
            refine va_put (D := D) (ci := c2) (v := .int x) (ty := .int) (C := rr.1) (T := rr.2.1) (N := rr.2.2) hF.1 hF.2.1 hF.2.2.2.2.2.2.1 k1 (fun j => (parseFieldDescriptor (rr.2.1 j).2.2.1).getD .int) (fun j hj => ?_) k3 hF.2.2.2.2.2.1 hW.1 hW.2.1 hW.2.2.1 hW.2.2.2 q (aq_w_at hw) hr f hk (hF.2.2.2.2.2.2.1 _ hl) (fun _ h9 => h9) hfi.1 hfi.2 rfl rfl hlt' hdec (fun H1 locs1 hP1 hD1 hS1 => ?_)
            · have h7 := k2 j hj
              cases h8 : parseFieldDescriptor (rr.2.1 j).2.2.1 with
              | none => rw [h8] at h7; cases h7
              | some ty => rfl
            · have e3 : (aq_w ad kt w).set q (ad q, .inr (c2, (fs.map (aq_v ad)).set f (.int x))) = aq_w ad kt (w.set q (.inr (c2, fs.set f (.int x)))) := by
                rw [aq_w_set]
                simp only [aq_e, List.map_set, aq_v]
              rw [e3] at hP1 hD1
              exact k p l e s m args below meth c D kt ad A H1 locs1 ls hF hA ⟨hW.1, hP1, hD1, hS1⟩ hL
          · cases h
        · cases h
      · cases h
    | iaload =>
      unfold aq_op aq_iald at h
      dsimp only at h
      split at h
      · split at h
        · rename_i t n f hw
          split at h
          · cases h
            have e := aq_l1 hlen rfl rfl; subst e; subst hnx
            exact aq_read (fun hF hW _ kk => va_iald hF.1 hF.2.1 hW.1 hW.2.1 _ 0 (aq_w_at hw) rfl hP hdec kk) k
          · cases h
        · cases h
      · cases h
    | laload =>
      unfold aq_op aq_lald at h
      dsimp only at h
      split at h
      · split at h
        · rename_i t n f hw
          split at h
          · cases h
            have e := aq_l1 hlen rfl rfl; subst e; subst hnx
            exact aq_read (fun hF hW _ kk => va_lald hF.1 hF.2.1 hW.1 hW.2.1 _ 1 (aq_w_at hw) rfl hP hdec kk) k
          · cases h
        · cases h
      · cases h
    | baload =>
      unfold aq_op aq_zald at h
      dsimp only at h
      split at h
      · split at h
        · rename_i t n f hw
          split at h
          · cases h
            have e := aq_l1 hlen rfl rfl; subst e; subst hnx
            exact aq_read (fun hF hW _ kk => va_zald hF.1 hF.2.1 hW.1 hW.2.1 _ 2 (aq_w_at hw) rfl hP hdec kk) k
          · cases h
        · cases h
      · cases h
    | bastore =>
      unfold aq_op aq_zast at h
      dsimp only at h
      split at h
      · rename_i x i q r
        split at h
        · rename_i t n f hw
          split at h
          · cases h
            have e := aq_l1 hlen rfl rfl; subst e; subst hnx
            intro p l e s m args below meth c D kt ad A H locs ls hF hA hW hL
            refine va_zast hF.1 hF.2.1 hW.1 hW.2.1 hW.2.2.1 hW.2.2.2 q 2 (aq_w_at hw) rfl hP hdec (fun H1 locs1 hP1 hD1 hS1 => ?_)
            have e3 : (aq_w ad kt w).set q (ad q, .inl (kt 2, n, .inl (upd f i.toNatClampNeg (vp_nar .boolean x)))) = aq_w ad kt (w.set q (.inl (2, n, .inl (upd f i.toNatClampNeg (vp_nar .boolean x))))) := by
              rw [aq_w_set]
              rfl
            rw [e3] at hP1 hD1
            exact k p l e s m args below meth c D kt ad A H1 locs1 ls hF hA ⟨hW.1, hP1, hD1, hS1⟩ hL
          · cases h
        · cases h
      · cases h
    | iastore =>
      unfold aq_op aq_iast at h
      dsimp only at h
      split at h
      · rename_i x i q r
        split at h
        · rename_i t n f hw
          split at h
          · cases h
            have e := aq_l1 hlen rfl rfl; subst e; subst hnx
            intro p l e s m args below meth c D kt ad A H locs ls hF hA hW hL
            refine va_iast hF.1 hF.2.1 hW.1 hW.2.1 hW.2.2.1 hW.2.2.2 q 0 (aq_w_at hw) rfl hP hdec (fun H1 locs1 hP1 hD1 hS1 => ?_)
            have e3 : (aq_w ad kt w).set q (ad q, .inl (kt 0, n, .inl (upd f i.toNatClampNeg x))) = aq_w ad kt (w.set q (.inl (0, n, .inl (upd f i.toNatClampNeg x)))) := by
              rw [aq_w_set]
              rfl
            rw [e3] at hP1 hD1
            exact k p l e s m args below meth c D kt ad A H1 locs1 ls hF hA ⟨hW.1, hP1, hD1, hS1⟩ hL
          · cases h
        · cases h
      · cases h
    | lastore =>
      unfold aq_op aq_last at h
      dsimp only at h
      split at h
      · rename_i x i q r
        split at h
        · rename_i t n f hw
          split at h
          · cases h
            have e := aq_l1 hlen rfl rfl; subst e; subst hnx
            intro p l e s m args below meth c D kt ad A H locs ls hF hA hW hL
            refine va_last hF.1 hF.2.1 hW.1 hW.2.1 hW.2.2.1 hW.2.2.2 q 1 (aq_w_at hw) rfl hP hdec (fun H1 locs1 hP1 hD1 hS1 => ?_)
            have e3 : (aq_w ad kt w).set q (ad q, .inl (kt 1, n, .inr (.inl (vp_updL f i.toNatClampNeg x)))) = aq_w ad kt (w.set q (.inl (1, n, .inr (.inl (vp_updL f i.toNatClampNeg x))))) := by
              rw [aq_w_set]
              rfl
            rw [e3] at hP1 hD1
            exact k p l e s m args below meth c D kt ad A H1 locs1 ls hF hA ⟨hW.1, hP1, hD1, hS1⟩ hL
          · cases h
        · cases h
      · cases h
    | arraylength =>
      unfold aq_op aq_alen at h
      dsimp only at h
      split at h
      · split at h
        · rename_i t n f hw
          split at h
          · cases h
            have e := aq_l1 hlen rfl rfl; subst e; subst hnx
            exact aq_read (fun hF hW _ kk => va_alen hF.1 hF.2.1 hW.1 hW.2.1 _ 0 (aq_w_at hw) rfl rfl hdec kk) k
          · cases h
            have e := aq_l1 hlen rfl rfl; subst e; subst hnx
            exact aq_read (fun hF hW _ kk => va_alen hF.1 hF.2.1 hW.1 hW.2.1 _ 1 (aq_w_at hw) rfl rfl hdec kk) k
          · cases h
        · cases h
      · cases h
    | goto o =>
      cases h
      have e := aq_l1 hlen rfl rfl; subst e; subst hnx
      exact aq_read (fun hF _ _ kk => lv_goto hF.1 hF.2.1 hdec (by simpa [aq_okT] using htg) kk) k
    | _ => cases h
