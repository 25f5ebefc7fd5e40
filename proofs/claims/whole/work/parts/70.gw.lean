/-! THE MACHINE OF POSITIONS FOR THE BODIES OF THE LAW: any room, any count of cells and slots made -/
abbrev gq_X : Type := Program × Launch × Env × Room × State × MethodId × Array Value × List Frame × Method × Code × va_G × (Nat → Nat) × (Nat → Nat) × (Nat → Prop) × (State → Prop)
abbrev xp (X : gq_X) : Program := X.1
abbrev xl (X : gq_X) : Launch := X.2.1
abbrev xe (X : gq_X) : Env := X.2.2.1
abbrev xR (X : gq_X) : Room := X.2.2.2.1
abbrev xs (X : gq_X) : State := X.2.2.2.2.1
abbrev xm (X : gq_X) : MethodId := X.2.2.2.2.2.1
abbrev xa (X : gq_X) : Array Value := X.2.2.2.2.2.2.1
abbrev xb (X : gq_X) : List Frame := X.2.2.2.2.2.2.2.1
abbrev xt (X : gq_X) : Method := X.2.2.2.2.2.2.2.2.1
abbrev xc (X : gq_X) : Code := X.2.2.2.2.2.2.2.2.2.1
abbrev xD (X : gq_X) : va_G := X.2.2.2.2.2.2.2.2.2.2.1
abbrev xk (X : gq_X) : Nat → Nat := X.2.2.2.2.2.2.2.2.2.2.2.1
abbrev xd (X : gq_X) : Nat → Nat := X.2.2.2.2.2.2.2.2.2.2.2.2.1
abbrev xA (X : gq_X) : Nat → Prop := X.2.2.2.2.2.2.2.2.2.2.2.2.2.1
abbrev xQ (X : gq_X) : State → Prop := X.2.2.2.2.2.2.2.2.2.2.2.2.2.2
def gq_Fix (X : gq_X) (mi : aq_M) : Prop :=
  (xp X).tables.exec = Jvm.exec ∧ (xc X).code = aq_b mi ∧ (xc X).maxLocals = aq_n mi ∧ (xt X).sig.returnType = aq_r mi ∧ (xt X).locks = false ∧ (xs X).vm.findClass (aq_y mi).cls = some (xm X).cls ∧ (∀ w ∈ aq_TB, w.before (xa X) (xs X) = true) ∧ (xl X).stackTraces = false ∧ aq_Ao (xA X) (xs X)
/-- from this configuration, with ce cells and sl slots made, the body comes to what is asked -/
def GW (X : gq_X) (mi : aq_M) (ce sl : Nat) (k : aq_C) : Prop := ∀ (H : Heap) (locs : List Loc) (ls : Array Slot), aq_Wo (xD X) (xk X) (xd X) (xA X) k.2.2.2 (xs X) H locs → aq_Lo (xd X) ls (aq_n mi) k.2.1 → W (xp X) (xl X) (xe X) (xR X) (xs X) (xm X) (xa X) (xb X) (xt X) (xc X) H locs ce sl (xQ X) (F0 (xm X) k.1 ls (k.2.2.1.map (aq_v (xd X))))
section GQ1
variable {X : gq_X} {mi : aq_M} {ce sl : Nat} {w : List va_E} {pc nx : Nat} {al : List (Option Value)} {st st1 : List Value}
theorem gq_read (h : ∀ {H : Heap} {locs : List Loc} {ls : Array Slot}, aq_Wo (xD X) (xk X) (xd X) (xA X) w (xs X) H locs → aq_Lo (xd X) ls (aq_n mi) al → W (xp X) (xl X) (xe X) (xR X) (xs X) (xm X) (xa X) (xb X) (xt X) (xc X) H locs ce sl (xQ X) (F0 (xm X) nx ls (st1.map (aq_v (xd X)))) → W (xp X) (xl X) (xe X) (xR X) (xs X) (xm X) (xa X) (xb X) (xt X) (xc X) H locs ce sl (xQ X) (F0 (xm X) pc ls (st.map (aq_v (xd X)))))
    (k : GW X mi ce sl (nx, al, st1, w)) : GW X mi ce sl (pc, al, st, w) := fun H locs ls hW hL => h hW hL (k H locs ls hW hL)
theorem gq_less {al' : List (Option Value)} (hn : al'.length = al.length) (hle : ∀ (j : Nat) (v : Value), al'[j]? = some (some v) → al[j]? = some (some v)) (k : GW X mi ce sl (pc, al', st, w)) : GW X mi ce sl (pc, al, st, w) := fun H locs ls hW hL => k H locs ls hW (aq_Lo_le hL hn hle)
theorem gq_drop (i : Nat) (k : GW X mi ce sl (pc, al.set i none, st, w)) : GW X mi ce sl (pc, al, st, w) := gq_less (by simp) (fun _ _ h => (aq_set_none h).2) k
theorem gq_widen {k n : Nat} {c : aq_C} (h1 : ce ≤ k) (h2 : sl ≤ n) (kk : GW X mi k n c) : GW X mi ce sl c := fun H locs ls hW hL => W.widen h1 h2 (kk H locs ls hW hL)
end GQ1
set_option maxHeartbeats 4000000 in
theorem gq_step_sound {X : gq_X} {mi : aq_M} (hF : gq_Fix X mi) (hok : aq_okM mi = true) (hcl : ∀ (ci : Nat) (r : vw_C), vwCl[ci]? = some r → aq_okK r) {ce sl : Nat} {c0 c1 : aq_C} {P : Option Prop} (h : aq_step mi c0 = some (c1, P)) (hP : aq_pp P) (k : GW X mi ce sl c1) : GW X mi ce sl c0 := by
  obtain ⟨p, l, e, R, s, m, args, below, meth, c, D, kt, ad, A, Q⟩ := X
  obtain ⟨pc, al, st, w⟩ := c0
  unfold aq_step at h
  split at h
  · cases h
  · rename_i j hat
    obtain ⟨ins, len, nx, kc, tg⟩ := j
    obtain ⟨hdec, hlen, hnx, hkc, htg⟩ := aq_ok_at hok hat
    dsimp only at hdec hlen hnx hkc htg h
    cases ins with
    | iconst n =>
      cases h
      have e := aq_l1 hlen rfl rfl; subst e; subst hnx
      exact gq_read (fun _ _ kk => lv_iconst hF.1 hF.2.1 hdec (by simpa [aq_okC] using hkc) kk) k
    | bipush n =>
      cases h
      have e := aq_l1 hlen rfl rfl; subst e; subst hnx
      exact gq_read (fun _ _ kk => lv_bipush hF.1 hF.2.1 hdec (by simpa [aq_okC] using hkc) kk) k
    | sipush n =>
      cases h
      have e := aq_l1 hlen rfl rfl; subst e; subst hnx
      exact gq_read (fun _ _ kk => lv_sipush hF.1 hF.2.1 hdec (by simpa [aq_okC] using hkc) kk) k
    | lconst n =>
      cases h
      have e := aq_l1 hlen rfl rfl; subst e; subst hnx
      exact gq_read (fun _ _ kk => lv_lconst hF.1 hF.2.1 hdec (aq_lc_ok n) kk) k
    | ldc2_w i =>
      unfold aq_op at h
      dsimp only at h
      split at h
      · rename_i v hv
        cases h
        have e := aq_l1 hlen rfl rfl; subst e; subst hnx
        exact gq_read (fun _ _ kk => lv_ldc2 hF.1 hF.2.1 hF.2.2.2.2.2.1 (hF.2.2.2.2.2.2.1 _ (aq_ok_j hok hv)) hdec kk) k
      · cases h
    | iload i =>
      unfold aq_op aq_ldi at h
      dsimp only at h
      split at h
      · rename_i x hx
        cases h
        have e := aq_l1 hlen rfl rfl; subst e; subst hnx
        exact gq_read (fun _ hL kk => lv_iload hF.1 hF.2.1 hdec (aq_Lo_at hL hx) kk) k
      · cases h
    | iload_n i =>
      unfold aq_op aq_ldi at h
      dsimp only at h
      split at h
      · rename_i x hx
        cases h
        have e := aq_l1 hlen rfl rfl; subst e; subst hnx
        exact gq_read (fun _ hL kk => lv_iload_n hF.1 hF.2.1 hdec rfl (aq_Lo_at hL hx) kk) k
      · cases h
    | lload i =>
      unfold aq_op aq_ldl at h
      dsimp only at h
      split at h
      · rename_i x hx
        cases h
        have e := aq_l1 hlen rfl rfl; subst e; subst hnx
        exact gq_read (fun _ hL kk => lv_lload hF.1 hF.2.1 hdec (aq_Lo_at hL hx) kk) k
      · cases h
    | lload_n i =>
      unfold aq_op aq_ldl at h
      dsimp only at h
      split at h
      · rename_i x hx
        cases h
        have e := aq_l1 hlen rfl rfl; subst e; subst hnx
        exact gq_read (fun _ hL kk => lv_lload_n hF.1 hF.2.1 hdec rfl (aq_Lo_at hL hx) kk) k
      · cases h
    | aload i =>
      unfold aq_op aq_lda at h
      dsimp only at h
      split at h
      · rename_i x hx
        cases h
        have e := aq_l1 hlen rfl rfl; subst e; subst hnx
        exact gq_read (fun _ hL kk => lv_aload hF.1 hF.2.1 hdec (aq_Lo_at hL hx) kk) k
      · cases h
    | aload_n i =>
      unfold aq_op aq_lda at h
      dsimp only at h
      split at h
      · rename_i x hx
        cases h
        have e := aq_l1 hlen rfl rfl; subst e; subst hnx
        exact gq_read (fun _ hL kk => lv_aload_n hF.1 hF.2.1 hdec rfl (aq_Lo_at hL hx) kk) k
      · cases h
    | istore i =>
      unfold aq_op aq_sti at h
      dsimp only at h
      split at h
      · rename_i x r hi
        cases h
        have e := aq_l1 hlen rfl rfl; subst e; subst hnx
        intro H locs ls hW hL
        have hi' : i < aq_n mi := by rw [← hL.1]; simpa using hi
        exact lv_istore hF.1 hF.2.1 hdec hL.2 hi' rfl (fun ls' h' => k H locs ls' hW (aq_Lo_s1 hL h'))
      · cases h
    | istore_n i =>
      unfold aq_op aq_sti at h
      dsimp only at h
      split at h
      · rename_i x r hi
        cases h
        have e := aq_l1 hlen rfl rfl; subst e; subst hnx
        intro H locs ls hW hL
        have hi' : i.val < aq_n mi := by rw [← hL.1]; simpa using hi
        exact lv_istore_n hF.1 hF.2.1 hdec rfl hL.2 hi' rfl (fun ls' h' => k H locs ls' hW (aq_Lo_s1 hL h'))
      · cases h
    | lstore i =>
      unfold aq_op aq_stl at h
      dsimp only at h
      split at h
      · rename_i x r hi
        cases h
        have e := aq_l1 hlen rfl rfl; subst e; subst hnx
        intro H locs ls hW hL
        have hi' : i + 1 < aq_n mi := by rw [← hL.1]; simpa using hi
        exact lv_lstore hF.1 hF.2.1 hdec hL.2 hi' rfl (fun ls' h' => k H locs ls' hW (aq_Lo_s2 hL h'))
      · cases h
    | lstore_n i =>
      unfold aq_op aq_stl at h
      dsimp only at h
      split at h
      · rename_i x r hi
        cases h
        have e := aq_l1 hlen rfl rfl; subst e; subst hnx
        intro H locs ls hW hL
        have hi' : i.val + 1 < aq_n mi := by rw [← hL.1]; simpa using hi
        exact lv_lstore_n hF.1 hF.2.1 hdec rfl hL.2 hi' rfl (fun ls' h' => k H locs ls' hW (aq_Lo_s2 hL h'))
      · cases h
    | astore i =>
      unfold aq_op aq_sta at h
      dsimp only at h
      split at h
      · rename_i x r hi
        cases h
        have e := aq_l1 hlen rfl rfl; subst e; subst hnx
        intro H locs ls hW hL
        have hi' : i < aq_n mi := by rw [← hL.1]; simpa using hi
        exact lv_astore hF.1 hF.2.1 hdec hL.2 hi' rfl (fun ls' h' => k H locs ls' hW (aq_Lo_s1 hL h'))
      · cases h
    | astore_n i =>
      unfold aq_op aq_sta at h
      dsimp only at h
      split at h
      · rename_i x r hi
        cases h
        have e := aq_l1 hlen rfl rfl; subst e; subst hnx
        intro H locs ls hW hL
        have hi' : i.val < aq_n mi := by rw [← hL.1]; simpa using hi
        exact lv_astore_n hF.1 hF.2.1 hdec rfl hL.2 hi' rfl (fun ls' h' => k H locs ls' hW (aq_Lo_s1 hL h'))
      · cases h
    | iinc i n =>
      unfold aq_op aq_inc at h
      dsimp only at h
      split at h
      · rename_i x hi hx
        cases h
        have e := aq_l1 hlen rfl rfl; subst e; subst hnx
        intro H locs ls hW hL
        have hi' : i < aq_n mi := by rw [← hL.1]; simpa using hi
        obtain ⟨q, hq⟩ := List.getElem?_of_mem (aq_l_in (ad := ad) hx)
        have e2 : Int32.ofInt n = kc := by simpa [aq_okC] using hkc
        exact lv_iinc (v := x + kc) hF.1 hF.2.1 hdec hL.2 (k := q) hq (by rw [e2]) hi' rfl (fun ls' h' => k H locs ls' hW (aq_Lo_s1 hL h'))
      · cases h
    | iadd =>
      unfold aq_op aq_b2 at h
      dsimp only at h
      split at h
      · cases h
        have e := aq_l1 hlen rfl rfl; subst e; subst hnx
        exact gq_read (fun _ _ kk => lv_iadd hF.1 hF.2.1 hdec kk) k
      · cases h
    | isub =>
      unfold aq_op aq_b2 at h
      dsimp only at h
      split at h
      · cases h
        have e := aq_l1 hlen rfl rfl; subst e; subst hnx
        exact gq_read (fun _ _ kk => lv_isub hF.1 hF.2.1 hdec kk) k
      · cases h
    | imul =>
      unfold aq_op aq_b2 at h
      dsimp only at h
      split at h
      · cases h
        have e := aq_l1 hlen rfl rfl; subst e; subst hnx
        exact gq_read (fun _ _ kk => lv_imul hF.1 hF.2.1 hdec kk) k
      · cases h
    | iand =>
      unfold aq_op aq_b2 at h
      dsimp only at h
      split at h
      · cases h
        have e := aq_l1 hlen rfl rfl; subst e; subst hnx
        exact gq_read (fun _ _ kk => lv_iand hF.1 hF.2.1 hdec kk) k
      · cases h
    | ior =>
      unfold aq_op aq_b2 at h
      dsimp only at h
      split at h
      · cases h
        have e := aq_l1 hlen rfl rfl; subst e; subst hnx
        exact gq_read (fun _ _ kk => lv_ior hF.1 hF.2.1 hdec kk) k
      · cases h
    | ixor =>
      unfold aq_op aq_b2 at h
      dsimp only at h
      split at h
      · cases h
        have e := aq_l1 hlen rfl rfl; subst e; subst hnx
        exact gq_read (fun _ _ kk => lv_ixor hF.1 hF.2.1 hdec kk) k
      · cases h
    | iushr =>
      unfold aq_op aq_b2 at h
      dsimp only at h
      split at h
      · cases h
        have e := aq_l1 hlen rfl rfl; subst e; subst hnx
        exact gq_read (fun _ _ kk => lv_iushr hF.1 hF.2.1 hdec rfl kk) k
      · cases h
    | idiv =>
      unfold aq_op aq_div at h
      dsimp only at h
      split at h
      · cases h
        have e := aq_l1 hlen rfl rfl; subst e; subst hnx
        exact gq_read (fun _ _ kk => lv_idiv hF.1 hF.2.1 hdec hP kk) k
      · cases h
    | ldc_w i =>
      cases h
      have hw := aq_ok_w hok hat
      have e := aq_l1 hlen rfl rfl; subst e; subst hnx
      exact gq_read (fun _ _ kk => lv_ldcw hF.1 hF.2.1 hF.2.2.2.2.2.1 (hF.2.2.2.2.2.2.1 _ hw) hdec kk) k
    | ladd =>
      unfold aq_op aq_b2l at h
      dsimp only at h
      split at h
      · cases h
        have e := aq_l1 hlen rfl rfl; subst e; subst hnx
        exact gq_read (fun _ _ kk => lv_ladd hF.1 hF.2.1 hdec kk) k
      · cases h
    | lsub =>
      unfold aq_op aq_b2l at h
      dsimp only at h
      split at h
      · cases h
        have e := aq_l1 hlen rfl rfl; subst e; subst hnx
        exact gq_read (fun _ _ kk => lv_lsub hF.1 hF.2.1 hdec kk) k
      · cases h
    | land =>
      unfold aq_op aq_b2l at h
      dsimp only at h
      split at h
      · cases h
        have e := aq_l1 hlen rfl rfl; subst e; subst hnx
        exact gq_read (fun _ _ kk => lv_land hF.1 hF.2.1 hdec kk) k
      · cases h
    | lor =>
      unfold aq_op aq_b2l at h
      dsimp only at h
      split at h
      · cases h
        have e := aq_l1 hlen rfl rfl; subst e; subst hnx
        exact gq_read (fun _ _ kk => lv_lor hF.1 hF.2.1 hdec kk) k
      · cases h
    | lxor =>
      unfold aq_op aq_b2l at h
      dsimp only at h
      split at h
      · cases h
        have e := aq_l1 hlen rfl rfl; subst e; subst hnx
        exact gq_read (fun _ _ kk => lv_lxor hF.1 hF.2.1 hdec kk) k
      · cases h
    | lshl =>
      unfold aq_op aq_shl at h
      dsimp only at h
      split at h
      · cases h
        have e := aq_l1 hlen rfl rfl; subst e; subst hnx
        exact gq_read (fun _ _ kk => lv_lshl hF.1 hF.2.1 hdec rfl kk) k
      · cases h
    | lushr =>
      unfold aq_op aq_shl at h
      dsimp only at h
      split at h
      · cases h
        have e := aq_l1 hlen rfl rfl; subst e; subst hnx
        exact gq_read (fun _ _ kk => lv_lushr hF.1 hF.2.1 hdec rfl kk) k
      · cases h
    | lshr =>
      unfold aq_op aq_shl at h
      dsimp only at h
      split at h
      · cases h
        have e := aq_l1 hlen rfl rfl; subst e; subst hnx
        exact gq_read (fun _ _ kk => lv_lshr hF.1 hF.2.1 hdec rfl kk) k
      · cases h
    | lcmp =>
      unfold aq_op aq_cmp at h
      dsimp only at h
      split at h
      · cases h
        have e := aq_l1 hlen rfl rfl; subst e; subst hnx
        exact gq_read (fun _ _ kk => W.lcmp hF.1 hF.2.1 hdec kk) k
      · cases h
    | i2l =>
      unfold aq_op aq_i2l at h
      dsimp only at h
      split at h
      · cases h
        have e := aq_l1 hlen rfl rfl; subst e; subst hnx
        exact gq_read (fun _ _ kk => lv_i2l hF.1 hF.2.1 hdec rfl kk) k
      · cases h
    | l2i =>
      unfold aq_op aq_l2i at h
      dsimp only at h
      split at h
      · cases h
        have e := aq_l1 hlen rfl rfl; subst e; subst hnx
        exact gq_read (fun _ _ kk => lv_l2i hF.1 hF.2.1 hdec rfl kk) k
      · cases h
    | dup =>
      unfold aq_op aq_dup at h
      dsimp only at h
      split at h
      · cases h
        have e := aq_l1 hlen rfl rfl; subst e; subst hnx
        exact gq_read (fun _ _ kk => lv_dup hF.1 hF.2.1 hdec rfl kk) k
      · cases h
        have e := aq_l1 hlen rfl rfl; subst e; subst hnx
        exact gq_read (fun _ _ kk => lv_dup hF.1 hF.2.1 hdec rfl kk) k
      · cases h
    | pop =>
      unfold aq_op aq_pop at h
      dsimp only at h
      split at h
      · cases h
        have e := aq_l1 hlen rfl rfl; subst e; subst hnx
        exact gq_read (fun _ _ kk => lv_pop hF.1 hF.2.1 hdec rfl kk) k
      · cases h
        have e := aq_l1 hlen rfl rfl; subst e; subst hnx
        exact gq_read (fun _ _ kk => lv_pop hF.1 hF.2.1 hdec rfl kk) k
      · cases h
    | dup2 =>
      unfold aq_op aq_dup2 at h
      dsimp only at h
      split at h
      · cases h
        have e := aq_l1 hlen rfl rfl; subst e; subst hnx
        exact gq_read (fun _ _ kk => lv_dup2_11 hF.1 hF.2.1 hdec rfl rfl kk) k
      · cases h
        have e := aq_l1 hlen rfl rfl; subst e; subst hnx
        exact gq_read (fun _ _ kk => lv_dup2_2 hF.1 hF.2.1 hdec rfl kk) k
      · cases h
    | dup_x1 =>
      unfold aq_op aq_dx1 at h
      dsimp only at h
      split at h
      · cases h
        have e := aq_l1 hlen rfl rfl; subst e; subst hnx
        exact gq_read (fun _ _ kk => lv_dup_x1 hF.1 hF.2.1 hdec rfl rfl kk) k
      · cases h
        have e := aq_l1 hlen rfl rfl; subst e; subst hnx
        exact gq_read (fun _ _ kk => lv_dup_x1 hF.1 hF.2.1 hdec rfl rfl kk) k
      · cases h
    | getfield i =>
      unfold aq_op aq_gf at h
      dsimp only at h
      split at h
      · rename_i ci f q r hfo
        split at h
        · rename_i c2 fs hw
          split at h
          · rename_i v hc2 hv
            cases h
            have e := aq_l1 hlen rfl rfl; subst e; subst hnx
            have e2 := Nat.eq_of_beq_eq_true hc2
            subst e2
            obtain ⟨rr, hr, hk, hl⟩ := aq_ok_f hok hfo
            obtain ⟨k1, k2, k3⟩ := hcl _ _ hr
            refine gq_read (fun {H locs ls} hW _ kk => ?_) k
            exact va_get (D := D) (ci := c2) (v := aq_v ad v) (C := rr.1) (T := rr.2.1) (N := rr.2.2) hF.1 hF.2.1 hF.2.2.2.2.2.2.1 k1 hF.2.2.2.2.2.1 hW.1 hW.2.1 q (aq_w_at hw) hr f hk (hF.2.2.2.2.2.2.1 _ hl) (fun _ h9 => h9) (by rw [List.getElem?_map, hv]; rfl) hdec kk
          · cases h
        · cases h
      · cases h
    | putfield i =>
      unfold aq_op aq_pf at h
      dsimp only at h
      split at h
      · rename_i ci f x q r hfo
        split at h
        · rename_i c2 fs hw
          split at h
          · rename_i hc2 hlt
            cases h
            have e := aq_l1 hlen rfl rfl; subst e; subst hnx
            have e2 := Nat.eq_of_beq_eq_true hc2
            subst e2
            obtain ⟨rr, hr, hk, hl⟩ := aq_ok_f hok hfo
            obtain ⟨k1, k2, k3⟩ := hcl _ _ hr
            have hfi : aq_fi c2 f = true := hP
            unfold aq_fi at hfi
            rw [hr] at hfi
            simp only [Bool.and_eq_true, Bool.not_eq_true', decide_eq_true_eq] at hfi
            intro H locs ls hW hL
            have hlt' : f < (fs.map (aq_v ad)).length := by rw [List.length_map]; simpa using hlt
            refine va_put (D := D) (ci := c2) (v := .int x) (ty := .int) (C := rr.1) (T := rr.2.1) (N := rr.2.2) hF.1 hF.2.1 hF.2.2.2.2.2.2.1 k1 (fun j => (parseFieldDescriptor (rr.2.1 j).2.2.1).getD .int) (fun j hj => ?_) k3 hF.2.2.2.2.2.1 hW.1 hW.2.1 hW.2.2.1 hW.2.2.2 q (aq_w_at hw) hr f hk (hF.2.2.2.2.2.2.1 _ hl) (fun _ h9 => h9) hfi.1 hfi.2 rfl rfl hlt' hdec (fun H1 locs1 hP1 hD1 hS1 => ?_)
            · have h7 := k2 j hj
              cases h8 : parseFieldDescriptor (rr.2.1 j).2.2.1 with
              | none => rw [h8] at h7; cases h7
              | some ty => rfl
            · have e3 : (aq_w ad kt w).set q (ad q, .inr (c2, (fs.map (aq_v ad)).set f (.int x))) = aq_w ad kt (w.set q (.inr (c2, fs.set f (.int x)))) := by
                rw [aq_w_set]
                simp only [aq_e, List.map_set, aq_v]
              rw [e3] at hP1 hD1
              exact k H1 locs1 ls ⟨hW.1, hP1, hD1, hS1⟩ hL
          · cases h
        · cases h
      · cases h
    | iaload =>
      unfold aq_op aq_iald at h
      dsimp only at h
      split at h
      · split at h
        · rename_i t n f hw
          split at h
          · cases h
            have e := aq_l1 hlen rfl rfl; subst e; subst hnx
            exact gq_read (fun hW _ kk => va_iald hF.1 hF.2.1 hW.1 hW.2.1 _ 0 (aq_w_at hw) rfl hP hdec kk) k
          · cases h
        · cases h
      · cases h
    | laload =>
      unfold aq_op aq_lald at h
      dsimp only at h
      split at h
      · split at h
        · rename_i t n f hw
          split at h
          · cases h
            have e := aq_l1 hlen rfl rfl; subst e; subst hnx
            exact gq_read (fun hW _ kk => va_lald hF.1 hF.2.1 hW.1 hW.2.1 _ 1 (aq_w_at hw) rfl hP hdec kk) k
          · cases h
        · cases h
      · cases h
    | baload =>
      unfold aq_op aq_zald at h
      dsimp only at h
      split at h
      · split at h
        · rename_i t n f hw
          split at h
          · cases h
            have e := aq_l1 hlen rfl rfl; subst e; subst hnx
            exact gq_read (fun hW _ kk => va_zald hF.1 hF.2.1 hW.1 hW.2.1 _ 2 (aq_w_at hw) rfl hP hdec kk) k
          · cases h
        · cases h
      · cases h
    | bastore =>
      unfold aq_op aq_zast at h
      dsimp only at h
      split at h
      · rename_i x i q r
        split at h
        · rename_i t n f hw
          split at h
          · cases h
            have e := aq_l1 hlen rfl rfl; subst e; subst hnx
            intro H locs ls hW hL
            refine va_zast hF.1 hF.2.1 hW.1 hW.2.1 hW.2.2.1 hW.2.2.2 q 2 (aq_w_at hw) rfl hP hdec (fun H1 locs1 hP1 hD1 hS1 => ?_)
            have e3 : (aq_w ad kt w).set q (ad q, .inl (kt 2, n, .inl (upd f i.toNatClampNeg (vp_nar .boolean x)))) = aq_w ad kt (w.set q (.inl (2, n, .inl (upd f i.toNatClampNeg (vp_nar .boolean x))))) := by
              rw [aq_w_set]
              rfl
            rw [e3] at hP1 hD1
            exact k H1 locs1 ls ⟨hW.1, hP1, hD1, hS1⟩ hL
          · cases h
        · cases h
      · cases h
    | iastore =>
      unfold aq_op aq_iast at h
      dsimp only at h
      split at h
      · rename_i x i q r
        split at h
        · rename_i t n f hw
          split at h
          · cases h
            have e := aq_l1 hlen rfl rfl; subst e; subst hnx
            intro H locs ls hW hL
            refine va_iast hF.1 hF.2.1 hW.1 hW.2.1 hW.2.2.1 hW.2.2.2 q 0 (aq_w_at hw) rfl hP hdec (fun H1 locs1 hP1 hD1 hS1 => ?_)
            have e3 : (aq_w ad kt w).set q (ad q, .inl (kt 0, n, .inl (upd f i.toNatClampNeg x))) = aq_w ad kt (w.set q (.inl (0, n, .inl (upd f i.toNatClampNeg x)))) := by
              rw [aq_w_set]
              rfl
            rw [e3] at hP1 hD1
            exact k H1 locs1 ls ⟨hW.1, hP1, hD1, hS1⟩ hL
          · cases h
        · cases h
      · cases h
    | lastore =>
      unfold aq_op aq_last at h
      dsimp only at h
      split at h
      · rename_i x i q r
        split at h
        · rename_i t n f hw
          split at h
          · cases h
            have e := aq_l1 hlen rfl rfl; subst e; subst hnx
            intro H locs ls hW hL
            refine va_last hF.1 hF.2.1 hW.1 hW.2.1 hW.2.2.1 hW.2.2.2 q 1 (aq_w_at hw) rfl hP hdec (fun H1 locs1 hP1 hD1 hS1 => ?_)
            have e3 : (aq_w ad kt w).set q (ad q, .inl (kt 1, n, .inr (.inl (vp_updL f i.toNatClampNeg x)))) = aq_w ad kt (w.set q (.inl (1, n, .inr (.inl (vp_updL f i.toNatClampNeg x))))) := by
              rw [aq_w_set]
              rfl
            rw [e3] at hP1 hD1
            exact k H1 locs1 ls ⟨hW.1, hP1, hD1, hS1⟩ hL
          · cases h
        · cases h
      · cases h
    | arraylength =>
      unfold aq_op aq_alen at h
      dsimp only at h
      split at h
      · split at h
        · rename_i t n f hw
          split at h
          · cases h
            have e := aq_l1 hlen rfl rfl; subst e; subst hnx
            exact gq_read (fun hW _ kk => va_alen hF.1 hF.2.1 hW.1 hW.2.1 _ 0 (aq_w_at hw) rfl rfl hdec kk) k
          · cases h
            have e := aq_l1 hlen rfl rfl; subst e; subst hnx
            exact gq_read (fun hW _ kk => va_alen hF.1 hF.2.1 hW.1 hW.2.1 _ 1 (aq_w_at hw) rfl rfl hdec kk) k
          · cases h
        · cases h
      · cases h
    | goto o =>
      cases h
      have e := aq_l1 hlen rfl rfl; subst e; subst hnx
      exact gq_read (fun _ _ kk => lv_goto hF.1 hF.2.1 hdec (by simpa [aq_okT] using htg) kk) k
    | _ => cases h
theorem gq_run_sound {X : gq_X} {mi : aq_M} (hF : gq_Fix X mi) (hok : aq_okM mi = true) (hcl : ∀ (ci : Nat) (r : vw_C), vwCl[ci]? = some r → aq_okK r) {ce sl : Nat} : ∀ (n : Nat) {c0 c1 : aq_C} {P : Option Prop}, aq_run mi n c0 = some (c1, P) → aq_pp P → GW X mi ce sl c1 → GW X mi ce sl c0 := by
  intro n
  induction n with
  | zero =>
    intro c0 c1 P h _ k
    cases h
    exact k
  | succ n ih =>
    intro c0 c1 P h hP k
    unfold aq_run at h
    split at h
    · cases h
    · rename_i c2 P1 h1
      split at h
      · cases h
      · rename_i c3 P2 h2
        cases h
        obtain ⟨p1, p2⟩ := aq_and_pp hP
        exact gq_step_sound hF hok hcl h1 p1 (ih h2 p2 k)
section GQ4
variable {X : gq_X} {mi : aq_M} {ce sl : Nat} {w : List va_E} {pc nx tg len : Nat} {kc : Int32} {al : List (Option Value)} {st : List Value} {off : Int} {x y : Int32}
theorem gq_if_eq (hF : gq_Fix X mi) (hok : aq_okM mi = true) (hat : aq_at (aq_t mi) pc = some (.ifCond .eq off, len, nx, kc, tg)) (kt : x = 0 → GW X mi ce sl (tg, al, st, w)) (kf : ¬ x = 0 → GW X mi ce sl (nx, al, st, w)) : GW X mi ce sl (pc, al, .int x :: st, w) := by
  obtain ⟨hdec, hlen, hnx, -, htg⟩ := aq_ok_at hok hat
  dsimp only at hdec hlen hnx htg
  have e := aq_l1 hlen rfl rfl; subst e; subst hnx
  intro H locs ls hW hL
  exact lv_if_eq hF.1 hF.2.1 hdec (by simpa [aq_okT] using htg) (fun h => kt h H locs ls hW hL) (fun h => kf h H locs ls hW hL)
theorem gq_if_ne (hF : gq_Fix X mi) (hok : aq_okM mi = true) (hat : aq_at (aq_t mi) pc = some (.ifCond .ne off, len, nx, kc, tg)) (kt : ¬ x = 0 → GW X mi ce sl (tg, al, st, w)) (kf : x = 0 → GW X mi ce sl (nx, al, st, w)) : GW X mi ce sl (pc, al, .int x :: st, w) := by
  obtain ⟨hdec, hlen, hnx, -, htg⟩ := aq_ok_at hok hat
  dsimp only at hdec hlen hnx htg
  have e := aq_l1 hlen rfl rfl; subst e; subst hnx
  intro H locs ls hW hL
  exact lv_if_ne hF.1 hF.2.1 hdec (by simpa [aq_okT] using htg) (fun h => kt h H locs ls hW hL) (fun h => kf h H locs ls hW hL)
theorem gq_icmp_eq (hF : gq_Fix X mi) (hok : aq_okM mi = true) (hat : aq_at (aq_t mi) pc = some (.if_icmp .eq off, len, nx, kc, tg)) (kt : x = y → GW X mi ce sl (tg, al, st, w)) (kf : ¬ x = y → GW X mi ce sl (nx, al, st, w)) : GW X mi ce sl (pc, al, .int y :: .int x :: st, w) := by
  obtain ⟨hdec, hlen, hnx, -, htg⟩ := aq_ok_at hok hat
  dsimp only at hdec hlen hnx htg
  have e := aq_l1 hlen rfl rfl; subst e; subst hnx
  intro H locs ls hW hL
  exact lv_icmp_eq hF.1 hF.2.1 hdec (by simpa [aq_okT] using htg) (fun h => kt h H locs ls hW hL) (fun h => kf h H locs ls hW hL)
theorem gq_icmp_gt (hF : gq_Fix X mi) (hok : aq_okM mi = true) (hat : aq_at (aq_t mi) pc = some (.if_icmp .gt off, len, nx, kc, tg)) (kt : y < x → GW X mi ce sl (tg, al, st, w)) (kf : ¬ y < x → GW X mi ce sl (nx, al, st, w)) : GW X mi ce sl (pc, al, .int y :: .int x :: st, w) := by
  obtain ⟨hdec, hlen, hnx, -, htg⟩ := aq_ok_at hok hat
  dsimp only at hdec hlen hnx htg
  have e := aq_l1 hlen rfl rfl; subst e; subst hnx
  intro H locs ls hW hL
  exact lv_icmp_gt hF.1 hF.2.1 hdec (by simpa [aq_okT] using htg) (fun h => kt h H locs ls hW hL) (fun h => kf h H locs ls hW hL)
theorem gq_go {n : Nat} {c0 c1 : aq_C} {P : Prop} (hF : gq_Fix X mi) (hok : aq_okM mi = true) (h : aq_run mi n c0 = some (c1, some P)) (hp : P) (k : GW X mi ce sl c1) : GW X mi ce sl c0 := gq_run_sound hF hok aq_cls n h hp k
theorem gq_gn {n : Nat} {c0 c1 : aq_C} (hF : gq_Fix X mi) (hok : aq_okM mi = true) (h : aq_run mi n c0 = some (c1, none)) (k : GW X mi ce sl c1) : GW X mi ce sl c0 := gq_run_sound hF hok aq_cls n h trivial k
theorem gq_tabI {dflt lo hi off : Int} {offs : Array Int} {tgt : Nat} (hF : gq_Fix X mi) (hok : aq_okM mi = true) (hat : aq_at (aq_t mi) pc = some (.tableswitch dflt lo hi offs, len, nx, kc, tg)) (h1 : ¬ x.toInt < lo) (h2 : ¬ hi < x.toInt) (ho : offs[(x.toInt - lo).toNat]? = some off) (ht : (pc : Int) + off = (tgt : Int)) (k : GW X mi ce sl (tgt, al, st, w)) : GW X mi ce sl (pc, al, .int x :: st, w) :=
  gq_read (fun _ _ kk => lv_tableIn hF.1 hF.2.1 (aq_ok_at hok hat).1 h1 h2 ho ht kk) k
theorem gq_tabO {dflt lo hi : Int} {offs : Array Int} {tgt : Nat} (hF : gq_Fix X mi) (hok : aq_okM mi = true) (hat : aq_at (aq_t mi) pc = some (.tableswitch dflt lo hi offs, len, nx, kc, tg)) (h : x.toInt < lo ∨ hi < x.toInt) (ht : (pc : Int) + dflt = (tgt : Int)) (k : GW X mi ce sl (tgt, al, st, w)) : GW X mi ce sl (pc, al, .int x :: st, w) :=
  gq_read (fun _ _ kk => lv_tableOut hF.1 hF.2.1 (aq_ok_at hok hat).1 h ht kk) k
end GQ4
