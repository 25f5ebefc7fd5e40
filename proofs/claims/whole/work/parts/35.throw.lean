/-! a new exception, thrown -/
abbrev aq_up : List String := ["java/lang/RuntimeException", "java/lang/Exception"]
def aq_tw (ik ic z : Nat) : Bool := decide (Cond.classLink "LockDesk" ik (aq_ex z) ∈ aq_TB) && (decide (Cond.initialized (aq_ex z) ∈ aq_TB) && ((vx_atS "LockDesk" ic (aq_ex z) aq_up).all (fun w => decide (w ∈ aq_TB) || decide (w ∈ aq_ext)) && (Cond.classLink "LockDesk" ik (aq_ex z) :: Cond.initialized (aq_ex z) :: vx_atS "LockDesk" ic (aq_ex z) aq_up).all vx_ot))
set_option maxHeartbeats 4000000 in
theorem aq_throw {mi : aq_M} {d z : Nat} {w : List va_E} {pc ik is ic : Nat} {text : String} {al : List (Option Value)} {st : List Value} {n0 n3 n4 n6 n9 t0 t3 t4 t6 t9 : Nat} {k0 k3 k4 k6 k9 : Int32} (hok : aq_okM mi = true) (hown : (aq_y mi).cls = "LockDesk") (hw : aq_tw ik ic z = true) (hcls : Bundle.fit (aq_ex z) = true) (hup : ∀ n ∈ aq_up, Bundle.fit n = true) (hs : (is, text) ∈ aq_str)
    (h0 : aq_at (aq_t mi) pc = some (.new ik, 3, n0, k0, t0)) (h3 : aq_at (aq_t mi) (pc + 3) = some (.dup, 1, n3, k3, t3)) (h4 : aq_at (aq_t mi) (pc + 4) = some (.ldc is, 2, n4, k4, t4)) (h6 : aq_at (aq_t mi) (pc + 6) = some (.invokespecial ic, 3, n6, k6, t6)) (h9 : aq_at (aq_t mi) (pc + 9) = some (.athrow, 1, n9, k9, t9))
    (hst : (st.map fun v => v.category).sum ≤ 8) : AW mi d (.inr z) w (pc, al, st, w) := by
  unfold aq_tw at hw
  simp only [Bool.and_eq_true, decide_eq_true_eq] at hw
  obtain ⟨w1, w2, w3, w4⟩ := hw
  have w3 := List.all_eq_true.mp w3
  have w4 := List.all_eq_true.mp w4
  intro p l e s m args below meth c D kt ad A H locs ls hF hA hW hL
  obtain ⟨hx, hb, hml, hret, hlocks, hfc, hts, hl, hex⟩ := hF
  rw [hown] at hfc
  obtain ⟨sa, hsa⟩ := hA.2.2.2.1 _ hs
  refine vx_throwS (own := "LockDesk") (cls := aq_ex z) (text := text) (names := aq_up) (ik := ik) (is := is) (ic := ic) (sa := sa) (A := A) hx hb hl hfc hcls hup (hts _ w1) (hts _ w2) hsa (fun w hw => ?_) (fun w hw => w4 w hw) hA.2.1 hA.2.2.1 hW.2.2.2 (hL.2.1.trans hml.symm) (aq_ok_at hok h0).1 (aq_ok_at hok h3).1 (aq_ok_at hok h4).1 (aq_ok_at hok h6).1 (aq_ok_at hok h9).1 (fun x hx => (hex x hx).elim) ?_ ?_ ?_ ?_ hlocks (fun t ht hz hk => ⟨rfl, ⟨hW.2.1.kept (fun k q hk9 => hk _ ((hW.2.1 k q hk9).lt)), hW.2.2.1⟩, ?_⟩) hW.2.2.2.2.2 ?_ ?_
  · have h := w3 w hw
    simp only [Bool.or_eq_true, decide_eq_true_eq] at h
    rcases h with h | h
    · exact hts w h
    · exact aq_cd_any (List.mem_filter.mp h).2 (hA.2.2.2.2 w h)
  · show 2 + 3 < d + 6
    omega
  · show ((st.map (aq_v ad)).map fun v => v.category).sum + (13 * (2 + 1) + 43) ≤ 28 * d + 96
    rw [aq_v_cats]
    omega
  · show 0 + 1 ≤ 1
    omega
  · show 0 + 6 ≤ 6
    omega
  · exact ⟨Nat.le_trans hW.2.2.2.1 hz, fun q h1 h2 => by rw [hk q (Nat.lt_of_lt_of_le h1 hW.2.2.2.1)]; exact hW.2.2.2.2.1 q h1 h2⟩
  · show 0 + 1 ≤ 1
    omega
  · show 0 + 6 ≤ 6
    omega
theorem aq_fit : ∀ z, Bundle.fit (aq_ex z) = true := by
  intro z
  match z with
  | 0 => decide +kernel
  | 1 => decide +kernel
  | z + 2 => exact (by decide +kernel : Bundle.fit "java/lang/IllegalStateException" = true)
theorem aq_upf : ∀ n ∈ aq_up, Bundle.fit n = true := by decide +kernel
theorem tw0 : aq_tw 144 148 0 = true := by decide +kernel
theorem tw1 : aq_tw 48 52 1 = true := by decide +kernel
theorem tw2 : aq_tw 55 59 2 = true := by decide +kernel
