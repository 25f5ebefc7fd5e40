/-! THE LAW: its loop -/
def StI (R : LSt → MSt → Prop) (h : aq_M) (hh : List (Nat × Nat × Nat × Nat)) (r : aq_M) (as : List Value) (S : LSt) (M : MSt) (f : Nat → Int64) : Prop := ∃ (d : Nat) (O1 : aq_O) (k : Int32) (S' : LSt) (f' : Nat → Int64) (d2 : Nat) (b : Int32) (M' : MSt), HM h hh d O1 (.ref 0 :: (as ++ [.ref 8])) (wS S ++ [oL f]) (wS S' ++ [oL f']) k ∧ AM r d2 (.inl (some (.int b))) (.ref 0 :: as) (wM M) (wM M') ∧ nI (g_cd M') = k ∧ (k = 0 → f' 0 = b.toInt64) ∧ d + 2 + aq_mf O1 ≤ 11 ∧ 28 * d + 56 + aq_ml O1 ≤ 392 ∧ d2 ≤ 10 ∧ R S' M'
def StL (R : LSt → MSt → Prop) (h : aq_M) (hh : List (Nat × Nat × Nat × Nat)) (r : aq_M) (as : List Value) (S : LSt) (M : MSt) (f : Nat → Int64) : Prop := ∃ (d : Nat) (O1 : aq_O) (k : Int32) (S' : LSt) (f' : Nat → Int64) (d2 : Nat) (b : Int64) (M' : MSt), HM h hh d O1 (.ref 0 :: (as ++ [.ref 8])) (wS S ++ [oL f]) (wS S' ++ [oL f']) k ∧ AM r d2 (.inl (some (.long b))) (.ref 0 :: as) (wM M) (wM M') ∧ nI (g_cd M') = k ∧ (k = 0 → f' 0 = b) ∧ d + 2 + aq_mf O1 ≤ 11 ∧ 28 * d + 56 + aq_ml O1 ≤ 392 ∧ d2 ≤ 10 ∧ R S' M'
def StC (R : LSt → MSt → Prop) (m r : aq_M) (as : List Value) (S : LSt) (M : MSt) : Prop := ∃ (d d2 : Nat) (b : Int32) (M' : MSt), AM m d (.inl (some (.int b))) (.ref 0 :: as) (wS S) (wS S) ∧ AM r d2 (.inl (some (.int b))) (.ref 0 :: as) (wM M) (wM M') ∧ d ≤ 10 ∧ d2 ≤ 10 ∧ R S M'
/-- each call keeps R, and both answer alike -/
def Steps12 (R : LSt → MSt → Prop) : Prop := ∀ (S : LSt) (M : MSt) (f : Nat → Int64), R S M → (∀ (x : Int32), StI R h_begin hh_begin r_begin [.int x] S M f) ∧ (∀ (x y z : Int32), StI R h_lock hh_lock r_lock [.int x, .int y, .int z] S M f) ∧ (∀ (x : Int32), StI R h_commit hh_commit r_commit [.int x] S M f) ∧ (∀ (x : Int32), StI R h_abort hh_abort r_abort [.int x] S M f) ∧ (∀ (x y : Int32), StI R h_escalate hh_escalate r_escalate [.int x, .int y] S M f) ∧ (∀ (x y : Int32), StI R h_mode hh_mode r_mode [.int x, .int y] S M f) ∧ (∀ (x y : Int32), StI R h_told hh_told r_told [.int x, .int y] S M f) ∧ (∀ (x : Int32) (c : Bool), StI R h_many hh_many r_many [.int x, .int (bI c)] S M f) ∧ (∀ (x y : Int32) (c : Bool), StI R h_at hh_at r_at [.int x, .int y, .int (bI c)] S M f) ∧ (∀ (x : Int32), StL R h_waitsFor hh_waitsFor r_waitsFor [.int x] S M f) ∧ (∀ x : Int32, StC R m_count r_count [.int x] S M) ∧ StC R m_astray r_astray [] S M
theorem and15 (x : Int32) : ∃ c, c < 16 ∧ x &&& nI 15 = nI c := by
  refine ⟨(x &&& nI 15).toBitVec.toNat, ?_, (nI_tb _).symm⟩
  rw [Int32.toBitVec_and, BitVec.toNat_and]
  have h : (nI 15).toBitVec.toNat = 15 := by decide
  rw [h]
  have := Nat.and_le_right (n := x.toBitVec.toNat) (m := 15)
  omega
theorem lim_gt {i L : Nat} (hL : L ≤ 2048) (hi : i ≤ 4096) : nI L - nI 4 < nI i ↔ L < i + 4 := by
  have e : (nI L - nI 4).toInt = (L : Int) - 4 := by
    rw [Int32.toInt_sub, nI_toInt (by omega), show (nI 4).toInt = 4 by decide, Int.bmod_def]
    omega
  rw [Int32.lt_iff_toInt_lt, e, nI_toInt (by omega)]
  omega
/-- the law's frame -/
def lx_X (X : gq_X) (b : Nat) : Prop := xR X = room_1 ∧ xa X = #[Value.ref b] ∧ xQ X = lw_Z (xb X) #[Value.ref b] (xs X) ∧ ∀ q, xA X q → (xs X).heap.size ≤ q
theorem law_end {X : gq_X} {b ce sl : Nat} {al : List (Option Value)} {w : List va_E} (hF : gq_Fix X l_hd) (hX : lx_X X b) (hc : ce ≤ 1053) (hs : sl ≤ 19654) : GW X l_hd ce sl (832, al, [.int 1], w) := by
  obtain ⟨p, l, e, R, s, m, args, below, meth, c, D, kt, ad, A, Q⟩ := X
  obtain ⟨h1, h2, h3, h4⟩ := hX
  have h1' : R = room_1 := h1
  have h2' : args = #[Value.ref b] := h2
  have h3' : Q = lw_Z below #[Value.ref b] s := h3
  subst h1'; subst h2'; subst h3'
  intro H locs ls hW hL
  refine va_forget (fun q hq => h4 _ (hW.2.2.2.2.2 q hq)) (W.widen hc hs ?_)
  exact lw_ret hF.1 hF.2.1 hF.2.2.2.1 hF.2.2.2.2.1 (show decode code 832 = .ok (.ireturn, 1) by decide +kernel)
set_option maxHeartbeats 4000000 in
theorem law_loop {X : gq_X} {b L : Nat} {sc : Nat → Int32} {R : LSt → MSt → Prop} (hR : Steps12 R) (hF : gq_Fix X l_hd) (hN : aq_Nc (xs X)) (hSc : lx_S X L sc) (hL : L ≤ 2048) (hX : lx_X X b) : ∀ (n i : Nat) (S : LSt) (M : MSt) (f : Nat → Int64) (ce sl : Nat), R S M → L < i + 4 * (n + 1) → i ≤ 2052 → 4 * ce ≤ 72 + i → 4 * sl ≤ 46400 + 6 * i → GW X l_hd ce sl (23, lAl i, [], lWd S M f) := by
  have hroom := hX.1
  intro n
  induction n with
  | zero =>
    intro i S M f ce sl hRel hn hi hc hs
    refine gq_gn (n := 2) (c1 := (26, [some (.ref 18), some (.ref 0), some (.ref 9), some (.ref 8), some (.int (nI i)), none, none, none], [.ref 18, .int (nI i)], lWd S M f)) hF ok_l_hd rfl ?_
    refine gq_slen hF hSc ok_l_hd rfl ?_
    refine gq_gn (n := 2) (c1 := (29, [some (.ref 18), some (.ref 0), some (.ref 9), some (.ref 8), some (.int (nI i)), none, none, none], [.int ((nI L) - (nI 4)), .int (nI i)], lWd S M f)) hF ok_l_hd rfl ?_
    refine gq_icmp_gt hF ok_l_hd rfl (fun h => ?_) (fun h => ?_)
    · refine gq_gn (n := 1) (c1 := (832, [some (.ref 18), some (.ref 0), some (.ref 9), some (.ref 8), some (.int (nI i)), none, none, none], [.int (nI 1)], lWd S M f)) hF ok_l_hd rfl ?_
      exact law_end hF hX (by omega) (by omega)
    · exact absurd ((lim_gt hL (by omega)).mpr (by omega)) h
  | succ n ih =>
    intro i S M f ce sl hRel hn hi hc hs
    refine gq_gn (n := 2) (c1 := (26, [some (.ref 18), some (.ref 0), some (.ref 9), some (.ref 8), some (.int (nI i)), none, none, none], [.ref 18, .int (nI i)], lWd S M f)) hF ok_l_hd rfl ?_
    refine gq_slen hF hSc ok_l_hd rfl ?_
    refine gq_gn (n := 2) (c1 := (29, [some (.ref 18), some (.ref 0), some (.ref 9), some (.ref 8), some (.int (nI i)), none, none, none], [.int ((nI L) - (nI 4)), .int (nI i)], lWd S M f)) hF ok_l_hd rfl ?_
    refine gq_icmp_gt hF ok_l_hd rfl (fun h => ?_) (fun h => ?_)
    · refine gq_gn (n := 1) (c1 := (832, [some (.ref 18), some (.ref 0), some (.ref 9), some (.ref 8), some (.int (nI i)), none, none, none], [.int (nI 1)], lWd S M f)) hF ok_l_hd rfl ?_
      exact law_end hF hX (by omega) (by omega)
    · have h4 : i + 4 ≤ L := by have := mt (lim_gt hL (show i ≤ 4096 by omega)).mpr h; omega
      have hend : ∀ (S' : LSt) (M' : MSt) (f' : Nat → Int64) (a s : Nat), R S' M' → a ≤ 1 → s ≤ 6 → GW X l_hd (ce + a) (sl + s) (825, lAl i, [], lWd S' M' f') := by
        intro S' M' f' a s hR' ha hs'
        refine gq_gn (n := 2) (c1 := (23, [some (.ref 18), some (.ref 0), some (.ref 9), some (.ref 8), some (.int ((nI i) + (nI 4))), none, none, none], [], lWd S' M' f')) hF ok_l_hd rfl ?_
        rw [nI_add]
        exact ih (i + 4) S' M' f' (ce + a) (sl + s) hR' (by omega) (by omega) (by omega) (by omega)
      have hend0 : ∀ (M' : MSt), R S M' → GW X l_hd ce sl (825, lAl i, [], lWd S M' f) := fun M' h => hend S M' f 0 0 h (by omega) (by omega)
      refine gq_gn (n := 2) (c1 := (35, [some (.ref 18), some (.ref 0), some (.ref 9), some (.ref 8), some (.int (nI i)), none, none, none], [.int (nI i), .ref 18], lWd S M f)) hF ok_l_hd rfl ?_
      refine gq_sld hF hSc ok_l_hd rfl (sc_in0 (by omega) hL) ?_
      rw [sc_cl0 (by omega)]
      refine gq_gn (n := 2) (c1 := (39, lAl i, [.int (sc i &&& nI 15)], lWd S M f)) hF ok_l_hd rfl ?_
      obtain ⟨s1, s2, s3, s4, s5, s6, s7, s8, s9, s10, s11, s12⟩ := hR S M f hRel
      obtain ⟨cc, hcc, ecc⟩ := and15 (sc i)
      rw [ecc]
      match cc, hcc with
      | 0, _ =>
        obtain ⟨d, O1, k, S', f', d2, v, M', g1, g2, g3, g4, g5, g6, g7, g8⟩ := s1 (sc (i + 1))
        have hm1 : aq_mc O1 ≤ 1 := by cases O1 <;> simp [aq_mc]
        have hm2 : aq_ms O1 ≤ 6 := by cases O1 <;> simp [aq_ms]
        refine gq_tabI (tgt := 100) hF ok_l_hd rfl (by decide) (by decide) rfl (by decide) ?_
        exact gw_any rfl (lc_begin (gf_any rfl rfl rfl rfl hF) hN hSc h4 hL hroom g1 g2 g3 g4 g5 g6 g7 (by omega) (by omega) (hend S' M' f' _ _ g8 hm1 hm2))
      | 1, _ =>
        obtain ⟨d, O1, k, S', f', d2, v, M', g1, g2, g3, g4, g5, g6, g7, g8⟩ := s2 (sc (i + 1)) (sc (i + 2)) (sc (i + 3))
        have hm1 : aq_mc O1 ≤ 1 := by cases O1 <;> simp [aq_mc]
        have hm2 : aq_ms O1 ≤ 6 := by cases O1 <;> simp [aq_ms]
        refine gq_tabI (tgt := 156) hF ok_l_hd rfl (by decide) (by decide) rfl (by decide) ?_
        exact gw_any rfl (lc_lock (gf_any rfl rfl rfl rfl hF) hN hSc h4 hL hroom g1 g2 g3 g4 g5 g6 g7 (by omega) (by omega) (hend S' M' f' _ _ g8 hm1 hm2))
      | 2, _ =>
        obtain ⟨d, O1, k, S', f', d2, v, M', g1, g2, g3, g4, g5, g6, g7, g8⟩ := s3 (sc (i + 1))
        have hm1 : aq_mc O1 ≤ 1 := by cases O1 <;> simp [aq_mc]
        have hm2 : aq_ms O1 ≤ 6 := by cases O1 <;> simp [aq_ms]
        refine gq_tabI (tgt := 236) hF ok_l_hd rfl (by decide) (by decide) rfl (by decide) ?_
        exact gw_any rfl (lc_commit (gf_any rfl rfl rfl rfl hF) hN hSc h4 hL hroom g1 g2 g3 g4 g5 g6 g7 (by omega) (by omega) (hend S' M' f' _ _ g8 hm1 hm2))
      | 3, _ =>
        obtain ⟨d, O1, k, S', f', d2, v, M', g1, g2, g3, g4, g5, g6, g7, g8⟩ := s4 (sc (i + 1))
        have hm1 : aq_mc O1 ≤ 1 := by cases O1 <;> simp [aq_mc]
        have hm2 : aq_ms O1 ≤ 6 := by cases O1 <;> simp [aq_ms]
        refine gq_tabI (tgt := 292) hF ok_l_hd rfl (by decide) (by decide) rfl (by decide) ?_
        exact gw_any rfl (lc_abort (gf_any rfl rfl rfl rfl hF) hN hSc h4 hL hroom g1 g2 g3 g4 g5 g6 g7 (by omega) (by omega) (hend S' M' f' _ _ g8 hm1 hm2))
      | 4, _ =>
        obtain ⟨d, O1, k, S', f', d2, v, M', g1, g2, g3, g4, g5, g6, g7, g8⟩ := s5 (sc (i + 1)) (sc (i + 2))
        have hm1 : aq_mc O1 ≤ 1 := by cases O1 <;> simp [aq_mc]
        have hm2 : aq_ms O1 ≤ 6 := by cases O1 <;> simp [aq_ms]
        refine gq_tabI (tgt := 348) hF ok_l_hd rfl (by decide) (by decide) rfl (by decide) ?_
        exact gw_any rfl (lc_escalate (gf_any rfl rfl rfl rfl hF) hN hSc h4 hL hroom g1 g2 g3 g4 g5 g6 g7 (by omega) (by omega) (hend S' M' f' _ _ g8 hm1 hm2))
      | 5, _ =>
        obtain ⟨d, O1, k, S', f', d2, v, M', g1, g2, g3, g4, g5, g6, g7, g8⟩ := s6 (sc (i + 1)) (sc (i + 2))
        have hm1 : aq_mc O1 ≤ 1 := by cases O1 <;> simp [aq_mc]
        have hm2 : aq_ms O1 ≤ 6 := by cases O1 <;> simp [aq_ms]
        refine gq_tabI (tgt := 416) hF ok_l_hd rfl (by decide) (by decide) rfl (by decide) ?_
        exact gw_any rfl (lc_mode (gf_any rfl rfl rfl rfl hF) hN hSc h4 hL hroom g1 g2 g3 g4 g5 g6 g7 (by omega) (by omega) (hend S' M' f' _ _ g8 hm1 hm2))
      | 6, _ =>
        obtain ⟨d, O1, k, S', f', d2, v, M', g1, g2, g3, g4, g5, g6, g7, g8⟩ := s7 (sc (i + 1)) (sc (i + 2))
        have hm1 : aq_mc O1 ≤ 1 := by cases O1 <;> simp [aq_mc]
        have hm2 : aq_ms O1 ≤ 6 := by cases O1 <;> simp [aq_ms]
        refine gq_tabI (tgt := 484) hF ok_l_hd rfl (by decide) (by decide) rfl (by decide) ?_
        exact gw_any rfl (lc_told (gf_any rfl rfl rfl rfl hF) hN hSc h4 hL hroom g1 g2 g3 g4 g5 g6 g7 (by omega) (by omega) (hend S' M' f' _ _ g8 hm1 hm2))
      | 7, _ =>
        obtain ⟨d, O1, k, S', f', d2, v, M', g1, g2, g3, g4, g5, g6, g7, g8⟩ := s8 (sc (i + 1)) (!decide (sc (i + 2) = 0))
        have hm1 : aq_mc O1 ≤ 1 := by cases O1 <;> simp [aq_mc]
        have hm2 : aq_ms O1 ≤ 6 := by cases O1 <;> simp [aq_ms]
        refine gq_tabI (tgt := 552) hF ok_l_hd rfl (by decide) (by decide) rfl (by decide) ?_
        exact gw_any rfl (lc_many rfl (gf_any rfl rfl rfl rfl hF) hN hSc h4 hL hroom g1 g2 g3 g4 g5 g6 g7 (by omega) (by omega) (hend S' M' f' _ _ g8 hm1 hm2))
      | 8, _ =>
        obtain ⟨d, O1, k, S', f', d2, v, M', g1, g2, g3, g4, g5, g6, g7, g8⟩ := s9 (sc (i + 1)) (sc (i + 2)) (!decide (sc (i + 3) = 0))
        have hm1 : aq_mc O1 ≤ 1 := by cases O1 <;> simp [aq_mc]
        have hm2 : aq_ms O1 ≤ 6 := by cases O1 <;> simp [aq_ms]
        refine gq_tabI (tgt := 636) hF ok_l_hd rfl (by decide) (by decide) rfl (by decide) ?_
        exact gw_any rfl (lc_at rfl (gf_any rfl rfl rfl rfl hF) hN hSc h4 hL hroom g1 g2 g3 g4 g5 g6 g7 (by omega) (by omega) (hend S' M' f' _ _ g8 hm1 hm2))
      | 9, _ =>
        obtain ⟨d, O1, k, S', f', d2, v, M', g1, g2, g3, g4, g5, g6, g7, g8⟩ := s10 (sc (i + 1))
        have hm1 : aq_mc O1 ≤ 1 := by cases O1 <;> simp [aq_mc]
        have hm2 : aq_ms O1 ≤ 6 := by cases O1 <;> simp [aq_ms]
        refine gq_tabI (tgt := 732) hF ok_l_hd rfl (by decide) (by decide) rfl (by decide) ?_
        exact gw_any rfl (lc_waitsFor (gf_any rfl rfl rfl rfl hF) hN hSc h4 hL hroom g1 g2 g3 g4 g5 g6 g7 (by omega) (by omega) (hend S' M' f' _ _ g8 hm1 hm2))
      | 10, _ =>
        obtain ⟨d, d2, v, M', g1, g2, g3, g4, g5⟩ := s11 (sc (i + 1))
        refine gq_tabI (tgt := 787) hF ok_l_hd rfl (by decide) (by decide) rfl (by decide) ?_
        exact gw_any rfl (lc_count (gf_any rfl rfl rfl rfl hF) hSc h4 hL hroom g1 g2 g3 g4 (by omega) (by omega) (hend0 M' g5))
      | 11, _ =>
        obtain ⟨d, d2, v, M', g1, g2, g3, g4, g5⟩ := s12
        refine gq_tabI (tgt := 812) hF ok_l_hd rfl (by decide) (by decide) rfl (by decide) ?_
        exact gw_any rfl (lc_astray (gf_any rfl rfl rfl rfl hF) hSc h4 hL hroom g1 g2 g3 g4 (by omega) (by omega) (hend0 M' g5))
      | 12, _ => exact gq_tabO (tgt := 825) hF ok_l_hd rfl (Or.inr (by decide)) (by decide) (hend0 M hRel)
      | 13, _ => exact gq_tabO (tgt := 825) hF ok_l_hd rfl (Or.inr (by decide)) (by decide) (hend0 M hRel)
      | 14, _ => exact gq_tabO (tgt := 825) hF ok_l_hd rfl (Or.inr (by decide)) (by decide) (hend0 M hRel)
      | 15, _ => exact gq_tabO (tgt := 825) hF ok_l_hd rfl (Or.inr (by decide)) (by decide) (hend0 M hRel)
      | k + 16, h => omega
