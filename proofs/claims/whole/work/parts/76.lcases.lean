/-! THE LAW: its twelve cases -/
theorem sc_in0 {i L : Nat} (h : i < L) (hL : L ≤ 2048) : vp_in (nI i) L := vp_in_nI h (by omega)
theorem sc_in {i j L : Nat} (h : i + 4 ≤ L) (hL : L ≤ 2048 ∧ j < 4) : vp_in (nI i + nI j) L := by
  rw [nI_add]; exact vp_in_nI (by omega) (by omega)
theorem sc_cl0 {i : Nat} (h : i ≤ 2048) : (nI i).toNatClampNeg = i := nI_clamp (by omega)
theorem sc_cl {i j : Nat} (h : i ≤ 2048 ∧ j < 4) : (nI i + nI j).toNatClampNeg = i + j := by
  rw [nI_add]; exact nI_clamp (by omega)
def lWd (S : LSt) (M : MSt) (f : Nat → Int64) : List va_E := (wS S ++ [oL f]) ++ (wM M).map (she 9)
abbrev lAl (i : Nat) : List (Option Value) := [some (.ref 18), some (.ref 0), some (.ref 9), some (.ref 8), some (.int (nI i)), none, none, none]
theorem rm_thrownM {d : Nat} {M : MSt} : AM r_thrown d (.inl (some (.int (nI (g_cd M))))) [.ref 0] (wM M) (wM M) := rm_thrown
set_option maxHeartbeats 4000000 in
theorem lc_begin {X : gq_X} {L : Nat} {sc : Nat → Int32} {S S' : LSt} {M M' : MSt} {f f' : Nat → Int64} {i ce sl d d2 : Nat} {O1 : aq_O} {k : Int32} {b : Int32} (hF : gq_Fix X l_c0) (hN : aq_Nc (xs X)) (hSc : lx_S X L sc) (hi : i + 4 ≤ L) (hL : L ≤ 2048) (hR : xR X = room_1) (hH : HM h_begin hh_begin d O1 [.ref 0, .int (sc (i + 1)), .ref 8] (wS S ++ [oL f]) (wS S' ++ [oL f']) k) (hB : AM r_begin d2 (.inl (some (.int b))) [.ref 0, .int (sc (i + 1))] (wM M) (wM M')) (hk : nI (g_cd M') = k) (hv : k = 0 → f' 0 = b.toInt64) (hr1 : d + 2 + aq_mf O1 ≤ 11) (hr2 : 28 * d + 56 + aq_ml O1 ≤ 392) (hr3 : d2 ≤ 10) (hc : ce + aq_mc O1 ≤ 1053) (hs : sl + aq_ms O1 ≤ 19654) (K : GW X l_hd (ce + aq_mc O1) (sl + aq_ms O1) (825, lAl i, [], lWd S' M' f')) : GW X l_c0 ce sl (100, lAl i, [], lWd S M f) := by
  have hRf : (xR X).frames = 11 := by rw [hR]; rfl
  have hRl : (xR X).locals = 392 := by rw [hR]; rfl
  have hRc : (xR X).cells = 1053 := by rw [hR]; rfl
  have hRs : (xR X).slots = 19654 := by rw [hR]; rfl
  refine gq_gn (n := 5) (c1 := (106, [some (.ref 18), some (.ref 0), some (.ref 9), some (.ref 8), some (.int (nI i)), none, none, none], [.int ((nI i) + (nI 1)), .ref 18, .ref 0], lWd S M f)) hF ok_l_c0 rfl ?_
  refine gq_sld hF hSc ok_l_c0 rfl (sc_in hi (by omega)) ?_
  rw [sc_cl (by omega)]
  refine gq_gn (n := 1) (c1 := (108, [some (.ref 18), some (.ref 0), some (.ref 9), some (.ref 8), some (.int (nI i)), none, none, none], [.ref 8, .int (sc (i + 1)), .ref 0], lWd S M f)) hF ok_l_c0 rfl ?_
  refine gq_callH (as := [.ref 0, .int (sc (i + 1)), .ref 8]) (st := []) (z := (wM M).map (she 9)) hF hN rfl ok_l_c0 rfl ch_begin hH rfl (Nat.zero_le _) rfl (by rw [hRf]; exact hr1) (by rw [hRl]; exact hr2) (by rw [hRc, hRs]; exact ⟨hc, hs⟩) ?_
  show GW X _ _ _ (111, [some (.ref 18), some (.ref 0), some (.ref 9), some (.ref 8), some (.int (nI i)), none, none, none], [.int k], lWd S' M f')
  refine gq_gn (n := 2) (c1 := (114, [some (.ref 18), some (.ref 0), some (.ref 9), some (.ref 8), some (.int (nI i)), some (.int k), none, none], [.ref 9], lWd S' M f')) hF ok_l_c0 rfl ?_
  refine gq_gn (n := 4) (c1 := (119, [some (.ref 18), some (.ref 0), some (.ref 9), some (.ref 8), some (.int (nI i)), some (.int k), none, none], [.int ((nI i) + (nI 1)), .ref 18, .ref 9], lWd S' M f')) hF ok_l_c0 rfl ?_
  refine gq_sld hF hSc ok_l_c0 rfl (sc_in hi (by omega)) ?_
  rw [sc_cl (by omega)]
  refine gq_callV1 (u := wS S' ++ [oL f']) (n := 9) (as := [.int (sc (i + 1))]) (st := []) rfl hF ok_l_c0 rfl c3_r_begin hB rfl (Nat.zero_le _) rfl rfl rfl rfl (by rw [hRf]; omega) (by rw [hRl]; omega) (by rw [hRc, hRs]; exact ⟨hc, hs⟩) ?_
  show GW X _ _ _ (123, [some (.ref 18), some (.ref 0), some (.ref 9), some (.ref 8), some (.int (nI i)), some (.int k), none, none], [.int b], lWd S' M' f')
  refine gq_gn (n := 2) (c1 := (126, [some (.ref 18), some (.ref 0), some (.ref 9), some (.ref 8), some (.int (nI i)), some (.int k), some (.int b), none], [.ref 9], lWd S' M' f')) hF ok_l_c0 rfl ?_
  refine gq_callV1 (u := wS S' ++ [oL f']) (n := 9) (d := 0) (as := []) (st := []) rfl hF ok_l_c0 rfl c3_r_thrown rm_thrownM rfl (Nat.zero_le _) rfl rfl rfl rfl (by rw [hRf]; omega) (by rw [hRl]; omega) (by rw [hRc, hRs]; exact ⟨hc, hs⟩) ?_
  show GW X _ _ _ (129, [some (.ref 18), some (.ref 0), some (.ref 9), some (.ref 8), some (.int (nI i)), some (.int k), some (.int b), none], [.int (nI (g_cd M'))], lWd S' M' f')
  refine gq_gn (n := 1) (c1 := (131, [some (.ref 18), some (.ref 0), some (.ref 9), some (.ref 8), some (.int (nI i)), some (.int k), some (.int b), none], [.int k, .int (nI (g_cd M'))], lWd S' M' f')) hF ok_l_c0 rfl ?_
  refine gq_icmp_eq hF ok_l_c0 rfl (fun he => ?_) (fun he => ?_)
  · refine gq_gn (n := 1) (c1 := (138, [some (.ref 18), some (.ref 0), some (.ref 9), some (.ref 8), some (.int (nI i)), some (.int k), some (.int b), none], [.int k], lWd S' M' f')) hF ok_l_c0 rfl ?_
    refine gq_if_ne hF ok_l_c0 rfl (fun hq => ?_) (fun hq => ?_)
    · refine gq_gn (n := 1) (c1 := (825, [some (.ref 18), some (.ref 0), some (.ref 9), some (.ref 8), some (.int (nI i)), some (.int k), some (.int b), none], [], lWd S' M' f')) hF ok_l_c0 rfl ?_
      refine gq_drop 6 ?_
      refine gq_drop 5 ?_
      exact gw_any rfl K
    · refine gq_gn (n := 2) (c1 := (143, [some (.ref 18), some (.ref 0), some (.ref 9), some (.ref 8), some (.int (nI i)), some (.int k), some (.int b), none], [.int (nI 0), .ref 8], lWd S' M' f')) hF ok_l_c0 rfl ?_
      refine gq_go (n := 1) (c1 := (144, [some (.ref 18), some (.ref 0), some (.ref 9), some (.ref 8), some (.int (nI i)), some (.int k), some (.int b), none], [.long (f' 0)], lWd S' M' f')) (P := vp_in 0 1) hF ok_l_c0 rfl in01 ?_
      refine gq_gn (n := 3) (c1 := (148, [some (.ref 18), some (.ref 0), some (.ref 9), some (.ref 8), some (.int (nI i)), some (.int k), some (.int b), none], [.int (lg_cmp (f' 0) b.toInt64)], lWd S' M' f')) hF ok_l_c0 rfl ?_
      refine gq_if_eq hF ok_l_c0 rfl (fun hl => ?_) (fun hl => ?_)
      · refine gq_gn (n := 1) (c1 := (825, [some (.ref 18), some (.ref 0), some (.ref 9), some (.ref 8), some (.int (nI i)), some (.int k), some (.int b), none], [], lWd S' M' f')) hF ok_l_c0 rfl ?_
        refine gq_drop 6 ?_
        refine gq_drop 5 ?_
        exact gw_any rfl K
      · exact absurd ((lg_cmp_0 _ _).mpr (hv hq)) hl
  · exact absurd hk he
set_option maxHeartbeats 4000000 in
theorem lc_lock {X : gq_X} {L : Nat} {sc : Nat → Int32} {S S' : LSt} {M M' : MSt} {f f' : Nat → Int64} {i ce sl d d2 : Nat} {O1 : aq_O} {k : Int32} {b : Int32} (hF : gq_Fix X l_c1) (hN : aq_Nc (xs X)) (hSc : lx_S X L sc) (hi : i + 4 ≤ L) (hL : L ≤ 2048) (hR : xR X = room_1) (hH : HM h_lock hh_lock d O1 [.ref 0, .int (sc (i + 1)), .int (sc (i + 2)), .int (sc (i + 3)), .ref 8] (wS S ++ [oL f]) (wS S' ++ [oL f']) k) (hB : AM r_lock d2 (.inl (some (.int b))) [.ref 0, .int (sc (i + 1)), .int (sc (i + 2)), .int (sc (i + 3))] (wM M) (wM M')) (hk : nI (g_cd M') = k) (hv : k = 0 → f' 0 = b.toInt64) (hr1 : d + 2 + aq_mf O1 ≤ 11) (hr2 : 28 * d + 56 + aq_ml O1 ≤ 392) (hr3 : d2 ≤ 10) (hc : ce + aq_mc O1 ≤ 1053) (hs : sl + aq_ms O1 ≤ 19654) (K : GW X l_hd (ce + aq_mc O1) (sl + aq_ms O1) (825, lAl i, [], lWd S' M' f')) : GW X l_c1 ce sl (156, lAl i, [], lWd S M f) := by
  have hRf : (xR X).frames = 11 := by rw [hR]; rfl
  have hRl : (xR X).locals = 392 := by rw [hR]; rfl
  have hRc : (xR X).cells = 1053 := by rw [hR]; rfl
  have hRs : (xR X).slots = 19654 := by rw [hR]; rfl
  refine gq_gn (n := 5) (c1 := (162, [some (.ref 18), some (.ref 0), some (.ref 9), some (.ref 8), some (.int (nI i)), none, none, none], [.int ((nI i) + (nI 1)), .ref 18, .ref 0], lWd S M f)) hF ok_l_c1 rfl ?_
  refine gq_sld hF hSc ok_l_c1 rfl (sc_in hi (by omega)) ?_
  rw [sc_cl (by omega)]
  refine gq_gn (n := 4) (c1 := (168, [some (.ref 18), some (.ref 0), some (.ref 9), some (.ref 8), some (.int (nI i)), none, none, none], [.int ((nI i) + (nI 2)), .ref 18, .int (sc (i + 1)), .ref 0], lWd S M f)) hF ok_l_c1 rfl ?_
  refine gq_sld hF hSc ok_l_c1 rfl (sc_in hi (by omega)) ?_
  rw [sc_cl (by omega)]
  refine gq_gn (n := 4) (c1 := (174, [some (.ref 18), some (.ref 0), some (.ref 9), some (.ref 8), some (.int (nI i)), none, none, none], [.int ((nI i) + (nI 3)), .ref 18, .int (sc (i + 2)), .int (sc (i + 1)), .ref 0], lWd S M f)) hF ok_l_c1 rfl ?_
  refine gq_sld hF hSc ok_l_c1 rfl (sc_in hi (by omega)) ?_
  rw [sc_cl (by omega)]
  refine gq_gn (n := 1) (c1 := (176, [some (.ref 18), some (.ref 0), some (.ref 9), some (.ref 8), some (.int (nI i)), none, none, none], [.ref 8, .int (sc (i + 3)), .int (sc (i + 2)), .int (sc (i + 1)), .ref 0], lWd S M f)) hF ok_l_c1 rfl ?_
  refine gq_callH (as := [.ref 0, .int (sc (i + 1)), .int (sc (i + 2)), .int (sc (i + 3)), .ref 8]) (st := []) (z := (wM M).map (she 9)) hF hN rfl ok_l_c1 rfl ch_lock hH rfl (Nat.zero_le _) rfl (by rw [hRf]; exact hr1) (by rw [hRl]; exact hr2) (by rw [hRc, hRs]; exact ⟨hc, hs⟩) ?_
  show GW X _ _ _ (179, [some (.ref 18), some (.ref 0), some (.ref 9), some (.ref 8), some (.int (nI i)), none, none, none], [.int k], lWd S' M f')
  refine gq_gn (n := 2) (c1 := (182, [some (.ref 18), some (.ref 0), some (.ref 9), some (.ref 8), some (.int (nI i)), some (.int k), none, none], [.ref 9], lWd S' M f')) hF ok_l_c1 rfl ?_
  refine gq_gn (n := 4) (c1 := (187, [some (.ref 18), some (.ref 0), some (.ref 9), some (.ref 8), some (.int (nI i)), some (.int k), none, none], [.int ((nI i) + (nI 1)), .ref 18, .ref 9], lWd S' M f')) hF ok_l_c1 rfl ?_
  refine gq_sld hF hSc ok_l_c1 rfl (sc_in hi (by omega)) ?_
  rw [sc_cl (by omega)]
  refine gq_gn (n := 4) (c1 := (193, [some (.ref 18), some (.ref 0), some (.ref 9), some (.ref 8), some (.int (nI i)), some (.int k), none, none], [.int ((nI i) + (nI 2)), .ref 18, .int (sc (i + 1)), .ref 9], lWd S' M f')) hF ok_l_c1 rfl ?_
  refine gq_sld hF hSc ok_l_c1 rfl (sc_in hi (by omega)) ?_
  rw [sc_cl (by omega)]
  refine gq_gn (n := 4) (c1 := (199, [some (.ref 18), some (.ref 0), some (.ref 9), some (.ref 8), some (.int (nI i)), some (.int k), none, none], [.int ((nI i) + (nI 3)), .ref 18, .int (sc (i + 2)), .int (sc (i + 1)), .ref 9], lWd S' M f')) hF ok_l_c1 rfl ?_
  refine gq_sld hF hSc ok_l_c1 rfl (sc_in hi (by omega)) ?_
  rw [sc_cl (by omega)]
  refine gq_callV1 (u := wS S' ++ [oL f']) (n := 9) (as := [.int (sc (i + 1)), .int (sc (i + 2)), .int (sc (i + 3))]) (st := []) rfl hF ok_l_c1 rfl c3_r_lock hB rfl (Nat.zero_le _) rfl rfl rfl rfl (by rw [hRf]; omega) (by rw [hRl]; omega) (by rw [hRc, hRs]; exact ⟨hc, hs⟩) ?_
  show GW X _ _ _ (203, [some (.ref 18), some (.ref 0), some (.ref 9), some (.ref 8), some (.int (nI i)), some (.int k), none, none], [.int b], lWd S' M' f')
  refine gq_gn (n := 2) (c1 := (206, [some (.ref 18), some (.ref 0), some (.ref 9), some (.ref 8), some (.int (nI i)), some (.int k), some (.int b), none], [.ref 9], lWd S' M' f')) hF ok_l_c1 rfl ?_
  refine gq_callV1 (u := wS S' ++ [oL f']) (n := 9) (d := 0) (as := []) (st := []) rfl hF ok_l_c1 rfl c3_r_thrown rm_thrownM rfl (Nat.zero_le _) rfl rfl rfl rfl (by rw [hRf]; omega) (by rw [hRl]; omega) (by rw [hRc, hRs]; exact ⟨hc, hs⟩) ?_
  show GW X _ _ _ (209, [some (.ref 18), some (.ref 0), some (.ref 9), some (.ref 8), some (.int (nI i)), some (.int k), some (.int b), none], [.int (nI (g_cd M'))], lWd S' M' f')
  refine gq_gn (n := 1) (c1 := (211, [some (.ref 18), some (.ref 0), some (.ref 9), some (.ref 8), some (.int (nI i)), some (.int k), some (.int b), none], [.int k, .int (nI (g_cd M'))], lWd S' M' f')) hF ok_l_c1 rfl ?_
  refine gq_icmp_eq hF ok_l_c1 rfl (fun he => ?_) (fun he => ?_)
  · refine gq_gn (n := 1) (c1 := (218, [some (.ref 18), some (.ref 0), some (.ref 9), some (.ref 8), some (.int (nI i)), some (.int k), some (.int b), none], [.int k], lWd S' M' f')) hF ok_l_c1 rfl ?_
    refine gq_if_ne hF ok_l_c1 rfl (fun hq => ?_) (fun hq => ?_)
    · refine gq_gn (n := 1) (c1 := (825, [some (.ref 18), some (.ref 0), some (.ref 9), some (.ref 8), some (.int (nI i)), some (.int k), some (.int b), none], [], lWd S' M' f')) hF ok_l_c1 rfl ?_
      refine gq_drop 6 ?_
      refine gq_drop 5 ?_
      exact gw_any rfl K
    · refine gq_gn (n := 2) (c1 := (223, [some (.ref 18), some (.ref 0), some (.ref 9), some (.ref 8), some (.int (nI i)), some (.int k), some (.int b), none], [.int (nI 0), .ref 8], lWd S' M' f')) hF ok_l_c1 rfl ?_
      refine gq_go (n := 1) (c1 := (224, [some (.ref 18), some (.ref 0), some (.ref 9), some (.ref 8), some (.int (nI i)), some (.int k), some (.int b), none], [.long (f' 0)], lWd S' M' f')) (P := vp_in 0 1) hF ok_l_c1 rfl in01 ?_
      refine gq_gn (n := 3) (c1 := (228, [some (.ref 18), some (.ref 0), some (.ref 9), some (.ref 8), some (.int (nI i)), some (.int k), some (.int b), none], [.int (lg_cmp (f' 0) b.toInt64)], lWd S' M' f')) hF ok_l_c1 rfl ?_
      refine gq_if_eq hF ok_l_c1 rfl (fun hl => ?_) (fun hl => ?_)
      · refine gq_gn (n := 1) (c1 := (825, [some (.ref 18), some (.ref 0), some (.ref 9), some (.ref 8), some (.int (nI i)), some (.int k), some (.int b), none], [], lWd S' M' f')) hF ok_l_c1 rfl ?_
        refine gq_drop 6 ?_
        refine gq_drop 5 ?_
        exact gw_any rfl K
      · exact absurd ((lg_cmp_0 _ _).mpr (hv hq)) hl
  · exact absurd hk he
set_option maxHeartbeats 4000000 in
theorem lc_commit {X : gq_X} {L : Nat} {sc : Nat → Int32} {S S' : LSt} {M M' : MSt} {f f' : Nat → Int64} {i ce sl d d2 : Nat} {O1 : aq_O} {k : Int32} {b : Int32} (hF : gq_Fix X l_c2) (hN : aq_Nc (xs X)) (hSc : lx_S X L sc) (hi : i + 4 ≤ L) (hL : L ≤ 2048) (hR : xR X = room_1) (hH : HM h_commit hh_commit d O1 [.ref 0, .int (sc (i + 1)), .ref 8] (wS S ++ [oL f]) (wS S' ++ [oL f']) k) (hB : AM r_commit d2 (.inl (some (.int b))) [.ref 0, .int (sc (i + 1))] (wM M) (wM M')) (hk : nI (g_cd M') = k) (hv : k = 0 → f' 0 = b.toInt64) (hr1 : d + 2 + aq_mf O1 ≤ 11) (hr2 : 28 * d + 56 + aq_ml O1 ≤ 392) (hr3 : d2 ≤ 10) (hc : ce + aq_mc O1 ≤ 1053) (hs : sl + aq_ms O1 ≤ 19654) (K : GW X l_hd (ce + aq_mc O1) (sl + aq_ms O1) (825, lAl i, [], lWd S' M' f')) : GW X l_c2 ce sl (236, lAl i, [], lWd S M f) := by
  have hRf : (xR X).frames = 11 := by rw [hR]; rfl
  have hRl : (xR X).locals = 392 := by rw [hR]; rfl
  have hRc : (xR X).cells = 1053 := by rw [hR]; rfl
  have hRs : (xR X).slots = 19654 := by rw [hR]; rfl
  refine gq_gn (n := 5) (c1 := (242, [some (.ref 18), some (.ref 0), some (.ref 9), some (.ref 8), some (.int (nI i)), none, none, none], [.int ((nI i) + (nI 1)), .ref 18, .ref 0], lWd S M f)) hF ok_l_c2 rfl ?_
  refine gq_sld hF hSc ok_l_c2 rfl (sc_in hi (by omega)) ?_
  rw [sc_cl (by omega)]
  refine gq_gn (n := 1) (c1 := (244, [some (.ref 18), some (.ref 0), some (.ref 9), some (.ref 8), some (.int (nI i)), none, none, none], [.ref 8, .int (sc (i + 1)), .ref 0], lWd S M f)) hF ok_l_c2 rfl ?_
  refine gq_callH (as := [.ref 0, .int (sc (i + 1)), .ref 8]) (st := []) (z := (wM M).map (she 9)) hF hN rfl ok_l_c2 rfl ch_commit hH rfl (Nat.zero_le _) rfl (by rw [hRf]; exact hr1) (by rw [hRl]; exact hr2) (by rw [hRc, hRs]; exact ⟨hc, hs⟩) ?_
  show GW X _ _ _ (247, [some (.ref 18), some (.ref 0), some (.ref 9), some (.ref 8), some (.int (nI i)), none, none, none], [.int k], lWd S' M f')
  refine gq_gn (n := 2) (c1 := (250, [some (.ref 18), some (.ref 0), some (.ref 9), some (.ref 8), some (.int (nI i)), some (.int k), none, none], [.ref 9], lWd S' M f')) hF ok_l_c2 rfl ?_
  refine gq_gn (n := 4) (c1 := (255, [some (.ref 18), some (.ref 0), some (.ref 9), some (.ref 8), some (.int (nI i)), some (.int k), none, none], [.int ((nI i) + (nI 1)), .ref 18, .ref 9], lWd S' M f')) hF ok_l_c2 rfl ?_
  refine gq_sld hF hSc ok_l_c2 rfl (sc_in hi (by omega)) ?_
  rw [sc_cl (by omega)]
  refine gq_callV1 (u := wS S' ++ [oL f']) (n := 9) (as := [.int (sc (i + 1))]) (st := []) rfl hF ok_l_c2 rfl c3_r_commit hB rfl (Nat.zero_le _) rfl rfl rfl rfl (by rw [hRf]; omega) (by rw [hRl]; omega) (by rw [hRc, hRs]; exact ⟨hc, hs⟩) ?_
  show GW X _ _ _ (259, [some (.ref 18), some (.ref 0), some (.ref 9), some (.ref 8), some (.int (nI i)), some (.int k), none, none], [.int b], lWd S' M' f')
  refine gq_gn (n := 2) (c1 := (262, [some (.ref 18), some (.ref 0), some (.ref 9), some (.ref 8), some (.int (nI i)), some (.int k), some (.int b), none], [.ref 9], lWd S' M' f')) hF ok_l_c2 rfl ?_
  refine gq_callV1 (u := wS S' ++ [oL f']) (n := 9) (d := 0) (as := []) (st := []) rfl hF ok_l_c2 rfl c3_r_thrown rm_thrownM rfl (Nat.zero_le _) rfl rfl rfl rfl (by rw [hRf]; omega) (by rw [hRl]; omega) (by rw [hRc, hRs]; exact ⟨hc, hs⟩) ?_
  show GW X _ _ _ (265, [some (.ref 18), some (.ref 0), some (.ref 9), some (.ref 8), some (.int (nI i)), some (.int k), some (.int b), none], [.int (nI (g_cd M'))], lWd S' M' f')
  refine gq_gn (n := 1) (c1 := (267, [some (.ref 18), some (.ref 0), some (.ref 9), some (.ref 8), some (.int (nI i)), some (.int k), some (.int b), none], [.int k, .int (nI (g_cd M'))], lWd S' M' f')) hF ok_l_c2 rfl ?_
  refine gq_icmp_eq hF ok_l_c2 rfl (fun he => ?_) (fun he => ?_)
  · refine gq_gn (n := 1) (c1 := (274, [some (.ref 18), some (.ref 0), some (.ref 9), some (.ref 8), some (.int (nI i)), some (.int k), some (.int b), none], [.int k], lWd S' M' f')) hF ok_l_c2 rfl ?_
    refine gq_if_ne hF ok_l_c2 rfl (fun hq => ?_) (fun hq => ?_)
    · refine gq_gn (n := 1) (c1 := (825, [some (.ref 18), some (.ref 0), some (.ref 9), some (.ref 8), some (.int (nI i)), some (.int k), some (.int b), none], [], lWd S' M' f')) hF ok_l_c2 rfl ?_
      refine gq_drop 6 ?_
      refine gq_drop 5 ?_
      exact gw_any rfl K
    · refine gq_gn (n := 2) (c1 := (279, [some (.ref 18), some (.ref 0), some (.ref 9), some (.ref 8), some (.int (nI i)), some (.int k), some (.int b), none], [.int (nI 0), .ref 8], lWd S' M' f')) hF ok_l_c2 rfl ?_
      refine gq_go (n := 1) (c1 := (280, [some (.ref 18), some (.ref 0), some (.ref 9), some (.ref 8), some (.int (nI i)), some (.int k), some (.int b), none], [.long (f' 0)], lWd S' M' f')) (P := vp_in 0 1) hF ok_l_c2 rfl in01 ?_
      refine gq_gn (n := 3) (c1 := (284, [some (.ref 18), some (.ref 0), some (.ref 9), some (.ref 8), some (.int (nI i)), some (.int k), some (.int b), none], [.int (lg_cmp (f' 0) b.toInt64)], lWd S' M' f')) hF ok_l_c2 rfl ?_
      refine gq_if_eq hF ok_l_c2 rfl (fun hl => ?_) (fun hl => ?_)
      · refine gq_gn (n := 1) (c1 := (825, [some (.ref 18), some (.ref 0), some (.ref 9), some (.ref 8), some (.int (nI i)), some (.int k), some (.int b), none], [], lWd S' M' f')) hF ok_l_c2 rfl ?_
        refine gq_drop 6 ?_
        refine gq_drop 5 ?_
        exact gw_any rfl K
      · exact absurd ((lg_cmp_0 _ _).mpr (hv hq)) hl
  · exact absurd hk he
set_option maxHeartbeats 4000000 in
theorem lc_abort {X : gq_X} {L : Nat} {sc : Nat → Int32} {S S' : LSt} {M M' : MSt} {f f' : Nat → Int64} {i ce sl d d2 : Nat} {O1 : aq_O} {k : Int32} {b : Int32} (hF : gq_Fix X l_c3) (hN : aq_Nc (xs X)) (hSc : lx_S X L sc) (hi : i + 4 ≤ L) (hL : L ≤ 2048) (hR : xR X = room_1) (hH : HM h_abort hh_abort d O1 [.ref 0, .int (sc (i + 1)), .ref 8] (wS S ++ [oL f]) (wS S' ++ [oL f']) k) (hB : AM r_abort d2 (.inl (some (.int b))) [.ref 0, .int (sc (i + 1))] (wM M) (wM M')) (hk : nI (g_cd M') = k) (hv : k = 0 → f' 0 = b.toInt64) (hr1 : d + 2 + aq_mf O1 ≤ 11) (hr2 : 28 * d + 56 + aq_ml O1 ≤ 392) (hr3 : d2 ≤ 10) (hc : ce + aq_mc O1 ≤ 1053) (hs : sl + aq_ms O1 ≤ 19654) (K : GW X l_hd (ce + aq_mc O1) (sl + aq_ms O1) (825, lAl i, [], lWd S' M' f')) : GW X l_c3 ce sl (292, lAl i, [], lWd S M f) := by
  have hRf : (xR X).frames = 11 := by rw [hR]; rfl
  have hRl : (xR X).locals = 392 := by rw [hR]; rfl
  have hRc : (xR X).cells = 1053 := by rw [hR]; rfl
  have hRs : (xR X).slots = 19654 := by rw [hR]; rfl
  refine gq_gn (n := 5) (c1 := (298, [some (.ref 18), some (.ref 0), some (.ref 9), some (.ref 8), some (.int (nI i)), none, none, none], [.int ((nI i) + (nI 1)), .ref 18, .ref 0], lWd S M f)) hF ok_l_c3 rfl ?_
  refine gq_sld hF hSc ok_l_c3 rfl (sc_in hi (by omega)) ?_
  rw [sc_cl (by omega)]
  refine gq_gn (n := 1) (c1 := (300, [some (.ref 18), some (.ref 0), some (.ref 9), some (.ref 8), some (.int (nI i)), none, none, none], [.ref 8, .int (sc (i + 1)), .ref 0], lWd S M f)) hF ok_l_c3 rfl ?_
  refine gq_callH (as := [.ref 0, .int (sc (i + 1)), .ref 8]) (st := []) (z := (wM M).map (she 9)) hF hN rfl ok_l_c3 rfl ch_abort hH rfl (Nat.zero_le _) rfl (by rw [hRf]; exact hr1) (by rw [hRl]; exact hr2) (by rw [hRc, hRs]; exact ⟨hc, hs⟩) ?_
  show GW X _ _ _ (303, [some (.ref 18), some (.ref 0), some (.ref 9), some (.ref 8), some (.int (nI i)), none, none, none], [.int k], lWd S' M f')
  refine gq_gn (n := 2) (c1 := (306, [some (.ref 18), some (.ref 0), some (.ref 9), some (.ref 8), some (.int (nI i)), some (.int k), none, none], [.ref 9], lWd S' M f')) hF ok_l_c3 rfl ?_
  refine gq_gn (n := 4) (c1 := (311, [some (.ref 18), some (.ref 0), some (.ref 9), some (.ref 8), some (.int (nI i)), some (.int k), none, none], [.int ((nI i) + (nI 1)), .ref 18, .ref 9], lWd S' M f')) hF ok_l_c3 rfl ?_
  refine gq_sld hF hSc ok_l_c3 rfl (sc_in hi (by omega)) ?_
  rw [sc_cl (by omega)]
  refine gq_callV1 (u := wS S' ++ [oL f']) (n := 9) (as := [.int (sc (i + 1))]) (st := []) rfl hF ok_l_c3 rfl c3_r_abort hB rfl (Nat.zero_le _) rfl rfl rfl rfl (by rw [hRf]; omega) (by rw [hRl]; omega) (by rw [hRc, hRs]; exact ⟨hc, hs⟩) ?_
  show GW X _ _ _ (315, [some (.ref 18), some (.ref 0), some (.ref 9), some (.ref 8), some (.int (nI i)), some (.int k), none, none], [.int b], lWd S' M' f')
  refine gq_gn (n := 2) (c1 := (318, [some (.ref 18), some (.ref 0), some (.ref 9), some (.ref 8), some (.int (nI i)), some (.int k), some (.int b), none], [.ref 9], lWd S' M' f')) hF ok_l_c3 rfl ?_
  refine gq_callV1 (u := wS S' ++ [oL f']) (n := 9) (d := 0) (as := []) (st := []) rfl hF ok_l_c3 rfl c3_r_thrown rm_thrownM rfl (Nat.zero_le _) rfl rfl rfl rfl (by rw [hRf]; omega) (by rw [hRl]; omega) (by rw [hRc, hRs]; exact ⟨hc, hs⟩) ?_
  show GW X _ _ _ (321, [some (.ref 18), some (.ref 0), some (.ref 9), some (.ref 8), some (.int (nI i)), some (.int k), some (.int b), none], [.int (nI (g_cd M'))], lWd S' M' f')
  refine gq_gn (n := 1) (c1 := (323, [some (.ref 18), some (.ref 0), some (.ref 9), some (.ref 8), some (.int (nI i)), some (.int k), some (.int b), none], [.int k, .int (nI (g_cd M'))], lWd S' M' f')) hF ok_l_c3 rfl ?_
  refine gq_icmp_eq hF ok_l_c3 rfl (fun he => ?_) (fun he => ?_)
  · refine gq_gn (n := 1) (c1 := (330, [some (.ref 18), some (.ref 0), some (.ref 9), some (.ref 8), some (.int (nI i)), some (.int k), some (.int b), none], [.int k], lWd S' M' f')) hF ok_l_c3 rfl ?_
    refine gq_if_ne hF ok_l_c3 rfl (fun hq => ?_) (fun hq => ?_)
    · refine gq_gn (n := 1) (c1 := (825, [some (.ref 18), some (.ref 0), some (.ref 9), some (.ref 8), some (.int (nI i)), some (.int k), some (.int b), none], [], lWd S' M' f')) hF ok_l_c3 rfl ?_
      refine gq_drop 6 ?_
      refine gq_drop 5 ?_
      exact gw_any rfl K
    · refine gq_gn (n := 2) (c1 := (335, [some (.ref 18), some (.ref 0), some (.ref 9), some (.ref 8), some (.int (nI i)), some (.int k), some (.int b), none], [.int (nI 0), .ref 8], lWd S' M' f')) hF ok_l_c3 rfl ?_
      refine gq_go (n := 1) (c1 := (336, [some (.ref 18), some (.ref 0), some (.ref 9), some (.ref 8), some (.int (nI i)), some (.int k), some (.int b), none], [.long (f' 0)], lWd S' M' f')) (P := vp_in 0 1) hF ok_l_c3 rfl in01 ?_
      refine gq_gn (n := 3) (c1 := (340, [some (.ref 18), some (.ref 0), some (.ref 9), some (.ref 8), some (.int (nI i)), some (.int k), some (.int b), none], [.int (lg_cmp (f' 0) b.toInt64)], lWd S' M' f')) hF ok_l_c3 rfl ?_
      refine gq_if_eq hF ok_l_c3 rfl (fun hl => ?_) (fun hl => ?_)
      · refine gq_gn (n := 1) (c1 := (825, [some (.ref 18), some (.ref 0), some (.ref 9), some (.ref 8), some (.int (nI i)), some (.int k), some (.int b), none], [], lWd S' M' f')) hF ok_l_c3 rfl ?_
        refine gq_drop 6 ?_
        refine gq_drop 5 ?_
        exact gw_any rfl K
      · exact absurd ((lg_cmp_0 _ _).mpr (hv hq)) hl
  · exact absurd hk he
set_option maxHeartbeats 4000000 in
theorem lc_escalate {X : gq_X} {L : Nat} {sc : Nat → Int32} {S S' : LSt} {M M' : MSt} {f f' : Nat → Int64} {i ce sl d d2 : Nat} {O1 : aq_O} {k : Int32} {b : Int32} (hF : gq_Fix X l_c4) (hN : aq_Nc (xs X)) (hSc : lx_S X L sc) (hi : i + 4 ≤ L) (hL : L ≤ 2048) (hR : xR X = room_1) (hH : HM h_escalate hh_escalate d O1 [.ref 0, .int (sc (i + 1)), .int (sc (i + 2)), .ref 8] (wS S ++ [oL f]) (wS S' ++ [oL f']) k) (hB : AM r_escalate d2 (.inl (some (.int b))) [.ref 0, .int (sc (i + 1)), .int (sc (i + 2))] (wM M) (wM M')) (hk : nI (g_cd M') = k) (hv : k = 0 → f' 0 = b.toInt64) (hr1 : d + 2 + aq_mf O1 ≤ 11) (hr2 : 28 * d + 56 + aq_ml O1 ≤ 392) (hr3 : d2 ≤ 10) (hc : ce + aq_mc O1 ≤ 1053) (hs : sl + aq_ms O1 ≤ 19654) (K : GW X l_hd (ce + aq_mc O1) (sl + aq_ms O1) (825, lAl i, [], lWd S' M' f')) : GW X l_c4 ce sl (348, lAl i, [], lWd S M f) := by
  have hRf : (xR X).frames = 11 := by rw [hR]; rfl
  have hRl : (xR X).locals = 392 := by rw [hR]; rfl
  have hRc : (xR X).cells = 1053 := by rw [hR]; rfl
  have hRs : (xR X).slots = 19654 := by rw [hR]; rfl
  refine gq_gn (n := 5) (c1 := (354, [some (.ref 18), some (.ref 0), some (.ref 9), some (.ref 8), some (.int (nI i)), none, none, none], [.int ((nI i) + (nI 1)), .ref 18, .ref 0], lWd S M f)) hF ok_l_c4 rfl ?_
  refine gq_sld hF hSc ok_l_c4 rfl (sc_in hi (by omega)) ?_
  rw [sc_cl (by omega)]
  refine gq_gn (n := 4) (c1 := (360, [some (.ref 18), some (.ref 0), some (.ref 9), some (.ref 8), some (.int (nI i)), none, none, none], [.int ((nI i) + (nI 2)), .ref 18, .int (sc (i + 1)), .ref 0], lWd S M f)) hF ok_l_c4 rfl ?_
  refine gq_sld hF hSc ok_l_c4 rfl (sc_in hi (by omega)) ?_
  rw [sc_cl (by omega)]
  refine gq_gn (n := 1) (c1 := (362, [some (.ref 18), some (.ref 0), some (.ref 9), some (.ref 8), some (.int (nI i)), none, none, none], [.ref 8, .int (sc (i + 2)), .int (sc (i + 1)), .ref 0], lWd S M f)) hF ok_l_c4 rfl ?_
  refine gq_callH (as := [.ref 0, .int (sc (i + 1)), .int (sc (i + 2)), .ref 8]) (st := []) (z := (wM M).map (she 9)) hF hN rfl ok_l_c4 rfl ch_escalate hH rfl (Nat.zero_le _) rfl (by rw [hRf]; exact hr1) (by rw [hRl]; exact hr2) (by rw [hRc, hRs]; exact ⟨hc, hs⟩) ?_
  show GW X _ _ _ (365, [some (.ref 18), some (.ref 0), some (.ref 9), some (.ref 8), some (.int (nI i)), none, none, none], [.int k], lWd S' M f')
  refine gq_gn (n := 2) (c1 := (368, [some (.ref 18), some (.ref 0), some (.ref 9), some (.ref 8), some (.int (nI i)), some (.int k), none, none], [.ref 9], lWd S' M f')) hF ok_l_c4 rfl ?_
  refine gq_gn (n := 4) (c1 := (373, [some (.ref 18), some (.ref 0), some (.ref 9), some (.ref 8), some (.int (nI i)), some (.int k), none, none], [.int ((nI i) + (nI 1)), .ref 18, .ref 9], lWd S' M f')) hF ok_l_c4 rfl ?_
  refine gq_sld hF hSc ok_l_c4 rfl (sc_in hi (by omega)) ?_
  rw [sc_cl (by omega)]
  refine gq_gn (n := 4) (c1 := (379, [some (.ref 18), some (.ref 0), some (.ref 9), some (.ref 8), some (.int (nI i)), some (.int k), none, none], [.int ((nI i) + (nI 2)), .ref 18, .int (sc (i + 1)), .ref 9], lWd S' M f')) hF ok_l_c4 rfl ?_
  refine gq_sld hF hSc ok_l_c4 rfl (sc_in hi (by omega)) ?_
  rw [sc_cl (by omega)]
  refine gq_callV1 (u := wS S' ++ [oL f']) (n := 9) (as := [.int (sc (i + 1)), .int (sc (i + 2))]) (st := []) rfl hF ok_l_c4 rfl c3_r_escalate hB rfl (Nat.zero_le _) rfl rfl rfl rfl (by rw [hRf]; omega) (by rw [hRl]; omega) (by rw [hRc, hRs]; exact ⟨hc, hs⟩) ?_
  show GW X _ _ _ (383, [some (.ref 18), some (.ref 0), some (.ref 9), some (.ref 8), some (.int (nI i)), some (.int k), none, none], [.int b], lWd S' M' f')
  refine gq_gn (n := 2) (c1 := (386, [some (.ref 18), some (.ref 0), some (.ref 9), some (.ref 8), some (.int (nI i)), some (.int k), some (.int b), none], [.ref 9], lWd S' M' f')) hF ok_l_c4 rfl ?_
  refine gq_callV1 (u := wS S' ++ [oL f']) (n := 9) (d := 0) (as := []) (st := []) rfl hF ok_l_c4 rfl c3_r_thrown rm_thrownM rfl (Nat.zero_le _) rfl rfl rfl rfl (by rw [hRf]; omega) (by rw [hRl]; omega) (by rw [hRc, hRs]; exact ⟨hc, hs⟩) ?_
  show GW X _ _ _ (389, [some (.ref 18), some (.ref 0), some (.ref 9), some (.ref 8), some (.int (nI i)), some (.int k), some (.int b), none], [.int (nI (g_cd M'))], lWd S' M' f')
  refine gq_gn (n := 1) (c1 := (391, [some (.ref 18), some (.ref 0), some (.ref 9), some (.ref 8), some (.int (nI i)), some (.int k), some (.int b), none], [.int k, .int (nI (g_cd M'))], lWd S' M' f')) hF ok_l_c4 rfl ?_
  refine gq_icmp_eq hF ok_l_c4 rfl (fun he => ?_) (fun he => ?_)
  · refine gq_gn (n := 1) (c1 := (398, [some (.ref 18), some (.ref 0), some (.ref 9), some (.ref 8), some (.int (nI i)), some (.int k), some (.int b), none], [.int k], lWd S' M' f')) hF ok_l_c4 rfl ?_
    refine gq_if_ne hF ok_l_c4 rfl (fun hq => ?_) (fun hq => ?_)
    · refine gq_gn (n := 1) (c1 := (825, [some (.ref 18), some (.ref 0), some (.ref 9), some (.ref 8), some (.int (nI i)), some (.int k), some (.int b), none], [], lWd S' M' f')) hF ok_l_c4 rfl ?_
      refine gq_drop 6 ?_
      refine gq_drop 5 ?_
      exact gw_any rfl K
    · refine gq_gn (n := 2) (c1 := (403, [some (.ref 18), some (.ref 0), some (.ref 9), some (.ref 8), some (.int (nI i)), some (.int k), some (.int b), none], [.int (nI 0), .ref 8], lWd S' M' f')) hF ok_l_c4 rfl ?_
      refine gq_go (n := 1) (c1 := (404, [some (.ref 18), some (.ref 0), some (.ref 9), some (.ref 8), some (.int (nI i)), some (.int k), some (.int b), none], [.long (f' 0)], lWd S' M' f')) (P := vp_in 0 1) hF ok_l_c4 rfl in01 ?_
      refine gq_gn (n := 3) (c1 := (408, [some (.ref 18), some (.ref 0), some (.ref 9), some (.ref 8), some (.int (nI i)), some (.int k), some (.int b), none], [.int (lg_cmp (f' 0) b.toInt64)], lWd S' M' f')) hF ok_l_c4 rfl ?_
      refine gq_if_eq hF ok_l_c4 rfl (fun hl => ?_) (fun hl => ?_)
      · refine gq_gn (n := 1) (c1 := (825, [some (.ref 18), some (.ref 0), some (.ref 9), some (.ref 8), some (.int (nI i)), some (.int k), some (.int b), none], [], lWd S' M' f')) hF ok_l_c4 rfl ?_
        refine gq_drop 6 ?_
        refine gq_drop 5 ?_
        exact gw_any rfl K
      · exact absurd ((lg_cmp_0 _ _).mpr (hv hq)) hl
  · exact absurd hk he
set_option maxHeartbeats 4000000 in
theorem lc_mode {X : gq_X} {L : Nat} {sc : Nat → Int32} {S S' : LSt} {M M' : MSt} {f f' : Nat → Int64} {i ce sl d d2 : Nat} {O1 : aq_O} {k : Int32} {b : Int32} (hF : gq_Fix X l_c5) (hN : aq_Nc (xs X)) (hSc : lx_S X L sc) (hi : i + 4 ≤ L) (hL : L ≤ 2048) (hR : xR X = room_1) (hH : HM h_mode hh_mode d O1 [.ref 0, .int (sc (i + 1)), .int (sc (i + 2)), .ref 8] (wS S ++ [oL f]) (wS S' ++ [oL f']) k) (hB : AM r_mode d2 (.inl (some (.int b))) [.ref 0, .int (sc (i + 1)), .int (sc (i + 2))] (wM M) (wM M')) (hk : nI (g_cd M') = k) (hv : k = 0 → f' 0 = b.toInt64) (hr1 : d + 2 + aq_mf O1 ≤ 11) (hr2 : 28 * d + 56 + aq_ml O1 ≤ 392) (hr3 : d2 ≤ 10) (hc : ce + aq_mc O1 ≤ 1053) (hs : sl + aq_ms O1 ≤ 19654) (K : GW X l_hd (ce + aq_mc O1) (sl + aq_ms O1) (825, lAl i, [], lWd S' M' f')) : GW X l_c5 ce sl (416, lAl i, [], lWd S M f) := by
  have hRf : (xR X).frames = 11 := by rw [hR]; rfl
  have hRl : (xR X).locals = 392 := by rw [hR]; rfl
  have hRc : (xR X).cells = 1053 := by rw [hR]; rfl
  have hRs : (xR X).slots = 19654 := by rw [hR]; rfl
  refine gq_gn (n := 5) (c1 := (422, [some (.ref 18), some (.ref 0), some (.ref 9), some (.ref 8), some (.int (nI i)), none, none, none], [.int ((nI i) + (nI 1)), .ref 18, .ref 0], lWd S M f)) hF ok_l_c5 rfl ?_
  refine gq_sld hF hSc ok_l_c5 rfl (sc_in hi (by omega)) ?_
  rw [sc_cl (by omega)]
  refine gq_gn (n := 4) (c1 := (428, [some (.ref 18), some (.ref 0), some (.ref 9), some (.ref 8), some (.int (nI i)), none, none, none], [.int ((nI i) + (nI 2)), .ref 18, .int (sc (i + 1)), .ref 0], lWd S M f)) hF ok_l_c5 rfl ?_
  refine gq_sld hF hSc ok_l_c5 rfl (sc_in hi (by omega)) ?_
  rw [sc_cl (by omega)]
  refine gq_gn (n := 1) (c1 := (430, [some (.ref 18), some (.ref 0), some (.ref 9), some (.ref 8), some (.int (nI i)), none, none, none], [.ref 8, .int (sc (i + 2)), .int (sc (i + 1)), .ref 0], lWd S M f)) hF ok_l_c5 rfl ?_
  refine gq_callH (as := [.ref 0, .int (sc (i + 1)), .int (sc (i + 2)), .ref 8]) (st := []) (z := (wM M).map (she 9)) hF hN rfl ok_l_c5 rfl ch_mode hH rfl (Nat.zero_le _) rfl (by rw [hRf]; exact hr1) (by rw [hRl]; exact hr2) (by rw [hRc, hRs]; exact ⟨hc, hs⟩) ?_
  show GW X _ _ _ (433, [some (.ref 18), some (.ref 0), some (.ref 9), some (.ref 8), some (.int (nI i)), none, none, none], [.int k], lWd S' M f')
  refine gq_gn (n := 2) (c1 := (436, [some (.ref 18), some (.ref 0), some (.ref 9), some (.ref 8), some (.int (nI i)), some (.int k), none, none], [.ref 9], lWd S' M f')) hF ok_l_c5 rfl ?_
  refine gq_gn (n := 4) (c1 := (441, [some (.ref 18), some (.ref 0), some (.ref 9), some (.ref 8), some (.int (nI i)), some (.int k), none, none], [.int ((nI i) + (nI 1)), .ref 18, .ref 9], lWd S' M f')) hF ok_l_c5 rfl ?_
  refine gq_sld hF hSc ok_l_c5 rfl (sc_in hi (by omega)) ?_
  rw [sc_cl (by omega)]
  refine gq_gn (n := 4) (c1 := (447, [some (.ref 18), some (.ref 0), some (.ref 9), some (.ref 8), some (.int (nI i)), some (.int k), none, none], [.int ((nI i) + (nI 2)), .ref 18, .int (sc (i + 1)), .ref 9], lWd S' M f')) hF ok_l_c5 rfl ?_
  refine gq_sld hF hSc ok_l_c5 rfl (sc_in hi (by omega)) ?_
  rw [sc_cl (by omega)]
  refine gq_callV1 (u := wS S' ++ [oL f']) (n := 9) (as := [.int (sc (i + 1)), .int (sc (i + 2))]) (st := []) rfl hF ok_l_c5 rfl c3_r_mode hB rfl (Nat.zero_le _) rfl rfl rfl rfl (by rw [hRf]; omega) (by rw [hRl]; omega) (by rw [hRc, hRs]; exact ⟨hc, hs⟩) ?_
  show GW X _ _ _ (451, [some (.ref 18), some (.ref 0), some (.ref 9), some (.ref 8), some (.int (nI i)), some (.int k), none, none], [.int b], lWd S' M' f')
  refine gq_gn (n := 2) (c1 := (454, [some (.ref 18), some (.ref 0), some (.ref 9), some (.ref 8), some (.int (nI i)), some (.int k), some (.int b), none], [.ref 9], lWd S' M' f')) hF ok_l_c5 rfl ?_
  refine gq_callV1 (u := wS S' ++ [oL f']) (n := 9) (d := 0) (as := []) (st := []) rfl hF ok_l_c5 rfl c3_r_thrown rm_thrownM rfl (Nat.zero_le _) rfl rfl rfl rfl (by rw [hRf]; omega) (by rw [hRl]; omega) (by rw [hRc, hRs]; exact ⟨hc, hs⟩) ?_
  show GW X _ _ _ (457, [some (.ref 18), some (.ref 0), some (.ref 9), some (.ref 8), some (.int (nI i)), some (.int k), some (.int b), none], [.int (nI (g_cd M'))], lWd S' M' f')
  refine gq_gn (n := 1) (c1 := (459, [some (.ref 18), some (.ref 0), some (.ref 9), some (.ref 8), some (.int (nI i)), some (.int k), some (.int b), none], [.int k, .int (nI (g_cd M'))], lWd S' M' f')) hF ok_l_c5 rfl ?_
  refine gq_icmp_eq hF ok_l_c5 rfl (fun he => ?_) (fun he => ?_)
  · refine gq_gn (n := 1) (c1 := (466, [some (.ref 18), some (.ref 0), some (.ref 9), some (.ref 8), some (.int (nI i)), some (.int k), some (.int b), none], [.int k], lWd S' M' f')) hF ok_l_c5 rfl ?_
    refine gq_if_ne hF ok_l_c5 rfl (fun hq => ?_) (fun hq => ?_)
    · refine gq_gn (n := 1) (c1 := (825, [some (.ref 18), some (.ref 0), some (.ref 9), some (.ref 8), some (.int (nI i)), some (.int k), some (.int b), none], [], lWd S' M' f')) hF ok_l_c5 rfl ?_
      refine gq_drop 6 ?_
      refine gq_drop 5 ?_
      exact gw_any rfl K
    · refine gq_gn (n := 2) (c1 := (471, [some (.ref 18), some (.ref 0), some (.ref 9), some (.ref 8), some (.int (nI i)), some (.int k), some (.int b), none], [.int (nI 0), .ref 8], lWd S' M' f')) hF ok_l_c5 rfl ?_
      refine gq_go (n := 1) (c1 := (472, [some (.ref 18), some (.ref 0), some (.ref 9), some (.ref 8), some (.int (nI i)), some (.int k), some (.int b), none], [.long (f' 0)], lWd S' M' f')) (P := vp_in 0 1) hF ok_l_c5 rfl in01 ?_
      refine gq_gn (n := 3) (c1 := (476, [some (.ref 18), some (.ref 0), some (.ref 9), some (.ref 8), some (.int (nI i)), some (.int k), some (.int b), none], [.int (lg_cmp (f' 0) b.toInt64)], lWd S' M' f')) hF ok_l_c5 rfl ?_
      refine gq_if_eq hF ok_l_c5 rfl (fun hl => ?_) (fun hl => ?_)
      · refine gq_gn (n := 1) (c1 := (825, [some (.ref 18), some (.ref 0), some (.ref 9), some (.ref 8), some (.int (nI i)), some (.int k), some (.int b), none], [], lWd S' M' f')) hF ok_l_c5 rfl ?_
        refine gq_drop 6 ?_
        refine gq_drop 5 ?_
        exact gw_any rfl K
      · exact absurd ((lg_cmp_0 _ _).mpr (hv hq)) hl
  · exact absurd hk he
set_option maxHeartbeats 4000000 in
theorem lc_told {X : gq_X} {L : Nat} {sc : Nat → Int32} {S S' : LSt} {M M' : MSt} {f f' : Nat → Int64} {i ce sl d d2 : Nat} {O1 : aq_O} {k : Int32} {b : Int32} (hF : gq_Fix X l_c6) (hN : aq_Nc (xs X)) (hSc : lx_S X L sc) (hi : i + 4 ≤ L) (hL : L ≤ 2048) (hR : xR X = room_1) (hH : HM h_told hh_told d O1 [.ref 0, .int (sc (i + 1)), .int (sc (i + 2)), .ref 8] (wS S ++ [oL f]) (wS S' ++ [oL f']) k) (hB : AM r_told d2 (.inl (some (.int b))) [.ref 0, .int (sc (i + 1)), .int (sc (i + 2))] (wM M) (wM M')) (hk : nI (g_cd M') = k) (hv : k = 0 → f' 0 = b.toInt64) (hr1 : d + 2 + aq_mf O1 ≤ 11) (hr2 : 28 * d + 56 + aq_ml O1 ≤ 392) (hr3 : d2 ≤ 10) (hc : ce + aq_mc O1 ≤ 1053) (hs : sl + aq_ms O1 ≤ 19654) (K : GW X l_hd (ce + aq_mc O1) (sl + aq_ms O1) (825, lAl i, [], lWd S' M' f')) : GW X l_c6 ce sl (484, lAl i, [], lWd S M f) := by
  have hRf : (xR X).frames = 11 := by rw [hR]; rfl
  have hRl : (xR X).locals = 392 := by rw [hR]; rfl
  have hRc : (xR X).cells = 1053 := by rw [hR]; rfl
  have hRs : (xR X).slots = 19654 := by rw [hR]; rfl
  refine gq_gn (n := 5) (c1 := (490, [some (.ref 18), some (.ref 0), some (.ref 9), some (.ref 8), some (.int (nI i)), none, none, none], [.int ((nI i) + (nI 1)), .ref 18, .ref 0], lWd S M f)) hF ok_l_c6 rfl ?_
  refine gq_sld hF hSc ok_l_c6 rfl (sc_in hi (by omega)) ?_
  rw [sc_cl (by omega)]
  refine gq_gn (n := 4) (c1 := (496, [some (.ref 18), some (.ref 0), some (.ref 9), some (.ref 8), some (.int (nI i)), none, none, none], [.int ((nI i) + (nI 2)), .ref 18, .int (sc (i + 1)), .ref 0], lWd S M f)) hF ok_l_c6 rfl ?_
  refine gq_sld hF hSc ok_l_c6 rfl (sc_in hi (by omega)) ?_
  rw [sc_cl (by omega)]
  refine gq_gn (n := 1) (c1 := (498, [some (.ref 18), some (.ref 0), some (.ref 9), some (.ref 8), some (.int (nI i)), none, none, none], [.ref 8, .int (sc (i + 2)), .int (sc (i + 1)), .ref 0], lWd S M f)) hF ok_l_c6 rfl ?_
  refine gq_callH (as := [.ref 0, .int (sc (i + 1)), .int (sc (i + 2)), .ref 8]) (st := []) (z := (wM M).map (she 9)) hF hN rfl ok_l_c6 rfl ch_told hH rfl (Nat.zero_le _) rfl (by rw [hRf]; exact hr1) (by rw [hRl]; exact hr2) (by rw [hRc, hRs]; exact ⟨hc, hs⟩) ?_
  show GW X _ _ _ (501, [some (.ref 18), some (.ref 0), some (.ref 9), some (.ref 8), some (.int (nI i)), none, none, none], [.int k], lWd S' M f')
  refine gq_gn (n := 2) (c1 := (504, [some (.ref 18), some (.ref 0), some (.ref 9), some (.ref 8), some (.int (nI i)), some (.int k), none, none], [.ref 9], lWd S' M f')) hF ok_l_c6 rfl ?_
  refine gq_gn (n := 4) (c1 := (509, [some (.ref 18), some (.ref 0), some (.ref 9), some (.ref 8), some (.int (nI i)), some (.int k), none, none], [.int ((nI i) + (nI 1)), .ref 18, .ref 9], lWd S' M f')) hF ok_l_c6 rfl ?_
  refine gq_sld hF hSc ok_l_c6 rfl (sc_in hi (by omega)) ?_
  rw [sc_cl (by omega)]
  refine gq_gn (n := 4) (c1 := (515, [some (.ref 18), some (.ref 0), some (.ref 9), some (.ref 8), some (.int (nI i)), some (.int k), none, none], [.int ((nI i) + (nI 2)), .ref 18, .int (sc (i + 1)), .ref 9], lWd S' M f')) hF ok_l_c6 rfl ?_
  refine gq_sld hF hSc ok_l_c6 rfl (sc_in hi (by omega)) ?_
  rw [sc_cl (by omega)]
  refine gq_callV1 (u := wS S' ++ [oL f']) (n := 9) (as := [.int (sc (i + 1)), .int (sc (i + 2))]) (st := []) rfl hF ok_l_c6 rfl c3_r_told hB rfl (Nat.zero_le _) rfl rfl rfl rfl (by rw [hRf]; omega) (by rw [hRl]; omega) (by rw [hRc, hRs]; exact ⟨hc, hs⟩) ?_
  show GW X _ _ _ (519, [some (.ref 18), some (.ref 0), some (.ref 9), some (.ref 8), some (.int (nI i)), some (.int k), none, none], [.int b], lWd S' M' f')
  refine gq_gn (n := 2) (c1 := (522, [some (.ref 18), some (.ref 0), some (.ref 9), some (.ref 8), some (.int (nI i)), some (.int k), some (.int b), none], [.ref 9], lWd S' M' f')) hF ok_l_c6 rfl ?_
  refine gq_callV1 (u := wS S' ++ [oL f']) (n := 9) (d := 0) (as := []) (st := []) rfl hF ok_l_c6 rfl c3_r_thrown rm_thrownM rfl (Nat.zero_le _) rfl rfl rfl rfl (by rw [hRf]; omega) (by rw [hRl]; omega) (by rw [hRc, hRs]; exact ⟨hc, hs⟩) ?_
  show GW X _ _ _ (525, [some (.ref 18), some (.ref 0), some (.ref 9), some (.ref 8), some (.int (nI i)), some (.int k), some (.int b), none], [.int (nI (g_cd M'))], lWd S' M' f')
  refine gq_gn (n := 1) (c1 := (527, [some (.ref 18), some (.ref 0), some (.ref 9), some (.ref 8), some (.int (nI i)), some (.int k), some (.int b), none], [.int k, .int (nI (g_cd M'))], lWd S' M' f')) hF ok_l_c6 rfl ?_
  refine gq_icmp_eq hF ok_l_c6 rfl (fun he => ?_) (fun he => ?_)
  · refine gq_gn (n := 1) (c1 := (534, [some (.ref 18), some (.ref 0), some (.ref 9), some (.ref 8), some (.int (nI i)), some (.int k), some (.int b), none], [.int k], lWd S' M' f')) hF ok_l_c6 rfl ?_
    refine gq_if_ne hF ok_l_c6 rfl (fun hq => ?_) (fun hq => ?_)
    · refine gq_gn (n := 1) (c1 := (825, [some (.ref 18), some (.ref 0), some (.ref 9), some (.ref 8), some (.int (nI i)), some (.int k), some (.int b), none], [], lWd S' M' f')) hF ok_l_c6 rfl ?_
      refine gq_drop 6 ?_
      refine gq_drop 5 ?_
      exact gw_any rfl K
    · refine gq_gn (n := 2) (c1 := (539, [some (.ref 18), some (.ref 0), some (.ref 9), some (.ref 8), some (.int (nI i)), some (.int k), some (.int b), none], [.int (nI 0), .ref 8], lWd S' M' f')) hF ok_l_c6 rfl ?_
      refine gq_go (n := 1) (c1 := (540, [some (.ref 18), some (.ref 0), some (.ref 9), some (.ref 8), some (.int (nI i)), some (.int k), some (.int b), none], [.long (f' 0)], lWd S' M' f')) (P := vp_in 0 1) hF ok_l_c6 rfl in01 ?_
      refine gq_gn (n := 3) (c1 := (544, [some (.ref 18), some (.ref 0), some (.ref 9), some (.ref 8), some (.int (nI i)), some (.int k), some (.int b), none], [.int (lg_cmp (f' 0) b.toInt64)], lWd S' M' f')) hF ok_l_c6 rfl ?_
      refine gq_if_eq hF ok_l_c6 rfl (fun hl => ?_) (fun hl => ?_)
      · refine gq_gn (n := 1) (c1 := (825, [some (.ref 18), some (.ref 0), some (.ref 9), some (.ref 8), some (.int (nI i)), some (.int k), some (.int b), none], [], lWd S' M' f')) hF ok_l_c6 rfl ?_
        refine gq_drop 6 ?_
        refine gq_drop 5 ?_
        exact gw_any rfl K
      · exact absurd ((lg_cmp_0 _ _).mpr (hv hq)) hl
  · exact absurd hk he
set_option maxHeartbeats 4000000 in
theorem lc_many {X : gq_X} {L : Nat} {sc : Nat → Int32} {S S' : LSt} {M M' : MSt} {f f' : Nat → Int64} {i ce sl d d2 : Nat} {O1 : aq_O} {k : Int32} {b : Int32} {b0 : Bool} (hb0 : b0 = !decide (sc (i + 2) = 0)) (hF : gq_Fix X l_c7) (hN : aq_Nc (xs X)) (hSc : lx_S X L sc) (hi : i + 4 ≤ L) (hL : L ≤ 2048) (hR : xR X = room_1) (hH : HM h_many hh_many d O1 [.ref 0, .int (sc (i + 1)), .int (bI b0), .ref 8] (wS S ++ [oL f]) (wS S' ++ [oL f']) k) (hB : AM r_many d2 (.inl (some (.int b))) [.ref 0, .int (sc (i + 1)), .int (bI b0)] (wM M) (wM M')) (hk : nI (g_cd M') = k) (hv : k = 0 → f' 0 = b.toInt64) (hr1 : d + 2 + aq_mf O1 ≤ 11) (hr2 : 28 * d + 56 + aq_ml O1 ≤ 392) (hr3 : d2 ≤ 10) (hc : ce + aq_mc O1 ≤ 1053) (hs : sl + aq_ms O1 ≤ 19654) (K : GW X l_hd (ce + aq_mc O1) (sl + aq_ms O1) (825, lAl i, [], lWd S' M' f')) : GW X l_c7 ce sl (552, lAl i, [], lWd S M f) := by
  have hRf : (xR X).frames = 11 := by rw [hR]; rfl
  have hRl : (xR X).locals = 392 := by rw [hR]; rfl
  have hRc : (xR X).cells = 1053 := by rw [hR]; rfl
  have hRs : (xR X).slots = 19654 := by rw [hR]; rfl
  refine gq_gn (n := 5) (c1 := (558, [some (.ref 18), some (.ref 0), some (.ref 9), some (.ref 8), some (.int (nI i)), none, none, none], [.int ((nI i) + (nI 1)), .ref 18, .ref 0], lWd S M f)) hF ok_l_c7 rfl ?_
  refine gq_sld hF hSc ok_l_c7 rfl (sc_in hi (by omega)) ?_
  rw [sc_cl (by omega)]
  refine gq_gn (n := 4) (c1 := (564, [some (.ref 18), some (.ref 0), some (.ref 9), some (.ref 8), some (.int (nI i)), none, none, none], [.int ((nI i) + (nI 2)), .ref 18, .int (sc (i + 1)), .ref 0], lWd S M f)) hF ok_l_c7 rfl ?_
  refine gq_sld hF hSc ok_l_c7 rfl (sc_in hi (by omega)) ?_
  rw [sc_cl (by omega)]
  refine gq_if_eq hF ok_l_c7 rfl (fun hz => ?_) (fun hz => ?_)
  · have hbf : b0 = false := by rw [hb0]; simp [hz]
    refine gq_gn (n := 1) (c1 := (573, [some (.ref 18), some (.ref 0), some (.ref 9), some (.ref 8), some (.int (nI i)), none, none, none], [.int (nI 0), .int (sc (i + 1)), .ref 0], lWd S M f)) hF ok_l_c7 rfl ?_
    have hcst : nI 0 = bI b0 := by rw [hbf]; rfl
    suffices hg : GW X l_c7 _ _ (573, [some (.ref 18), some (.ref 0), some (.ref 9), some (.ref 8), some (.int (nI i)), none, none, none], [.int (bI b0), .int (sc (i + 1)), .ref 0], lWd S M f) by rw [← hcst] at hg; exact hg
    refine gq_gn (n := 1) (c1 := (574, [some (.ref 18), some (.ref 0), some (.ref 9), some (.ref 8), some (.int (nI i)), none, none, none], [.ref 8, .int (bI b0), .int (sc (i + 1)), .ref 0], lWd S M f)) hF ok_l_c7 rfl ?_
    refine gq_callH (as := [.ref 0, .int (sc (i + 1)), .int (bI b0), .ref 8]) (st := []) (z := (wM M).map (she 9)) hF hN rfl ok_l_c7 rfl ch_many hH rfl (Nat.zero_le _) rfl (by rw [hRf]; exact hr1) (by rw [hRl]; exact hr2) (by rw [hRc, hRs]; exact ⟨hc, hs⟩) ?_
    show GW X _ _ _ (577, [some (.ref 18), some (.ref 0), some (.ref 9), some (.ref 8), some (.int (nI i)), none, none, none], [.int k], lWd S' M f')
    refine gq_gn (n := 2) (c1 := (580, [some (.ref 18), some (.ref 0), some (.ref 9), some (.ref 8), some (.int (nI i)), some (.int k), none, none], [.ref 9], lWd S' M f')) hF ok_l_c7 rfl ?_
    refine gq_gn (n := 4) (c1 := (585, [some (.ref 18), some (.ref 0), some (.ref 9), some (.ref 8), some (.int (nI i)), some (.int k), none, none], [.int ((nI i) + (nI 1)), .ref 18, .ref 9], lWd S' M f')) hF ok_l_c7 rfl ?_
    refine gq_sld hF hSc ok_l_c7 rfl (sc_in hi (by omega)) ?_
    rw [sc_cl (by omega)]
    refine gq_gn (n := 4) (c1 := (591, [some (.ref 18), some (.ref 0), some (.ref 9), some (.ref 8), some (.int (nI i)), some (.int k), none, none], [.int ((nI i) + (nI 2)), .ref 18, .int (sc (i + 1)), .ref 9], lWd S' M f')) hF ok_l_c7 rfl ?_
    refine gq_sld hF hSc ok_l_c7 rfl (sc_in hi (by omega)) ?_
    rw [sc_cl (by omega)]
    refine gq_if_eq hF ok_l_c7 rfl (fun hz => ?_) (fun hz => ?_)
    · have hbf : b0 = false := by rw [hb0]; simp [hz]
      refine gq_gn (n := 1) (c1 := (600, [some (.ref 18), some (.ref 0), some (.ref 9), some (.ref 8), some (.int (nI i)), some (.int k), none, none], [.int (nI 0), .int (sc (i + 1)), .ref 9], lWd S' M f')) hF ok_l_c7 rfl ?_
      have hcst : nI 0 = bI b0 := by rw [hbf]; rfl
      suffices hg : GW X l_c7 _ _ (600, [some (.ref 18), some (.ref 0), some (.ref 9), some (.ref 8), some (.int (nI i)), some (.int k), none, none], [.int (bI b0), .int (sc (i + 1)), .ref 9], lWd S' M f') by rw [← hcst] at hg; exact hg
      refine gq_callV1 (u := wS S' ++ [oL f']) (n := 9) (as := [.int (sc (i + 1)), .int (bI b0)]) (st := []) rfl hF ok_l_c7 rfl c3_r_many hB rfl (Nat.zero_le _) rfl rfl rfl rfl (by rw [hRf]; omega) (by rw [hRl]; omega) (by rw [hRc, hRs]; exact ⟨hc, hs⟩) ?_
      show GW X _ _ _ (603, [some (.ref 18), some (.ref 0), some (.ref 9), some (.ref 8), some (.int (nI i)), some (.int k), none, none], [.int b], lWd S' M' f')
      refine gq_gn (n := 2) (c1 := (606, [some (.ref 18), some (.ref 0), some (.ref 9), some (.ref 8), some (.int (nI i)), some (.int k), some (.int b), none], [.ref 9], lWd S' M' f')) hF ok_l_c7 rfl ?_
      refine gq_callV1 (u := wS S' ++ [oL f']) (n := 9) (d := 0) (as := []) (st := []) rfl hF ok_l_c7 rfl c3_r_thrown rm_thrownM rfl (Nat.zero_le _) rfl rfl rfl rfl (by rw [hRf]; omega) (by rw [hRl]; omega) (by rw [hRc, hRs]; exact ⟨hc, hs⟩) ?_
      show GW X _ _ _ (609, [some (.ref 18), some (.ref 0), some (.ref 9), some (.ref 8), some (.int (nI i)), some (.int k), some (.int b), none], [.int (nI (g_cd M'))], lWd S' M' f')
      refine gq_gn (n := 1) (c1 := (611, [some (.ref 18), some (.ref 0), some (.ref 9), some (.ref 8), some (.int (nI i)), some (.int k), some (.int b), none], [.int k, .int (nI (g_cd M'))], lWd S' M' f')) hF ok_l_c7 rfl ?_
      refine gq_icmp_eq hF ok_l_c7 rfl (fun he => ?_) (fun he => ?_)
      · refine gq_gn (n := 1) (c1 := (618, [some (.ref 18), some (.ref 0), some (.ref 9), some (.ref 8), some (.int (nI i)), some (.int k), some (.int b), none], [.int k], lWd S' M' f')) hF ok_l_c7 rfl ?_
        refine gq_if_ne hF ok_l_c7 rfl (fun hq => ?_) (fun hq => ?_)
        · refine gq_gn (n := 1) (c1 := (825, [some (.ref 18), some (.ref 0), some (.ref 9), some (.ref 8), some (.int (nI i)), some (.int k), some (.int b), none], [], lWd S' M' f')) hF ok_l_c7 rfl ?_
          refine gq_drop 6 ?_
          refine gq_drop 5 ?_
          exact gw_any rfl K
        · refine gq_gn (n := 2) (c1 := (623, [some (.ref 18), some (.ref 0), some (.ref 9), some (.ref 8), some (.int (nI i)), some (.int k), some (.int b), none], [.int (nI 0), .ref 8], lWd S' M' f')) hF ok_l_c7 rfl ?_
          refine gq_go (n := 1) (c1 := (624, [some (.ref 18), some (.ref 0), some (.ref 9), some (.ref 8), some (.int (nI i)), some (.int k), some (.int b), none], [.long (f' 0)], lWd S' M' f')) (P := vp_in 0 1) hF ok_l_c7 rfl in01 ?_
          refine gq_gn (n := 3) (c1 := (628, [some (.ref 18), some (.ref 0), some (.ref 9), some (.ref 8), some (.int (nI i)), some (.int k), some (.int b), none], [.int (lg_cmp (f' 0) b.toInt64)], lWd S' M' f')) hF ok_l_c7 rfl ?_
          refine gq_if_eq hF ok_l_c7 rfl (fun hl => ?_) (fun hl => ?_)
          · refine gq_gn (n := 1) (c1 := (825, [some (.ref 18), some (.ref 0), some (.ref 9), some (.ref 8), some (.int (nI i)), some (.int k), some (.int b), none], [], lWd S' M' f')) hF ok_l_c7 rfl ?_
            refine gq_drop 6 ?_
            refine gq_drop 5 ?_
            exact gw_any rfl K
          · exact absurd ((lg_cmp_0 _ _).mpr (hv hq)) hl
      · exact absurd hk he
    · have hbt : b0 = true := by rw [hb0]; simp [hz]
      refine gq_gn (n := 2) (c1 := (600, [some (.ref 18), some (.ref 0), some (.ref 9), some (.ref 8), some (.int (nI i)), some (.int k), none, none], [.int (nI 1), .int (sc (i + 1)), .ref 9], lWd S' M f')) hF ok_l_c7 rfl ?_
      have hcst : nI 1 = bI b0 := by rw [hbt]; rfl
      suffices hg : GW X l_c7 _ _ (600, [some (.ref 18), some (.ref 0), some (.ref 9), some (.ref 8), some (.int (nI i)), some (.int k), none, none], [.int (bI b0), .int (sc (i + 1)), .ref 9], lWd S' M f') by rw [← hcst] at hg; exact hg
      refine gq_callV1 (u := wS S' ++ [oL f']) (n := 9) (as := [.int (sc (i + 1)), .int (bI b0)]) (st := []) rfl hF ok_l_c7 rfl c3_r_many hB rfl (Nat.zero_le _) rfl rfl rfl rfl (by rw [hRf]; omega) (by rw [hRl]; omega) (by rw [hRc, hRs]; exact ⟨hc, hs⟩) ?_
      show GW X _ _ _ (603, [some (.ref 18), some (.ref 0), some (.ref 9), some (.ref 8), some (.int (nI i)), some (.int k), none, none], [.int b], lWd S' M' f')
      refine gq_gn (n := 2) (c1 := (606, [some (.ref 18), some (.ref 0), some (.ref 9), some (.ref 8), some (.int (nI i)), some (.int k), some (.int b), none], [.ref 9], lWd S' M' f')) hF ok_l_c7 rfl ?_
      refine gq_callV1 (u := wS S' ++ [oL f']) (n := 9) (d := 0) (as := []) (st := []) rfl hF ok_l_c7 rfl c3_r_thrown rm_thrownM rfl (Nat.zero_le _) rfl rfl rfl rfl (by rw [hRf]; omega) (by rw [hRl]; omega) (by rw [hRc, hRs]; exact ⟨hc, hs⟩) ?_
      show GW X _ _ _ (609, [some (.ref 18), some (.ref 0), some (.ref 9), some (.ref 8), some (.int (nI i)), some (.int k), some (.int b), none], [.int (nI (g_cd M'))], lWd S' M' f')
      refine gq_gn (n := 1) (c1 := (611, [some (.ref 18), some (.ref 0), some (.ref 9), some (.ref 8), some (.int (nI i)), some (.int k), some (.int b), none], [.int k, .int (nI (g_cd M'))], lWd S' M' f')) hF ok_l_c7 rfl ?_
      refine gq_icmp_eq hF ok_l_c7 rfl (fun he => ?_) (fun he => ?_)
      · refine gq_gn (n := 1) (c1 := (618, [some (.ref 18), some (.ref 0), some (.ref 9), some (.ref 8), some (.int (nI i)), some (.int k), some (.int b), none], [.int k], lWd S' M' f')) hF ok_l_c7 rfl ?_
        refine gq_if_ne hF ok_l_c7 rfl (fun hq => ?_) (fun hq => ?_)
        · refine gq_gn (n := 1) (c1 := (825, [some (.ref 18), some (.ref 0), some (.ref 9), some (.ref 8), some (.int (nI i)), some (.int k), some (.int b), none], [], lWd S' M' f')) hF ok_l_c7 rfl ?_
          refine gq_drop 6 ?_
          refine gq_drop 5 ?_
          exact gw_any rfl K
        · refine gq_gn (n := 2) (c1 := (623, [some (.ref 18), some (.ref 0), some (.ref 9), some (.ref 8), some (.int (nI i)), some (.int k), some (.int b), none], [.int (nI 0), .ref 8], lWd S' M' f')) hF ok_l_c7 rfl ?_
          refine gq_go (n := 1) (c1 := (624, [some (.ref 18), some (.ref 0), some (.ref 9), some (.ref 8), some (.int (nI i)), some (.int k), some (.int b), none], [.long (f' 0)], lWd S' M' f')) (P := vp_in 0 1) hF ok_l_c7 rfl in01 ?_
          refine gq_gn (n := 3) (c1 := (628, [some (.ref 18), some (.ref 0), some (.ref 9), some (.ref 8), some (.int (nI i)), some (.int k), some (.int b), none], [.int (lg_cmp (f' 0) b.toInt64)], lWd S' M' f')) hF ok_l_c7 rfl ?_
          refine gq_if_eq hF ok_l_c7 rfl (fun hl => ?_) (fun hl => ?_)
          · refine gq_gn (n := 1) (c1 := (825, [some (.ref 18), some (.ref 0), some (.ref 9), some (.ref 8), some (.int (nI i)), some (.int k), some (.int b), none], [], lWd S' M' f')) hF ok_l_c7 rfl ?_
            refine gq_drop 6 ?_
            refine gq_drop 5 ?_
            exact gw_any rfl K
          · exact absurd ((lg_cmp_0 _ _).mpr (hv hq)) hl
      · exact absurd hk he
  · have hbt : b0 = true := by rw [hb0]; simp [hz]
    refine gq_gn (n := 2) (c1 := (573, [some (.ref 18), some (.ref 0), some (.ref 9), some (.ref 8), some (.int (nI i)), none, none, none], [.int (nI 1), .int (sc (i + 1)), .ref 0], lWd S M f)) hF ok_l_c7 rfl ?_
    have hcst : nI 1 = bI b0 := by rw [hbt]; rfl
    suffices hg : GW X l_c7 _ _ (573, [some (.ref 18), some (.ref 0), some (.ref 9), some (.ref 8), some (.int (nI i)), none, none, none], [.int (bI b0), .int (sc (i + 1)), .ref 0], lWd S M f) by rw [← hcst] at hg; exact hg
    refine gq_gn (n := 1) (c1 := (574, [some (.ref 18), some (.ref 0), some (.ref 9), some (.ref 8), some (.int (nI i)), none, none, none], [.ref 8, .int (bI b0), .int (sc (i + 1)), .ref 0], lWd S M f)) hF ok_l_c7 rfl ?_
    refine gq_callH (as := [.ref 0, .int (sc (i + 1)), .int (bI b0), .ref 8]) (st := []) (z := (wM M).map (she 9)) hF hN rfl ok_l_c7 rfl ch_many hH rfl (Nat.zero_le _) rfl (by rw [hRf]; exact hr1) (by rw [hRl]; exact hr2) (by rw [hRc, hRs]; exact ⟨hc, hs⟩) ?_
    show GW X _ _ _ (577, [some (.ref 18), some (.ref 0), some (.ref 9), some (.ref 8), some (.int (nI i)), none, none, none], [.int k], lWd S' M f')
    refine gq_gn (n := 2) (c1 := (580, [some (.ref 18), some (.ref 0), some (.ref 9), some (.ref 8), some (.int (nI i)), some (.int k), none, none], [.ref 9], lWd S' M f')) hF ok_l_c7 rfl ?_
    refine gq_gn (n := 4) (c1 := (585, [some (.ref 18), some (.ref 0), some (.ref 9), some (.ref 8), some (.int (nI i)), some (.int k), none, none], [.int ((nI i) + (nI 1)), .ref 18, .ref 9], lWd S' M f')) hF ok_l_c7 rfl ?_
    refine gq_sld hF hSc ok_l_c7 rfl (sc_in hi (by omega)) ?_
    rw [sc_cl (by omega)]
    refine gq_gn (n := 4) (c1 := (591, [some (.ref 18), some (.ref 0), some (.ref 9), some (.ref 8), some (.int (nI i)), some (.int k), none, none], [.int ((nI i) + (nI 2)), .ref 18, .int (sc (i + 1)), .ref 9], lWd S' M f')) hF ok_l_c7 rfl ?_
    refine gq_sld hF hSc ok_l_c7 rfl (sc_in hi (by omega)) ?_
    rw [sc_cl (by omega)]
    refine gq_if_eq hF ok_l_c7 rfl (fun hz => ?_) (fun hz => ?_)
    · have hbf : b0 = false := by rw [hb0]; simp [hz]
      refine gq_gn (n := 1) (c1 := (600, [some (.ref 18), some (.ref 0), some (.ref 9), some (.ref 8), some (.int (nI i)), some (.int k), none, none], [.int (nI 0), .int (sc (i + 1)), .ref 9], lWd S' M f')) hF ok_l_c7 rfl ?_
      have hcst : nI 0 = bI b0 := by rw [hbf]; rfl
      suffices hg : GW X l_c7 _ _ (600, [some (.ref 18), some (.ref 0), some (.ref 9), some (.ref 8), some (.int (nI i)), some (.int k), none, none], [.int (bI b0), .int (sc (i + 1)), .ref 9], lWd S' M f') by rw [← hcst] at hg; exact hg
      refine gq_callV1 (u := wS S' ++ [oL f']) (n := 9) (as := [.int (sc (i + 1)), .int (bI b0)]) (st := []) rfl hF ok_l_c7 rfl c3_r_many hB rfl (Nat.zero_le _) rfl rfl rfl rfl (by rw [hRf]; omega) (by rw [hRl]; omega) (by rw [hRc, hRs]; exact ⟨hc, hs⟩) ?_
      show GW X _ _ _ (603, [some (.ref 18), some (.ref 0), some (.ref 9), some (.ref 8), some (.int (nI i)), some (.int k), none, none], [.int b], lWd S' M' f')
      refine gq_gn (n := 2) (c1 := (606, [some (.ref 18), some (.ref 0), some (.ref 9), some (.ref 8), some (.int (nI i)), some (.int k), some (.int b), none], [.ref 9], lWd S' M' f')) hF ok_l_c7 rfl ?_
      refine gq_callV1 (u := wS S' ++ [oL f']) (n := 9) (d := 0) (as := []) (st := []) rfl hF ok_l_c7 rfl c3_r_thrown rm_thrownM rfl (Nat.zero_le _) rfl rfl rfl rfl (by rw [hRf]; omega) (by rw [hRl]; omega) (by rw [hRc, hRs]; exact ⟨hc, hs⟩) ?_
      show GW X _ _ _ (609, [some (.ref 18), some (.ref 0), some (.ref 9), some (.ref 8), some (.int (nI i)), some (.int k), some (.int b), none], [.int (nI (g_cd M'))], lWd S' M' f')
      refine gq_gn (n := 1) (c1 := (611, [some (.ref 18), some (.ref 0), some (.ref 9), some (.ref 8), some (.int (nI i)), some (.int k), some (.int b), none], [.int k, .int (nI (g_cd M'))], lWd S' M' f')) hF ok_l_c7 rfl ?_
      refine gq_icmp_eq hF ok_l_c7 rfl (fun he => ?_) (fun he => ?_)
      · refine gq_gn (n := 1) (c1 := (618, [some (.ref 18), some (.ref 0), some (.ref 9), some (.ref 8), some (.int (nI i)), some (.int k), some (.int b), none], [.int k], lWd S' M' f')) hF ok_l_c7 rfl ?_
        refine gq_if_ne hF ok_l_c7 rfl (fun hq => ?_) (fun hq => ?_)
        · refine gq_gn (n := 1) (c1 := (825, [some (.ref 18), some (.ref 0), some (.ref 9), some (.ref 8), some (.int (nI i)), some (.int k), some (.int b), none], [], lWd S' M' f')) hF ok_l_c7 rfl ?_
          refine gq_drop 6 ?_
          refine gq_drop 5 ?_
          exact gw_any rfl K
        · refine gq_gn (n := 2) (c1 := (623, [some (.ref 18), some (.ref 0), some (.ref 9), some (.ref 8), some (.int (nI i)), some (.int k), some (.int b), none], [.int (nI 0), .ref 8], lWd S' M' f')) hF ok_l_c7 rfl ?_
          refine gq_go (n := 1) (c1 := (624, [some (.ref 18), some (.ref 0), some (.ref 9), some (.ref 8), some (.int (nI i)), some (.int k), some (.int b), none], [.long (f' 0)], lWd S' M' f')) (P := vp_in 0 1) hF ok_l_c7 rfl in01 ?_
          refine gq_gn (n := 3) (c1 := (628, [some (.ref 18), some (.ref 0), some (.ref 9), some (.ref 8), some (.int (nI i)), some (.int k), some (.int b), none], [.int (lg_cmp (f' 0) b.toInt64)], lWd S' M' f')) hF ok_l_c7 rfl ?_
          refine gq_if_eq hF ok_l_c7 rfl (fun hl => ?_) (fun hl => ?_)
          · refine gq_gn (n := 1) (c1 := (825, [some (.ref 18), some (.ref 0), some (.ref 9), some (.ref 8), some (.int (nI i)), some (.int k), some (.int b), none], [], lWd S' M' f')) hF ok_l_c7 rfl ?_
            refine gq_drop 6 ?_
            refine gq_drop 5 ?_
            exact gw_any rfl K
          · exact absurd ((lg_cmp_0 _ _).mpr (hv hq)) hl
      · exact absurd hk he
    · have hbt : b0 = true := by rw [hb0]; simp [hz]
      refine gq_gn (n := 2) (c1 := (600, [some (.ref 18), some (.ref 0), some (.ref 9), some (.ref 8), some (.int (nI i)), some (.int k), none, none], [.int (nI 1), .int (sc (i + 1)), .ref 9], lWd S' M f')) hF ok_l_c7 rfl ?_
      have hcst : nI 1 = bI b0 := by rw [hbt]; rfl
      suffices hg : GW X l_c7 _ _ (600, [some (.ref 18), some (.ref 0), some (.ref 9), some (.ref 8), some (.int (nI i)), some (.int k), none, none], [.int (bI b0), .int (sc (i + 1)), .ref 9], lWd S' M f') by rw [← hcst] at hg; exact hg
      refine gq_callV1 (u := wS S' ++ [oL f']) (n := 9) (as := [.int (sc (i + 1)), .int (bI b0)]) (st := []) rfl hF ok_l_c7 rfl c3_r_many hB rfl (Nat.zero_le _) rfl rfl rfl rfl (by rw [hRf]; omega) (by rw [hRl]; omega) (by rw [hRc, hRs]; exact ⟨hc, hs⟩) ?_
      show GW X _ _ _ (603, [some (.ref 18), some (.ref 0), some (.ref 9), some (.ref 8), some (.int (nI i)), some (.int k), none, none], [.int b], lWd S' M' f')
      refine gq_gn (n := 2) (c1 := (606, [some (.ref 18), some (.ref 0), some (.ref 9), some (.ref 8), some (.int (nI i)), some (.int k), some (.int b), none], [.ref 9], lWd S' M' f')) hF ok_l_c7 rfl ?_
      refine gq_callV1 (u := wS S' ++ [oL f']) (n := 9) (d := 0) (as := []) (st := []) rfl hF ok_l_c7 rfl c3_r_thrown rm_thrownM rfl (Nat.zero_le _) rfl rfl rfl rfl (by rw [hRf]; omega) (by rw [hRl]; omega) (by rw [hRc, hRs]; exact ⟨hc, hs⟩) ?_
      show GW X _ _ _ (609, [some (.ref 18), some (.ref 0), some (.ref 9), some (.ref 8), some (.int (nI i)), some (.int k), some (.int b), none], [.int (nI (g_cd M'))], lWd S' M' f')
      refine gq_gn (n := 1) (c1 := (611, [some (.ref 18), some (.ref 0), some (.ref 9), some (.ref 8), some (.int (nI i)), some (.int k), some (.int b), none], [.int k, .int (nI (g_cd M'))], lWd S' M' f')) hF ok_l_c7 rfl ?_
      refine gq_icmp_eq hF ok_l_c7 rfl (fun he => ?_) (fun he => ?_)
      · refine gq_gn (n := 1) (c1 := (618, [some (.ref 18), some (.ref 0), some (.ref 9), some (.ref 8), some (.int (nI i)), some (.int k), some (.int b), none], [.int k], lWd S' M' f')) hF ok_l_c7 rfl ?_
        refine gq_if_ne hF ok_l_c7 rfl (fun hq => ?_) (fun hq => ?_)
        · refine gq_gn (n := 1) (c1 := (825, [some (.ref 18), some (.ref 0), some (.ref 9), some (.ref 8), some (.int (nI i)), some (.int k), some (.int b), none], [], lWd S' M' f')) hF ok_l_c7 rfl ?_
          refine gq_drop 6 ?_
          refine gq_drop 5 ?_
          exact gw_any rfl K
        · refine gq_gn (n := 2) (c1 := (623, [some (.ref 18), some (.ref 0), some (.ref 9), some (.ref 8), some (.int (nI i)), some (.int k), some (.int b), none], [.int (nI 0), .ref 8], lWd S' M' f')) hF ok_l_c7 rfl ?_
          refine gq_go (n := 1) (c1 := (624, [some (.ref 18), some (.ref 0), some (.ref 9), some (.ref 8), some (.int (nI i)), some (.int k), some (.int b), none], [.long (f' 0)], lWd S' M' f')) (P := vp_in 0 1) hF ok_l_c7 rfl in01 ?_
          refine gq_gn (n := 3) (c1 := (628, [some (.ref 18), some (.ref 0), some (.ref 9), some (.ref 8), some (.int (nI i)), some (.int k), some (.int b), none], [.int (lg_cmp (f' 0) b.toInt64)], lWd S' M' f')) hF ok_l_c7 rfl ?_
          refine gq_if_eq hF ok_l_c7 rfl (fun hl => ?_) (fun hl => ?_)
          · refine gq_gn (n := 1) (c1 := (825, [some (.ref 18), some (.ref 0), some (.ref 9), some (.ref 8), some (.int (nI i)), some (.int k), some (.int b), none], [], lWd S' M' f')) hF ok_l_c7 rfl ?_
            refine gq_drop 6 ?_
            refine gq_drop 5 ?_
            exact gw_any rfl K
          · exact absurd ((lg_cmp_0 _ _).mpr (hv hq)) hl
      · exact absurd hk he
set_option maxHeartbeats 4000000 in
theorem lc_at {X : gq_X} {L : Nat} {sc : Nat → Int32} {S S' : LSt} {M M' : MSt} {f f' : Nat → Int64} {i ce sl d d2 : Nat} {O1 : aq_O} {k : Int32} {b : Int32} {b0 : Bool} (hb0 : b0 = !decide (sc (i + 3) = 0)) (hF : gq_Fix X l_c8) (hN : aq_Nc (xs X)) (hSc : lx_S X L sc) (hi : i + 4 ≤ L) (hL : L ≤ 2048) (hR : xR X = room_1) (hH : HM h_at hh_at d O1 [.ref 0, .int (sc (i + 1)), .int (sc (i + 2)), .int (bI b0), .ref 8] (wS S ++ [oL f]) (wS S' ++ [oL f']) k) (hB : AM r_at d2 (.inl (some (.int b))) [.ref 0, .int (sc (i + 1)), .int (sc (i + 2)), .int (bI b0)] (wM M) (wM M')) (hk : nI (g_cd M') = k) (hv : k = 0 → f' 0 = b.toInt64) (hr1 : d + 2 + aq_mf O1 ≤ 11) (hr2 : 28 * d + 56 + aq_ml O1 ≤ 392) (hr3 : d2 ≤ 10) (hc : ce + aq_mc O1 ≤ 1053) (hs : sl + aq_ms O1 ≤ 19654) (K : GW X l_hd (ce + aq_mc O1) (sl + aq_ms O1) (825, lAl i, [], lWd S' M' f')) : GW X l_c8 ce sl (636, lAl i, [], lWd S M f) := by
  have hRf : (xR X).frames = 11 := by rw [hR]; rfl
  have hRl : (xR X).locals = 392 := by rw [hR]; rfl
  have hRc : (xR X).cells = 1053 := by rw [hR]; rfl
  have hRs : (xR X).slots = 19654 := by rw [hR]; rfl
  refine gq_gn (n := 5) (c1 := (642, [some (.ref 18), some (.ref 0), some (.ref 9), some (.ref 8), some (.int (nI i)), none, none, none], [.int ((nI i) + (nI 1)), .ref 18, .ref 0], lWd S M f)) hF ok_l_c8 rfl ?_
  refine gq_sld hF hSc ok_l_c8 rfl (sc_in hi (by omega)) ?_
  rw [sc_cl (by omega)]
  refine gq_gn (n := 4) (c1 := (648, [some (.ref 18), some (.ref 0), some (.ref 9), some (.ref 8), some (.int (nI i)), none, none, none], [.int ((nI i) + (nI 2)), .ref 18, .int (sc (i + 1)), .ref 0], lWd S M f)) hF ok_l_c8 rfl ?_
  refine gq_sld hF hSc ok_l_c8 rfl (sc_in hi (by omega)) ?_
  rw [sc_cl (by omega)]
  refine gq_gn (n := 4) (c1 := (654, [some (.ref 18), some (.ref 0), some (.ref 9), some (.ref 8), some (.int (nI i)), none, none, none], [.int ((nI i) + (nI 3)), .ref 18, .int (sc (i + 2)), .int (sc (i + 1)), .ref 0], lWd S M f)) hF ok_l_c8 rfl ?_
  refine gq_sld hF hSc ok_l_c8 rfl (sc_in hi (by omega)) ?_
  rw [sc_cl (by omega)]
  refine gq_if_eq hF ok_l_c8 rfl (fun hz => ?_) (fun hz => ?_)
  · have hbf : b0 = false := by rw [hb0]; simp [hz]
    refine gq_gn (n := 1) (c1 := (663, [some (.ref 18), some (.ref 0), some (.ref 9), some (.ref 8), some (.int (nI i)), none, none, none], [.int (nI 0), .int (sc (i + 2)), .int (sc (i + 1)), .ref 0], lWd S M f)) hF ok_l_c8 rfl ?_
    have hcst : nI 0 = bI b0 := by rw [hbf]; rfl
    suffices hg : GW X l_c8 _ _ (663, [some (.ref 18), some (.ref 0), some (.ref 9), some (.ref 8), some (.int (nI i)), none, none, none], [.int (bI b0), .int (sc (i + 2)), .int (sc (i + 1)), .ref 0], lWd S M f) by rw [← hcst] at hg; exact hg
    refine gq_gn (n := 1) (c1 := (664, [some (.ref 18), some (.ref 0), some (.ref 9), some (.ref 8), some (.int (nI i)), none, none, none], [.ref 8, .int (bI b0), .int (sc (i + 2)), .int (sc (i + 1)), .ref 0], lWd S M f)) hF ok_l_c8 rfl ?_
    refine gq_callH (as := [.ref 0, .int (sc (i + 1)), .int (sc (i + 2)), .int (bI b0), .ref 8]) (st := []) (z := (wM M).map (she 9)) hF hN rfl ok_l_c8 rfl ch_at hH rfl (Nat.zero_le _) rfl (by rw [hRf]; exact hr1) (by rw [hRl]; exact hr2) (by rw [hRc, hRs]; exact ⟨hc, hs⟩) ?_
    show GW X _ _ _ (667, [some (.ref 18), some (.ref 0), some (.ref 9), some (.ref 8), some (.int (nI i)), none, none, none], [.int k], lWd S' M f')
    refine gq_gn (n := 2) (c1 := (670, [some (.ref 18), some (.ref 0), some (.ref 9), some (.ref 8), some (.int (nI i)), some (.int k), none, none], [.ref 9], lWd S' M f')) hF ok_l_c8 rfl ?_
    refine gq_gn (n := 4) (c1 := (675, [some (.ref 18), some (.ref 0), some (.ref 9), some (.ref 8), some (.int (nI i)), some (.int k), none, none], [.int ((nI i) + (nI 1)), .ref 18, .ref 9], lWd S' M f')) hF ok_l_c8 rfl ?_
    refine gq_sld hF hSc ok_l_c8 rfl (sc_in hi (by omega)) ?_
    rw [sc_cl (by omega)]
    refine gq_gn (n := 4) (c1 := (681, [some (.ref 18), some (.ref 0), some (.ref 9), some (.ref 8), some (.int (nI i)), some (.int k), none, none], [.int ((nI i) + (nI 2)), .ref 18, .int (sc (i + 1)), .ref 9], lWd S' M f')) hF ok_l_c8 rfl ?_
    refine gq_sld hF hSc ok_l_c8 rfl (sc_in hi (by omega)) ?_
    rw [sc_cl (by omega)]
    refine gq_gn (n := 4) (c1 := (687, [some (.ref 18), some (.ref 0), some (.ref 9), some (.ref 8), some (.int (nI i)), some (.int k), none, none], [.int ((nI i) + (nI 3)), .ref 18, .int (sc (i + 2)), .int (sc (i + 1)), .ref 9], lWd S' M f')) hF ok_l_c8 rfl ?_
    refine gq_sld hF hSc ok_l_c8 rfl (sc_in hi (by omega)) ?_
    rw [sc_cl (by omega)]
    refine gq_if_eq hF ok_l_c8 rfl (fun hz => ?_) (fun hz => ?_)
    · have hbf : b0 = false := by rw [hb0]; simp [hz]
      refine gq_gn (n := 1) (c1 := (696, [some (.ref 18), some (.ref 0), some (.ref 9), some (.ref 8), some (.int (nI i)), some (.int k), none, none], [.int (nI 0), .int (sc (i + 2)), .int (sc (i + 1)), .ref 9], lWd S' M f')) hF ok_l_c8 rfl ?_
      have hcst : nI 0 = bI b0 := by rw [hbf]; rfl
      suffices hg : GW X l_c8 _ _ (696, [some (.ref 18), some (.ref 0), some (.ref 9), some (.ref 8), some (.int (nI i)), some (.int k), none, none], [.int (bI b0), .int (sc (i + 2)), .int (sc (i + 1)), .ref 9], lWd S' M f') by rw [← hcst] at hg; exact hg
      refine gq_callV1 (u := wS S' ++ [oL f']) (n := 9) (as := [.int (sc (i + 1)), .int (sc (i + 2)), .int (bI b0)]) (st := []) rfl hF ok_l_c8 rfl c3_r_at hB rfl (Nat.zero_le _) rfl rfl rfl rfl (by rw [hRf]; omega) (by rw [hRl]; omega) (by rw [hRc, hRs]; exact ⟨hc, hs⟩) ?_
      show GW X _ _ _ (699, [some (.ref 18), some (.ref 0), some (.ref 9), some (.ref 8), some (.int (nI i)), some (.int k), none, none], [.int b], lWd S' M' f')
      refine gq_gn (n := 2) (c1 := (702, [some (.ref 18), some (.ref 0), some (.ref 9), some (.ref 8), some (.int (nI i)), some (.int k), some (.int b), none], [.ref 9], lWd S' M' f')) hF ok_l_c8 rfl ?_
      refine gq_callV1 (u := wS S' ++ [oL f']) (n := 9) (d := 0) (as := []) (st := []) rfl hF ok_l_c8 rfl c3_r_thrown rm_thrownM rfl (Nat.zero_le _) rfl rfl rfl rfl (by rw [hRf]; omega) (by rw [hRl]; omega) (by rw [hRc, hRs]; exact ⟨hc, hs⟩) ?_
      show GW X _ _ _ (705, [some (.ref 18), some (.ref 0), some (.ref 9), some (.ref 8), some (.int (nI i)), some (.int k), some (.int b), none], [.int (nI (g_cd M'))], lWd S' M' f')
      refine gq_gn (n := 1) (c1 := (707, [some (.ref 18), some (.ref 0), some (.ref 9), some (.ref 8), some (.int (nI i)), some (.int k), some (.int b), none], [.int k, .int (nI (g_cd M'))], lWd S' M' f')) hF ok_l_c8 rfl ?_
      refine gq_icmp_eq hF ok_l_c8 rfl (fun he => ?_) (fun he => ?_)
      · refine gq_gn (n := 1) (c1 := (714, [some (.ref 18), some (.ref 0), some (.ref 9), some (.ref 8), some (.int (nI i)), some (.int k), some (.int b), none], [.int k], lWd S' M' f')) hF ok_l_c8 rfl ?_
        refine gq_if_ne hF ok_l_c8 rfl (fun hq => ?_) (fun hq => ?_)
        · refine gq_gn (n := 1) (c1 := (825, [some (.ref 18), some (.ref 0), some (.ref 9), some (.ref 8), some (.int (nI i)), some (.int k), some (.int b), none], [], lWd S' M' f')) hF ok_l_c8 rfl ?_
          refine gq_drop 6 ?_
          refine gq_drop 5 ?_
          exact gw_any rfl K
        · refine gq_gn (n := 2) (c1 := (719, [some (.ref 18), some (.ref 0), some (.ref 9), some (.ref 8), some (.int (nI i)), some (.int k), some (.int b), none], [.int (nI 0), .ref 8], lWd S' M' f')) hF ok_l_c8 rfl ?_
          refine gq_go (n := 1) (c1 := (720, [some (.ref 18), some (.ref 0), some (.ref 9), some (.ref 8), some (.int (nI i)), some (.int k), some (.int b), none], [.long (f' 0)], lWd S' M' f')) (P := vp_in 0 1) hF ok_l_c8 rfl in01 ?_
          refine gq_gn (n := 3) (c1 := (724, [some (.ref 18), some (.ref 0), some (.ref 9), some (.ref 8), some (.int (nI i)), some (.int k), some (.int b), none], [.int (lg_cmp (f' 0) b.toInt64)], lWd S' M' f')) hF ok_l_c8 rfl ?_
          refine gq_if_eq hF ok_l_c8 rfl (fun hl => ?_) (fun hl => ?_)
          · refine gq_gn (n := 1) (c1 := (825, [some (.ref 18), some (.ref 0), some (.ref 9), some (.ref 8), some (.int (nI i)), some (.int k), some (.int b), none], [], lWd S' M' f')) hF ok_l_c8 rfl ?_
            refine gq_drop 6 ?_
            refine gq_drop 5 ?_
            exact gw_any rfl K
          · exact absurd ((lg_cmp_0 _ _).mpr (hv hq)) hl
      · exact absurd hk he
    · have hbt : b0 = true := by rw [hb0]; simp [hz]
      refine gq_gn (n := 2) (c1 := (696, [some (.ref 18), some (.ref 0), some (.ref 9), some (.ref 8), some (.int (nI i)), some (.int k), none, none], [.int (nI 1), .int (sc (i + 2)), .int (sc (i + 1)), .ref 9], lWd S' M f')) hF ok_l_c8 rfl ?_
      have hcst : nI 1 = bI b0 := by rw [hbt]; rfl
      suffices hg : GW X l_c8 _ _ (696, [some (.ref 18), some (.ref 0), some (.ref 9), some (.ref 8), some (.int (nI i)), some (.int k), none, none], [.int (bI b0), .int (sc (i + 2)), .int (sc (i + 1)), .ref 9], lWd S' M f') by rw [← hcst] at hg; exact hg
      refine gq_callV1 (u := wS S' ++ [oL f']) (n := 9) (as := [.int (sc (i + 1)), .int (sc (i + 2)), .int (bI b0)]) (st := []) rfl hF ok_l_c8 rfl c3_r_at hB rfl (Nat.zero_le _) rfl rfl rfl rfl (by rw [hRf]; omega) (by rw [hRl]; omega) (by rw [hRc, hRs]; exact ⟨hc, hs⟩) ?_
      show GW X _ _ _ (699, [some (.ref 18), some (.ref 0), some (.ref 9), some (.ref 8), some (.int (nI i)), some (.int k), none, none], [.int b], lWd S' M' f')
      refine gq_gn (n := 2) (c1 := (702, [some (.ref 18), some (.ref 0), some (.ref 9), some (.ref 8), some (.int (nI i)), some (.int k), some (.int b), none], [.ref 9], lWd S' M' f')) hF ok_l_c8 rfl ?_
      refine gq_callV1 (u := wS S' ++ [oL f']) (n := 9) (d := 0) (as := []) (st := []) rfl hF ok_l_c8 rfl c3_r_thrown rm_thrownM rfl (Nat.zero_le _) rfl rfl rfl rfl (by rw [hRf]; omega) (by rw [hRl]; omega) (by rw [hRc, hRs]; exact ⟨hc, hs⟩) ?_
      show GW X _ _ _ (705, [some (.ref 18), some (.ref 0), some (.ref 9), some (.ref 8), some (.int (nI i)), some (.int k), some (.int b), none], [.int (nI (g_cd M'))], lWd S' M' f')
      refine gq_gn (n := 1) (c1 := (707, [some (.ref 18), some (.ref 0), some (.ref 9), some (.ref 8), some (.int (nI i)), some (.int k), some (.int b), none], [.int k, .int (nI (g_cd M'))], lWd S' M' f')) hF ok_l_c8 rfl ?_
      refine gq_icmp_eq hF ok_l_c8 rfl (fun he => ?_) (fun he => ?_)
      · refine gq_gn (n := 1) (c1 := (714, [some (.ref 18), some (.ref 0), some (.ref 9), some (.ref 8), some (.int (nI i)), some (.int k), some (.int b), none], [.int k], lWd S' M' f')) hF ok_l_c8 rfl ?_
        refine gq_if_ne hF ok_l_c8 rfl (fun hq => ?_) (fun hq => ?_)
        · refine gq_gn (n := 1) (c1 := (825, [some (.ref 18), some (.ref 0), some (.ref 9), some (.ref 8), some (.int (nI i)), some (.int k), some (.int b), none], [], lWd S' M' f')) hF ok_l_c8 rfl ?_
          refine gq_drop 6 ?_
          refine gq_drop 5 ?_
          exact gw_any rfl K
        · refine gq_gn (n := 2) (c1 := (719, [some (.ref 18), some (.ref 0), some (.ref 9), some (.ref 8), some (.int (nI i)), some (.int k), some (.int b), none], [.int (nI 0), .ref 8], lWd S' M' f')) hF ok_l_c8 rfl ?_
          refine gq_go (n := 1) (c1 := (720, [some (.ref 18), some (.ref 0), some (.ref 9), some (.ref 8), some (.int (nI i)), some (.int k), some (.int b), none], [.long (f' 0)], lWd S' M' f')) (P := vp_in 0 1) hF ok_l_c8 rfl in01 ?_
          refine gq_gn (n := 3) (c1 := (724, [some (.ref 18), some (.ref 0), some (.ref 9), some (.ref 8), some (.int (nI i)), some (.int k), some (.int b), none], [.int (lg_cmp (f' 0) b.toInt64)], lWd S' M' f')) hF ok_l_c8 rfl ?_
          refine gq_if_eq hF ok_l_c8 rfl (fun hl => ?_) (fun hl => ?_)
          · refine gq_gn (n := 1) (c1 := (825, [some (.ref 18), some (.ref 0), some (.ref 9), some (.ref 8), some (.int (nI i)), some (.int k), some (.int b), none], [], lWd S' M' f')) hF ok_l_c8 rfl ?_
            refine gq_drop 6 ?_
            refine gq_drop 5 ?_
            exact gw_any rfl K
          · exact absurd ((lg_cmp_0 _ _).mpr (hv hq)) hl
      · exact absurd hk he
  · have hbt : b0 = true := by rw [hb0]; simp [hz]
    refine gq_gn (n := 2) (c1 := (663, [some (.ref 18), some (.ref 0), some (.ref 9), some (.ref 8), some (.int (nI i)), none, none, none], [.int (nI 1), .int (sc (i + 2)), .int (sc (i + 1)), .ref 0], lWd S M f)) hF ok_l_c8 rfl ?_
    have hcst : nI 1 = bI b0 := by rw [hbt]; rfl
    suffices hg : GW X l_c8 _ _ (663, [some (.ref 18), some (.ref 0), some (.ref 9), some (.ref 8), some (.int (nI i)), none, none, none], [.int (bI b0), .int (sc (i + 2)), .int (sc (i + 1)), .ref 0], lWd S M f) by rw [← hcst] at hg; exact hg
    refine gq_gn (n := 1) (c1 := (664, [some (.ref 18), some (.ref 0), some (.ref 9), some (.ref 8), some (.int (nI i)), none, none, none], [.ref 8, .int (bI b0), .int (sc (i + 2)), .int (sc (i + 1)), .ref 0], lWd S M f)) hF ok_l_c8 rfl ?_
    refine gq_callH (as := [.ref 0, .int (sc (i + 1)), .int (sc (i + 2)), .int (bI b0), .ref 8]) (st := []) (z := (wM M).map (she 9)) hF hN rfl ok_l_c8 rfl ch_at hH rfl (Nat.zero_le _) rfl (by rw [hRf]; exact hr1) (by rw [hRl]; exact hr2) (by rw [hRc, hRs]; exact ⟨hc, hs⟩) ?_
    show GW X _ _ _ (667, [some (.ref 18), some (.ref 0), some (.ref 9), some (.ref 8), some (.int (nI i)), none, none, none], [.int k], lWd S' M f')
    refine gq_gn (n := 2) (c1 := (670, [some (.ref 18), some (.ref 0), some (.ref 9), some (.ref 8), some (.int (nI i)), some (.int k), none, none], [.ref 9], lWd S' M f')) hF ok_l_c8 rfl ?_
    refine gq_gn (n := 4) (c1 := (675, [some (.ref 18), some (.ref 0), some (.ref 9), some (.ref 8), some (.int (nI i)), some (.int k), none, none], [.int ((nI i) + (nI 1)), .ref 18, .ref 9], lWd S' M f')) hF ok_l_c8 rfl ?_
    refine gq_sld hF hSc ok_l_c8 rfl (sc_in hi (by omega)) ?_
    rw [sc_cl (by omega)]
    refine gq_gn (n := 4) (c1 := (681, [some (.ref 18), some (.ref 0), some (.ref 9), some (.ref 8), some (.int (nI i)), some (.int k), none, none], [.int ((nI i) + (nI 2)), .ref 18, .int (sc (i + 1)), .ref 9], lWd S' M f')) hF ok_l_c8 rfl ?_
    refine gq_sld hF hSc ok_l_c8 rfl (sc_in hi (by omega)) ?_
    rw [sc_cl (by omega)]
    refine gq_gn (n := 4) (c1 := (687, [some (.ref 18), some (.ref 0), some (.ref 9), some (.ref 8), some (.int (nI i)), some (.int k), none, none], [.int ((nI i) + (nI 3)), .ref 18, .int (sc (i + 2)), .int (sc (i + 1)), .ref 9], lWd S' M f')) hF ok_l_c8 rfl ?_
    refine gq_sld hF hSc ok_l_c8 rfl (sc_in hi (by omega)) ?_
    rw [sc_cl (by omega)]
    refine gq_if_eq hF ok_l_c8 rfl (fun hz => ?_) (fun hz => ?_)
    · have hbf : b0 = false := by rw [hb0]; simp [hz]
      refine gq_gn (n := 1) (c1 := (696, [some (.ref 18), some (.ref 0), some (.ref 9), some (.ref 8), some (.int (nI i)), some (.int k), none, none], [.int (nI 0), .int (sc (i + 2)), .int (sc (i + 1)), .ref 9], lWd S' M f')) hF ok_l_c8 rfl ?_
      have hcst : nI 0 = bI b0 := by rw [hbf]; rfl
      suffices hg : GW X l_c8 _ _ (696, [some (.ref 18), some (.ref 0), some (.ref 9), some (.ref 8), some (.int (nI i)), some (.int k), none, none], [.int (bI b0), .int (sc (i + 2)), .int (sc (i + 1)), .ref 9], lWd S' M f') by rw [← hcst] at hg; exact hg
      refine gq_callV1 (u := wS S' ++ [oL f']) (n := 9) (as := [.int (sc (i + 1)), .int (sc (i + 2)), .int (bI b0)]) (st := []) rfl hF ok_l_c8 rfl c3_r_at hB rfl (Nat.zero_le _) rfl rfl rfl rfl (by rw [hRf]; omega) (by rw [hRl]; omega) (by rw [hRc, hRs]; exact ⟨hc, hs⟩) ?_
      show GW X _ _ _ (699, [some (.ref 18), some (.ref 0), some (.ref 9), some (.ref 8), some (.int (nI i)), some (.int k), none, none], [.int b], lWd S' M' f')
      refine gq_gn (n := 2) (c1 := (702, [some (.ref 18), some (.ref 0), some (.ref 9), some (.ref 8), some (.int (nI i)), some (.int k), some (.int b), none], [.ref 9], lWd S' M' f')) hF ok_l_c8 rfl ?_
      refine gq_callV1 (u := wS S' ++ [oL f']) (n := 9) (d := 0) (as := []) (st := []) rfl hF ok_l_c8 rfl c3_r_thrown rm_thrownM rfl (Nat.zero_le _) rfl rfl rfl rfl (by rw [hRf]; omega) (by rw [hRl]; omega) (by rw [hRc, hRs]; exact ⟨hc, hs⟩) ?_
      show GW X _ _ _ (705, [some (.ref 18), some (.ref 0), some (.ref 9), some (.ref 8), some (.int (nI i)), some (.int k), some (.int b), none], [.int (nI (g_cd M'))], lWd S' M' f')
      refine gq_gn (n := 1) (c1 := (707, [some (.ref 18), some (.ref 0), some (.ref 9), some (.ref 8), some (.int (nI i)), some (.int k), some (.int b), none], [.int k, .int (nI (g_cd M'))], lWd S' M' f')) hF ok_l_c8 rfl ?_
      refine gq_icmp_eq hF ok_l_c8 rfl (fun he => ?_) (fun he => ?_)
      · refine gq_gn (n := 1) (c1 := (714, [some (.ref 18), some (.ref 0), some (.ref 9), some (.ref 8), some (.int (nI i)), some (.int k), some (.int b), none], [.int k], lWd S' M' f')) hF ok_l_c8 rfl ?_
        refine gq_if_ne hF ok_l_c8 rfl (fun hq => ?_) (fun hq => ?_)
        · refine gq_gn (n := 1) (c1 := (825, [some (.ref 18), some (.ref 0), some (.ref 9), some (.ref 8), some (.int (nI i)), some (.int k), some (.int b), none], [], lWd S' M' f')) hF ok_l_c8 rfl ?_
          refine gq_drop 6 ?_
          refine gq_drop 5 ?_
          exact gw_any rfl K
        · refine gq_gn (n := 2) (c1 := (719, [some (.ref 18), some (.ref 0), some (.ref 9), some (.ref 8), some (.int (nI i)), some (.int k), some (.int b), none], [.int (nI 0), .ref 8], lWd S' M' f')) hF ok_l_c8 rfl ?_
          refine gq_go (n := 1) (c1 := (720, [some (.ref 18), some (.ref 0), some (.ref 9), some (.ref 8), some (.int (nI i)), some (.int k), some (.int b), none], [.long (f' 0)], lWd S' M' f')) (P := vp_in 0 1) hF ok_l_c8 rfl in01 ?_
          refine gq_gn (n := 3) (c1 := (724, [some (.ref 18), some (.ref 0), some (.ref 9), some (.ref 8), some (.int (nI i)), some (.int k), some (.int b), none], [.int (lg_cmp (f' 0) b.toInt64)], lWd S' M' f')) hF ok_l_c8 rfl ?_
          refine gq_if_eq hF ok_l_c8 rfl (fun hl => ?_) (fun hl => ?_)
          · refine gq_gn (n := 1) (c1 := (825, [some (.ref 18), some (.ref 0), some (.ref 9), some (.ref 8), some (.int (nI i)), some (.int k), some (.int b), none], [], lWd S' M' f')) hF ok_l_c8 rfl ?_
            refine gq_drop 6 ?_
            refine gq_drop 5 ?_
            exact gw_any rfl K
          · exact absurd ((lg_cmp_0 _ _).mpr (hv hq)) hl
      · exact absurd hk he
    · have hbt : b0 = true := by rw [hb0]; simp [hz]
      refine gq_gn (n := 2) (c1 := (696, [some (.ref 18), some (.ref 0), some (.ref 9), some (.ref 8), some (.int (nI i)), some (.int k), none, none], [.int (nI 1), .int (sc (i + 2)), .int (sc (i + 1)), .ref 9], lWd S' M f')) hF ok_l_c8 rfl ?_
      have hcst : nI 1 = bI b0 := by rw [hbt]; rfl
      suffices hg : GW X l_c8 _ _ (696, [some (.ref 18), some (.ref 0), some (.ref 9), some (.ref 8), some (.int (nI i)), some (.int k), none, none], [.int (bI b0), .int (sc (i + 2)), .int (sc (i + 1)), .ref 9], lWd S' M f') by rw [← hcst] at hg; exact hg
      refine gq_callV1 (u := wS S' ++ [oL f']) (n := 9) (as := [.int (sc (i + 1)), .int (sc (i + 2)), .int (bI b0)]) (st := []) rfl hF ok_l_c8 rfl c3_r_at hB rfl (Nat.zero_le _) rfl rfl rfl rfl (by rw [hRf]; omega) (by rw [hRl]; omega) (by rw [hRc, hRs]; exact ⟨hc, hs⟩) ?_
      show GW X _ _ _ (699, [some (.ref 18), some (.ref 0), some (.ref 9), some (.ref 8), some (.int (nI i)), some (.int k), none, none], [.int b], lWd S' M' f')
      refine gq_gn (n := 2) (c1 := (702, [some (.ref 18), some (.ref 0), some (.ref 9), some (.ref 8), some (.int (nI i)), some (.int k), some (.int b), none], [.ref 9], lWd S' M' f')) hF ok_l_c8 rfl ?_
      refine gq_callV1 (u := wS S' ++ [oL f']) (n := 9) (d := 0) (as := []) (st := []) rfl hF ok_l_c8 rfl c3_r_thrown rm_thrownM rfl (Nat.zero_le _) rfl rfl rfl rfl (by rw [hRf]; omega) (by rw [hRl]; omega) (by rw [hRc, hRs]; exact ⟨hc, hs⟩) ?_
      show GW X _ _ _ (705, [some (.ref 18), some (.ref 0), some (.ref 9), some (.ref 8), some (.int (nI i)), some (.int k), some (.int b), none], [.int (nI (g_cd M'))], lWd S' M' f')
      refine gq_gn (n := 1) (c1 := (707, [some (.ref 18), some (.ref 0), some (.ref 9), some (.ref 8), some (.int (nI i)), some (.int k), some (.int b), none], [.int k, .int (nI (g_cd M'))], lWd S' M' f')) hF ok_l_c8 rfl ?_
      refine gq_icmp_eq hF ok_l_c8 rfl (fun he => ?_) (fun he => ?_)
      · refine gq_gn (n := 1) (c1 := (714, [some (.ref 18), some (.ref 0), some (.ref 9), some (.ref 8), some (.int (nI i)), some (.int k), some (.int b), none], [.int k], lWd S' M' f')) hF ok_l_c8 rfl ?_
        refine gq_if_ne hF ok_l_c8 rfl (fun hq => ?_) (fun hq => ?_)
        · refine gq_gn (n := 1) (c1 := (825, [some (.ref 18), some (.ref 0), some (.ref 9), some (.ref 8), some (.int (nI i)), some (.int k), some (.int b), none], [], lWd S' M' f')) hF ok_l_c8 rfl ?_
          refine gq_drop 6 ?_
          refine gq_drop 5 ?_
          exact gw_any rfl K
        · refine gq_gn (n := 2) (c1 := (719, [some (.ref 18), some (.ref 0), some (.ref 9), some (.ref 8), some (.int (nI i)), some (.int k), some (.int b), none], [.int (nI 0), .ref 8], lWd S' M' f')) hF ok_l_c8 rfl ?_
          refine gq_go (n := 1) (c1 := (720, [some (.ref 18), some (.ref 0), some (.ref 9), some (.ref 8), some (.int (nI i)), some (.int k), some (.int b), none], [.long (f' 0)], lWd S' M' f')) (P := vp_in 0 1) hF ok_l_c8 rfl in01 ?_
          refine gq_gn (n := 3) (c1 := (724, [some (.ref 18), some (.ref 0), some (.ref 9), some (.ref 8), some (.int (nI i)), some (.int k), some (.int b), none], [.int (lg_cmp (f' 0) b.toInt64)], lWd S' M' f')) hF ok_l_c8 rfl ?_
          refine gq_if_eq hF ok_l_c8 rfl (fun hl => ?_) (fun hl => ?_)
          · refine gq_gn (n := 1) (c1 := (825, [some (.ref 18), some (.ref 0), some (.ref 9), some (.ref 8), some (.int (nI i)), some (.int k), some (.int b), none], [], lWd S' M' f')) hF ok_l_c8 rfl ?_
            refine gq_drop 6 ?_
            refine gq_drop 5 ?_
            exact gw_any rfl K
          · exact absurd ((lg_cmp_0 _ _).mpr (hv hq)) hl
      · exact absurd hk he
set_option maxHeartbeats 4000000 in
theorem lc_waitsFor {X : gq_X} {L : Nat} {sc : Nat → Int32} {S S' : LSt} {M M' : MSt} {f f' : Nat → Int64} {i ce sl d d2 : Nat} {O1 : aq_O} {k : Int32} {b : Int64} (hF : gq_Fix X l_c9) (hN : aq_Nc (xs X)) (hSc : lx_S X L sc) (hi : i + 4 ≤ L) (hL : L ≤ 2048) (hR : xR X = room_1) (hH : HM h_waitsFor hh_waitsFor d O1 [.ref 0, .int (sc (i + 1)), .ref 8] (wS S ++ [oL f]) (wS S' ++ [oL f']) k) (hB : AM r_waitsFor d2 (.inl (some (.long b))) [.ref 0, .int (sc (i + 1))] (wM M) (wM M')) (hk : nI (g_cd M') = k) (hv : k = 0 → f' 0 = b) (hr1 : d + 2 + aq_mf O1 ≤ 11) (hr2 : 28 * d + 56 + aq_ml O1 ≤ 392) (hr3 : d2 ≤ 10) (hc : ce + aq_mc O1 ≤ 1053) (hs : sl + aq_ms O1 ≤ 19654) (K : GW X l_hd (ce + aq_mc O1) (sl + aq_ms O1) (825, lAl i, [], lWd S' M' f')) : GW X l_c9 ce sl (732, lAl i, [], lWd S M f) := by
  have hRf : (xR X).frames = 11 := by rw [hR]; rfl
  have hRl : (xR X).locals = 392 := by rw [hR]; rfl
  have hRc : (xR X).cells = 1053 := by rw [hR]; rfl
  have hRs : (xR X).slots = 19654 := by rw [hR]; rfl
  refine gq_gn (n := 5) (c1 := (738, [some (.ref 18), some (.ref 0), some (.ref 9), some (.ref 8), some (.int (nI i)), none, none, none], [.int ((nI i) + (nI 1)), .ref 18, .ref 0], lWd S M f)) hF ok_l_c9 rfl ?_
  refine gq_sld hF hSc ok_l_c9 rfl (sc_in hi (by omega)) ?_
  rw [sc_cl (by omega)]
  refine gq_gn (n := 1) (c1 := (740, [some (.ref 18), some (.ref 0), some (.ref 9), some (.ref 8), some (.int (nI i)), none, none, none], [.ref 8, .int (sc (i + 1)), .ref 0], lWd S M f)) hF ok_l_c9 rfl ?_
  refine gq_callH (as := [.ref 0, .int (sc (i + 1)), .ref 8]) (st := []) (z := (wM M).map (she 9)) hF hN rfl ok_l_c9 rfl ch_waitsFor hH rfl (Nat.zero_le _) rfl (by rw [hRf]; exact hr1) (by rw [hRl]; exact hr2) (by rw [hRc, hRs]; exact ⟨hc, hs⟩) ?_
  show GW X _ _ _ (743, [some (.ref 18), some (.ref 0), some (.ref 9), some (.ref 8), some (.int (nI i)), none, none, none], [.int k], lWd S' M f')
  refine gq_gn (n := 2) (c1 := (746, [some (.ref 18), some (.ref 0), some (.ref 9), some (.ref 8), some (.int (nI i)), some (.int k), none, none], [.ref 9], lWd S' M f')) hF ok_l_c9 rfl ?_
  refine gq_gn (n := 4) (c1 := (751, [some (.ref 18), some (.ref 0), some (.ref 9), some (.ref 8), some (.int (nI i)), some (.int k), none, none], [.int ((nI i) + (nI 1)), .ref 18, .ref 9], lWd S' M f')) hF ok_l_c9 rfl ?_
  refine gq_sld hF hSc ok_l_c9 rfl (sc_in hi (by omega)) ?_
  rw [sc_cl (by omega)]
  refine gq_callV1 (u := wS S' ++ [oL f']) (n := 9) (as := [.int (sc (i + 1))]) (st := []) rfl hF ok_l_c9 rfl c3_r_waitsFor hB rfl (Nat.zero_le _) rfl rfl rfl rfl (by rw [hRf]; omega) (by rw [hRl]; omega) (by rw [hRc, hRs]; exact ⟨hc, hs⟩) ?_
  show GW X _ _ _ (755, [some (.ref 18), some (.ref 0), some (.ref 9), some (.ref 8), some (.int (nI i)), some (.int k), none, none], [.long b], lWd S' M' f')
  refine gq_gn (n := 2) (c1 := (758, [some (.ref 18), some (.ref 0), some (.ref 9), some (.ref 8), some (.int (nI i)), some (.int k), some (.long b), none], [.ref 9], lWd S' M' f')) hF ok_l_c9 rfl ?_
  refine gq_callV1 (u := wS S' ++ [oL f']) (n := 9) (d := 0) (as := []) (st := []) rfl hF ok_l_c9 rfl c3_r_thrown rm_thrownM rfl (Nat.zero_le _) rfl rfl rfl rfl (by rw [hRf]; omega) (by rw [hRl]; omega) (by rw [hRc, hRs]; exact ⟨hc, hs⟩) ?_
  show GW X _ _ _ (761, [some (.ref 18), some (.ref 0), some (.ref 9), some (.ref 8), some (.int (nI i)), some (.int k), some (.long b), none], [.int (nI (g_cd M'))], lWd S' M' f')
  refine gq_gn (n := 1) (c1 := (763, [some (.ref 18), some (.ref 0), some (.ref 9), some (.ref 8), some (.int (nI i)), some (.int k), some (.long b), none], [.int k, .int (nI (g_cd M'))], lWd S' M' f')) hF ok_l_c9 rfl ?_
  refine gq_icmp_eq hF ok_l_c9 rfl (fun he => ?_) (fun he => ?_)
  · refine gq_gn (n := 1) (c1 := (770, [some (.ref 18), some (.ref 0), some (.ref 9), some (.ref 8), some (.int (nI i)), some (.int k), some (.long b), none], [.int k], lWd S' M' f')) hF ok_l_c9 rfl ?_
    refine gq_if_ne hF ok_l_c9 rfl (fun hq => ?_) (fun hq => ?_)
    · refine gq_gn (n := 1) (c1 := (825, [some (.ref 18), some (.ref 0), some (.ref 9), some (.ref 8), some (.int (nI i)), some (.int k), some (.long b), none], [], lWd S' M' f')) hF ok_l_c9 rfl ?_
      refine gq_drop 7 ?_
      refine gq_drop 6 ?_
      refine gq_drop 5 ?_
      exact gw_any rfl K
    · refine gq_gn (n := 2) (c1 := (775, [some (.ref 18), some (.ref 0), some (.ref 9), some (.ref 8), some (.int (nI i)), some (.int k), some (.long b), none], [.int (nI 0), .ref 8], lWd S' M' f')) hF ok_l_c9 rfl ?_
      refine gq_go (n := 1) (c1 := (776, [some (.ref 18), some (.ref 0), some (.ref 9), some (.ref 8), some (.int (nI i)), some (.int k), some (.long b), none], [.long (f' 0)], lWd S' M' f')) (P := vp_in 0 1) hF ok_l_c9 rfl in01 ?_
      refine gq_gn (n := 2) (c1 := (779, [some (.ref 18), some (.ref 0), some (.ref 9), some (.ref 8), some (.int (nI i)), some (.int k), some (.long b), none], [.int (lg_cmp (f' 0) b)], lWd S' M' f')) hF ok_l_c9 rfl ?_
      refine gq_if_eq hF ok_l_c9 rfl (fun hl => ?_) (fun hl => ?_)
      · refine gq_gn (n := 1) (c1 := (825, [some (.ref 18), some (.ref 0), some (.ref 9), some (.ref 8), some (.int (nI i)), some (.int k), some (.long b), none], [], lWd S' M' f')) hF ok_l_c9 rfl ?_
        refine gq_drop 7 ?_
        refine gq_drop 6 ?_
        refine gq_drop 5 ?_
        exact gw_any rfl K
      · exact absurd ((lg_cmp_0 _ _).mpr (hv hq)) hl
  · exact absurd hk he
set_option maxHeartbeats 4000000 in
theorem lc_count {X : gq_X} {L : Nat} {sc : Nat → Int32} {S : LSt} {M M' : MSt} {f : Nat → Int64} {i ce sl d d2 : Nat} {b : Int32} (hF : gq_Fix X l_c10) (hSc : lx_S X L sc) (hi : i + 4 ≤ L) (hL : L ≤ 2048) (hR : xR X = room_1) (hA : AM m_count d (.inl (some (.int b))) [.ref 0, .int (sc (i + 1))] (wS S) (wS S)) (hB : AM r_count d2 (.inl (some (.int b))) [.ref 0, .int (sc (i + 1))] (wM M) (wM M')) (hr1 : d ≤ 10) (hr3 : d2 ≤ 10) (hc : ce ≤ 1053) (hs : sl ≤ 19654) (K : GW X l_hd ce sl (825, lAl i, [], lWd S M' f)) : GW X l_c10 ce sl (787, lAl i, [], lWd S M f) := by
  have hRf : (xR X).frames = 11 := by rw [hR]; rfl
  have hRl : (xR X).locals = 392 := by rw [hR]; rfl
  have hRc : (xR X).cells = 1053 := by rw [hR]; rfl
  have hRs : (xR X).slots = 19654 := by rw [hR]; rfl
  have eW : ∀ N : MSt, lWd S N f = wS S ++ ([oL f] ++ (wM N).map (she 9)) := fun N => List.append_assoc _ _ _
  refine gq_gn (n := 5) (c1 := (793, [some (.ref 18), some (.ref 0), some (.ref 9), some (.ref 8), some (.int (nI i)), none, none, none], [.int ((nI i) + (nI 1)), .ref 18, .ref 0], lWd S M f)) hF ok_l_c10 rfl ?_
  refine gq_sld hF hSc ok_l_c10 rfl (sc_in hi (by omega)) ?_
  rw [sc_cl (by omega)]
  rw [eW]
  refine gq_callV0 (as := [.int (sc (i + 1))]) (st := []) hF ok_l_c10 rfl c3_m_count hA rfl (Nat.zero_le _) rfl rfl rfl rfl (by rw [hRf]; omega) (by rw [hRl]; omega) (by rw [hRc, hRs]; exact ⟨hc, hs⟩) ?_
  rw [← eW]
  show GW X _ _ _ (797, [some (.ref 18), some (.ref 0), some (.ref 9), some (.ref 8), some (.int (nI i)), none, none, none], [.int b], lWd S M f)
  refine gq_gn (n := 5) (c1 := (803, [some (.ref 18), some (.ref 0), some (.ref 9), some (.ref 8), some (.int (nI i)), none, none, none], [.int ((nI i) + (nI 1)), .ref 18, .ref 9, .int b], lWd S M f)) hF ok_l_c10 rfl ?_
  refine gq_sld hF hSc ok_l_c10 rfl (sc_in hi (by omega)) ?_
  rw [sc_cl (by omega)]
  refine gq_callV1 (u := wS S ++ [oL f]) (n := 9) (as := [.int (sc (i + 1))]) (st := [.int b]) rfl hF ok_l_c10 rfl c3_r_count hB rfl (Nat.le_of_ble_eq_true rfl) rfl rfl rfl rfl (by rw [hRf]; omega) (by rw [hRl]; omega) (by rw [hRc, hRs]; exact ⟨hc, hs⟩) ?_
  show GW X _ _ _ (807, [some (.ref 18), some (.ref 0), some (.ref 9), some (.ref 8), some (.int (nI i)), none, none, none], [.int b, .int b], lWd S M' f)
  refine gq_icmp_eq hF ok_l_c10 rfl (fun he => ?_) (fun he => ?_)
  · exact gw_any rfl K
  · exact absurd rfl he
set_option maxHeartbeats 4000000 in
theorem lc_astray {X : gq_X} {L : Nat} {sc : Nat → Int32} {S : LSt} {M M' : MSt} {f : Nat → Int64} {i ce sl d d2 : Nat} {b : Int32} (hF : gq_Fix X l_c11) (hSc : lx_S X L sc) (hi : i + 4 ≤ L) (hL : L ≤ 2048) (hR : xR X = room_1) (hA : AM m_astray d (.inl (some (.int b))) [.ref 0] (wS S) (wS S)) (hB : AM r_astray d2 (.inl (some (.int b))) [.ref 0] (wM M) (wM M')) (hr1 : d ≤ 10) (hr3 : d2 ≤ 10) (hc : ce ≤ 1053) (hs : sl ≤ 19654) (K : GW X l_hd ce sl (825, lAl i, [], lWd S M' f)) : GW X l_c11 ce sl (812, lAl i, [], lWd S M f) := by
  have hRf : (xR X).frames = 11 := by rw [hR]; rfl
  have hRl : (xR X).locals = 392 := by rw [hR]; rfl
  have hRc : (xR X).cells = 1053 := by rw [hR]; rfl
  have hRs : (xR X).slots = 19654 := by rw [hR]; rfl
  have eW : ∀ N : MSt, lWd S N f = wS S ++ ([oL f] ++ (wM N).map (she 9)) := fun N => List.append_assoc _ _ _
  refine gq_gn (n := 1) (c1 := (813, [some (.ref 18), some (.ref 0), some (.ref 9), some (.ref 8), some (.int (nI i)), none, none, none], [.ref 0], lWd S M f)) hF ok_l_c11 rfl ?_
  rw [eW]
  refine gq_callV0 (as := []) (st := []) hF ok_l_c11 rfl c3_m_astray hA rfl (Nat.zero_le _) rfl rfl rfl rfl (by rw [hRf]; omega) (by rw [hRl]; omega) (by rw [hRc, hRs]; exact ⟨hc, hs⟩) ?_
  rw [← eW]
  show GW X _ _ _ (816, [some (.ref 18), some (.ref 0), some (.ref 9), some (.ref 8), some (.int (nI i)), none, none, none], [.int b], lWd S M f)
  refine gq_gn (n := 1) (c1 := (817, [some (.ref 18), some (.ref 0), some (.ref 9), some (.ref 8), some (.int (nI i)), none, none, none], [.ref 9, .int b], lWd S M f)) hF ok_l_c11 rfl ?_
  refine gq_callV1 (u := wS S ++ [oL f]) (n := 9) (as := []) (st := [.int b]) rfl hF ok_l_c11 rfl c3_r_astray hB rfl (Nat.le_of_ble_eq_true rfl) rfl rfl rfl rfl (by rw [hRf]; omega) (by rw [hRl]; omega) (by rw [hRc, hRs]; exact ⟨hc, hs⟩) ?_
  show GW X _ _ _ (820, [some (.ref 18), some (.ref 0), some (.ref 9), some (.ref 8), some (.int (nI i)), none, none, none], [.int b, .int b], lWd S M' f)
  refine gq_icmp_eq hF ok_l_c11 rfl (fun he => ?_) (fun he => ?_)
  · exact gw_any rfl K
  · exact absurd rfl he
