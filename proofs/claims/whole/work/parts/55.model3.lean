/-! THE REFERENCE: reach, victimOf -/
set_option maxHeartbeats 4000000 in
theorem lp_reach1 {d : Nat} {M : MSt} {t : Nat} {z : Int64} {O : aq_O} (hM : WM M) (hQ : WQ M) (hn : g_n M ≤ 60) : ∀ (f i : Nat), i + f = g_n M → ∀ a : Int64, AW r_reach (d + 2) O (wM M) (9, [some (.ref 0), some (.int (nI t)), some (.long (riF (mwb M) z f i a)), none, some (.long z), none, none], [], wM M) → AW r_reach (d + 2) O (wM M) (22, [some (.ref 0), some (.int (nI t)), some (.long a), none, some (.long z), none, some (.int (nI i))], [], wM M) := by
  intro f
  induction f with
  | zero =>
    intro i hif a K
    refine aq_gn (n := 3) (c1 := (28, [some (.ref 0), some (.int (nI t)), some (.long a), none, some (.long z), none, some (.int (nI i))], [.int (nI (g_n M)), .int (nI i)], mL (g_cd M) (g_n M) (g_pr M) (g_st M) (g_he M) (g_wt M) (g_wn M) (g_cv M) (g_qs M) (g_qu M) (g_v5 M) (g_v6 M) (g_v7 M))) ok_r_reach rfl ?_
    refine aq_icmp_ge ok_r_reach rfl (fun h => ?_) (fun h => ?_)
    · refine aq_gn (n := 1) (c1 := (9, [some (.ref 0), some (.int (nI t)), some (.long a), none, some (.long z), none, some (.int (nI i))], [], wM M)) ok_r_reach rfl ?_
      refine aq_drop 6 ?_
      exact K
    · exact absurd (nI_le (show g_n M ≤ i by omega) (by omega)) h
  | succ f ih =>
    intro i hif a K
    refine aq_gn (n := 3) (c1 := (28, [some (.ref 0), some (.int (nI t)), some (.long a), none, some (.long z), none, some (.int (nI i))], [.int (nI (g_n M)), .int (nI i)], mL (g_cd M) (g_n M) (g_pr M) (g_st M) (g_he M) (g_wt M) (g_wn M) (g_cv M) (g_qs M) (g_qu M) (g_v5 M) (g_v6 M) (g_v7 M))) ok_r_reach rfl ?_
    refine aq_icmp_ge ok_r_reach rfl (fun h => ?_) (fun h => ?_)
    · exact absurd (q_le h (by omega) (by omega)) (by omega)
    · refine aq_gn (n := 8) (c1 := (41, [some (.ref 0), some (.int (nI t)), some (.long a), none, some (.long z), none, some (.int (nI i))], [.int (lg_cmp ((z >>> ((nI i).toInt64 &&& 63)) &&& 1) 1), .long a], wM M)) ok_r_reach rfl ?_
      refine aq_if_ne ok_r_reach rfl (fun h2 => ?_) (fun h2 => ?_)
      · have hb : lb z i = false := by cases hy : lb z i with | false => rfl | true => exact absurd ((lg_cmp_0 _ _).mpr ((sh1 (show i < 64 by omega)).mpr hy)) h2
        refine aq_gn (n := 5) (c1 := (22, [some (.ref 0), some (.int (nI t)), some (.long (a ||| 0)), none, some (.long z), none, some (.int ((nI i) + 1))], [], wM M)) ok_r_reach rfl ?_
        rw [lor0, nI_1]
        have e : riF (mwb M) z (f + 1) i a = riF (mwb M) z f (i + 1) a := by rw [riF, hb]; rfl
        rw [e] at K
        exact ih (i + 1) (by omega) _ K
      · have hb : lb z i = true := (sh1 (show i < 64 by omega)).mp ((lg_cmp_0 _ _).mp h2)
        refine aq_gn (n := 2) (c1 := (47, [some (.ref 0), some (.int (nI t)), some (.long a), none, some (.long z), none, some (.int (nI i))], [.int (nI i), .ref 0, .long a], wM M)) ok_r_reach rfl ?_
        refine aq_callV (as := [.int (nI i)]) (st := [.long a]) ok_r_reach rfl c1_r_waitBits (rm_waitBits hM hQ (show i < 60 by omega) (by omega)) rfl (Nat.le_of_ble_eq_true rfl) rfl rfl rfl ?_
        refine aq_gn (n := 5) (c1 := (22, [some (.ref 0), some (.int (nI t)), some (.long (a ||| (mwb M i))), none, some (.long z), none, some (.int ((nI i) + 1))], [], wM M)) ok_r_reach rfl ?_
        rw [nI_1]
        have e : riF (mwb M) z (f + 1) i a = riF (mwb M) z f (i + 1) (a ||| mwb M i) := by rw [riF, hb]; rfl
        rw [e] at K
        exact ih (i + 1) (by omega) _ K
set_option maxHeartbeats 4000000 in
theorem lp_reach {d : Nat} {M : MSt} {t : Nat} (hM : WM M) (hQ : WQ M) : ∀ (f : Nat) (a z : Int64), stab (mwb M) (g_n M) f a → (a = z → rst (mwb M) (g_n M) a = a) → AW r_reach (d + 2) (.inl (some (.long (rcF (mwb M) (g_n M) f a)))) (wM M) (9, [some (.ref 0), some (.int (nI t)), some (.long a), none, some (.long z), none, none], [], wM M) := by
  intro f
  induction f with
  | zero =>
    intro a z hs hz
    refine aq_gn (n := 3) (c1 := (13, [some (.ref 0), some (.int (nI t)), some (.long a), none, some (.long z), none, none], [.int (lg_cmp a z)], wM M)) ok_r_reach rfl ?_
    refine aq_if_eq ok_r_reach rfl (fun h => ?_) (fun h => ?_)
    · have he := hz ((lg_cmp_0 _ _).mp h)
      rw [rcF_fix he]
      refine aq_gn (n := 1) (c1 := (66, [some (.ref 0), some (.int (nI t)), some (.long a), none, some (.long z), none, none], [.long a], wM M)) ok_r_reach rfl ?_
      exact aq_el ok_r_reach rfl rfl rfl rfl
    · refine aq_gn (n := 4) (c1 := (22, [some (.ref 0), some (.int (nI t)), some (.long a), none, some (.long a), none, some (.int (nI 0))], [], wM M)) ok_r_reach rfl ?_
      refine lp_reach1 (t := t) hM hQ hM.1 (g_n M) 0 (by omega) a ?_
      show AW r_reach _ _ _ (9, [some (.ref 0), some (.int (nI t)), some (.long (rst (mwb M) (g_n M) a)), none, some (.long a), none, none], [], wM M)
      have hf : rst (mwb M) (g_n M) a = a := hs
      rw [rcF_fix hf, hf]
      refine aq_gn (n := 3) (c1 := (13, [some (.ref 0), some (.int (nI t)), some (.long a), none, some (.long a), none, none], [.int (lg_cmp a a)], wM M)) ok_r_reach rfl ?_
      refine aq_if_eq ok_r_reach rfl (fun h3 => ?_) (fun h3 => ?_)
      · refine aq_gn (n := 1) (c1 := (66, [some (.ref 0), some (.int (nI t)), some (.long a), none, some (.long a), none, none], [.long a], wM M)) ok_r_reach rfl ?_
        exact aq_el ok_r_reach rfl rfl rfl rfl
      · exact absurd ((lg_cmp_0 _ _).mpr rfl) h3
  | succ f ih =>
    intro a z hs hz
    refine aq_gn (n := 3) (c1 := (13, [some (.ref 0), some (.int (nI t)), some (.long a), none, some (.long z), none, none], [.int (lg_cmp a z)], wM M)) ok_r_reach rfl ?_
    refine aq_if_eq ok_r_reach rfl (fun h => ?_) (fun h => ?_)
    · have he := hz ((lg_cmp_0 _ _).mp h)
      rw [rcF_fix he]
      refine aq_gn (n := 1) (c1 := (66, [some (.ref 0), some (.int (nI t)), some (.long a), none, some (.long z), none, none], [.long a], wM M)) ok_r_reach rfl ?_
      exact aq_el ok_r_reach rfl rfl rfl rfl
    · refine aq_gn (n := 4) (c1 := (22, [some (.ref 0), some (.int (nI t)), some (.long a), none, some (.long a), none, some (.int (nI 0))], [], wM M)) ok_r_reach rfl ?_
      refine lp_reach1 (t := t) hM hQ hM.1 (g_n M) 0 (by omega) a ?_
      show AW r_reach _ _ _ (9, [some (.ref 0), some (.int (nI t)), some (.long (rst (mwb M) (g_n M) a)), none, some (.long a), none, none], [], wM M)
      by_cases hf : rst (mwb M) (g_n M) a = a
      · rw [rcF_fix hf, hf]
        refine aq_gn (n := 3) (c1 := (13, [some (.ref 0), some (.int (nI t)), some (.long a), none, some (.long a), none, none], [.int (lg_cmp a a)], wM M)) ok_r_reach rfl ?_
        refine aq_if_eq ok_r_reach rfl (fun h3 => ?_) (fun h3 => ?_)
        · refine aq_gn (n := 1) (c1 := (66, [some (.ref 0), some (.int (nI t)), some (.long a), none, some (.long a), none, none], [.long a], wM M)) ok_r_reach rfl ?_
          exact aq_el ok_r_reach rfl rfl rfl rfl
        · exact absurd ((lg_cmp_0 _ _).mpr rfl) h3
      · have e : rcF (mwb M) (g_n M) (f + 1) a = rcF (mwb M) (g_n M) f (rst (mwb M) (g_n M) a) := by rw [rcF, if_neg hf]
        rw [e]
        exact ih _ _ (hs.resolve_left hf) (fun q => absurd q hf)
set_option maxHeartbeats 4000000 in
theorem rm_reach {d : Nat} {M : MSt} {t : Nat} (hM : WM M) (hQ : WQ M) (hR : WR M) (ht : t < 60) (htn : t < g_n M) : AM r_reach (d + 2) (.inl (some (.long (rch M t)))) [.ref 0, .int (nI t)] (wM M) (wM M) := by
  refine aq_enter pl_r_reach (Nat.le_of_ble_eq_true rfl) ?_
  refine aq_gn (n := 2) (c1 := (2, [some (.ref 0), some (.int (nI t)), none, none, none, none, none], [.int (nI t), .ref 0], wM M)) ok_r_reach rfl ?_
  refine aq_callV (as := [.int (nI t)]) (st := []) ok_r_reach rfl c1_r_waitBits (rm_waitBits hM hQ ht htn) rfl (Nat.le_of_ble_eq_true rfl) rfl rfl rfl ?_
  refine aq_gn (n := 3) (c1 := (9, [some (.ref 0), some (.int (nI t)), some (.long (mwb M t)), none, some (.long 0), none, none], [], wM M)) ok_r_reach rfl ?_
  exact lp_reach hM hQ 64 _ _ (hR t) (fun q => by rw [q]; exact rst_0 _ _)
set_option maxHeartbeats 4000000 in
theorem lp_victim {d : Nat} {M : MSt} {t : Nat} {c : Int64} (hM : WM M) (hQ : WQ M) (hR : WR M) (hn : g_n M ≤ 60) (ht : t < 60) : ∀ (f i : Nat), i + f = g_n M → ∀ w : Option Nat, (∀ u, w = some u → u < i) → AW r_victimOf (d + 3) (.inl (some (.int (oI (vcF M t c f i w))))) (wM M) (12, [some (.ref 0), some (.int (nI t)), some (.long c), none, some (.int (oI w)), some (.int (nI i)), none], [], mL (g_cd M) (g_n M) (g_pr M) (g_st M) (g_he M) (g_wt M) (g_wn M) (g_cv M) (g_qs M) (g_qu M) (g_v5 M) (g_v6 M) (g_v7 M)) := by
  intro f
  induction f with
  | zero =>
    intro i hif w hw
    refine aq_gn (n := 3) (c1 := (18, [some (.ref 0), some (.int (nI t)), some (.long c), none, some (.int (oI w)), some (.int (nI i)), none], [.int (nI (g_n M)), .int (nI i)], mL (g_cd M) (g_n M) (g_pr M) (g_st M) (g_he M) (g_wt M) (g_wn M) (g_cv M) (g_qs M) (g_qu M) (g_v5 M) (g_v6 M) (g_v7 M))) ok_r_victimOf rfl ?_
    refine aq_icmp_ge ok_r_victimOf rfl (fun h => ?_) (fun h => ?_)
    · refine aq_gn (n := 1) (c1 := (108, [some (.ref 0), some (.int (nI t)), some (.long c), none, some (.int (oI w)), some (.int (nI i)), none], [.int (oI w)], wM M)) ok_r_victimOf rfl ?_
      exact aq_ei ok_r_victimOf rfl rfl rfl rfl
    · exact absurd (nI_le (show g_n M ≤ i by omega) (by omega)) h
  | succ f ih =>
    intro i hif w hw
    refine aq_gn (n := 3) (c1 := (18, [some (.ref 0), some (.int (nI t)), some (.long c), none, some (.int (oI w)), some (.int (nI i)), none], [.int (nI (g_n M)), .int (nI i)], mL (g_cd M) (g_n M) (g_pr M) (g_st M) (g_he M) (g_wt M) (g_wn M) (g_cv M) (g_qs M) (g_qu M) (g_v5 M) (g_v6 M) (g_v7 M))) ok_r_victimOf rfl ?_
    refine aq_icmp_ge ok_r_victimOf rfl (fun h => ?_) (fun h => ?_)
    · exact absurd (q_le h (by omega) (by omega)) (by omega)
    · refine aq_gn (n := 7) (c1 := (28, [some (.ref 0), some (.int (nI t)), some (.long c), none, some (.int (oI w)), some (.int (nI i)), none], [.int (lg_cmp ((c >>> ((nI t).toInt64 &&& 63)) &&& 1) 1)], mL (g_cd M) (g_n M) (g_pr M) (g_st M) (g_he M) (g_wt M) (g_wn M) (g_cv M) (g_qs M) (g_qu M) (g_v5 M) (g_v6 M) (g_v7 M))) ok_r_victimOf rfl ?_
      refine aq_if_ne ok_r_victimOf rfl (fun h2 => ?_) (fun h2 => ?_)
      · have hb : lb c t = false := by cases hy : lb c t with | false => rfl | true => exact absurd ((lg_cmp_0 _ _).mpr ((sh1 (show t < 64 by omega)).mpr hy)) h2
        refine aq_gn (n := 1) (c1 := (108, [some (.ref 0), some (.int (nI t)), some (.long c), none, some (.int (oI w)), some (.int (nI i)), none], [.int (oI w)], wM M)) ok_r_victimOf rfl ?_
        exact aq_ei ok_r_victimOf rfl rfl (by rw [vcF, hb]; rfl) rfl
      · have hb : lb c t = true := (sh1 (show t < 64 by omega)).mp ((lg_cmp_0 _ _).mp h2)
        refine aq_gn (n := 7) (c1 := (39, [some (.ref 0), some (.int (nI t)), some (.long c), none, some (.int (oI w)), some (.int (nI i)), none], [.int (lg_cmp ((c >>> ((nI i).toInt64 &&& 63)) &&& 1) 1)], mL (g_cd M) (g_n M) (g_pr M) (g_st M) (g_he M) (g_wt M) (g_wn M) (g_cv M) (g_qs M) (g_qu M) (g_v5 M) (g_v6 M) (g_v7 M))) ok_r_victimOf rfl ?_
        refine aq_if_ne ok_r_victimOf rfl (fun h3 => ?_) (fun h3 => ?_)
        · have hc : lb c i = false := by cases hy : lb c i with | false => rfl | true => exact absurd ((lg_cmp_0 _ _).mpr ((sh1 (show i < 64 by omega)).mpr hy)) h3
          refine aq_gn (n := 3) (c1 := (66, [some (.ref 0), some (.int (nI t)), some (.long c), none, some (.int (oI w)), some (.int (nI i)), some (.int (nI 0))], [.int (nI 0)], mL (g_cd M) (g_n M) (g_pr M) (g_st M) (g_he M) (g_wt M) (g_wn M) (g_cv M) (g_qs M) (g_qu M) (g_v5 M) (g_v6 M) (g_v7 M))) ok_r_victimOf rfl ?_
          refine aq_if_eq ok_r_victimOf rfl (fun h5 => ?_) (fun h5 => ?_)
          · refine aq_gn (n := 4) (c1 := (12, [some (.ref 0), some (.int (nI t)), some (.long c), none, some (.int (oI w)), some (.int ((nI i) + 1)), some (.int (nI 0))], [], mL (g_cd M) (g_n M) (g_pr M) (g_st M) (g_he M) (g_wt M) (g_wn M) (g_cv M) (g_qs M) (g_qu M) (g_v5 M) (g_v6 M) (g_v7 M))) ok_r_victimOf rfl ?_
            rw [nI_1]
            have e : vcF M t c (f + 1) i w = vcF M t c f (i + 1) w := by rw [vcF, if_pos hb, if_neg (fun q => by rw [hc] at q; cases q.1)]
            rw [e]
            refine aq_drop 6 ?_
            exact ih (i + 1) (by omega) w (fun u q => Nat.lt_succ_of_lt (hw u q))
          · exact absurd rfl h5
        · have hc : lb c i = true := (sh1 (show i < 64 by omega)).mp ((lg_cmp_0 _ _).mp h3)
          refine aq_gn (n := 2) (c1 := (45, [some (.ref 0), some (.int (nI t)), some (.long c), none, some (.int (oI w)), some (.int (nI i)), none], [.int (nI i), .ref 0], wM M)) ok_r_victimOf rfl ?_
          refine aq_callV (as := [.int (nI i)]) (st := []) ok_r_victimOf rfl c1_r_reach (rm_reach hM hQ hR (show i < 60 by omega) (by omega)) rfl (Nat.le_of_ble_eq_true rfl) rfl rfl rfl ?_
          refine aq_gn (n := 6) (c1 := (54, [some (.ref 0), some (.int (nI t)), some (.long c), none, some (.int (oI w)), some (.int (nI i)), none], [.int (lg_cmp (((rch M i) >>> ((nI t).toInt64 &&& 63)) &&& 1) 1)], mL (g_cd M) (g_n M) (g_pr M) (g_st M) (g_he M) (g_wt M) (g_wn M) (g_cv M) (g_qs M) (g_qu M) (g_v5 M) (g_v6 M) (g_v7 M))) ok_r_victimOf rfl ?_
          refine aq_if_ne ok_r_victimOf rfl (fun h4 => ?_) (fun h4 => ?_)
          · have hd : lb (rch M i) t = false := by cases hy : lb (rch M i) t with | false => rfl | true => exact absurd ((lg_cmp_0 _ _).mpr ((sh1 (show t < 64 by omega)).mpr hy)) h4
            refine aq_gn (n := 3) (c1 := (66, [some (.ref 0), some (.int (nI t)), some (.long c), none, some (.int (oI w)), some (.int (nI i)), some (.int (nI 0))], [.int (nI 0)], mL (g_cd M) (g_n M) (g_pr M) (g_st M) (g_he M) (g_wt M) (g_wn M) (g_cv M) (g_qs M) (g_qu M) (g_v5 M) (g_v6 M) (g_v7 M))) ok_r_victimOf rfl ?_
            refine aq_if_eq ok_r_victimOf rfl (fun h5 => ?_) (fun h5 => ?_)
            · refine aq_gn (n := 4) (c1 := (12, [some (.ref 0), some (.int (nI t)), some (.long c), none, some (.int (oI w)), some (.int ((nI i) + 1)), some (.int (nI 0))], [], mL (g_cd M) (g_n M) (g_pr M) (g_st M) (g_he M) (g_wt M) (g_wn M) (g_cv M) (g_qs M) (g_qu M) (g_v5 M) (g_v6 M) (g_v7 M))) ok_r_victimOf rfl ?_
              rw [nI_1]
              have e : vcF M t c (f + 1) i w = vcF M t c f (i + 1) w := by rw [vcF, if_pos hb, if_neg (fun q => by rw [hd] at q; cases q.2.1)]
              rw [e]
              refine aq_drop 6 ?_
              exact ih (i + 1) (by omega) w (fun u q => Nat.lt_succ_of_lt (hw u q))
            · exact absurd rfl h5
          · have hd : lb (rch M i) t = true := (sh1 (show t < 64 by omega)).mp ((lg_cmp_0 _ _).mp h4)
            refine aq_gn (n := 4) (c1 := (66, [some (.ref 0), some (.int (nI t)), some (.long c), none, some (.int (oI w)), some (.int (nI i)), some (.int (nI 1))], [.int (nI 1)], mL (g_cd M) (g_n M) (g_pr M) (g_st M) (g_he M) (g_wt M) (g_wn M) (g_cv M) (g_qs M) (g_qu M) (g_v5 M) (g_v6 M) (g_v7 M))) ok_r_victimOf rfl ?_
            refine aq_if_eq ok_r_victimOf rfl (fun h5 => ?_) (fun h5 => ?_)
            · exact absurd h5 (by decide)
            · refine aq_gn (n := 1) (c1 := (71, [some (.ref 0), some (.int (nI t)), some (.long c), none, some (.int (oI w)), some (.int (nI i)), some (.int (nI 1))], [.int (oI w)], mL (g_cd M) (g_n M) (g_pr M) (g_st M) (g_he M) (g_wt M) (g_wn M) (g_cv M) (g_qs M) (g_qu M) (g_v5 M) (g_v6 M) (g_v7 M))) ok_r_victimOf rfl ?_
              refine aq_if_lt ok_r_victimOf rfl (fun h6 => ?_) (fun h6 => ?_)
              · have hx : w = none := by cases w with | none => rfl | some u => exact absurd h6 (nI_pos (by have := hw u rfl; omega))
                refine aq_gn (n := 5) (c1 := (12, [some (.ref 0), some (.int (nI t)), some (.long c), none, some (.int (nI i)), some (.int ((nI i) + 1)), some (.int (nI 1))], [], mL (g_cd M) (g_n M) (g_pr M) (g_st M) (g_he M) (g_wt M) (g_wn M) (g_cv M) (g_qs M) (g_qu M) (g_v5 M) (g_v6 M) (g_v7 M))) ok_r_victimOf rfl ?_
                rw [nI_1]
                have e : vcF M t c (f + 1) i w = vcF M t c f (i + 1) (some i) := by rw [vcF, if_pos hb, if_pos (⟨hc, hd, fun u q => by rw [hx] at q; cases q⟩)]
                rw [e]
                refine aq_drop 6 ?_
                exact ih (i + 1) (by omega) (some i) (fun u q => by cases q; omega)
              · obtain ⟨u, hx⟩ : ∃ u, w = some u := by cases w with | none => exact absurd (by decide) h6 | some u => exact ⟨u, rfl⟩
                have hu := hw u hx
                subst hx
                show AW r_victimOf _ _ _ (74, [some (.ref 0), some (.int (nI t)), some (.long c), none, some (.int (nI u)), some (.int (nI i)), some (.int (nI 1))], [], mL (g_cd M) (g_n M) (g_pr M) (g_st M) (g_he M) (g_wt M) (g_wn M) (g_cv M) (g_qs M) (g_qu M) (g_v5 M) (g_v6 M) (g_v7 M))
                refine aq_go (n := 8) (c1 := (88, [some (.ref 0), some (.int (nI t)), some (.long c), none, some (.int (nI u)), some (.int (nI i)), some (.int (nI 1))], [.int (nI ((g_pr M) (nI u).toNatClampNeg)), .int (nI ((g_pr M) (nI i).toNatClampNeg))], mL (g_cd M) (g_n M) (g_pr M) (g_st M) (g_he M) (g_wt M) (g_wn M) (g_cv M) (g_qs M) (g_qu M) (g_v5 M) (g_v6 M) (g_v7 M))) (P := vp_in (nI i) 60 ∧ vp_in (nI u) 60) ok_r_victimOf rfl ⟨(in60 (by omega)), (in60 (by omega))⟩ ?_
                rw [cl60 (show i < 60 by omega), cl60 (show u < 60 by omega)]
                refine aq_icmp_gt ok_r_victimOf rfl (fun h7 => ?_) (fun h7 => ?_)
                · have hy := q_lt h7 (by have := hM.2.2.2.2.2.1 u; omega) (by have := hM.2.2.2.2.2.1 i; omega)
                  refine aq_gn (n := 4) (c1 := (12, [some (.ref 0), some (.int (nI t)), some (.long c), none, some (.int (nI u)), some (.int ((nI i) + 1)), some (.int (nI 1))], [], mL (g_cd M) (g_n M) (g_pr M) (g_st M) (g_he M) (g_wt M) (g_wn M) (g_cv M) (g_qs M) (g_qu M) (g_v5 M) (g_v6 M) (g_v7 M))) ok_r_victimOf rfl ?_
                  rw [nI_1]
                  have e : vcF M t c (f + 1) i (some u) = vcF M t c f (i + 1) (some u) := by rw [vcF, if_pos hb, if_neg (fun q => by have := q.2.2 u rfl; omega)]
                  rw [e]
                  refine aq_drop 6 ?_
                  exact ih (i + 1) (by omega) (some u) (fun v q => by cases q; omega)
                · have hy := q_nlt h7 (by have := hM.2.2.2.2.2.1 u; omega) (by have := hM.2.2.2.2.2.1 i; omega)
                  refine aq_gn (n := 5) (c1 := (12, [some (.ref 0), some (.int (nI t)), some (.long c), none, some (.int (nI i)), some (.int ((nI i) + 1)), some (.int (nI 1))], [], mL (g_cd M) (g_n M) (g_pr M) (g_st M) (g_he M) (g_wt M) (g_wn M) (g_cv M) (g_qs M) (g_qu M) (g_v5 M) (g_v6 M) (g_v7 M))) ok_r_victimOf rfl ?_
                  rw [nI_1]
                  have e : vcF M t c (f + 1) i (some u) = vcF M t c f (i + 1) (some i) := by rw [vcF, if_pos hb, if_pos ⟨hc, hd, fun v q => by cases q; exact hy⟩]
                  rw [e]
                  refine aq_drop 6 ?_
                  exact ih (i + 1) (by omega) (some i) (fun v q => by cases q; omega)
set_option maxHeartbeats 4000000 in
theorem rm_victim {d : Nat} {M : MSt} {t : Nat} (hM : WM M) (hQ : WQ M) (hR : WR M) (ht : t < 60) (htn : t < g_n M) : AM r_victimOf (d + 3) (.inl (some (.int (oI (mvic M t))))) [.ref 0, .int (nI t)] (wM M) (wM M) := by
  refine aq_enter pl_r_victimOf (Nat.le_of_ble_eq_true rfl) ?_
  refine aq_gn (n := 2) (c1 := (2, [some (.ref 0), some (.int (nI t)), none, none, none, none, none], [.int (nI t), .ref 0], wM M)) ok_r_victimOf rfl ?_
  refine aq_callV (as := [.int (nI t)]) (st := []) ok_r_victimOf rfl c1_r_reach (rm_reach hM hQ hR ht htn) rfl (Nat.le_of_ble_eq_true rfl) rfl rfl rfl ?_
  refine aq_gn (n := 5) (c1 := (12, [some (.ref 0), some (.int (nI t)), some (.long (rch M t)), none, some (.int (-1)), some (.int (nI 0)), none], [], wM M)) ok_r_victimOf rfl ?_
  exact lp_victim hM hQ hR hM.1 ht (g_n M) 0 (by omega) none (fun u q => by cases q)
