/-! PURE: lock -/
theorem Rel_WQ {S : LSt} {M : MSt} (h : RS S M) : WQ M := fun u o hu hw => (lst_mem _ _).mp ((RS_q h (h.2.2.2.2.2.2.1.2.2.2.1 u o hw)).mpr ⟨hu, hw⟩)
theorem Rel_WG {S : LSt} {M : MSt} (h : RS S M) : WG M := ⟨h.2.2.2.2.2.2.1, Rel_WQ h, WR_all M⟩
theorem bc_ml {t : Nat} : ∀ (f : Nat) (S : LSt) (M : MSt), Rel S M → t < g_n M → s_k S ≤ f → Rel (bcF t f S) (mlF t f M) ∧ mlK t f M ∧ g_cd (mlF t f M) = g_cd M := by
  intro f
  induction f with
  | zero =>
    intro S M h ht hk
    refine ⟨h, ⟨Rel_WG h.1, ht, mvic_none ?_⟩, rfl⟩
    have hm := (h.1.2.2.2.2.1.2.2.1 t)
    rw [show s_k S = 0 by omega] at hm
    refine Classical.byContradiction (fun q => ?_)
    exact nomatch hm.mpr ⟨ht, q⟩
  | succ f ih =>
    intro S M h ht hk
    have hv := vic_eq h.1 h.2.2.2.2.2.2.1 ht
    unfold bcF mlF
    by_cases e : s_st S t = 1
    · rw [if_pos e, hv]
      cases hm : mvic M t with
      | none =>
        refine ⟨h, ⟨Rel_WG h.1, ht, fun v q => ?_⟩, rfl⟩
        rw [hm] at q; cases q
      | some v =>
        obtain ⟨v1, v2⟩ := mvic_some hm
        have h5 : Rel (s_5 (s_wl S (cirR S))) (m_5 M) := by
          obtain ⟨⟨a1, a2, a3, a4, a5, a6, a7, a8⟩, b⟩ := h
          refine ⟨⟨a1, a2, a3, a4, a5, a6, a7, ?_⟩, b⟩
          show s_c5 S + 1 = g_v5 M + 1
          rw [a8]
        obtain ⟨k1, k2, k3, k4, k5⟩ := Rel_end (t := v) (x := 3) h5 v1 (by omega) (by omega)
        have hk5 : s_k (en (s_5 (s_wl S (cirR S))) v 3).1 ≤ (lqF v (s_k S) 0 0 (s_la S)).2 := k5
        have hlen : (lqF v (s_k S) 0 0 (s_la S)).2 < s_k S := by
          rw [(lqF_lst (t := v) (s_k S) 0 0 (s_la S) (Nat.le_refl _)).2.2.1, Nat.zero_add]
          have : ((lst (s_la S) 0 (s_k S)).filter (fun u => decide (u ≠ v))).length < (lst (s_la S) 0 (s_k S)).length := by
            rw [List.length_filter_lt_length_iff_exists]
            exact ⟨v, (h.1.2.2.2.2.1.2.2.1 v).mpr ⟨v1, v2⟩, by simp⟩
          rw [lst_len] at this
          exact this
        have k3' : g_n (mend (m_5 M) v 3).1 = g_n M := k3
        obtain ⟨r1, r2, r3⟩ := ih _ _ k1 (by rw [k3']; exact ht) (by omega)
        refine ⟨r1, ⟨Rel_WG h.1, ht, fun v' q => ?_⟩, by rw [r3, k4]; rfl⟩
        rw [hm] at q
        cases q
        exact r2
    · rw [if_neg e]
      have hw : mvic M t = none := by
        refine mvic_none (Classical.byContradiction (fun q => e ?_))
        rw [h.2.2.1 t]
        exact (h.2.2.2.1 t ht).mp q
      rw [hw]
      refine ⟨h, ⟨Rel_WG h.1, ht, fun v q => ?_⟩, rfl⟩
      rw [hw] at q; cases q
theorem ans_eq {S : LSt} {M : MSt} {t : Nat} (h : s_st S t = g_st M t) : ans S t = mans M t := by
  unfold ans mans
  rw [h]; rfl
theorem lub_self {m : Nat} : lub none m = m := rfl
theorem Rel_k {S : LSt} {M : MSt} (h : RS S M) {t : Nat} (ht : t < g_n M) (hw : g_wt M t = none) : s_k S < 60 ∧ ∀ o, o < 85 → g_qs M o < 60 := by
  have hn := h.2.2.2.2.2.2.1.1
  obtain ⟨c0, c1, c2, c3⟩ := h.2.2.2.2.1
  have k1 : (lst (s_la S) 0 (s_k S)).length < g_n M := nd_lt c1 (fun x hx => ((c2 x).mp hx).1) ht (fun q => ((c2 t).mp q).2 hw)
  rw [lst_len] at k1
  refine ⟨by omega, fun o ho => ?_⟩
  have k2 : (lst (g_qu M) (60 * o) (g_qs M o)).length < g_n M := nd_lt (RC_nd h.2.2.2.2.1 ho) (fun x hx => ((RS_q h ho).mp hx).1) ht (fun q => by have := ((RS_q h ho).mp q).2; rw [hw] at this; cases this)
  rw [lst_len] at k2
  omega
theorem join_rel {S : LSt} {M : MSt} (h : Rel S M) {t o w : Nat} (ht : t < g_n M) (ho : o < 85) (hw : w < 5) (hst : g_wt M t = none) : RS (jn S t o w) (m_en M t o w (Kh M o t).isSome) ∧ JA (m_en M t o w (Kh M o t).isSome) ∧ (∀ p, p < 85 → HB (jn S t o w) (m_en M t o w (Kh M o t).isSome) p) ∧ (∀ p, p < 85 → p ≠ o → NF (m_en M t o w (Kh M o t).isSome) p) ∧ ∃ A B, QM M o = A ++ B ∧ QM (m_en M t o w (Kh M o t).isSome) o = A ++ t :: B := by
  obtain ⟨h1, hj, hs, hj5, hc6, hc7, hb, hnf, hwn⟩ := h
  have hM := h1.2.2.2.2.2.2.1
  have hn := hM.1
  obtain ⟨k1, k2⟩ := Rel_k h1 ht hst
  have htq : ∀ p u, p < 85 → u ∈ QM M p → u ≠ t := fun p u hp hu q => by
    have := ((RS_q h1 hp).mp hu).2
    rw [q, hst] at this; cases this
  have hcvq : ∀ p u, p < 85 → u ∈ QM M p → va_up (g_cv M) t (Kh M o t).isSome u = g_cv M u := fun p u hp hu => va_up_ne _ _ (htq p u hp hu)
  have hpw : ∀ p, p < 85 → (QM M p).Pairwise (fun a b => va_up (g_cv M) t (Kh M o t).isSome b = true → va_up (g_cv M) t (Kh M o t).isSome a = true) := fun p hp => by
    refine List.Pairwise.imp_of_mem (fun {a b} ha hb' q r => ?_) (hj.2.1 p hp)
    rw [hcvq p b hp hb'] at r
    rw [hcvq p a hp ha]
    exact q r
  have haw := h1.2.2.1
  obtain ⟨r1, ⟨A, B, r2, r3, r4⟩, r5⟩ := RC_join (ha := s_ha S) (cv := va_up (g_cv M) t (Kh M o t).isSome) h1.2.2.2.2.1 ht hst ho hM.2.2.1 (fun u hu => by
      rw [hcvq o u ho hu, hm_K (hb o ho) hM ((RS_q h1 ho).mp hu).1]
      exact hj.1 o u ho hu) (by rw [va_up_self, hm_K (hb o ho) hM ht]) (hpw o ho) (k2 o ho)
  have hRS : RS (jn S t o w) (m_en M t o w (Kh M o t).isSome) := by
    refine ⟨h1.1, h1.2.1, ?_, fun u => ?_, ?_, WF_jn h1.2.2.2.2.2.1 (by omega) ho hw k1, WM_en hM (by omega) ho hw (k2 o ho) _, h1.2.2.2.2.2.2.2⟩
    · show va_up (s_aw S) t (some o) = va_up (g_wt M) t (some o); rw [haw]
    · show va_up (s_wa S) t (some w) u = (va_up (g_wt M) t (some o) u).map (fun _ => va_up (g_wn M) t w u)
      unfold va_up
      split
      · rfl
      · exact h1.2.2.2.1 u
    · show RC (g_n M) (va_up (g_wt M) t (some o)) (va_up (shF (s_k S - plc (s_aw S) (s_ha S) (s_la S) (s_k S) t o) (s_k S) (s_la S)) (plc (s_aw S) (s_ha S) (s_la S) (s_k S) t o) t) (s_k S + 1) (va_up (g_qs M) o (g_qs M o + 1)) (eqF (va_up (g_cv M) t (Kh M o t).isSome) t o (g_qs M o) (g_qu M))
      rw [haw]
      exact r1
  have hQ : ∀ p, p ≠ o → QM (m_en M t o w (Kh M o t).isSome) p = QM M p := fun p hp => by
    show lst (eqF (va_up (g_cv M) t (Kh M o t).isSome) t o (g_qs M o) (g_qu M)) (60 * p) (va_up (g_qs M) o (g_qs M o + 1) p) = _
    rw [va_up_ne _ _ hp]
    exact r5 p hp
  have hQo : QM (m_en M t o w (Kh M o t).isSome) o = A ++ t :: B := by
    show lst (eqF (va_up (g_cv M) t (Kh M o t).isSome) t o (g_qs M o) (g_qu M)) (60 * o) (va_up (g_qs M) o (g_qs M o + 1) o) = _
    rw [va_up_self]
    exact r3
  refine ⟨hRS, ⟨fun p u hp hu => ?_, fun p hp => ?_, hj.2.2.1, hj.2.2.2⟩, hb, fun p hp hpo => ?_, A, B, r2, hQo⟩
  · show va_up (g_cv M) t (Kh M o t).isSome u = (Kh M p u).isSome
    by_cases e : p = o
    · subst e
      by_cases e2 : u = t
      · subst e2; rw [va_up_self]
      · rw [va_up_ne _ _ e2]
        rw [hQo] at hu
        refine hj.1 p u hp ?_
        have r2' : QM M p = A ++ B := r2
        rw [r2']
        rcases List.mem_append.mp hu with q | q
        · exact List.mem_append_left _ q
        · rcases List.mem_cons.mp q with q | q
          · exact absurd q e2
          · exact List.mem_append_right _ q
    · rw [hQ p e] at hu
      rw [hcvq p u hp hu]
      exact hj.1 p u hp hu
  · show List.Pairwise (fun a b => va_up (g_cv M) t (Kh M o t).isSome b = true → va_up (g_cv M) t (Kh M o t).isSome a = true) _
    by_cases e : p = o
    · rw [e, hQo]; exact r4
    · rw [hQ p e]; exact hpw p hp
  · have g := hnf p hp
    rw [NF_iff hM] at g
    rw [NF_iff hRS.2.2.2.2.2.2.1]
    show 0 < va_up (g_qs M) o (g_qs M o + 1) p → ∃ u, Wy M (eqF (va_up (g_cv M) t (Kh M o t).isSome) t o (g_qs M o) (g_qu M) (60 * p)) p (va_up (g_wn M) t w (eqF (va_up (g_cv M) t (Kh M o t).isSome) t o (g_qs M o) (g_qu M) (60 * p))) u
    rw [va_up_ne _ _ hpo]
    intro hq
    have e0 : eqF (va_up (g_cv M) t (Kh M o t).isSome) t o (g_qs M o) (g_qu M) (60 * p) = g_qu M (60 * p) := by
      refine (eqF_lst (g_qs M o) (g_qu M)).1 _ ?_
      have := k2 o ho
      rcases Nat.lt_or_gt_of_ne hpo with q | q
      · exact Or.inl (by omega)
      · exact Or.inr (by omega)
    have hne : g_qu M (60 * p) ≠ t := htq p _ hp ((lst_mem _ _).mpr ⟨0, hq, rfl⟩)
    rw [e0, va_up_ne _ _ hne]
    exact g hq
theorem q_head {M : MSt} {o a : Nat} {L : List Nat} (h : QM M o = a :: L) : 0 < g_qs M o ∧ g_qu M (60 * o) = a := by
  have h1 : (QM M o).length = g_qs M o := lst_len _ _
  rw [h, List.length_cons] at h1
  have h2 := lst_get (l := g_qu M) (g_qs M o) (60 * o) 0
  have h3 : (QM M o)[0]? = some a := by rw [h]; rfl
  have h3' : (lst (g_qu M) (60 * o) (g_qs M o))[0]? = some a := h3
  rw [h2, if_pos (by omega)] at h3'
  exact ⟨by omega, Option.some.inj h3'⟩
theorem q_cons {M : MSt} {o : Nat} (h : 0 < g_qs M o) : ∃ L, QM M o = g_qu M (60 * o) :: L := by
  unfold QM
  obtain ⟨k, hk⟩ : ∃ k, g_qs M o = k + 1 := ⟨g_qs M o - 1, by omega⟩
  rw [hk]
  exact ⟨_, rfl⟩
theorem sv_1 {S : LSt} {o t : Nat} (h1 : s_ftg S o = some t) (h2 : s_ftg (gr S t) o = none) : sv S o = (gr S t, 1) := by
  show svF o (58 + 1 + 1) 0 S = _
  unfold svF
  rw [h1]
  show svF o (58 + 1) (0 + 1) (gr S t) = _
  unfold svF
  rw [h2]
theorem sv_0 {S : LSt} {o : Nat} (h1 : s_ftg S o = none) : sv S o = (S, 0) := by
  show svF o (59 + 1) 0 S = _
  unfold svF
  rw [h1]
theorem ms_1 {M : MSt} {o : Nat} (h1 : 0 < g_qs M o ∧ mfit M o = true) (h2 : NF (mgr M o) o) : ms M o = (mgr M o, 1) := by
  show msF o (58 + 1 + 1) 0 M = _
  unfold msF
  rw [if_pos h1]
  unfold msF
  rw [if_neg h2]
theorem ms_0 {M : MSt} {o : Nat} (h2 : NF M o) : ms M o = (M, 0) := by
  show msF o (59 + 1) 0 M = _
  unfold msF
  rw [if_neg h2]
theorem mlF_0 {M : MSt} {t : Nat} (h : mvic M t = none) : mlF t 60 M = M := by
  show mlF t (59 + 1) M = _
  unfold mlF
  rw [h]
theorem Rel_6 {S : LSt} {M : MSt} {c : Nat} (h1 : RS S M) (h2 : JA M) (h3 : ∀ u, s_st S u = g_st M u) (h4 : J5 M) (h5 : s_c6 S = g_v6 M + c) (h6 : s_c7 S = g_v7 M) (h7 : ∀ o, o < 85 → HB S M o) (h8 : ∀ o, o < 85 → NF M o) (h9 : WN M) : Rel S (m_6 M c) := ⟨h1, h2, h3, h4, h5, h6, h7, h8, h9⟩
/-- what the coming into the queue leaves -/
def JF (S : LSt) (M : MSt) (t o w : Nat) (S1 : LSt) (M1 : MSt) : Prop := (g_wn M1 t = w ∧ (∀ a, a ≠ t → g_wn M1 a = g_wn M a) ∧ (∀ p u, Kh M1 p u = Kh M p u) ∧ g_n M1 = g_n M) ∧ (g_st M1 = va_up (g_st M) t 1 ∧ g_wt M1 = va_up (g_wt M) t (some o) ∧ g_v6 M1 = g_v6 M ∧ g_v7 M1 = g_v7 M ∧ g_cd M1 = g_cd M) ∧ (s_st S1 = s_st S ∧ s_aw S1 t = some o ∧ s_c6 S1 = s_c6 S ∧ s_c7 S1 = s_c7 S) ∧ (∀ y, g_he M1 y = none → g_he M y = none) ∧ 0 < g_qs M1 o
theorem JF_jn (S : LSt) (M : MSt) (t o w : Nat) (c : Bool) : JF S M t o w (jn S t o w) (m_en M t o w c) := by
  refine ⟨⟨va_up_self _ _ _, fun a ha => va_up_ne _ _ ha, fun p u => rfl, rfl⟩, ⟨rfl, rfl, rfl, rfl, rfl⟩, ⟨rfl, va_up_self _ _ _, rfl, rfl⟩, fun y hy => hy, ?_⟩
  show 0 < va_up (g_qs M) o (g_qs M o + 1) o
  rw [va_up_self]; omega
theorem lock_NF {S S1 : LSt} {M M1 : MSt} {t o m : Nat} {A B : List Nat} (h : Rel S M) (hF : JF S M t o (lub (Kh M o t) m) S1 M1) (j1 : RS S1 M1) (ht : t < g_n M) (hm5 : m < 5) (ho : o < 85) (hwt : g_wt M t = none) (hQ0 : QM M o = A ++ B) (hQ1 : QM M1 o = A ++ t :: B) (hf : mfit M1 o = true) : g_qu M1 (60 * o) = t ∧ NF (mgr M1 o) o := by
  have hM := h.1.2.2.2.2.2.2.1
  have hn := hM.1
  have hM1 := j1.2.2.2.2.2.2.1
  obtain ⟨⟨f1, f2, f3, f4⟩, -, -, -, hq1⟩ := hF
  have hA : A = [] := by
    cases A with
    | nil => rfl
    | cons a A =>
      exfalso
      obtain ⟨q1, q2⟩ := q_head hQ0
      obtain ⟨q3, q4⟩ := q_head hQ1
      have hat : a ≠ t := fun q => by
        have := (RS_first h.1 ho q1).2
        rw [q2, q, hwt] at this; cases this
      obtain ⟨u, u1, u2, b, u3, u4⟩ := (NF_iff hM).mp (h.2.2.2.2.2.2.2.1 o ho) q1
      have hW := (ft_W hM1 (hM1.2.2.2.2.2.2.1 _)).mp hf
      rw [q4, f2 a hat] at hW
      rw [q2] at u2 u4
      exact hW u ⟨by rw [f4]; exact u1, u2, b, by rw [f3]; exact u3, u4⟩
  subst hA
  obtain ⟨q3, q4⟩ := q_head hQ1
  refine ⟨q4, ?_⟩
  rw [NF_iff (WM_mgr hM1 o)]
  intro hq
  obtain ⟨L, hL⟩ := q_cons hq
  have hQ2 := QM_mgr hM1 (o := o) (p := o)
  have hnd' : (QM M1 o).Nodup := RC_nd j1.2.2.2.2.1 ho
  rw [hQ1, List.nil_append, List.nodup_cons] at hnd'
  rw [if_pos rfl, q4, hQ1, List.nil_append, List.filter_cons_of_neg (by simp), List.filter_eq_self.mpr (fun u hu => by simp; exact fun q => hnd'.1 (q ▸ hu)), hL] at hQ2
  rw [List.nil_append, ← hQ2] at hQ0
  obtain ⟨p1, p2⟩ := q_head hQ0
  have hbt : g_qu (mgr M1 o) (60 * o) ≠ t := fun q => by
    have := (RS_first h.1 ho p1).2
    rw [p2, q, hwt] at this; cases this
  have hwb : g_wn (mgr M1 o) (g_qu (mgr M1 o) (60 * o)) = g_wn M (g_qu M (60 * o)) := by
    rw [p2]
    exact f2 _ hbt
  obtain ⟨u, u1, u2, a, u3, u4⟩ := (NF_iff hM).mp (h.2.2.2.2.2.2.2.1 o ho) p1
  rw [hwb]
  refine ⟨u, by show u < g_n M1; rw [f4]; exact u1, by rw [← p2]; exact u2, ?_⟩
  rw [Kh_mgr hM1 (by omega)]
  by_cases eu : u = t
  · refine ⟨lub (Kh M o t) m, ?_, ?_⟩
    · rw [if_pos ⟨rfl, by rw [q4]; exact eu⟩, q4, f1]
    · rw [eu] at u3
      rw [u3]
      exact gt_up a (Kh_lt hM u3) m hm5 _ (hM.2.2.2.2.2.2.1 _) u4
  · exact ⟨a, by rw [if_neg (fun q => eu (by rw [q.2, q4])), f3]; exact u3, u4⟩
theorem lock_now {S S1 : LSt} {M M1 : MSt} {t o w : Nat} (h : Rel S M) (hF : JF S M t o w S1 M1) (j1 : RS S1 M1) (j2 : JA M1) (j3 : ∀ p, p < 85 → HB S1 M1 p) (j4 : ∀ p, p < 85 → p ≠ o → NF M1 p) (ho : o < 85) (hst0 : g_st M t = 0) (hf : mfit M1 o = true) (q4 : g_qu M1 (60 * o) = t) (hNF : NF (mgr M1 o) o) : sv S1 o = (gr S1 t, 1) ∧ ms M1 o = (mgr M1 o, 1) ∧ Rel (gr S1 t) (m_6 (mgr M1 o) 1) ∧ g_wt (mgr M1 o) t = none ∧ s_aw (gr S1 t) t = none := by
  obtain ⟨⟨f1, f2, f3, f4⟩, ⟨f5, f6, f7, f8, f9⟩, ⟨f10, f11, f12, f13⟩, f14, hq1⟩ := hF
  have hn := h.1.2.2.2.2.2.2.1.1
  have hftg := ftg_eq j1 (j3 o ho) ho
  rw [if_pos ⟨hq1, hf⟩, q4] at hftg
  have hCR := CR_step (CR_refl j1 (j3 o ho) j2) ho hq1 hf
  rw [q4] at hCR
  obtain ⟨c1, c2, c3, c4, c5, c6, c7, c8, c9, c10, c11⟩ := hCR
  have hftg2 := ftg_eq c1 c2 ho
  rw [if_neg hNF] at hftg2
  have e1 : g_wt (mgr M1 o) = va_up (g_wt M1) t none := by show va_up _ (g_qu M1 (60 * o)) none = _; rw [q4]
  have e2 : g_st (mgr M1 o) = va_up (g_st M1) t 0 := by show va_up _ (g_qu M1 (60 * o)) 0 = _; rw [q4]
  refine ⟨sv_1 hftg hftg2, ms_1 ⟨hq1, hf⟩ hNF, Rel_6 c1 c3 (fun u => ?_) (fun u hu => ?_) ?_ ?_ (fun p hp => ?_) (fun p hp => ?_) (fun y hy => ?_), by rw [e1, va_up_self], va_up_self _ _ _⟩
  · rw [e2, f5]
    show va_up (s_st S1) t 0 u = _
    rw [f10]
    unfold va_up
    by_cases eu : u = t
    · rw [if_pos eu, if_pos eu]
    · rw [if_neg eu, if_neg eu, if_neg eu]; exact h.2.2.1 u
  · have hu' : u < g_n M1 := hu
    rw [f4] at hu'
    rw [e1, e2, f5, f6]
    unfold va_up
    by_cases eu : u = t
    · rw [if_pos eu, if_pos eu]; simp
    · rw [if_neg eu, if_neg eu, if_neg eu, if_neg eu]; exact h.2.2.2.1 u hu'
  · show (if s_st S1 t = 1 then s_c6 S1 else s_c6 S1 + 1) = g_v6 M1 + 1
    rw [f10, h.2.2.1 t, hst0, if_neg (by omega), f12, f7, h.2.2.2.2.1]
  · show (if s_st S1 t = 1 then s_c7 S1 + 1 else s_c7 S1) = g_v7 M1
    rw [f10, h.2.2.1 t, hst0, if_neg (by omega), f13, f8, h.2.2.2.2.2.1]
  · by_cases ep : p = o
    · rw [ep]; exact c2
    · exact HB_frame (j3 p hp) (fun m' hm' => c4 p m' ep hm') (fun u hu => c5 p u ep hu) c6.1 (by rw [f4]; exact hn)
  · by_cases ep : p = o
    · rw [ep]; exact hNF
    · exact c9 p hp ep (j4 p hp ep)
  · exact h.2.2.2.2.2.2.2.2 y (f14 y (c10 y hy))
theorem Rel_sl {S : LSt} {M : MSt} {t : Nat} (h1 : RS S M) : RS (s_sl S t 1) M := ⟨h1.1, h1.2.1, h1.2.2.1, h1.2.2.2.1, h1.2.2.2.2.1, WF_sl h1.2.2.2.2.2.1 t 1 (by omega), h1.2.2.2.2.2.2.1, h1.2.2.2.2.2.2.2⟩
theorem lock_wait {S S1 : LSt} {M M1 : MSt} {t o w : Nat} (h : Rel S M) (hF : JF S M t o w S1 M1) (j1 : RS S1 M1) (j2 : JA M1) (j3 : ∀ p, p < 85 → HB S1 M1 p) (j4 : ∀ p, p < 85 → p ≠ o → NF M1 p) (ho : o < 85) (hNF : NF M1 o) : sv S1 o = (S1, 0) ∧ ms M1 o = (M1, 0) ∧ Rel (s_sl S1 t 1) (m_6 M1 0) := by
  obtain ⟨⟨f1, f2, f3, f4⟩, ⟨f5, f6, f7, f8, f9⟩, ⟨f10, f11, f12, f13⟩, f14, hq1⟩ := hF
  have hftg := ftg_eq j1 (j3 o ho) ho
  rw [if_neg hNF] at hftg
  refine ⟨sv_0 hftg, ms_0 hNF, Rel_6 (Rel_sl j1) j2 (fun u => ?_) (fun u hu => ?_) ?_ ?_ j3 (fun p hp => ?_) (fun y hy => h.2.2.2.2.2.2.2.2 y (f14 y hy))⟩
  · rw [f5]
    show va_up (s_st S1) t 1 u = _
    rw [f10]
    unfold va_up
    split
    · rfl
    · exact h.2.2.1 u
  · rw [f4] at hu
    rw [f5, f6]
    unfold va_up
    by_cases eu : u = t
    · rw [if_pos eu, if_pos eu]; simp
    · rw [if_neg eu, if_neg eu]; exact h.2.2.2.1 u hu
  · rw [f7]; exact f12.trans h.2.2.2.2.1
  · rw [f8]; exact f13.trans h.2.2.2.2.2.1
  · by_cases ep : p = o
    · rw [ep]; exact hNF
    · exact j4 p hp ep
theorem lock_fin {S1 : LSt} {M1 M : MSt} {t o : Nat} (hn : t < g_n M1) (hcd : g_cd M1 = g_cd M) (haw : s_aw S1 t = some o) (hc : (sv S1 o = (gr S1 t, 1) ∧ ms M1 o = (mgr M1 o, 1) ∧ Rel (gr S1 t) (m_6 (mgr M1 o) 1) ∧ g_wt (mgr M1 o) t = none ∧ s_aw (gr S1 t) t = none) ∨ (sv S1 o = (S1, 0) ∧ ms M1 o = (M1, 0) ∧ Rel (s_sl S1 t 1) (m_6 M1 0))) : Rel (lk3 (sv S1 o).1 t) (mlF t 60 (m_6 (ms M1 o).1 (ms M1 o).2)) ∧ g_cd (mlF t 60 (m_6 (ms M1 o).1 (ms M1 o).2)) = g_cd M ∧ WG (m_6 (ms M1 o).1 (ms M1 o).2) ∧ mlK t 60 (m_6 (ms M1 o).1 (ms M1 o).2) := by
  rcases hc with ⟨h1, h2, h3, h4, h5⟩ | ⟨h1, h2, h3⟩
  · rw [h1, h2]
    simp only
    have hlk : lk3 (gr S1 t) t = gr S1 t := by unfold lk3; rw [h5]
    have hml := mlF_0 (mvic_none (M := m_6 (mgr M1 o) 1) h4)
    obtain ⟨z1, z2, z3⟩ := bc_ml 60 _ _ h3 (t := t) hn h3.1.2.2.2.2.2.1.2.1
    rw [hlk, hml]
    exact ⟨h3, hcd, Rel_WG h3.1, z2⟩
  · rw [h1, h2]
    simp only
    have hlk : lk3 S1 t = bcF t 60 (s_sl S1 t 1) := by unfold lk3; rw [haw]
    obtain ⟨z1, z2, z3⟩ := bc_ml 60 _ _ h3 (t := t) hn h3.1.2.2.2.2.2.1.2.1
    rw [hlk]
    exact ⟨z1, z3.trans hcd, Rel_WG h3.1, z2⟩
theorem Rel_lock {S : LSt} {M : MSt} (h : Rel S M) {t o m : Nat} (ht : t < g_n M) (ho : o < 85) (hm5 : m < 5) (hst0 : g_st M t = 0) : Rel (lk S t o m).1 (mlk M t o m).1 ∧ (lk S t o m).2 = (mlk M t o m).2 ∧ g_cd (mlk M t o m).1 = g_cd M ∧ (¬ mlh M t o = some (mlw M t o m) → WG (mlp M t o m) ∧ mlK t 60 (mlp M t o m)) := by
  have hM := h.1.2.2.2.2.2.2.1
  have hn := hM.1
  have hwt : g_wt M t = none := Classical.byContradiction (fun q => by have := (h.2.2.2.1 t ht).mp q; omega)
  have hmK := hm_K (h.2.2.2.2.2.2.1 o ho) hM ht
  have hw5 : lub (Kh M o t) m < 5 := lub_lt (fun x q => Kh_lt hM q) hm5
  have hlh : mlh M t o = Kh M o t := rfl
  unfold lk mlk mlp mlq mlw lkS
  rw [hlh, hmK]
  obtain ⟨j1, j2, j3, j4, A, B, hQ0, hQ1⟩ := join_rel h ht ho hw5 hwt
  have hF := JF_jn S M t o (lub (Kh M o t) m) (Kh M o t).isSome
  generalize jn S t o (lub (Kh M o t) m) = S1 at j1 j2 j3 j4 hQ1 hF ⊢
  generalize m_en M t o (lub (Kh M o t) m) (Kh M o t).isSome = M1 at j1 j2 j3 j4 hQ1 hF ⊢
  have hc : (sv S1 o = (gr S1 t, 1) ∧ ms M1 o = (mgr M1 o, 1) ∧ Rel (gr S1 t) (m_6 (mgr M1 o) 1) ∧ g_wt (mgr M1 o) t = none ∧ s_aw (gr S1 t) t = none) ∨ (sv S1 o = (S1, 0) ∧ ms M1 o = (M1, 0) ∧ Rel (s_sl S1 t 1) (m_6 M1 0)) := by
    by_cases hf : mfit M1 o = true
    · obtain ⟨q1, q2⟩ := lock_NF h hF j1 ht hm5 ho hwt hQ0 hQ1 hf
      exact Or.inl (lock_now h hF j1 j2 j3 j4 ho hst0 hf q1 q2)
    · exact Or.inr (lock_wait h hF j1 j2 j3 j4 ho (fun q => hf q.2))
  obtain ⟨y1, y2, y3, y4⟩ := lock_fin (M := M) (by rw [hF.1.2.2.2]; exact ht) hF.2.1.2.2.2.2 hF.2.2.1.2.1 hc
  generalize m_6 (ms M1 o).1 (ms M1 o).2 = M2 at y1 y2 y3 y4 ⊢
  generalize mlF t 60 M2 = M3 at y1 y2 ⊢
  generalize lk3 (sv S1 o).1 t = S3 at y1 ⊢
  by_cases e : Kh M o t = some (lub (Kh M o t) m)
  · rw [if_pos e, if_pos e]
    exact ⟨h, rfl, rfl, fun q => absurd e q⟩
  · rw [if_neg e, if_neg e]
    exact ⟨y1, ans_eq (y1.2.2.1 t), y2, fun _ => ⟨y3, y4⟩⟩
