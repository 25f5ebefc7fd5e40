/-! THE REFERENCE: lock -/
def upM (M : MSt) (t o m : Nat) : Bool := if o = 0 then true else if mdI (g_he M) t ((o - 1) / 4) < 0 then false else if rwI (nI m) then rwI (mdI (g_he M) t ((o - 1) / 4)) else true
def m_en (M : MSt) (t o w : Nat) (c : Bool) : MSt := (g_cd M, g_n M, g_pr M, va_up (g_st M) t 1, g_he M, va_up (g_wt M) t (some o), va_up (g_wn M) t w, va_up (g_cv M) t c, va_up (g_qs M) o (g_qs M o + 1), eqF (va_up (g_cv M) t c) t o (g_qs M o) (g_qu M), g_v5 M, g_v6 M, g_v7 M)
def mlF (t : Nat) : Nat → MSt → MSt
  | 0, M => M
  | f + 1, M => match mvic M t with
    | none => M
    | some v => mlF t f (mend (m_5 M) v 3).1
def WG (M : MSt) : Prop := WM M ∧ WQ M ∧ WR M
/-- the giving up comes to its end -/
def mlK (t : Nat) : Nat → MSt → Prop
  | 0, M => WG M ∧ t < g_n M ∧ mvic M t = none
  | f + 1, M => WG M ∧ t < g_n M ∧ ∀ v, mvic M t = some v → mlK t f (mend (m_5 M) v 3).1
def mans (M : MSt) (t : Nat) : Int32 := if g_st M t = 0 then nI 1 else if g_st M t = 1 then nI 0 else -1
def mlh (M : MSt) (t o : Nat) : Option Nat := hv (g_he M (60 * o + t))
def mlw (M : MSt) (t o m : Nat) : Nat := lub (mlh M t o) m
def mlq (M : MSt) (t o m : Nat) : MSt := m_en M t o (mlw M t o m) (mlh M t o).isSome
def mlp (M : MSt) (t o m : Nat) : MSt := m_6 (ms (mlq M t o m) o).1 (ms (mlq M t o m) o).2
def mlk (M : MSt) (t o m : Nat) : MSt × Int32 := if mlh M t o = some (mlw M t o m) then (M, nI 1) else (mlF t 60 (mlp M t o m), mans (mlF t 60 (mlp M t o m)) t)
theorem eqF_lt {cv : Nat → Bool} {t o : Nat} (ht : t < 60) : ∀ (a : Nat) (q : Nat → Nat), (∀ i, q i < 60) → ∀ i, eqF cv t o a q i < 60 := by
  intro a
  induction a with
  | zero => intro q h; exact va_up_lt h ht
  | succ a ih =>
    intro q h
    unfold eqF
    split
    · exact ih _ (va_up_lt h (h _))
    · exact va_up_lt h ht
theorem WM_en {M : MSt} (h : WM M) {t o w : Nat} (ht : t < 60) (ho : o < 85) (hw : w < 5) (hq : g_qs M o < 60) (c : Bool) : WM (m_en M t o w c) := by
  refine ⟨h.1, eqF_lt ht _ _ h.2.1, fun q => ?_, va_up_ol h.2.2.2.1 (fun x q => by cases q; exact ho), fun u => va_up_lt h.2.2.2.2.1 (by omega) u, h.2.2.2.2.2.1, fun u => va_up_lt h.2.2.2.2.2.2.1 hw u, h.2.2.2.2.2.2.2⟩
  show va_up (g_qs M) o _ q ≤ 60
  unfold va_up
  split
  · omega
  · exact h.2.2.1 q
theorem vcF_lt {M : MSt} {t : Nat} {c : Int64} : ∀ (f u : Nat) (b : Option Nat), (∀ x, b = some x → x < u) → ∀ x, vcF M t c f u b = some x → x < u + f := by
  intro f
  induction f with
  | zero => intro u b h; exact h
  | succ f ih =>
    intro u b h x q
    unfold vcF at q
    split at q
    · have := ih (u + 1) _ (fun y z => by
        split at z
        · cases z; omega
        · have := h y z; omega) x q
      omega
    · have := h x q; omega
theorem mvic_lt {M : MSt} {t v : Nat} (h : mvic M t = some v) : v < g_n M := by
  have := vcF_lt _ _ _ (fun x q => by cases q) v h
  omega
theorem upd_bt (f : Nat → Bool) (t : Nat) : upd (fun i => bI (f i)) t (vp_nar .boolean (nI 1)) = fun i => bI (va_up f t true i) := upd_b f t true
theorem upd_bf (f : Nat → Bool) (t : Nat) : upd (fun i => bI (f i)) t (vp_nar .boolean (nI 0)) = fun i => bI (va_up f t false i) := upd_b f t false
theorem c_ne1 : ¬ nI 1 = 0 := by decide
theorem c_ne2 : ¬ nI 2 = 0 := by decide
theorem c_ne3 : ¬ nI 3 = 0 := by decide
set_option maxHeartbeats 4000000 in
theorem lp_lk9 {d : Nat} {M : MSt} {t : Nat} {x2 x3 x4 x5 x6 : Int32} (ht : t < 60) (hst : ∀ t, g_st M t < 4) : AW r_lock d (.inl (some (.int (mans M t)))) (wM M) (248, [some (.ref 0), some (.int (nI t)), some (.int x2), some (.int x3), some (.int x4), some (.int x5), some (.int x6), none, none], [], wM M) := by
  show AW r_lock _ _ _ (248, [some (.ref 0), some (.int (nI t)), some (.int x2), some (.int x3), some (.int x4), some (.int x5), some (.int x6), none, none], [], mL (g_cd M) (g_n M) (g_pr M) (g_st M) (g_he M) (g_wt M) (g_wn M) (g_cv M) (g_qs M) (g_qu M) (g_v5 M) (g_v6 M) (g_v7 M))
  refine aq_go (n := 4) (c1 := (254, [some (.ref 0), some (.int (nI t)), some (.int x2), some (.int x3), some (.int x4), some (.int x5), some (.int x6), none, none], [.int (nI ((g_st M) (nI t).toNatClampNeg))], mL (g_cd M) (g_n M) (g_pr M) (g_st M) (g_he M) (g_wt M) (g_wn M) (g_cv M) (g_qs M) (g_qu M) (g_v5 M) (g_v6 M) (g_v7 M))) (P := vp_in (nI t) 60) ok_r_lock rfl (in60 ht) ?_
  rw [cl60 ht]
  refine aq_if_ne ok_r_lock rfl (fun h5 => ?_) (fun h5 => ?_)
  · have hb : ¬ g_st M t = 0 := fun q => h5 (by rw [q]; rfl)
    refine aq_go (n := 5) (c1 := (268, [some (.ref 0), some (.int (nI t)), some (.int x2), some (.int x3), some (.int x4), some (.int x5), some (.int x6), none, none], [.int (nI 1), .int (nI ((g_st M) (nI t).toNatClampNeg))], mL (g_cd M) (g_n M) (g_pr M) (g_st M) (g_he M) (g_wt M) (g_wn M) (g_cv M) (g_qs M) (g_qu M) (g_v5 M) (g_v6 M) (g_v7 M))) (P := vp_in (nI t) 60) ok_r_lock rfl (in60 ht) ?_
    rw [cl60 ht]
    refine aq_icmp_ne ok_r_lock rfl (fun h6 => ?_) (fun h6 => ?_)
    · have hc := q_ne h6
      refine aq_gn (n := 1) (c1 := (276, [some (.ref 0), some (.int (nI t)), some (.int x2), some (.int x3), some (.int x4), some (.int x5), some (.int x6), none, none], [.int (-1)], mL (g_cd M) (g_n M) (g_pr M) (g_st M) (g_he M) (g_wt M) (g_wn M) (g_cv M) (g_qs M) (g_qu M) (g_v5 M) (g_v6 M) (g_v7 M))) ok_r_lock rfl ?_
      exact aq_ei ok_r_lock rfl rfl (by rw [mans, if_neg hb, if_neg hc]) rfl
    · have hc := q_eq h6 (by have := hst t; omega) (by omega)
      refine aq_gn (n := 2) (c1 := (276, [some (.ref 0), some (.int (nI t)), some (.int x2), some (.int x3), some (.int x4), some (.int x5), some (.int x6), none, none], [.int (nI 0)], mL (g_cd M) (g_n M) (g_pr M) (g_st M) (g_he M) (g_wt M) (g_wn M) (g_cv M) (g_qs M) (g_qu M) (g_v5 M) (g_v6 M) (g_v7 M))) ok_r_lock rfl ?_
      exact aq_ei ok_r_lock rfl rfl (by rw [mans, if_neg hb, if_pos hc]) rfl
  · have hb := q_eq (b := 0) h5 (by have := hst t; omega) (by omega)
    refine aq_gn (n := 2) (c1 := (276, [some (.ref 0), some (.int (nI t)), some (.int x2), some (.int x3), some (.int x4), some (.int x5), some (.int x6), none, none], [.int (nI 1)], mL (g_cd M) (g_n M) (g_pr M) (g_st M) (g_he M) (g_wt M) (g_wn M) (g_cv M) (g_qs M) (g_qu M) (g_v5 M) (g_v6 M) (g_v7 M))) ok_r_lock rfl ?_
    exact aq_ei ok_r_lock rfl rfl (by rw [mans, if_pos hb]) rfl
set_option maxHeartbeats 4000000 in
theorem lp_lk {d : Nat} {t : Nat} {x2 x3 x4 x5 x6 : Int32} (ht : t < 60) : ∀ (f : Nat) (M : MSt), mlK t f M → AW r_lock (d + 4) (.inl (some (.int (mans (mlF t f M) t)))) (wM (mlF t f M)) (214, [some (.ref 0), some (.int (nI t)), some (.int x2), some (.int x3), some (.int x4), some (.int x5), some (.int x6), some (.int (oI (mvic M t))), none], [], wM M) := by
  intro f
  induction f with
  | zero =>
    intro M hK
    obtain ⟨⟨hM, hQ, hR⟩, htn, hv⟩ := hK
    refine aq_gn (n := 1) (c1 := (216, [some (.ref 0), some (.int (nI t)), some (.int x2), some (.int x3), some (.int x4), some (.int x5), some (.int x6), some (.int (oI (mvic M t))), none], [.int (oI (mvic M t))], wM M)) ok_r_lock rfl ?_
    refine aq_if_lt ok_r_lock rfl (fun h => ?_) (fun h => ?_)
    · refine aq_drop 7 ?_
      exact lp_lk9 ht hM.2.2.2.2.1
    · exact absurd (by rw [hv]; decide) h
  | succ f ih =>
    intro M hK
    obtain ⟨⟨hM, hQ, hR⟩, htn, hn⟩ := hK
    refine aq_gn (n := 1) (c1 := (216, [some (.ref 0), some (.int (nI t)), some (.int x2), some (.int x3), some (.int x4), some (.int x5), some (.int x6), some (.int (oI (mvic M t))), none], [.int (oI (mvic M t))], wM M)) ok_r_lock rfl ?_
    refine aq_if_lt ok_r_lock rfl (fun h => ?_) (fun h => ?_)
    · have hv : mvic M t = none := by cases hy : mvic M t with | none => rfl | some v => rw [hy] at h; exact absurd h (nI_pos (by have := mvic_lt hy; have := hM.1; omega))
      have e : mlF t (f + 1) M = M := by rw [mlF, hv]
      rw [e]
      refine aq_drop 7 ?_
      exact lp_lk9 ht hM.2.2.2.2.1
    · obtain ⟨v, hv⟩ : ∃ v, mvic M t = some v := by cases hy : mvic M t with | none => rw [hy] at h; exact absurd (by decide) h | some v => exact ⟨v, rfl⟩
      have e : mlF t (f + 1) M = mlF t f (mend (m_5 M) v 3).1 := by rw [mlF, hv]
      rw [e, hv]
      have hv6 : v < 60 := by have := mvic_lt hv; have := hM.1; omega
      show AW r_lock _ _ _ (219, [some (.ref 0), some (.int (nI t)), some (.int x2), some (.int x3), some (.int x4), some (.int x5), some (.int x6), some (.int (nI v)), none], [], mL (g_cd M) (g_n M) (g_pr M) (g_st M) (g_he M) (g_wt M) (g_wn M) (g_cv M) (g_qs M) (g_qu M) (g_v5 M) (g_v6 M) (g_v7 M))
      refine aq_go (n := 9) (c1 := (233, [some (.ref 0), some (.int (nI t)), some (.int x2), some (.int x3), some (.int x4), some (.int x5), some (.int x6), some (.int (nI v)), none], [.int (nI 3), .int (nI v), .ref 0], mR (nI (g_cd M)) (nI (g_n M)) (fun ι => nI ((g_pr M) ι)) (fun ι => nI ((g_st M) ι)) (fun ι => oI ((g_he M) ι)) (fun ι => oI ((g_wt M) ι)) (fun ι => nI ((g_wn M) ι)) (fun ι => bI ((g_cv M) ι)) (fun ι => nI ((g_qs M) ι)) (fun ι => nI ((g_qu M) ι)) ((nI (g_v5 M)) + (nI 1)) (nI (g_v6 M)) (nI (g_v7 M)))) (P := aq_fi 1 10 = true) ok_r_lock rfl fi1_10 ?_
      rw [nI_add]
      show AW r_lock _ _ _ (233, [some (.ref 0), some (.int (nI t)), some (.int x2), some (.int x3), some (.int x4), some (.int x5), some (.int x6), some (.int (nI v)), none], [.int (nI 3), .int (nI v), .ref 0], wM (m_5 M))
      obtain ⟨Q, hQ2⟩ : ∃ Q, Q = (mend (m_5 M) v 3).1 := ⟨_, rfl⟩
      have hK2 := hn v hv
      have hcall := rm_endIt (d := d) (M := m_5 M) (x := 3) hM hv6 (by omega)
      rw [← hQ2] at hK2 hcall ⊢
      have hWQ : WG Q ∧ t < g_n Q := by cases f with | zero => exact ⟨hK2.1, hK2.2.1⟩ | succ f => exact ⟨hK2.1, hK2.2.1⟩
      refine aq_callV (as := [.int (nI v), .int (nI 3)]) (st := []) ok_r_lock rfl c1_r_endIt hcall rfl (Nat.le_of_ble_eq_true rfl) rfl rfl rfl ?_
      refine aq_gn (n := 3) (c1 := (240, [some (.ref 0), some (.int (nI t)), some (.int x2), some (.int x3), some (.int x4), some (.int x5), some (.int x6), some (.int (nI v)), some (.int (nI (mend (m_5 M) v 3).2))], [.int (nI t), .ref 0], wM Q)) ok_r_lock rfl ?_
      refine aq_callV (as := [.int (nI t)]) (st := []) ok_r_lock rfl c1_r_victimOf (rm_victim (d := d) hWQ.1.1 hWQ.1.2.1 hWQ.1.2.2 ht hWQ.2) rfl (Nat.le_of_ble_eq_true rfl) rfl rfl rfl ?_
      refine aq_gn (n := 2) (c1 := (214, [some (.ref 0), some (.int (nI t)), some (.int x2), some (.int x3), some (.int x4), some (.int x5), some (.int x6), some (.int (oI (mvic Q t))), some (.int (nI (mend (m_5 M) v 3).2))], [], wM Q)) ok_r_lock rfl ?_
      refine aq_drop 8 ?_
      exact ih Q hK2
set_option maxHeartbeats 4000000 in
theorem lp_lk0 {d : Nat} {M : MSt} {t o m : Nat} (hM : WM M) (hN : WN M) (ht6 : t < 60) (ho : o < 85) (hm5 : m < 5) (hq : g_qs M o < 60) (hK : ¬ mlh M t o = some (mlw M t o m) → WG (mlp M t o m) ∧ mlK t 60 (mlp M t o m)) : AW r_lock (d + 4) (.inl (some (.int ((mlk M t o m).2)))) (wM (mlk M t o m).1) (111, [some (.ref 0), some (.int (nI t)), some (.int (nI o)), some (.int (nI m)), none, none, none, none, none], [], wM M) := by
  have hq2 : mdI (g_he M) t o = oI (mlh M t o) := mdI_v (hN (60 * o + t))
  have hh5 : ∀ y, mlh M t o = some y → y < 5 := hv_lt (hM.2.2.2.2.2.2.2 _)
  have hw5 : mlw M t o m < 5 := lub_lt hh5 hm5
  refine aq_gn (n := 3) (c1 := (114, [some (.ref 0), some (.int (nI t)), some (.int (nI o)), some (.int (nI m)), none, none, none, none, none], [.int (nI o), .int (nI t), .ref 0], wM M)) ok_r_lock rfl ?_
  refine aq_callV (as := [.int (nI t), .int (nI o)]) (st := []) ok_r_lock rfl c1_r_modeOf (rm_modeOfM ht6 ho) rfl (Nat.le_of_ble_eq_true rfl) rfl rfl rfl ?_
  rw [hq2]
  refine aq_gn (n := 2) (c1 := (121, [some (.ref 0), some (.int (nI t)), some (.int (nI o)), some (.int (nI m)), some (.int (oI (mlh M t o))), none, none, none, none], [.int (oI (mlh M t o))], wM M)) ok_r_lock rfl ?_
  refine aq_if_ge ok_r_lock rfl (fun h => ?_) (fun h => ?_)
  · obtain ⟨y, hy⟩ := oI_ge h
    refine aq_gn (n := 2) (c1 := (131, [some (.ref 0), some (.int (nI t)), some (.int (nI o)), some (.int (nI m)), some (.int (oI (mlh M t o))), none, none, none, none], [.int (nI m), .int (oI (mlh M t o))], wM M)) ok_r_lock rfl ?_
    refine aq_callS (as := [.int (oI (mlh M t o)), .int (nI m)]) (st := []) ok_r_lock rfl c1_r_leastAbove (rm_leastAbove (oI (mlh M t o)) (nI m)) rfl (Nat.le_of_ble_eq_true rfl) ?_
    have hr : rlI (oI (mlh M t o)) (nI m) = nI (mlw M t o m) := by rw [mlw, hy]; exact rlI_lub y (hh5 y hy) m hm5
    rw [hr]
    refine aq_gn (n := 3) (c1 := (140, [some (.ref 0), some (.int (nI t)), some (.int (nI o)), some (.int (nI m)), some (.int (oI (mlh M t o))), some (.int (nI (mlw M t o m))), none, none, none], [.int (oI (mlh M t o)), .int (nI (mlw M t o m))], wM M)) ok_r_lock rfl ?_
    refine aq_icmp_ne ok_r_lock rfl (fun hc => ?_) (fun hc => ?_)
    · have hne : ¬ mlh M t o = some (mlw M t o m) := fun q => hc (by rw [q]; rfl)
      obtain ⟨hWP, hKP⟩ := hK hne
      rw [mlk, if_neg hne]
      show AW r_lock _ _ _ (145, [some (.ref 0), some (.int (nI t)), some (.int (nI o)), some (.int (nI m)), some (.int (oI (mlh M t o))), some (.int (nI (mlw M t o m))), none, none, none], [], mL (g_cd M) (g_n M) (g_pr M) (g_st M) (g_he M) (g_wt M) (g_wn M) (g_cv M) (g_qs M) (g_qu M) (g_v5 M) (g_v6 M) (g_v7 M))
      refine aq_go (n := 9) (c1 := (160, [some (.ref 0), some (.int (nI t)), some (.int (nI o)), some (.int (nI m)), some (.int (oI (mlh M t o))), some (.int (nI (mlw M t o m))), none, none, none], [.int (oI (mlh M t o)), .int (nI t), .ref 6], mR (nI (g_cd M)) (nI (g_n M)) (fun ι => nI ((g_pr M) ι)) (fun ι => nI ((g_st M) ι)) (fun ι => oI ((g_he M) ι)) (fun ι => oI ((g_wt M) ι)) (upd (fun ι => nI ((g_wn M) ι)) (nI t).toNatClampNeg (nI (mlw M t o m))) (fun ι => bI ((g_cv M) ι)) (fun ι => nI ((g_qs M) ι)) (fun ι => nI ((g_qu M) ι)) (nI (g_v5 M)) (nI (g_v6 M)) (nI (g_v7 M)))) (P := vp_in (nI t) 60) ok_r_lock rfl (in60 ht6) ?_
      rw [cl60 ht6, upd_n]
      show AW r_lock _ _ _ (160, [some (.ref 0), some (.int (nI t)), some (.int (nI o)), some (.int (nI m)), some (.int (oI (mlh M t o))), some (.int (nI (mlw M t o m))), none, none, none], [.int (oI (mlh M t o)), .int (nI t), .ref 6], mL (g_cd M) (g_n M) (g_pr M) (g_st M) (g_he M) (g_wt M) (va_up (g_wn M) t (mlw M t o m)) (g_cv M) (g_qs M) (g_qu M) (g_v5 M) (g_v6 M) (g_v7 M))
      refine aq_if_lt ok_r_lock rfl (fun hd => ?_) (fun hd => ?_)
      · have hs : (mlh M t o).isSome = false := by cases hy : mlh M t o with | none => rfl | some y => rw [hy] at hd; exact absurd hd (nI_pos (by have := hh5 y hy; omega))
        refine aq_go (n := 15) (c1 := (186, [some (.ref 0), some (.int (nI t)), some (.int (nI o)), some (.int (nI m)), some (.int (oI (mlh M t o))), some (.int (nI (mlw M t o m))), none, none, none], [.int (nI o), .int (nI t), .ref 0], mR (nI (g_cd M)) (nI (g_n M)) (fun ι => nI ((g_pr M) ι)) (upd (fun ι => nI ((g_st M) ι)) (nI t).toNatClampNeg (nI 1)) (fun ι => oI ((g_he M) ι)) (upd (fun ι => oI ((g_wt M) ι)) (nI t).toNatClampNeg (nI o)) (fun ι => nI ((va_up (g_wn M) t (mlw M t o m)) ι)) (upd (fun ι => bI ((g_cv M) ι)) (nI t).toNatClampNeg (vp_nar .boolean (nI 0))) (fun ι => nI ((g_qs M) ι)) (fun ι => nI ((g_qu M) ι)) (nI (g_v5 M)) (nI (g_v6 M)) (nI (g_v7 M)))) (P := vp_in (nI t) 60 ∧ vp_in (nI t) 60 ∧ vp_in (nI t) 60) ok_r_lock rfl ⟨(in60 ht6), (in60 ht6), (in60 ht6)⟩ ?_
        rw [cl60 ht6, upd_bf, upd_o, upd_n]
        show AW r_lock _ _ _ (186, [some (.ref 0), some (.int (nI t)), some (.int (nI o)), some (.int (nI m)), some (.int (oI (mlh M t o))), some (.int (nI (mlw M t o m))), none, none, none], [.int (nI o), .int (nI t), .ref 0], mL (g_cd M) (g_n M) (g_pr M) (va_up (g_st M) t 1) (g_he M) (va_up (g_wt M) t (some o)) (va_up (g_wn M) t (mlw M t o m)) (va_up (g_cv M) t false) (g_qs M) (g_qu M) (g_v5 M) (g_v6 M) (g_v7 M))
        refine aq_callV (as := [.int (nI t), .int (nI o)]) (st := []) ok_r_lock rfl c1_r_enqueue (rm_enqueue (d := d + 3) ht6 ho hq hM.2.1) rfl (Nat.le_of_ble_eq_true rfl) rfl rfl rfl ?_
        have eq : m_en M t o (mlw M t o m) false = mlq M t o m := by rw [mlq, hs]
        show AW r_lock _ _ _ (189, [some (.ref 0), some (.int (nI t)), some (.int (nI o)), some (.int (nI m)), some (.int (oI (mlh M t o))), some (.int (nI (mlw M t o m))), none, none, none], [], wM (m_en M t o (mlw M t o m) false))
        have hWQ : WM (mlq M t o m) := WM_en hM ht6 ho hw5 hq _
        rw [eq]
        obtain ⟨Q, hQ⟩ : ∃ Q, Q = mlq M t o m := ⟨_, rfl⟩
        have eP : mlp M t o m = m_6 (ms Q o).1 (ms Q o).2 := by rw [mlp, hQ]
        rw [eP] at hKP hWP ⊢
        rw [← hQ] at hWQ ⊢
        refine aq_gn (n := 2) (c1 := (191, [some (.ref 0), some (.int (nI t)), some (.int (nI o)), some (.int (nI m)), some (.int (oI (mlh M t o))), some (.int (nI (mlw M t o m))), none, none, none], [.int (nI o), .ref 0], wM Q)) ok_r_lock rfl ?_
        refine aq_callV (as := [.int (nI o)]) (st := []) ok_r_lock rfl c1_r_serve (rm_serve (d := d + 1) hWQ ho) rfl (Nat.le_of_ble_eq_true rfl) rfl rfl rfl ?_
        show AW r_lock _ _ _ (194, [some (.ref 0), some (.int (nI t)), some (.int (nI o)), some (.int (nI m)), some (.int (oI (mlh M t o))), some (.int (nI (mlw M t o m))), none, none, none], [.int (nI (ms Q o).2)], mL (g_cd ((ms Q o).1)) (g_n ((ms Q o).1)) (g_pr ((ms Q o).1)) (g_st ((ms Q o).1)) (g_he ((ms Q o).1)) (g_wt ((ms Q o).1)) (g_wn ((ms Q o).1)) (g_cv ((ms Q o).1)) (g_qs ((ms Q o).1)) (g_qu ((ms Q o).1)) (g_v5 ((ms Q o).1)) (g_v6 ((ms Q o).1)) (g_v7 ((ms Q o).1)))
        refine aq_go (n := 9) (c1 := (209, [some (.ref 0), some (.int (nI t)), some (.int (nI o)), some (.int (nI m)), some (.int (oI (mlh M t o))), some (.int (nI (mlw M t o m))), some (.int (nI (ms Q o).2)), none, none], [.int (nI t), .ref 0], mR (nI (g_cd ((ms Q o).1))) (nI (g_n ((ms Q o).1))) (fun ι => nI ((g_pr ((ms Q o).1)) ι)) (fun ι => nI ((g_st ((ms Q o).1)) ι)) (fun ι => oI ((g_he ((ms Q o).1)) ι)) (fun ι => oI ((g_wt ((ms Q o).1)) ι)) (fun ι => nI ((g_wn ((ms Q o).1)) ι)) (fun ι => bI ((g_cv ((ms Q o).1)) ι)) (fun ι => nI ((g_qs ((ms Q o).1)) ι)) (fun ι => nI ((g_qu ((ms Q o).1)) ι)) (nI (g_v5 ((ms Q o).1))) ((nI (g_v6 ((ms Q o).1))) + (nI (ms Q o).2)) (nI (g_v7 ((ms Q o).1))))) (P := aq_fi 1 11 = true) ok_r_lock rfl fi1_11 ?_
        rw [nI_add]
        show AW r_lock _ _ _ (209, [some (.ref 0), some (.int (nI t)), some (.int (nI o)), some (.int (nI m)), some (.int (oI (mlh M t o))), some (.int (nI (mlw M t o m))), some (.int (nI (ms Q o).2)), none, none], [.int (nI t), .ref 0], wM (m_6 (ms Q o).1 (ms Q o).2))
        obtain ⟨P, hP⟩ : ∃ P, P = m_6 (ms Q o).1 (ms Q o).2 := ⟨_, rfl⟩
        rw [← hP] at hKP hWP ⊢
        refine aq_callV (as := [.int (nI t)]) (st := []) ok_r_lock rfl c1_r_victimOf (rm_victim (d := d) hWP.1 hWP.2.1 hWP.2.2 ht6 hKP.2.1) rfl (Nat.le_of_ble_eq_true rfl) rfl rfl rfl ?_
        refine aq_gn (n := 1) (c1 := (214, [some (.ref 0), some (.int (nI t)), some (.int (nI o)), some (.int (nI m)), some (.int (oI (mlh M t o))), some (.int (nI (mlw M t o m))), some (.int (nI (ms Q o).2)), some (.int (oI (mvic P t))), none], [], wM P)) ok_r_lock rfl ?_
        exact lp_lk ht6 60 P hKP
      · have hs : (mlh M t o).isSome = true := by cases hy : mlh M t o with | none => rw [hy] at hd; exact absurd (by decide) hd | some y => rfl
        refine aq_go (n := 16) (c1 := (186, [some (.ref 0), some (.int (nI t)), some (.int (nI o)), some (.int (nI m)), some (.int (oI (mlh M t o))), some (.int (nI (mlw M t o m))), none, none, none], [.int (nI o), .int (nI t), .ref 0], mR (nI (g_cd M)) (nI (g_n M)) (fun ι => nI ((g_pr M) ι)) (upd (fun ι => nI ((g_st M) ι)) (nI t).toNatClampNeg (nI 1)) (fun ι => oI ((g_he M) ι)) (upd (fun ι => oI ((g_wt M) ι)) (nI t).toNatClampNeg (nI o)) (fun ι => nI ((va_up (g_wn M) t (mlw M t o m)) ι)) (upd (fun ι => bI ((g_cv M) ι)) (nI t).toNatClampNeg (vp_nar .boolean (nI 1))) (fun ι => nI ((g_qs M) ι)) (fun ι => nI ((g_qu M) ι)) (nI (g_v5 M)) (nI (g_v6 M)) (nI (g_v7 M)))) (P := vp_in (nI t) 60 ∧ vp_in (nI t) 60 ∧ vp_in (nI t) 60) ok_r_lock rfl ⟨(in60 ht6), (in60 ht6), (in60 ht6)⟩ ?_
        rw [cl60 ht6, upd_bt, upd_o, upd_n]
        show AW r_lock _ _ _ (186, [some (.ref 0), some (.int (nI t)), some (.int (nI o)), some (.int (nI m)), some (.int (oI (mlh M t o))), some (.int (nI (mlw M t o m))), none, none, none], [.int (nI o), .int (nI t), .ref 0], mL (g_cd M) (g_n M) (g_pr M) (va_up (g_st M) t 1) (g_he M) (va_up (g_wt M) t (some o)) (va_up (g_wn M) t (mlw M t o m)) (va_up (g_cv M) t true) (g_qs M) (g_qu M) (g_v5 M) (g_v6 M) (g_v7 M))
        refine aq_callV (as := [.int (nI t), .int (nI o)]) (st := []) ok_r_lock rfl c1_r_enqueue (rm_enqueue (d := d + 3) ht6 ho hq hM.2.1) rfl (Nat.le_of_ble_eq_true rfl) rfl rfl rfl ?_
        have eq : m_en M t o (mlw M t o m) true = mlq M t o m := by rw [mlq, hs]
        show AW r_lock _ _ _ (189, [some (.ref 0), some (.int (nI t)), some (.int (nI o)), some (.int (nI m)), some (.int (oI (mlh M t o))), some (.int (nI (mlw M t o m))), none, none, none], [], wM (m_en M t o (mlw M t o m) true))
        have hWQ : WM (mlq M t o m) := WM_en hM ht6 ho hw5 hq _
        rw [eq]
        obtain ⟨Q, hQ⟩ : ∃ Q, Q = mlq M t o m := ⟨_, rfl⟩
        have eP : mlp M t o m = m_6 (ms Q o).1 (ms Q o).2 := by rw [mlp, hQ]
        rw [eP] at hKP hWP ⊢
        rw [← hQ] at hWQ ⊢
        refine aq_gn (n := 2) (c1 := (191, [some (.ref 0), some (.int (nI t)), some (.int (nI o)), some (.int (nI m)), some (.int (oI (mlh M t o))), some (.int (nI (mlw M t o m))), none, none, none], [.int (nI o), .ref 0], wM Q)) ok_r_lock rfl ?_
        refine aq_callV (as := [.int (nI o)]) (st := []) ok_r_lock rfl c1_r_serve (rm_serve (d := d + 1) hWQ ho) rfl (Nat.le_of_ble_eq_true rfl) rfl rfl rfl ?_
        show AW r_lock _ _ _ (194, [some (.ref 0), some (.int (nI t)), some (.int (nI o)), some (.int (nI m)), some (.int (oI (mlh M t o))), some (.int (nI (mlw M t o m))), none, none, none], [.int (nI (ms Q o).2)], mL (g_cd ((ms Q o).1)) (g_n ((ms Q o).1)) (g_pr ((ms Q o).1)) (g_st ((ms Q o).1)) (g_he ((ms Q o).1)) (g_wt ((ms Q o).1)) (g_wn ((ms Q o).1)) (g_cv ((ms Q o).1)) (g_qs ((ms Q o).1)) (g_qu ((ms Q o).1)) (g_v5 ((ms Q o).1)) (g_v6 ((ms Q o).1)) (g_v7 ((ms Q o).1)))
        refine aq_go (n := 9) (c1 := (209, [some (.ref 0), some (.int (nI t)), some (.int (nI o)), some (.int (nI m)), some (.int (oI (mlh M t o))), some (.int (nI (mlw M t o m))), some (.int (nI (ms Q o).2)), none, none], [.int (nI t), .ref 0], mR (nI (g_cd ((ms Q o).1))) (nI (g_n ((ms Q o).1))) (fun ι => nI ((g_pr ((ms Q o).1)) ι)) (fun ι => nI ((g_st ((ms Q o).1)) ι)) (fun ι => oI ((g_he ((ms Q o).1)) ι)) (fun ι => oI ((g_wt ((ms Q o).1)) ι)) (fun ι => nI ((g_wn ((ms Q o).1)) ι)) (fun ι => bI ((g_cv ((ms Q o).1)) ι)) (fun ι => nI ((g_qs ((ms Q o).1)) ι)) (fun ι => nI ((g_qu ((ms Q o).1)) ι)) (nI (g_v5 ((ms Q o).1))) ((nI (g_v6 ((ms Q o).1))) + (nI (ms Q o).2)) (nI (g_v7 ((ms Q o).1))))) (P := aq_fi 1 11 = true) ok_r_lock rfl fi1_11 ?_
        rw [nI_add]
        show AW r_lock _ _ _ (209, [some (.ref 0), some (.int (nI t)), some (.int (nI o)), some (.int (nI m)), some (.int (oI (mlh M t o))), some (.int (nI (mlw M t o m))), some (.int (nI (ms Q o).2)), none, none], [.int (nI t), .ref 0], wM (m_6 (ms Q o).1 (ms Q o).2))
        obtain ⟨P, hP⟩ : ∃ P, P = m_6 (ms Q o).1 (ms Q o).2 := ⟨_, rfl⟩
        rw [← hP] at hKP hWP ⊢
        refine aq_callV (as := [.int (nI t)]) (st := []) ok_r_lock rfl c1_r_victimOf (rm_victim (d := d) hWP.1 hWP.2.1 hWP.2.2 ht6 hKP.2.1) rfl (Nat.le_of_ble_eq_true rfl) rfl rfl rfl ?_
        refine aq_gn (n := 1) (c1 := (214, [some (.ref 0), some (.int (nI t)), some (.int (nI o)), some (.int (nI m)), some (.int (oI (mlh M t o))), some (.int (nI (mlw M t o m))), some (.int (nI (ms Q o).2)), some (.int (oI (mvic P t))), none], [], wM P)) ok_r_lock rfl ?_
        exact lp_lk ht6 60 P hKP
    · have he := oI_eq' hc (by omega) (fun x q => by have := hh5 x q; omega)
      rw [mlk, if_pos he]
      refine aq_gn (n := 1) (c1 := (144, [some (.ref 0), some (.int (nI t)), some (.int (nI o)), some (.int (nI m)), some (.int (oI (mlh M t o))), some (.int (nI (mlw M t o m))), none, none, none], [.int (nI 1)], wM M)) ok_r_lock rfl ?_
      exact aq_ei ok_r_lock rfl rfl rfl rfl
  · have hy := oI_nge h (fun x q => by have := hh5 x q; omega)
    have hr : nI m = nI (mlw M t o m) := by rw [mlw, hy]; rfl
    refine aq_gn (n := 2) (c1 := (134, [some (.ref 0), some (.int (nI t)), some (.int (nI o)), some (.int (nI m)), some (.int (oI (mlh M t o))), none, none, none, none], [.int (nI m)], wM M)) ok_r_lock rfl ?_
    have hmm : nI m = nI (mlw M t o m) := hr
    suffices hh : AW r_lock (d + 4) (.inl (some (.int ((mlk M t o m).2)))) (wM (mlk M t o m).1) (134, [some (.ref 0), some (.int (nI t)), some (.int (nI o)), some (.int (nI m)), some (.int (oI (mlh M t o))), none, none, none, none], [.int (nI (mlw M t o m))], wM M) by rw [← hr] at hh; exact hh
    refine aq_gn (n := 3) (c1 := (140, [some (.ref 0), some (.int (nI t)), some (.int (nI o)), some (.int (nI m)), some (.int (oI (mlh M t o))), some (.int (nI (mlw M t o m))), none, none, none], [.int (oI (mlh M t o)), .int (nI (mlw M t o m))], wM M)) ok_r_lock rfl ?_
    refine aq_icmp_ne ok_r_lock rfl (fun hc => ?_) (fun hc => ?_)
    · have hne : ¬ mlh M t o = some (mlw M t o m) := fun q => hc (by rw [q]; rfl)
      obtain ⟨hWP, hKP⟩ := hK hne
      rw [mlk, if_neg hne]
      show AW r_lock _ _ _ (145, [some (.ref 0), some (.int (nI t)), some (.int (nI o)), some (.int (nI m)), some (.int (oI (mlh M t o))), some (.int (nI (mlw M t o m))), none, none, none], [], mL (g_cd M) (g_n M) (g_pr M) (g_st M) (g_he M) (g_wt M) (g_wn M) (g_cv M) (g_qs M) (g_qu M) (g_v5 M) (g_v6 M) (g_v7 M))
      refine aq_go (n := 9) (c1 := (160, [some (.ref 0), some (.int (nI t)), some (.int (nI o)), some (.int (nI m)), some (.int (oI (mlh M t o))), some (.int (nI (mlw M t o m))), none, none, none], [.int (oI (mlh M t o)), .int (nI t), .ref 6], mR (nI (g_cd M)) (nI (g_n M)) (fun ι => nI ((g_pr M) ι)) (fun ι => nI ((g_st M) ι)) (fun ι => oI ((g_he M) ι)) (fun ι => oI ((g_wt M) ι)) (upd (fun ι => nI ((g_wn M) ι)) (nI t).toNatClampNeg (nI (mlw M t o m))) (fun ι => bI ((g_cv M) ι)) (fun ι => nI ((g_qs M) ι)) (fun ι => nI ((g_qu M) ι)) (nI (g_v5 M)) (nI (g_v6 M)) (nI (g_v7 M)))) (P := vp_in (nI t) 60) ok_r_lock rfl (in60 ht6) ?_
      rw [cl60 ht6, upd_n]
      show AW r_lock _ _ _ (160, [some (.ref 0), some (.int (nI t)), some (.int (nI o)), some (.int (nI m)), some (.int (oI (mlh M t o))), some (.int (nI (mlw M t o m))), none, none, none], [.int (oI (mlh M t o)), .int (nI t), .ref 6], mL (g_cd M) (g_n M) (g_pr M) (g_st M) (g_he M) (g_wt M) (va_up (g_wn M) t (mlw M t o m)) (g_cv M) (g_qs M) (g_qu M) (g_v5 M) (g_v6 M) (g_v7 M))
      refine aq_if_lt ok_r_lock rfl (fun hd => ?_) (fun hd => ?_)
      · have hs : (mlh M t o).isSome = false := by cases hy : mlh M t o with | none => rfl | some y => rw [hy] at hd; exact absurd hd (nI_pos (by have := hh5 y hy; omega))
        refine aq_go (n := 15) (c1 := (186, [some (.ref 0), some (.int (nI t)), some (.int (nI o)), some (.int (nI m)), some (.int (oI (mlh M t o))), some (.int (nI (mlw M t o m))), none, none, none], [.int (nI o), .int (nI t), .ref 0], mR (nI (g_cd M)) (nI (g_n M)) (fun ι => nI ((g_pr M) ι)) (upd (fun ι => nI ((g_st M) ι)) (nI t).toNatClampNeg (nI 1)) (fun ι => oI ((g_he M) ι)) (upd (fun ι => oI ((g_wt M) ι)) (nI t).toNatClampNeg (nI o)) (fun ι => nI ((va_up (g_wn M) t (mlw M t o m)) ι)) (upd (fun ι => bI ((g_cv M) ι)) (nI t).toNatClampNeg (vp_nar .boolean (nI 0))) (fun ι => nI ((g_qs M) ι)) (fun ι => nI ((g_qu M) ι)) (nI (g_v5 M)) (nI (g_v6 M)) (nI (g_v7 M)))) (P := vp_in (nI t) 60 ∧ vp_in (nI t) 60 ∧ vp_in (nI t) 60) ok_r_lock rfl ⟨(in60 ht6), (in60 ht6), (in60 ht6)⟩ ?_
        rw [cl60 ht6, upd_bf, upd_o, upd_n]
        show AW r_lock _ _ _ (186, [some (.ref 0), some (.int (nI t)), some (.int (nI o)), some (.int (nI m)), some (.int (oI (mlh M t o))), some (.int (nI (mlw M t o m))), none, none, none], [.int (nI o), .int (nI t), .ref 0], mL (g_cd M) (g_n M) (g_pr M) (va_up (g_st M) t 1) (g_he M) (va_up (g_wt M) t (some o)) (va_up (g_wn M) t (mlw M t o m)) (va_up (g_cv M) t false) (g_qs M) (g_qu M) (g_v5 M) (g_v6 M) (g_v7 M))
        refine aq_callV (as := [.int (nI t), .int (nI o)]) (st := []) ok_r_lock rfl c1_r_enqueue (rm_enqueue (d := d + 3) ht6 ho hq hM.2.1) rfl (Nat.le_of_ble_eq_true rfl) rfl rfl rfl ?_
        have eq : m_en M t o (mlw M t o m) false = mlq M t o m := by rw [mlq, hs]
        show AW r_lock _ _ _ (189, [some (.ref 0), some (.int (nI t)), some (.int (nI o)), some (.int (nI m)), some (.int (oI (mlh M t o))), some (.int (nI (mlw M t o m))), none, none, none], [], wM (m_en M t o (mlw M t o m) false))
        have hWQ : WM (mlq M t o m) := WM_en hM ht6 ho hw5 hq _
        rw [eq]
        obtain ⟨Q, hQ⟩ : ∃ Q, Q = mlq M t o m := ⟨_, rfl⟩
        have eP : mlp M t o m = m_6 (ms Q o).1 (ms Q o).2 := by rw [mlp, hQ]
        rw [eP] at hKP hWP ⊢
        rw [← hQ] at hWQ ⊢
        refine aq_gn (n := 2) (c1 := (191, [some (.ref 0), some (.int (nI t)), some (.int (nI o)), some (.int (nI m)), some (.int (oI (mlh M t o))), some (.int (nI (mlw M t o m))), none, none, none], [.int (nI o), .ref 0], wM Q)) ok_r_lock rfl ?_
        refine aq_callV (as := [.int (nI o)]) (st := []) ok_r_lock rfl c1_r_serve (rm_serve (d := d + 1) hWQ ho) rfl (Nat.le_of_ble_eq_true rfl) rfl rfl rfl ?_
        show AW r_lock _ _ _ (194, [some (.ref 0), some (.int (nI t)), some (.int (nI o)), some (.int (nI m)), some (.int (oI (mlh M t o))), some (.int (nI (mlw M t o m))), none, none, none], [.int (nI (ms Q o).2)], mL (g_cd ((ms Q o).1)) (g_n ((ms Q o).1)) (g_pr ((ms Q o).1)) (g_st ((ms Q o).1)) (g_he ((ms Q o).1)) (g_wt ((ms Q o).1)) (g_wn ((ms Q o).1)) (g_cv ((ms Q o).1)) (g_qs ((ms Q o).1)) (g_qu ((ms Q o).1)) (g_v5 ((ms Q o).1)) (g_v6 ((ms Q o).1)) (g_v7 ((ms Q o).1)))
        refine aq_go (n := 9) (c1 := (209, [some (.ref 0), some (.int (nI t)), some (.int (nI o)), some (.int (nI m)), some (.int (oI (mlh M t o))), some (.int (nI (mlw M t o m))), some (.int (nI (ms Q o).2)), none, none], [.int (nI t), .ref 0], mR (nI (g_cd ((ms Q o).1))) (nI (g_n ((ms Q o).1))) (fun ι => nI ((g_pr ((ms Q o).1)) ι)) (fun ι => nI ((g_st ((ms Q o).1)) ι)) (fun ι => oI ((g_he ((ms Q o).1)) ι)) (fun ι => oI ((g_wt ((ms Q o).1)) ι)) (fun ι => nI ((g_wn ((ms Q o).1)) ι)) (fun ι => bI ((g_cv ((ms Q o).1)) ι)) (fun ι => nI ((g_qs ((ms Q o).1)) ι)) (fun ι => nI ((g_qu ((ms Q o).1)) ι)) (nI (g_v5 ((ms Q o).1))) ((nI (g_v6 ((ms Q o).1))) + (nI (ms Q o).2)) (nI (g_v7 ((ms Q o).1))))) (P := aq_fi 1 11 = true) ok_r_lock rfl fi1_11 ?_
        rw [nI_add]
        show AW r_lock _ _ _ (209, [some (.ref 0), some (.int (nI t)), some (.int (nI o)), some (.int (nI m)), some (.int (oI (mlh M t o))), some (.int (nI (mlw M t o m))), some (.int (nI (ms Q o).2)), none, none], [.int (nI t), .ref 0], wM (m_6 (ms Q o).1 (ms Q o).2))
        obtain ⟨P, hP⟩ : ∃ P, P = m_6 (ms Q o).1 (ms Q o).2 := ⟨_, rfl⟩
        rw [← hP] at hKP hWP ⊢
        refine aq_callV (as := [.int (nI t)]) (st := []) ok_r_lock rfl c1_r_victimOf (rm_victim (d := d) hWP.1 hWP.2.1 hWP.2.2 ht6 hKP.2.1) rfl (Nat.le_of_ble_eq_true rfl) rfl rfl rfl ?_
        refine aq_gn (n := 1) (c1 := (214, [some (.ref 0), some (.int (nI t)), some (.int (nI o)), some (.int (nI m)), some (.int (oI (mlh M t o))), some (.int (nI (mlw M t o m))), some (.int (nI (ms Q o).2)), some (.int (oI (mvic P t))), none], [], wM P)) ok_r_lock rfl ?_
        exact lp_lk ht6 60 P hKP
      · have hs : (mlh M t o).isSome = true := by cases hy : mlh M t o with | none => rw [hy] at hd; exact absurd (by decide) hd | some y => rfl
        refine aq_go (n := 16) (c1 := (186, [some (.ref 0), some (.int (nI t)), some (.int (nI o)), some (.int (nI m)), some (.int (oI (mlh M t o))), some (.int (nI (mlw M t o m))), none, none, none], [.int (nI o), .int (nI t), .ref 0], mR (nI (g_cd M)) (nI (g_n M)) (fun ι => nI ((g_pr M) ι)) (upd (fun ι => nI ((g_st M) ι)) (nI t).toNatClampNeg (nI 1)) (fun ι => oI ((g_he M) ι)) (upd (fun ι => oI ((g_wt M) ι)) (nI t).toNatClampNeg (nI o)) (fun ι => nI ((va_up (g_wn M) t (mlw M t o m)) ι)) (upd (fun ι => bI ((g_cv M) ι)) (nI t).toNatClampNeg (vp_nar .boolean (nI 1))) (fun ι => nI ((g_qs M) ι)) (fun ι => nI ((g_qu M) ι)) (nI (g_v5 M)) (nI (g_v6 M)) (nI (g_v7 M)))) (P := vp_in (nI t) 60 ∧ vp_in (nI t) 60 ∧ vp_in (nI t) 60) ok_r_lock rfl ⟨(in60 ht6), (in60 ht6), (in60 ht6)⟩ ?_
        rw [cl60 ht6, upd_bt, upd_o, upd_n]
        show AW r_lock _ _ _ (186, [some (.ref 0), some (.int (nI t)), some (.int (nI o)), some (.int (nI m)), some (.int (oI (mlh M t o))), some (.int (nI (mlw M t o m))), none, none, none], [.int (nI o), .int (nI t), .ref 0], mL (g_cd M) (g_n M) (g_pr M) (va_up (g_st M) t 1) (g_he M) (va_up (g_wt M) t (some o)) (va_up (g_wn M) t (mlw M t o m)) (va_up (g_cv M) t true) (g_qs M) (g_qu M) (g_v5 M) (g_v6 M) (g_v7 M))
        refine aq_callV (as := [.int (nI t), .int (nI o)]) (st := []) ok_r_lock rfl c1_r_enqueue (rm_enqueue (d := d + 3) ht6 ho hq hM.2.1) rfl (Nat.le_of_ble_eq_true rfl) rfl rfl rfl ?_
        have eq : m_en M t o (mlw M t o m) true = mlq M t o m := by rw [mlq, hs]
        show AW r_lock _ _ _ (189, [some (.ref 0), some (.int (nI t)), some (.int (nI o)), some (.int (nI m)), some (.int (oI (mlh M t o))), some (.int (nI (mlw M t o m))), none, none, none], [], wM (m_en M t o (mlw M t o m) true))
        have hWQ : WM (mlq M t o m) := WM_en hM ht6 ho hw5 hq _
        rw [eq]
        obtain ⟨Q, hQ⟩ : ∃ Q, Q = mlq M t o m := ⟨_, rfl⟩
        have eP : mlp M t o m = m_6 (ms Q o).1 (ms Q o).2 := by rw [mlp, hQ]
        rw [eP] at hKP hWP ⊢
        rw [← hQ] at hWQ ⊢
        refine aq_gn (n := 2) (c1 := (191, [some (.ref 0), some (.int (nI t)), some (.int (nI o)), some (.int (nI m)), some (.int (oI (mlh M t o))), some (.int (nI (mlw M t o m))), none, none, none], [.int (nI o), .ref 0], wM Q)) ok_r_lock rfl ?_
        refine aq_callV (as := [.int (nI o)]) (st := []) ok_r_lock rfl c1_r_serve (rm_serve (d := d + 1) hWQ ho) rfl (Nat.le_of_ble_eq_true rfl) rfl rfl rfl ?_
        show AW r_lock _ _ _ (194, [some (.ref 0), some (.int (nI t)), some (.int (nI o)), some (.int (nI m)), some (.int (oI (mlh M t o))), some (.int (nI (mlw M t o m))), none, none, none], [.int (nI (ms Q o).2)], mL (g_cd ((ms Q o).1)) (g_n ((ms Q o).1)) (g_pr ((ms Q o).1)) (g_st ((ms Q o).1)) (g_he ((ms Q o).1)) (g_wt ((ms Q o).1)) (g_wn ((ms Q o).1)) (g_cv ((ms Q o).1)) (g_qs ((ms Q o).1)) (g_qu ((ms Q o).1)) (g_v5 ((ms Q o).1)) (g_v6 ((ms Q o).1)) (g_v7 ((ms Q o).1)))
        refine aq_go (n := 9) (c1 := (209, [some (.ref 0), some (.int (nI t)), some (.int (nI o)), some (.int (nI m)), some (.int (oI (mlh M t o))), some (.int (nI (mlw M t o m))), some (.int (nI (ms Q o).2)), none, none], [.int (nI t), .ref 0], mR (nI (g_cd ((ms Q o).1))) (nI (g_n ((ms Q o).1))) (fun ι => nI ((g_pr ((ms Q o).1)) ι)) (fun ι => nI ((g_st ((ms Q o).1)) ι)) (fun ι => oI ((g_he ((ms Q o).1)) ι)) (fun ι => oI ((g_wt ((ms Q o).1)) ι)) (fun ι => nI ((g_wn ((ms Q o).1)) ι)) (fun ι => bI ((g_cv ((ms Q o).1)) ι)) (fun ι => nI ((g_qs ((ms Q o).1)) ι)) (fun ι => nI ((g_qu ((ms Q o).1)) ι)) (nI (g_v5 ((ms Q o).1))) ((nI (g_v6 ((ms Q o).1))) + (nI (ms Q o).2)) (nI (g_v7 ((ms Q o).1))))) (P := aq_fi 1 11 = true) ok_r_lock rfl fi1_11 ?_
        rw [nI_add]
        show AW r_lock _ _ _ (209, [some (.ref 0), some (.int (nI t)), some (.int (nI o)), some (.int (nI m)), some (.int (oI (mlh M t o))), some (.int (nI (mlw M t o m))), some (.int (nI (ms Q o).2)), none, none], [.int (nI t), .ref 0], wM (m_6 (ms Q o).1 (ms Q o).2))
        obtain ⟨P, hP⟩ : ∃ P, P = m_6 (ms Q o).1 (ms Q o).2 := ⟨_, rfl⟩
        rw [← hP] at hKP hWP ⊢
        refine aq_callV (as := [.int (nI t)]) (st := []) ok_r_lock rfl c1_r_victimOf (rm_victim (d := d) hWP.1 hWP.2.1 hWP.2.2 ht6 hKP.2.1) rfl (Nat.le_of_ble_eq_true rfl) rfl rfl rfl ?_
        refine aq_gn (n := 1) (c1 := (214, [some (.ref 0), some (.int (nI t)), some (.int (nI o)), some (.int (nI m)), some (.int (oI (mlh M t o))), some (.int (nI (mlw M t o m))), some (.int (nI (ms Q o).2)), some (.int (oI (mvic P t))), none], [], wM P)) ok_r_lock rfl ?_
        exact lp_lk ht6 60 P hKP
    · have he := oI_eq' hc (by omega) (fun x q => by have := hh5 x q; omega)
      rw [mlk, if_pos he]
      refine aq_gn (n := 1) (c1 := (144, [some (.ref 0), some (.int (nI t)), some (.int (nI o)), some (.int (nI m)), some (.int (oI (mlh M t o))), some (.int (nI (mlw M t o m))), none, none, none], [.int (nI 1)], wM M)) ok_r_lock rfl ?_
      exact aq_ei ok_r_lock rfl rfl rfl rfl
set_option maxHeartbeats 4000000 in
theorem rm_lock_t {d : Nat} {M : MSt} {x y z : Int32} (hx : x < 0 ∨ nI (g_n M) ≤ x) : AM r_lock (d + 1) (.inl (some (.int (nI 0)))) [.ref 0, .int x, .int y, .int z] (wM M) (wM (m_cd M 1)) := by
  refine aq_enter pl_r_lock (Nat.le_of_ble_eq_true rfl) ?_
  refine aq_gn (n := 3) (c1 := (3, [some (.ref 0), some (.int x), some (.int y), some (.int z), none, none, none, none, none], [.int x, .ref 0, .ref 0], wM M)) ok_r_lock rfl ?_
  refine aq_callV (as := [.int x]) (st := [.ref 0]) ok_r_lock rfl c1_r_isTransaction (rm_isTransactionM x) rfl (Nat.le_of_ble_eq_true rfl) rfl rfl rfl ?_
  rw [isT_out hx]
  refine aq_if_eq ok_r_lock rfl (fun h => ?_) (fun h => ?_)
  · show AW r_lock _ _ _ (16, [some (.ref 0), some (.int x), some (.int y), some (.int z), none, none, none, none, none], [.ref 0], mL (g_cd M) (g_n M) (g_pr M) (g_st M) (g_he M) (g_wt M) (g_wn M) (g_cv M) (g_qs M) (g_qu M) (g_v5 M) (g_v6 M) (g_v7 M))
    refine aq_go (n := 5) (c1 := (54, [some (.ref 0), some (.int x), some (.int y), some (.int z), none, none, none, none, none], [.int (nI 1)], mR (nI 1) (nI (g_n M)) (fun ι => nI ((g_pr M) ι)) (fun ι => nI ((g_st M) ι)) (fun ι => oI ((g_he M) ι)) (fun ι => oI ((g_wt M) ι)) (fun ι => nI ((g_wn M) ι)) (fun ι => bI ((g_cv M) ι)) (fun ι => nI ((g_qs M) ι)) (fun ι => nI ((g_qu M) ι)) (nI (g_v5 M)) (nI (g_v6 M)) (nI (g_v7 M)))) (P := aq_fi 1 0 = true) ok_r_lock rfl fi1_0 ?_
    show AW r_lock _ _ _ (54, [some (.ref 0), some (.int x), some (.int y), some (.int z), none, none, none, none, none], [.int (nI 1)], mL 1 (g_n (m_cd M 1)) (g_pr (m_cd M 1)) (g_st (m_cd M 1)) (g_he (m_cd M 1)) (g_wt (m_cd M 1)) (g_wn (m_cd M 1)) (g_cv (m_cd M 1)) (g_qs (m_cd M 1)) (g_qu (m_cd M 1)) (g_v5 (m_cd M 1)) (g_v6 (m_cd M 1)) (g_v7 (m_cd M 1)))
    refine aq_if_ne ok_r_lock rfl (fun hz => ?_) (fun hz => ?_)
    · refine aq_gn (n := 2) (c1 := (106, [some (.ref 0), some (.int x), some (.int y), some (.int z), none, none, none, none, none], [.int (nI 1)], mL 1 (g_n (m_cd M 1)) (g_pr (m_cd M 1)) (g_st (m_cd M 1)) (g_he (m_cd M 1)) (g_wt (m_cd M 1)) (g_wn (m_cd M 1)) (g_cv (m_cd M 1)) (g_qs (m_cd M 1)) (g_qu (m_cd M 1)) (g_v5 (m_cd M 1)) (g_v6 (m_cd M 1)) (g_v7 (m_cd M 1)))) ok_r_lock rfl ?_
      refine aq_if_le ok_r_lock rfl (fun hy2 => ?_) (fun hy2 => ?_)
      · exact absurd hy2 c_le1
      · refine aq_gn (n := 1) (c1 := (110, [some (.ref 0), some (.int x), some (.int y), some (.int z), none, none, none, none, none], [.int (nI 0)], mL 1 (g_n (m_cd M 1)) (g_pr (m_cd M 1)) (g_st (m_cd M 1)) (g_he (m_cd M 1)) (g_wt (m_cd M 1)) (g_wn (m_cd M 1)) (g_cv (m_cd M 1)) (g_qs (m_cd M 1)) (g_qu (m_cd M 1)) (g_v5 (m_cd M 1)) (g_v6 (m_cd M 1)) (g_v7 (m_cd M 1)))) ok_r_lock rfl ?_
        exact aq_ei ok_r_lock rfl rfl rfl rfl
    · exact absurd hz c_ne1
  · exact absurd rfl h
set_option maxHeartbeats 4000000 in
theorem rm_lock_o {d : Nat} {M : MSt} {t : Nat} {y z : Int32} (hM : WM M) (ht : t < g_n M) (hy : y < 0 ∨ nI 85 ≤ y) : AM r_lock (d + 1) (.inl (some (.int (nI 0)))) [.ref 0, .int (nI t), .int y, .int z] (wM M) (wM (m_cd M 1)) := by
  refine aq_enter pl_r_lock (Nat.le_of_ble_eq_true rfl) ?_
  have ht6 : t < 60 := Nat.lt_of_lt_of_le ht hM.1
  refine aq_gn (n := 3) (c1 := (3, [some (.ref 0), some (.int (nI t)), some (.int y), some (.int z), none, none, none, none, none], [.int (nI t), .ref 0, .ref 0], wM M)) ok_r_lock rfl ?_
  refine aq_callV (as := [.int (nI t)]) (st := [.ref 0]) ok_r_lock rfl c1_r_isTransaction (rm_isTransactionM (nI t)) rfl (Nat.le_of_ble_eq_true rfl) rfl rfl rfl ?_
  rw [isT_in ht (show g_n M < 2 ^ 31 by have := hM.1; omega)]
  refine aq_if_eq ok_r_lock rfl (fun h => ?_) (fun h => ?_)
  · exact absurd h bI_t
  · refine aq_gn (n := 1) (c1 := (10, [some (.ref 0), some (.int (nI t)), some (.int y), some (.int z), none, none, none, none, none], [.int y, .ref 0], wM M)) ok_r_lock rfl ?_
    refine aq_callS (as := [.int y]) (st := [.ref 0]) ok_r_lock rfl c1_r_isObject (rm_isObject y) rfl (Nat.le_of_ble_eq_true rfl) ?_
    rw [isT_out hy]
    refine aq_if_ne ok_r_lock rfl (fun h1 => ?_) (fun h1 => ?_)
    · exact absurd rfl h1
    · show AW r_lock _ _ _ (16, [some (.ref 0), some (.int (nI t)), some (.int y), some (.int z), none, none, none, none, none], [.ref 0], mL (g_cd M) (g_n M) (g_pr M) (g_st M) (g_he M) (g_wt M) (g_wn M) (g_cv M) (g_qs M) (g_qu M) (g_v5 M) (g_v6 M) (g_v7 M))
      refine aq_go (n := 5) (c1 := (54, [some (.ref 0), some (.int (nI t)), some (.int y), some (.int z), none, none, none, none, none], [.int (nI 1)], mR (nI 1) (nI (g_n M)) (fun ι => nI ((g_pr M) ι)) (fun ι => nI ((g_st M) ι)) (fun ι => oI ((g_he M) ι)) (fun ι => oI ((g_wt M) ι)) (fun ι => nI ((g_wn M) ι)) (fun ι => bI ((g_cv M) ι)) (fun ι => nI ((g_qs M) ι)) (fun ι => nI ((g_qu M) ι)) (nI (g_v5 M)) (nI (g_v6 M)) (nI (g_v7 M)))) (P := aq_fi 1 0 = true) ok_r_lock rfl fi1_0 ?_
      show AW r_lock _ _ _ (54, [some (.ref 0), some (.int (nI t)), some (.int y), some (.int z), none, none, none, none, none], [.int (nI 1)], mL 1 (g_n (m_cd M 1)) (g_pr (m_cd M 1)) (g_st (m_cd M 1)) (g_he (m_cd M 1)) (g_wt (m_cd M 1)) (g_wn (m_cd M 1)) (g_cv (m_cd M 1)) (g_qs (m_cd M 1)) (g_qu (m_cd M 1)) (g_v5 (m_cd M 1)) (g_v6 (m_cd M 1)) (g_v7 (m_cd M 1)))
      refine aq_if_ne ok_r_lock rfl (fun hz => ?_) (fun hz => ?_)
      · refine aq_gn (n := 2) (c1 := (106, [some (.ref 0), some (.int (nI t)), some (.int y), some (.int z), none, none, none, none, none], [.int (nI 1)], mL 1 (g_n (m_cd M 1)) (g_pr (m_cd M 1)) (g_st (m_cd M 1)) (g_he (m_cd M 1)) (g_wt (m_cd M 1)) (g_wn (m_cd M 1)) (g_cv (m_cd M 1)) (g_qs (m_cd M 1)) (g_qu (m_cd M 1)) (g_v5 (m_cd M 1)) (g_v6 (m_cd M 1)) (g_v7 (m_cd M 1)))) ok_r_lock rfl ?_
        refine aq_if_le ok_r_lock rfl (fun hy2 => ?_) (fun hy2 => ?_)
        · exact absurd hy2 c_le1
        · refine aq_gn (n := 1) (c1 := (110, [some (.ref 0), some (.int (nI t)), some (.int y), some (.int z), none, none, none, none, none], [.int (nI 0)], mL 1 (g_n (m_cd M 1)) (g_pr (m_cd M 1)) (g_st (m_cd M 1)) (g_he (m_cd M 1)) (g_wt (m_cd M 1)) (g_wn (m_cd M 1)) (g_cv (m_cd M 1)) (g_qs (m_cd M 1)) (g_qu (m_cd M 1)) (g_v5 (m_cd M 1)) (g_v6 (m_cd M 1)) (g_v7 (m_cd M 1)))) ok_r_lock rfl ?_
          exact aq_ei ok_r_lock rfl rfl rfl rfl
      · exact absurd hz c_ne1
set_option maxHeartbeats 4000000 in
theorem rm_lock_m {d : Nat} {M : MSt} {t o : Nat} {z : Int32} (hM : WM M) (ht : t < g_n M) (ho : o < 85) (hx : z < 0 ∨ nI 5 ≤ z) : AM r_lock (d + 1) (.inl (some (.int (nI 0)))) [.ref 0, .int (nI t), .int (nI o), .int z] (wM M) (wM (m_cd M 2)) := by
  refine aq_enter pl_r_lock (Nat.le_of_ble_eq_true rfl) ?_
  have ht6 : t < 60 := Nat.lt_of_lt_of_le ht hM.1
  refine aq_gn (n := 3) (c1 := (3, [some (.ref 0), some (.int (nI t)), some (.int (nI o)), some (.int z), none, none, none, none, none], [.int (nI t), .ref 0, .ref 0], wM M)) ok_r_lock rfl ?_
  refine aq_callV (as := [.int (nI t)]) (st := [.ref 0]) ok_r_lock rfl c1_r_isTransaction (rm_isTransactionM (nI t)) rfl (Nat.le_of_ble_eq_true rfl) rfl rfl rfl ?_
  rw [isT_in ht (show g_n M < 2 ^ 31 by have := hM.1; omega)]
  refine aq_if_eq ok_r_lock rfl (fun h => ?_) (fun h => ?_)
  · exact absurd h bI_t
  · refine aq_gn (n := 1) (c1 := (10, [some (.ref 0), some (.int (nI t)), some (.int (nI o)), some (.int z), none, none, none, none, none], [.int (nI o), .ref 0], wM M)) ok_r_lock rfl ?_
    refine aq_callS (as := [.int (nI o)]) (st := [.ref 0]) ok_r_lock rfl c1_r_isObject (rm_isObject (nI o)) rfl (Nat.le_of_ble_eq_true rfl) ?_
    rw [isT_in ho (by omega)]
    refine aq_if_ne ok_r_lock rfl (fun h1 => ?_) (fun h1 => ?_)
    · show AW r_lock _ _ _ (20, [some (.ref 0), some (.int (nI t)), some (.int (nI o)), some (.int z), none, none, none, none, none], [.ref 0], mL (g_cd M) (g_n M) (g_pr M) (g_st M) (g_he M) (g_wt M) (g_wn M) (g_cv M) (g_qs M) (g_qu M) (g_v5 M) (g_v6 M) (g_v7 M))
      refine aq_gn (n := 1) (c1 := (21, [some (.ref 0), some (.int (nI t)), some (.int (nI o)), some (.int z), none, none, none, none, none], [.int z, .ref 0], mL (g_cd M) (g_n M) (g_pr M) (g_st M) (g_he M) (g_wt M) (g_wn M) (g_cv M) (g_qs M) (g_qu M) (g_v5 M) (g_v6 M) (g_v7 M))) ok_r_lock rfl ?_
      refine aq_if_lt ok_r_lock rfl (fun h2 => ?_) (fun h2 => ?_)
      · refine aq_go (n := 5) (c1 := (54, [some (.ref 0), some (.int (nI t)), some (.int (nI o)), some (.int z), none, none, none, none, none], [.int (nI 2)], mR (nI 2) (nI (g_n M)) (fun ι => nI ((g_pr M) ι)) (fun ι => nI ((g_st M) ι)) (fun ι => oI ((g_he M) ι)) (fun ι => oI ((g_wt M) ι)) (fun ι => nI ((g_wn M) ι)) (fun ι => bI ((g_cv M) ι)) (fun ι => nI ((g_qs M) ι)) (fun ι => nI ((g_qu M) ι)) (nI (g_v5 M)) (nI (g_v6 M)) (nI (g_v7 M)))) (P := aq_fi 1 0 = true) ok_r_lock rfl fi1_0 ?_
        show AW r_lock _ _ _ (54, [some (.ref 0), some (.int (nI t)), some (.int (nI o)), some (.int z), none, none, none, none, none], [.int (nI 2)], mL 2 (g_n (m_cd M 2)) (g_pr (m_cd M 2)) (g_st (m_cd M 2)) (g_he (m_cd M 2)) (g_wt (m_cd M 2)) (g_wn (m_cd M 2)) (g_cv (m_cd M 2)) (g_qs (m_cd M 2)) (g_qu (m_cd M 2)) (g_v5 (m_cd M 2)) (g_v6 (m_cd M 2)) (g_v7 (m_cd M 2)))
        refine aq_if_ne ok_r_lock rfl (fun hz => ?_) (fun hz => ?_)
        · refine aq_gn (n := 2) (c1 := (106, [some (.ref 0), some (.int (nI t)), some (.int (nI o)), some (.int z), none, none, none, none, none], [.int (nI 2)], mL 2 (g_n (m_cd M 2)) (g_pr (m_cd M 2)) (g_st (m_cd M 2)) (g_he (m_cd M 2)) (g_wt (m_cd M 2)) (g_wn (m_cd M 2)) (g_cv (m_cd M 2)) (g_qs (m_cd M 2)) (g_qu (m_cd M 2)) (g_v5 (m_cd M 2)) (g_v6 (m_cd M 2)) (g_v7 (m_cd M 2)))) ok_r_lock rfl ?_
          refine aq_if_le ok_r_lock rfl (fun hy2 => ?_) (fun hy2 => ?_)
          · exact absurd hy2 c_le2
          · refine aq_gn (n := 1) (c1 := (110, [some (.ref 0), some (.int (nI t)), some (.int (nI o)), some (.int z), none, none, none, none, none], [.int (nI 0)], mL 2 (g_n (m_cd M 2)) (g_pr (m_cd M 2)) (g_st (m_cd M 2)) (g_he (m_cd M 2)) (g_wt (m_cd M 2)) (g_wn (m_cd M 2)) (g_cv (m_cd M 2)) (g_qs (m_cd M 2)) (g_qu (m_cd M 2)) (g_v5 (m_cd M 2)) (g_v6 (m_cd M 2)) (g_v7 (m_cd M 2)))) ok_r_lock rfl ?_
            exact aq_ei ok_r_lock rfl rfl rfl rfl
        · exact absurd hz c_ne2
      · refine aq_gn (n := 2) (c1 := (26, [some (.ref 0), some (.int (nI t)), some (.int (nI o)), some (.int z), none, none, none, none, none], [.int (nI 4), .int z, .ref 0], mL (g_cd M) (g_n M) (g_pr M) (g_st M) (g_he M) (g_wt M) (g_wn M) (g_cv M) (g_qs M) (g_qu M) (g_v5 M) (g_v6 M) (g_v7 M))) ok_r_lock rfl ?_
        refine aq_icmp_le ok_r_lock rfl (fun h3 => ?_) (fun h3 => ?_)
        · exact absurd hx (fun q => q.elim h2 (fun q => absurd (Int32.le_trans q h3) (by decide)))
        · refine aq_go (n := 5) (c1 := (54, [some (.ref 0), some (.int (nI t)), some (.int (nI o)), some (.int z), none, none, none, none, none], [.int (nI 2)], mR (nI 2) (nI (g_n M)) (fun ι => nI ((g_pr M) ι)) (fun ι => nI ((g_st M) ι)) (fun ι => oI ((g_he M) ι)) (fun ι => oI ((g_wt M) ι)) (fun ι => nI ((g_wn M) ι)) (fun ι => bI ((g_cv M) ι)) (fun ι => nI ((g_qs M) ι)) (fun ι => nI ((g_qu M) ι)) (nI (g_v5 M)) (nI (g_v6 M)) (nI (g_v7 M)))) (P := aq_fi 1 0 = true) ok_r_lock rfl fi1_0 ?_
          show AW r_lock _ _ _ (54, [some (.ref 0), some (.int (nI t)), some (.int (nI o)), some (.int z), none, none, none, none, none], [.int (nI 2)], mL 2 (g_n (m_cd M 2)) (g_pr (m_cd M 2)) (g_st (m_cd M 2)) (g_he (m_cd M 2)) (g_wt (m_cd M 2)) (g_wn (m_cd M 2)) (g_cv (m_cd M 2)) (g_qs (m_cd M 2)) (g_qu (m_cd M 2)) (g_v5 (m_cd M 2)) (g_v6 (m_cd M 2)) (g_v7 (m_cd M 2)))
          refine aq_if_ne ok_r_lock rfl (fun hz => ?_) (fun hz => ?_)
          · refine aq_gn (n := 2) (c1 := (106, [some (.ref 0), some (.int (nI t)), some (.int (nI o)), some (.int z), none, none, none, none, none], [.int (nI 2)], mL 2 (g_n (m_cd M 2)) (g_pr (m_cd M 2)) (g_st (m_cd M 2)) (g_he (m_cd M 2)) (g_wt (m_cd M 2)) (g_wn (m_cd M 2)) (g_cv (m_cd M 2)) (g_qs (m_cd M 2)) (g_qu (m_cd M 2)) (g_v5 (m_cd M 2)) (g_v6 (m_cd M 2)) (g_v7 (m_cd M 2)))) ok_r_lock rfl ?_
            refine aq_if_le ok_r_lock rfl (fun hy2 => ?_) (fun hy2 => ?_)
            · exact absurd hy2 c_le2
            · refine aq_gn (n := 1) (c1 := (110, [some (.ref 0), some (.int (nI t)), some (.int (nI o)), some (.int z), none, none, none, none, none], [.int (nI 0)], mL 2 (g_n (m_cd M 2)) (g_pr (m_cd M 2)) (g_st (m_cd M 2)) (g_he (m_cd M 2)) (g_wt (m_cd M 2)) (g_wn (m_cd M 2)) (g_cv (m_cd M 2)) (g_qs (m_cd M 2)) (g_qu (m_cd M 2)) (g_v5 (m_cd M 2)) (g_v6 (m_cd M 2)) (g_v7 (m_cd M 2)))) ok_r_lock rfl ?_
              exact aq_ei ok_r_lock rfl rfl rfl rfl
          · exact absurd hz c_ne2
    · exact absurd h1 bI_t
set_option maxHeartbeats 4000000 in
theorem rm_lock_a {d : Nat} {M : MSt} {t o m : Nat} (hM : WM M) (ht : t < g_n M) (ho : o < 85) (hm5 : m < 5) (hs : ¬ g_st M t = 0) : AM r_lock (d + 1) (.inl (some (.int (nI 0)))) [.ref 0, .int (nI t), .int (nI o), .int (nI m)] (wM M) (wM (m_cd M 3)) := by
  refine aq_enter pl_r_lock (Nat.le_of_ble_eq_true rfl) ?_
  have ht6 : t < 60 := Nat.lt_of_lt_of_le ht hM.1
  refine aq_gn (n := 3) (c1 := (3, [some (.ref 0), some (.int (nI t)), some (.int (nI o)), some (.int (nI m)), none, none, none, none, none], [.int (nI t), .ref 0, .ref 0], wM M)) ok_r_lock rfl ?_
  refine aq_callV (as := [.int (nI t)]) (st := [.ref 0]) ok_r_lock rfl c1_r_isTransaction (rm_isTransactionM (nI t)) rfl (Nat.le_of_ble_eq_true rfl) rfl rfl rfl ?_
  rw [isT_in ht (show g_n M < 2 ^ 31 by have := hM.1; omega)]
  refine aq_if_eq ok_r_lock rfl (fun h => ?_) (fun h => ?_)
  · exact absurd h bI_t
  · refine aq_gn (n := 1) (c1 := (10, [some (.ref 0), some (.int (nI t)), some (.int (nI o)), some (.int (nI m)), none, none, none, none, none], [.int (nI o), .ref 0], wM M)) ok_r_lock rfl ?_
    refine aq_callS (as := [.int (nI o)]) (st := [.ref 0]) ok_r_lock rfl c1_r_isObject (rm_isObject (nI o)) rfl (Nat.le_of_ble_eq_true rfl) ?_
    rw [isT_in ho (by omega)]
    refine aq_if_ne ok_r_lock rfl (fun h1 => ?_) (fun h1 => ?_)
    · show AW r_lock _ _ _ (20, [some (.ref 0), some (.int (nI t)), some (.int (nI o)), some (.int (nI m)), none, none, none, none, none], [.ref 0], mL (g_cd M) (g_n M) (g_pr M) (g_st M) (g_he M) (g_wt M) (g_wn M) (g_cv M) (g_qs M) (g_qu M) (g_v5 M) (g_v6 M) (g_v7 M))
      refine aq_gn (n := 1) (c1 := (21, [some (.ref 0), some (.int (nI t)), some (.int (nI o)), some (.int (nI m)), none, none, none, none, none], [.int (nI m), .ref 0], mL (g_cd M) (g_n M) (g_pr M) (g_st M) (g_he M) (g_wt M) (g_wn M) (g_cv M) (g_qs M) (g_qu M) (g_v5 M) (g_v6 M) (g_v7 M))) ok_r_lock rfl ?_
      refine aq_if_lt ok_r_lock rfl (fun h2 => ?_) (fun h2 => ?_)
      · exact absurd h2 (nI_pos (by omega))
      · refine aq_gn (n := 2) (c1 := (26, [some (.ref 0), some (.int (nI t)), some (.int (nI o)), some (.int (nI m)), none, none, none, none, none], [.int (nI 4), .int (nI m), .ref 0], mL (g_cd M) (g_n M) (g_pr M) (g_st M) (g_he M) (g_wt M) (g_wn M) (g_cv M) (g_qs M) (g_qu M) (g_v5 M) (g_v6 M) (g_v7 M))) ok_r_lock rfl ?_
        refine aq_icmp_le ok_r_lock rfl (fun h3 => ?_) (fun h3 => ?_)
        · refine aq_go (n := 4) (c1 := (39, [some (.ref 0), some (.int (nI t)), some (.int (nI o)), some (.int (nI m)), none, none, none, none, none], [.int (nI ((g_st M) (nI t).toNatClampNeg)), .ref 0], mL (g_cd M) (g_n M) (g_pr M) (g_st M) (g_he M) (g_wt M) (g_wn M) (g_cv M) (g_qs M) (g_qu M) (g_v5 M) (g_v6 M) (g_v7 M))) (P := vp_in (nI t) 60) ok_r_lock rfl (in60 ht6) ?_
          rw [cl60 ht6]
          refine aq_if_eq ok_r_lock rfl (fun h4 => ?_) (fun h4 => ?_)
          · exact absurd (q_eq (b := 0) h4 (by have := hM.2.2.2.2.1 t; omega) (by omega)) hs
          · refine aq_go (n := 5) (c1 := (54, [some (.ref 0), some (.int (nI t)), some (.int (nI o)), some (.int (nI m)), none, none, none, none, none], [.int (nI 3)], mR (nI 3) (nI (g_n M)) (fun ι => nI ((g_pr M) ι)) (fun ι => nI ((g_st M) ι)) (fun ι => oI ((g_he M) ι)) (fun ι => oI ((g_wt M) ι)) (fun ι => nI ((g_wn M) ι)) (fun ι => bI ((g_cv M) ι)) (fun ι => nI ((g_qs M) ι)) (fun ι => nI ((g_qu M) ι)) (nI (g_v5 M)) (nI (g_v6 M)) (nI (g_v7 M)))) (P := aq_fi 1 0 = true) ok_r_lock rfl fi1_0 ?_
            show AW r_lock _ _ _ (54, [some (.ref 0), some (.int (nI t)), some (.int (nI o)), some (.int (nI m)), none, none, none, none, none], [.int (nI 3)], mL 3 (g_n (m_cd M 3)) (g_pr (m_cd M 3)) (g_st (m_cd M 3)) (g_he (m_cd M 3)) (g_wt (m_cd M 3)) (g_wn (m_cd M 3)) (g_cv (m_cd M 3)) (g_qs (m_cd M 3)) (g_qu (m_cd M 3)) (g_v5 (m_cd M 3)) (g_v6 (m_cd M 3)) (g_v7 (m_cd M 3)))
            refine aq_if_ne ok_r_lock rfl (fun hz => ?_) (fun hz => ?_)
            · refine aq_gn (n := 2) (c1 := (106, [some (.ref 0), some (.int (nI t)), some (.int (nI o)), some (.int (nI m)), none, none, none, none, none], [.int (nI 3)], mL 3 (g_n (m_cd M 3)) (g_pr (m_cd M 3)) (g_st (m_cd M 3)) (g_he (m_cd M 3)) (g_wt (m_cd M 3)) (g_wn (m_cd M 3)) (g_cv (m_cd M 3)) (g_qs (m_cd M 3)) (g_qu (m_cd M 3)) (g_v5 (m_cd M 3)) (g_v6 (m_cd M 3)) (g_v7 (m_cd M 3)))) ok_r_lock rfl ?_
              refine aq_if_le ok_r_lock rfl (fun hy2 => ?_) (fun hy2 => ?_)
              · exact absurd hy2 c_le3
              · refine aq_gn (n := 1) (c1 := (110, [some (.ref 0), some (.int (nI t)), some (.int (nI o)), some (.int (nI m)), none, none, none, none, none], [.int (nI 0)], mL 3 (g_n (m_cd M 3)) (g_pr (m_cd M 3)) (g_st (m_cd M 3)) (g_he (m_cd M 3)) (g_wt (m_cd M 3)) (g_wn (m_cd M 3)) (g_cv (m_cd M 3)) (g_qs (m_cd M 3)) (g_qu (m_cd M 3)) (g_v5 (m_cd M 3)) (g_v6 (m_cd M 3)) (g_v7 (m_cd M 3)))) ok_r_lock rfl ?_
                exact aq_ei ok_r_lock rfl rfl rfl rfl
            · exact absurd hz c_ne3
        · exact absurd (nI_le (show m ≤ 4 by omega) (by omega)) h3
    · exact absurd h1 bI_t
set_option maxHeartbeats 4000000 in
theorem rm_lock_n {d : Nat} {M : MSt} {t o m : Nat} (hM : WM M) (ht : t < g_n M) (ho : o < 85) (hm5 : m < 5) (hs : g_st M t = 0) (hu : upM M t o m = false) : AM r_lock (d + 1) (.inl (some (.int (nI 0)))) [.ref 0, .int (nI t), .int (nI o), .int (nI m)] (wM M) (wM (m_cd M 3)) := by
  refine aq_enter pl_r_lock (Nat.le_of_ble_eq_true rfl) ?_
  have ht6 : t < 60 := Nat.lt_of_lt_of_le ht hM.1
  refine aq_gn (n := 3) (c1 := (3, [some (.ref 0), some (.int (nI t)), some (.int (nI o)), some (.int (nI m)), none, none, none, none, none], [.int (nI t), .ref 0, .ref 0], wM M)) ok_r_lock rfl ?_
  refine aq_callV (as := [.int (nI t)]) (st := [.ref 0]) ok_r_lock rfl c1_r_isTransaction (rm_isTransactionM (nI t)) rfl (Nat.le_of_ble_eq_true rfl) rfl rfl rfl ?_
  rw [isT_in ht (show g_n M < 2 ^ 31 by have := hM.1; omega)]
  refine aq_if_eq ok_r_lock rfl (fun h => ?_) (fun h => ?_)
  · exact absurd h bI_t
  · refine aq_gn (n := 1) (c1 := (10, [some (.ref 0), some (.int (nI t)), some (.int (nI o)), some (.int (nI m)), none, none, none, none, none], [.int (nI o), .ref 0], wM M)) ok_r_lock rfl ?_
    refine aq_callS (as := [.int (nI o)]) (st := [.ref 0]) ok_r_lock rfl c1_r_isObject (rm_isObject (nI o)) rfl (Nat.le_of_ble_eq_true rfl) ?_
    rw [isT_in ho (by omega)]
    refine aq_if_ne ok_r_lock rfl (fun h1 => ?_) (fun h1 => ?_)
    · show AW r_lock _ _ _ (20, [some (.ref 0), some (.int (nI t)), some (.int (nI o)), some (.int (nI m)), none, none, none, none, none], [.ref 0], mL (g_cd M) (g_n M) (g_pr M) (g_st M) (g_he M) (g_wt M) (g_wn M) (g_cv M) (g_qs M) (g_qu M) (g_v5 M) (g_v6 M) (g_v7 M))
      refine aq_gn (n := 1) (c1 := (21, [some (.ref 0), some (.int (nI t)), some (.int (nI o)), some (.int (nI m)), none, none, none, none, none], [.int (nI m), .ref 0], mL (g_cd M) (g_n M) (g_pr M) (g_st M) (g_he M) (g_wt M) (g_wn M) (g_cv M) (g_qs M) (g_qu M) (g_v5 M) (g_v6 M) (g_v7 M))) ok_r_lock rfl ?_
      refine aq_if_lt ok_r_lock rfl (fun h2 => ?_) (fun h2 => ?_)
      · exact absurd h2 (nI_pos (by omega))
      · refine aq_gn (n := 2) (c1 := (26, [some (.ref 0), some (.int (nI t)), some (.int (nI o)), some (.int (nI m)), none, none, none, none, none], [.int (nI 4), .int (nI m), .ref 0], mL (g_cd M) (g_n M) (g_pr M) (g_st M) (g_he M) (g_wt M) (g_wn M) (g_cv M) (g_qs M) (g_qu M) (g_v5 M) (g_v6 M) (g_v7 M))) ok_r_lock rfl ?_
        refine aq_icmp_le ok_r_lock rfl (fun h3 => ?_) (fun h3 => ?_)
        · refine aq_go (n := 4) (c1 := (39, [some (.ref 0), some (.int (nI t)), some (.int (nI o)), some (.int (nI m)), none, none, none, none, none], [.int (nI ((g_st M) (nI t).toNatClampNeg)), .ref 0], mL (g_cd M) (g_n M) (g_pr M) (g_st M) (g_he M) (g_wt M) (g_wn M) (g_cv M) (g_qs M) (g_qu M) (g_v5 M) (g_v6 M) (g_v7 M))) (P := vp_in (nI t) 60) ok_r_lock rfl (in60 ht6) ?_
          rw [cl60 ht6]
          refine aq_if_eq ok_r_lock rfl (fun h4 => ?_) (fun h4 => ?_)
          · refine aq_go (n := 4) (c1 := (54, [some (.ref 0), some (.int (nI t)), some (.int (nI o)), some (.int (nI m)), none, none, none, none, none], [.int (nI 0)], mR (nI 0) (nI (g_n M)) (fun ι => nI ((g_pr M) ι)) (fun ι => nI ((g_st M) ι)) (fun ι => oI ((g_he M) ι)) (fun ι => oI ((g_wt M) ι)) (fun ι => nI ((g_wn M) ι)) (fun ι => bI ((g_cv M) ι)) (fun ι => nI ((g_qs M) ι)) (fun ι => nI ((g_qu M) ι)) (nI (g_v5 M)) (nI (g_v6 M)) (nI (g_v7 M)))) (P := aq_fi 1 0 = true) ok_r_lock rfl fi1_0 ?_
            show AW r_lock _ _ _ (54, [some (.ref 0), some (.int (nI t)), some (.int (nI o)), some (.int (nI m)), none, none, none, none, none], [.int (nI 0)], mL 0 (g_n (m_cd M 0)) (g_pr (m_cd M 0)) (g_st (m_cd M 0)) (g_he (m_cd M 0)) (g_wt (m_cd M 0)) (g_wn (m_cd M 0)) (g_cv (m_cd M 0)) (g_qs (m_cd M 0)) (g_qu (m_cd M 0)) (g_v5 (m_cd M 0)) (g_v6 (m_cd M 0)) (g_v7 (m_cd M 0)))
            refine aq_if_ne ok_r_lock rfl (fun h5 => ?_) (fun h5 => ?_)
            · exact absurd rfl h5
            · refine aq_gn (n := 1) (c1 := (58, [some (.ref 0), some (.int (nI t)), some (.int (nI o)), some (.int (nI m)), none, none, none, none, none], [.int (nI o)], mL 0 (g_n (m_cd M 0)) (g_pr (m_cd M 0)) (g_st (m_cd M 0)) (g_he (m_cd M 0)) (g_wt (m_cd M 0)) (g_wn (m_cd M 0)) (g_cv (m_cd M 0)) (g_qs (m_cd M 0)) (g_qu (m_cd M 0)) (g_v5 (m_cd M 0)) (g_v6 (m_cd M 0)) (g_v7 (m_cd M 0)))) ok_r_lock rfl ?_
              refine aq_if_le ok_r_lock rfl (fun h6 => ?_) (fun h6 => ?_)
              · have hz0 := q_le (b := 0) h6 (by omega) (by omega)
                have hz1 : o = 0 := by omega
                exact absurd hu (by rw [upM, if_pos hz1]; exact fun q => by cases q)
              · have hz0 : 0 < o := q_nle (b := 0) h6 (by omega) (by omega)
                have hz1 : ¬ o = 0 := by omega
                show AW r_lock _ _ _ (61, [some (.ref 0), some (.int (nI t)), some (.int (nI o)), some (.int (nI m)), none, none, none, none, none], [], wM (m_cd M 0))
                refine aq_go (n := 7) (c1 := (68, [some (.ref 0), some (.int (nI t)), some (.int (nI o)), some (.int (nI m)), none, none, none, none, none], [.int (((nI o) - (nI 1)) / (nI 4)), .int (nI t), .ref 0], wM (m_cd M 0))) (P := ¬ (nI 4) = 0) ok_r_lock rfl (by decide) ?_
                rw [dv4 o ho hz0]
                refine aq_callV (as := [.int (nI t), .int (nI ((o - 1) / 4))]) (st := []) ok_r_lock rfl c1_r_modeOf (rm_modeOfM (M := m_cd M 0) ht6 (show (o - 1) / 4 < 85 by omega)) rfl (Nat.le_of_ble_eq_true rfl) rfl rfl rfl ?_
                refine aq_gn (n := 3) (c1 := (76, [some (.ref 0), some (.int (nI t)), some (.int (nI o)), some (.int (nI m)), some (.int (mdI (g_he M) t ((o - 1) / 4))), none, none, none, none], [.int (mdI (g_he M) t ((o - 1) / 4)), .ref 0], wM (m_cd M 0))) ok_r_lock rfl ?_
                refine aq_if_lt ok_r_lock rfl (fun h8 => ?_) (fun h8 => ?_)
                · show AW r_lock _ _ _ (94, [some (.ref 0), some (.int (nI t)), some (.int (nI o)), some (.int (nI m)), some (.int (mdI (g_he M) t ((o - 1) / 4))), none, none, none, none], [.ref 0], mL (g_cd (m_cd M 0)) (g_n (m_cd M 0)) (g_pr (m_cd M 0)) (g_st (m_cd M 0)) (g_he (m_cd M 0)) (g_wt (m_cd M 0)) (g_wn (m_cd M 0)) (g_cv (m_cd M 0)) (g_qs (m_cd M 0)) (g_qu (m_cd M 0)) (g_v5 (m_cd M 0)) (g_v6 (m_cd M 0)) (g_v7 (m_cd M 0)))
                  refine aq_go (n := 5) (c1 := (106, [some (.ref 0), some (.int (nI t)), some (.int (nI o)), some (.int (nI m)), some (.int (mdI (g_he M) t ((o - 1) / 4))), none, none, none, none], [.int (nI 3)], mR (nI 3) (nI (g_n (m_cd M 0))) (fun ι => nI ((g_pr (m_cd M 0)) ι)) (fun ι => nI ((g_st (m_cd M 0)) ι)) (fun ι => oI ((g_he (m_cd M 0)) ι)) (fun ι => oI ((g_wt (m_cd M 0)) ι)) (fun ι => nI ((g_wn (m_cd M 0)) ι)) (fun ι => bI ((g_cv (m_cd M 0)) ι)) (fun ι => nI ((g_qs (m_cd M 0)) ι)) (fun ι => nI ((g_qu (m_cd M 0)) ι)) (nI (g_v5 (m_cd M 0))) (nI (g_v6 (m_cd M 0))) (nI (g_v7 (m_cd M 0))))) (P := aq_fi 1 0 = true) ok_r_lock rfl fi1_0 ?_
                  show AW r_lock _ _ _ (106, [some (.ref 0), some (.int (nI t)), some (.int (nI o)), some (.int (nI m)), some (.int (mdI (g_he M) t ((o - 1) / 4))), none, none, none, none], [.int (nI 3)], wM (m_cd M 3))
                  refine aq_if_le ok_r_lock rfl (fun h9 => ?_) (fun h9 => ?_)
                  · exact absurd h9 c_le3
                  · refine aq_gn (n := 1) (c1 := (110, [some (.ref 0), some (.int (nI t)), some (.int (nI o)), some (.int (nI m)), some (.int (mdI (g_he M) t ((o - 1) / 4))), none, none, none, none], [.int (nI 0)], wM (m_cd M 3))) ok_r_lock rfl ?_
                    exact aq_ei ok_r_lock rfl rfl rfl rfl
                · refine aq_gn (n := 1) (c1 := (80, [some (.ref 0), some (.int (nI t)), some (.int (nI o)), some (.int (nI m)), some (.int (mdI (g_he M) t ((o - 1) / 4))), none, none, none, none], [.int (nI m), .ref 0], wM (m_cd M 0))) ok_r_lock rfl ?_
                  refine aq_callS (as := [.int (nI m)]) (st := [.ref 0]) ok_r_lock rfl c1_r_isWriting (rm_isWriting (nI m)) rfl (Nat.le_of_ble_eq_true rfl) ?_
                  refine aq_if_eq ok_r_lock rfl (fun ha => ?_) (fun ha => ?_)
                  · have hw := (bI_0 _).mp ha
                    exact absurd hu (by rw [upM, if_neg hz1, if_neg h8, hw, if_neg (by decide)]; exact fun q => by cases q)
                  · have hw : rwI (nI m) = true := by cases hy : rwI (nI m) with | true => rfl | false => exact absurd ((bI_0 _).mpr hy) ha
                    refine aq_gn (n := 1) (c1 := (88, [some (.ref 0), some (.int (nI t)), some (.int (nI o)), some (.int (nI m)), some (.int (mdI (g_he M) t ((o - 1) / 4))), none, none, none, none], [.int (mdI (g_he M) t ((o - 1) / 4)), .ref 0], wM (m_cd M 0))) ok_r_lock rfl ?_
                    refine aq_callS (as := [.int (mdI (g_he M) t ((o - 1) / 4))]) (st := [.ref 0]) ok_r_lock rfl c1_r_isWriting (rm_isWriting (mdI (g_he M) t ((o - 1) / 4))) rfl (Nat.le_of_ble_eq_true rfl) ?_
                    refine aq_if_ne ok_r_lock rfl (fun hb => ?_) (fun hb => ?_)
                    · have hv : rwI (mdI (g_he M) t ((o - 1) / 4)) = true := by cases hy : rwI (mdI (g_he M) t ((o - 1) / 4)) with | true => rfl | false => exact absurd ((bI_0 _).mpr hy) hb
                      exact absurd hu (by rw [upM, if_neg hz1, if_neg h8, if_pos hw, hv]; exact fun q => by cases q)
                    · have hv := (bI_0 _).mp hb
                      show AW r_lock _ _ _ (94, [some (.ref 0), some (.int (nI t)), some (.int (nI o)), some (.int (nI m)), some (.int (mdI (g_he M) t ((o - 1) / 4))), none, none, none, none], [.ref 0], mL (g_cd (m_cd M 0)) (g_n (m_cd M 0)) (g_pr (m_cd M 0)) (g_st (m_cd M 0)) (g_he (m_cd M 0)) (g_wt (m_cd M 0)) (g_wn (m_cd M 0)) (g_cv (m_cd M 0)) (g_qs (m_cd M 0)) (g_qu (m_cd M 0)) (g_v5 (m_cd M 0)) (g_v6 (m_cd M 0)) (g_v7 (m_cd M 0)))
                      refine aq_go (n := 5) (c1 := (106, [some (.ref 0), some (.int (nI t)), some (.int (nI o)), some (.int (nI m)), some (.int (mdI (g_he M) t ((o - 1) / 4))), none, none, none, none], [.int (nI 3)], mR (nI 3) (nI (g_n (m_cd M 0))) (fun ι => nI ((g_pr (m_cd M 0)) ι)) (fun ι => nI ((g_st (m_cd M 0)) ι)) (fun ι => oI ((g_he (m_cd M 0)) ι)) (fun ι => oI ((g_wt (m_cd M 0)) ι)) (fun ι => nI ((g_wn (m_cd M 0)) ι)) (fun ι => bI ((g_cv (m_cd M 0)) ι)) (fun ι => nI ((g_qs (m_cd M 0)) ι)) (fun ι => nI ((g_qu (m_cd M 0)) ι)) (nI (g_v5 (m_cd M 0))) (nI (g_v6 (m_cd M 0))) (nI (g_v7 (m_cd M 0))))) (P := aq_fi 1 0 = true) ok_r_lock rfl fi1_0 ?_
                      show AW r_lock _ _ _ (106, [some (.ref 0), some (.int (nI t)), some (.int (nI o)), some (.int (nI m)), some (.int (mdI (g_he M) t ((o - 1) / 4))), none, none, none, none], [.int (nI 3)], wM (m_cd M 3))
                      refine aq_if_le ok_r_lock rfl (fun h9 => ?_) (fun h9 => ?_)
                      · exact absurd h9 c_le3
                      · refine aq_gn (n := 1) (c1 := (110, [some (.ref 0), some (.int (nI t)), some (.int (nI o)), some (.int (nI m)), some (.int (mdI (g_he M) t ((o - 1) / 4))), none, none, none, none], [.int (nI 0)], wM (m_cd M 3))) ok_r_lock rfl ?_
                        exact aq_ei ok_r_lock rfl rfl rfl rfl
          · exact absurd (by rw [hs]; rfl) h4
        · exact absurd (nI_le (show m ≤ 4 by omega) (by omega)) h3
    · exact absurd h1 bI_t
set_option maxHeartbeats 4000000 in
theorem rm_lock {d : Nat} {M : MSt} {t o m : Nat} (hM : WM M) (ht : t < g_n M) (ho : o < 85) (hm5 : m < 5) (hN : WN M) (hs : g_st M t = 0) (hu : upM M t o m = true) (hq : g_qs M o < 60) (hK : ¬ mlh (m_cd M 0) t o = some (mlw (m_cd M 0) t o m) → WG (mlp (m_cd M 0) t o m) ∧ mlK t 60 (mlp (m_cd M 0) t o m)) : AM r_lock (d + 4) (.inl (some (.int ((mlk (m_cd M 0) t o m).2)))) [.ref 0, .int (nI t), .int (nI o), .int (nI m)] (wM M) (wM (mlk (m_cd M 0) t o m).1) := by
  refine aq_enter pl_r_lock (Nat.le_of_ble_eq_true rfl) ?_
  have ht6 : t < 60 := Nat.lt_of_lt_of_le ht hM.1
  refine aq_gn (n := 3) (c1 := (3, [some (.ref 0), some (.int (nI t)), some (.int (nI o)), some (.int (nI m)), none, none, none, none, none], [.int (nI t), .ref 0, .ref 0], wM M)) ok_r_lock rfl ?_
  refine aq_callV (as := [.int (nI t)]) (st := [.ref 0]) ok_r_lock rfl c1_r_isTransaction (rm_isTransactionM (nI t)) rfl (Nat.le_of_ble_eq_true rfl) rfl rfl rfl ?_
  rw [isT_in ht (show g_n M < 2 ^ 31 by have := hM.1; omega)]
  refine aq_if_eq ok_r_lock rfl (fun h => ?_) (fun h => ?_)
  · exact absurd h bI_t
  · refine aq_gn (n := 1) (c1 := (10, [some (.ref 0), some (.int (nI t)), some (.int (nI o)), some (.int (nI m)), none, none, none, none, none], [.int (nI o), .ref 0], wM M)) ok_r_lock rfl ?_
    refine aq_callS (as := [.int (nI o)]) (st := [.ref 0]) ok_r_lock rfl c1_r_isObject (rm_isObject (nI o)) rfl (Nat.le_of_ble_eq_true rfl) ?_
    rw [isT_in ho (by omega)]
    refine aq_if_ne ok_r_lock rfl (fun h1 => ?_) (fun h1 => ?_)
    · show AW r_lock _ _ _ (20, [some (.ref 0), some (.int (nI t)), some (.int (nI o)), some (.int (nI m)), none, none, none, none, none], [.ref 0], mL (g_cd M) (g_n M) (g_pr M) (g_st M) (g_he M) (g_wt M) (g_wn M) (g_cv M) (g_qs M) (g_qu M) (g_v5 M) (g_v6 M) (g_v7 M))
      refine aq_gn (n := 1) (c1 := (21, [some (.ref 0), some (.int (nI t)), some (.int (nI o)), some (.int (nI m)), none, none, none, none, none], [.int (nI m), .ref 0], mL (g_cd M) (g_n M) (g_pr M) (g_st M) (g_he M) (g_wt M) (g_wn M) (g_cv M) (g_qs M) (g_qu M) (g_v5 M) (g_v6 M) (g_v7 M))) ok_r_lock rfl ?_
      refine aq_if_lt ok_r_lock rfl (fun h2 => ?_) (fun h2 => ?_)
      · exact absurd h2 (nI_pos (by omega))
      · refine aq_gn (n := 2) (c1 := (26, [some (.ref 0), some (.int (nI t)), some (.int (nI o)), some (.int (nI m)), none, none, none, none, none], [.int (nI 4), .int (nI m), .ref 0], mL (g_cd M) (g_n M) (g_pr M) (g_st M) (g_he M) (g_wt M) (g_wn M) (g_cv M) (g_qs M) (g_qu M) (g_v5 M) (g_v6 M) (g_v7 M))) ok_r_lock rfl ?_
        refine aq_icmp_le ok_r_lock rfl (fun h3 => ?_) (fun h3 => ?_)
        · refine aq_go (n := 4) (c1 := (39, [some (.ref 0), some (.int (nI t)), some (.int (nI o)), some (.int (nI m)), none, none, none, none, none], [.int (nI ((g_st M) (nI t).toNatClampNeg)), .ref 0], mL (g_cd M) (g_n M) (g_pr M) (g_st M) (g_he M) (g_wt M) (g_wn M) (g_cv M) (g_qs M) (g_qu M) (g_v5 M) (g_v6 M) (g_v7 M))) (P := vp_in (nI t) 60) ok_r_lock rfl (in60 ht6) ?_
          rw [cl60 ht6]
          refine aq_if_eq ok_r_lock rfl (fun h4 => ?_) (fun h4 => ?_)
          · refine aq_go (n := 4) (c1 := (54, [some (.ref 0), some (.int (nI t)), some (.int (nI o)), some (.int (nI m)), none, none, none, none, none], [.int (nI 0)], mR (nI 0) (nI (g_n M)) (fun ι => nI ((g_pr M) ι)) (fun ι => nI ((g_st M) ι)) (fun ι => oI ((g_he M) ι)) (fun ι => oI ((g_wt M) ι)) (fun ι => nI ((g_wn M) ι)) (fun ι => bI ((g_cv M) ι)) (fun ι => nI ((g_qs M) ι)) (fun ι => nI ((g_qu M) ι)) (nI (g_v5 M)) (nI (g_v6 M)) (nI (g_v7 M)))) (P := aq_fi 1 0 = true) ok_r_lock rfl fi1_0 ?_
            show AW r_lock _ _ _ (54, [some (.ref 0), some (.int (nI t)), some (.int (nI o)), some (.int (nI m)), none, none, none, none, none], [.int (nI 0)], mL 0 (g_n (m_cd M 0)) (g_pr (m_cd M 0)) (g_st (m_cd M 0)) (g_he (m_cd M 0)) (g_wt (m_cd M 0)) (g_wn (m_cd M 0)) (g_cv (m_cd M 0)) (g_qs (m_cd M 0)) (g_qu (m_cd M 0)) (g_v5 (m_cd M 0)) (g_v6 (m_cd M 0)) (g_v7 (m_cd M 0)))
            refine aq_if_ne ok_r_lock rfl (fun h5 => ?_) (fun h5 => ?_)
            · exact absurd rfl h5
            · refine aq_gn (n := 1) (c1 := (58, [some (.ref 0), some (.int (nI t)), some (.int (nI o)), some (.int (nI m)), none, none, none, none, none], [.int (nI o)], mL 0 (g_n (m_cd M 0)) (g_pr (m_cd M 0)) (g_st (m_cd M 0)) (g_he (m_cd M 0)) (g_wt (m_cd M 0)) (g_wn (m_cd M 0)) (g_cv (m_cd M 0)) (g_qs (m_cd M 0)) (g_qu (m_cd M 0)) (g_v5 (m_cd M 0)) (g_v6 (m_cd M 0)) (g_v7 (m_cd M 0)))) ok_r_lock rfl ?_
              refine aq_if_le ok_r_lock rfl (fun h6 => ?_) (fun h6 => ?_)
              · have hz0 := q_le (b := 0) h6 (by omega) (by omega)
                have hz1 : o = 0 := by omega
                refine aq_gn (n := 2) (c1 := (106, [some (.ref 0), some (.int (nI t)), some (.int (nI o)), some (.int (nI m)), none, none, none, none, none], [.int (nI 0)], mL 0 (g_n (m_cd M 0)) (g_pr (m_cd M 0)) (g_st (m_cd M 0)) (g_he (m_cd M 0)) (g_wt (m_cd M 0)) (g_wn (m_cd M 0)) (g_cv (m_cd M 0)) (g_qs (m_cd M 0)) (g_qu (m_cd M 0)) (g_v5 (m_cd M 0)) (g_v6 (m_cd M 0)) (g_v7 (m_cd M 0)))) ok_r_lock rfl ?_
                refine aq_if_le ok_r_lock rfl (fun h7 => ?_) (fun h7 => ?_)
                · exact lp_lk0 (M := m_cd M 0) hM hN ht6 ho hm5 hq hK
                · exact absurd c_le0 h7
              · have hz0 : 0 < o := q_nle (b := 0) h6 (by omega) (by omega)
                have hz1 : ¬ o = 0 := by omega
                show AW r_lock _ _ _ (61, [some (.ref 0), some (.int (nI t)), some (.int (nI o)), some (.int (nI m)), none, none, none, none, none], [], wM (m_cd M 0))
                refine aq_go (n := 7) (c1 := (68, [some (.ref 0), some (.int (nI t)), some (.int (nI o)), some (.int (nI m)), none, none, none, none, none], [.int (((nI o) - (nI 1)) / (nI 4)), .int (nI t), .ref 0], wM (m_cd M 0))) (P := ¬ (nI 4) = 0) ok_r_lock rfl (by decide) ?_
                rw [dv4 o ho hz0]
                refine aq_callV (as := [.int (nI t), .int (nI ((o - 1) / 4))]) (st := []) ok_r_lock rfl c1_r_modeOf (rm_modeOfM (M := m_cd M 0) ht6 (show (o - 1) / 4 < 85 by omega)) rfl (Nat.le_of_ble_eq_true rfl) rfl rfl rfl ?_
                refine aq_gn (n := 3) (c1 := (76, [some (.ref 0), some (.int (nI t)), some (.int (nI o)), some (.int (nI m)), some (.int (mdI (g_he M) t ((o - 1) / 4))), none, none, none, none], [.int (mdI (g_he M) t ((o - 1) / 4)), .ref 0], wM (m_cd M 0))) ok_r_lock rfl ?_
                refine aq_if_lt ok_r_lock rfl (fun h8 => ?_) (fun h8 => ?_)
                · exact absurd hu (by rw [upM, if_neg hz1, if_pos h8]; exact fun q => by cases q)
                · refine aq_gn (n := 1) (c1 := (80, [some (.ref 0), some (.int (nI t)), some (.int (nI o)), some (.int (nI m)), some (.int (mdI (g_he M) t ((o - 1) / 4))), none, none, none, none], [.int (nI m), .ref 0], wM (m_cd M 0))) ok_r_lock rfl ?_
                  refine aq_callS (as := [.int (nI m)]) (st := [.ref 0]) ok_r_lock rfl c1_r_isWriting (rm_isWriting (nI m)) rfl (Nat.le_of_ble_eq_true rfl) ?_
                  refine aq_if_eq ok_r_lock rfl (fun ha => ?_) (fun ha => ?_)
                  · have hw := (bI_0 _).mp ha
                    show AW r_lock _ _ _ (98, [some (.ref 0), some (.int (nI t)), some (.int (nI o)), some (.int (nI m)), some (.int (mdI (g_he M) t ((o - 1) / 4))), none, none, none, none], [.ref 0], mL (g_cd (m_cd M 0)) (g_n (m_cd M 0)) (g_pr (m_cd M 0)) (g_st (m_cd M 0)) (g_he (m_cd M 0)) (g_wt (m_cd M 0)) (g_wn (m_cd M 0)) (g_cv (m_cd M 0)) (g_qs (m_cd M 0)) (g_qu (m_cd M 0)) (g_v5 (m_cd M 0)) (g_v6 (m_cd M 0)) (g_v7 (m_cd M 0)))
                    refine aq_go (n := 4) (c1 := (106, [some (.ref 0), some (.int (nI t)), some (.int (nI o)), some (.int (nI m)), some (.int (mdI (g_he M) t ((o - 1) / 4))), none, none, none, none], [.int (nI 0)], mR (nI 0) (nI (g_n (m_cd M 0))) (fun ι => nI ((g_pr (m_cd M 0)) ι)) (fun ι => nI ((g_st (m_cd M 0)) ι)) (fun ι => oI ((g_he (m_cd M 0)) ι)) (fun ι => oI ((g_wt (m_cd M 0)) ι)) (fun ι => nI ((g_wn (m_cd M 0)) ι)) (fun ι => bI ((g_cv (m_cd M 0)) ι)) (fun ι => nI ((g_qs (m_cd M 0)) ι)) (fun ι => nI ((g_qu (m_cd M 0)) ι)) (nI (g_v5 (m_cd M 0))) (nI (g_v6 (m_cd M 0))) (nI (g_v7 (m_cd M 0))))) (P := aq_fi 1 0 = true) ok_r_lock rfl fi1_0 ?_
                    refine aq_drop 4 ?_
                    show AW r_lock _ _ _ (106, [some (.ref 0), some (.int (nI t)), some (.int (nI o)), some (.int (nI m)), none, none, none, none, none], [.int (nI 0)], wM (m_cd M 0))
                    refine aq_if_le ok_r_lock rfl (fun h9 => ?_) (fun h9 => ?_)
                    · exact lp_lk0 (M := m_cd M 0) hM hN ht6 ho hm5 hq hK
                    · exact absurd c_le0 h9
                  · have hw : rwI (nI m) = true := by cases hy : rwI (nI m) with | true => rfl | false => exact absurd ((bI_0 _).mpr hy) ha
                    refine aq_gn (n := 1) (c1 := (88, [some (.ref 0), some (.int (nI t)), some (.int (nI o)), some (.int (nI m)), some (.int (mdI (g_he M) t ((o - 1) / 4))), none, none, none, none], [.int (mdI (g_he M) t ((o - 1) / 4)), .ref 0], wM (m_cd M 0))) ok_r_lock rfl ?_
                    refine aq_callS (as := [.int (mdI (g_he M) t ((o - 1) / 4))]) (st := [.ref 0]) ok_r_lock rfl c1_r_isWriting (rm_isWriting (mdI (g_he M) t ((o - 1) / 4))) rfl (Nat.le_of_ble_eq_true rfl) ?_
                    refine aq_if_ne ok_r_lock rfl (fun hb => ?_) (fun hb => ?_)
                    · have hv : rwI (mdI (g_he M) t ((o - 1) / 4)) = true := by cases hy : rwI (mdI (g_he M) t ((o - 1) / 4)) with | true => rfl | false => exact absurd ((bI_0 _).mpr hy) hb
                      show AW r_lock _ _ _ (98, [some (.ref 0), some (.int (nI t)), some (.int (nI o)), some (.int (nI m)), some (.int (mdI (g_he M) t ((o - 1) / 4))), none, none, none, none], [.ref 0], mL (g_cd (m_cd M 0)) (g_n (m_cd M 0)) (g_pr (m_cd M 0)) (g_st (m_cd M 0)) (g_he (m_cd M 0)) (g_wt (m_cd M 0)) (g_wn (m_cd M 0)) (g_cv (m_cd M 0)) (g_qs (m_cd M 0)) (g_qu (m_cd M 0)) (g_v5 (m_cd M 0)) (g_v6 (m_cd M 0)) (g_v7 (m_cd M 0)))
                      refine aq_go (n := 4) (c1 := (106, [some (.ref 0), some (.int (nI t)), some (.int (nI o)), some (.int (nI m)), some (.int (mdI (g_he M) t ((o - 1) / 4))), none, none, none, none], [.int (nI 0)], mR (nI 0) (nI (g_n (m_cd M 0))) (fun ι => nI ((g_pr (m_cd M 0)) ι)) (fun ι => nI ((g_st (m_cd M 0)) ι)) (fun ι => oI ((g_he (m_cd M 0)) ι)) (fun ι => oI ((g_wt (m_cd M 0)) ι)) (fun ι => nI ((g_wn (m_cd M 0)) ι)) (fun ι => bI ((g_cv (m_cd M 0)) ι)) (fun ι => nI ((g_qs (m_cd M 0)) ι)) (fun ι => nI ((g_qu (m_cd M 0)) ι)) (nI (g_v5 (m_cd M 0))) (nI (g_v6 (m_cd M 0))) (nI (g_v7 (m_cd M 0))))) (P := aq_fi 1 0 = true) ok_r_lock rfl fi1_0 ?_
                      refine aq_drop 4 ?_
                      show AW r_lock _ _ _ (106, [some (.ref 0), some (.int (nI t)), some (.int (nI o)), some (.int (nI m)), none, none, none, none, none], [.int (nI 0)], wM (m_cd M 0))
                      refine aq_if_le ok_r_lock rfl (fun h9 => ?_) (fun h9 => ?_)
                      · exact lp_lk0 (M := m_cd M 0) hM hN ht6 ho hm5 hq hK
                      · exact absurd c_le0 h9
                    · have hv := (bI_0 _).mp hb
                      exact absurd hu (by rw [upM, if_neg hz1, if_neg h8, if_pos hw, hv]; exact fun q => by cases q)
          · exact absurd (by rw [hs]; rfl) h4
        · exact absurd (nI_le (show m ≤ 4 by omega) (by omega)) h3
    · exact absurd h1 bI_t
