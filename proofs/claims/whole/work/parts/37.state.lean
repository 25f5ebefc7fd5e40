/-! THE CLASS'S STATE AS ONE VALUE -/
abbrev LSt : Type := (Nat → Nat) × (Nat → Nat) × (Nat → Option Nat) × (Nat → Option Nat) × (Nat → Int64) × (Nat → Nat) × (Nat → Int64) × Nat × Nat × Nat × Nat × Nat
abbrev s_st (S : LSt) : Nat → Nat := S.1
abbrev s_pr (S : LSt) : Nat → Nat := S.2.1
abbrev s_aw (S : LSt) : Nat → Option Nat := S.2.2.1
abbrev s_wa (S : LSt) : Nat → Option Nat := S.2.2.2.1
abbrev s_ha (S : LSt) : Nat → Int64 := S.2.2.2.2.1
abbrev s_la (S : LSt) : Nat → Nat := S.2.2.2.2.2.1
abbrev s_wr (S : LSt) : Nat → Int64 := S.2.2.2.2.2.2.1
abbrev s_n (S : LSt) : Nat := S.2.2.2.2.2.2.2.1
abbrev s_k (S : LSt) : Nat := S.2.2.2.2.2.2.2.2.1
abbrev s_c5 (S : LSt) : Nat := S.2.2.2.2.2.2.2.2.2.1
abbrev s_c6 (S : LSt) : Nat := S.2.2.2.2.2.2.2.2.2.2.1
abbrev s_c7 (S : LSt) : Nat := S.2.2.2.2.2.2.2.2.2.2.2
def wS (S : LSt) : List va_E := wL (s_st S) (s_pr S) (s_aw S) (s_wa S) (s_ha S) (s_la S) (s_wr S) (s_n S) (s_k S) (s_c5 S) (s_c6 S) (s_c7 S)
def WF (S : LSt) : Prop := (∀ i, s_la S i < 60) ∧ s_k S ≤ 60 ∧ s_n S ≤ 60 ∧ (∀ t x, s_aw S t = some x → x < 85) ∧ (∀ t x, s_wa S t = some x → x < 5) ∧ (∀ t x, s_aw S t = some x → ∃ m, s_wa S t = some m) ∧ (∀ t, s_st S t < 4) ∧ (∀ t, s_pr S t < 100)
def s_ftg (S : LSt) (o : Nat) : Option Nat := ftg (s_aw S) (s_wa S) (s_ha S) (s_la S) (s_k S) o
def gr (S : LSt) (t : Nat) : LSt := (va_up (s_st S) t 0, s_pr S, va_up (s_aw S) t none, va_up (s_wa S) t none, hd (s_ha S) t ((s_aw S t).getD 0) ((s_wa S t).getD 0), (lqF t (s_k S) 0 0 (s_la S)).1, s_wr S, s_n S, (lqF t (s_k S) 0 0 (s_la S)).2, s_c5 S, (if s_st S t = 1 then s_c6 S else s_c6 S + 1), (if s_st S t = 1 then s_c7 S + 1 else s_c7 S))
def svF (o : Nat) : Nat → Nat → LSt → LSt × Nat
  | 0, g, S => (S, g)
  | f + 1, g, S => match s_ftg S o with
    | none => (S, g)
    | some t => svF o f (g + 1) (gr S t)
def sv (S : LSt) (o : Nat) : LSt × Nat := svF o 60 0 S
theorem lqF_lt {t : Nat} : ∀ (f i j : Nat) (l : Nat → Nat), (∀ x, l x < 60) → ∀ x, (lqF t f i j l).1 x < 60 := by
  intro f
  induction f with
  | zero => intro i j l h x; exact h x
  | succ f ih =>
    intro i j l h x
    unfold lqF
    split
    · exact ih _ _ _ h x
    · exact ih _ _ _ (va_up_lt h (h i)) x
theorem lqF_le {t : Nat} : ∀ (f i j : Nat) (l : Nat → Nat), (lqF t f i j l).2 ≤ j + f := by
  intro f
  induction f with
  | zero => intro i j l; simp [lqF]
  | succ f ih =>
    intro i j l
    unfold lqF
    split
    · have := ih (i + 1) j l; omega
    · have := ih (i + 1) (j + 1) (va_up l j (l i)); omega
theorem va_up_some {l : Nat → Option Nat} {j t x : Nat} (h : va_up l j none t = some x) : t ≠ j ∧ l t = some x := by
  unfold va_up at h
  split at h
  · cases h
  · rename_i hne
    exact ⟨hne, h⟩
theorem ftg_in {aw wa : Nat → Option Nat} {ha : Nat → Int64} {la : Nat → Nat} {k o t : Nat} (h : ftg aw wa ha la k o = some t) : aw t = some o ∧ (∃ i, i < k ∧ t = la i) ∧ ow ha t o (oI (wa t)) = 0 := by
  unfold ftg at h
  split at h
  · cases h
  · rename_i u hu
    split at h
    · rename_i h0
      cases h
      obtain ⟨h1, i, -, h3, h4⟩ := iqF_in hu
      exact ⟨h1, ⟨i, by omega, h4⟩, h0⟩
    · cases h
theorem WF_leave {S : LSt} (h : WF S) (t : Nat) (x : Nat) (hx : x < 4) (ha : Nat → Int64) (c6 c7 : Nat) : WF (va_up (s_st S) t x, s_pr S, va_up (s_aw S) t none, va_up (s_wa S) t none, ha, (lqF t (s_k S) 0 0 (s_la S)).1, s_wr S, s_n S, (lqF t (s_k S) 0 0 (s_la S)).2, s_c5 S, c6, c7) := by
  obtain ⟨h1, h2, h3, h4, h5, h6, h7, h8⟩ := h
  refine ⟨lqF_lt _ _ _ _ h1, ?_, h3, fun u y q => h4 u y (va_up_some q).2, fun u y q => h5 u y (va_up_some q).2, fun u y q => ?_, fun u => va_up_lt h7 hx u, h8⟩
  · have := lqF_le (t := t) (s_k S) 0 0 (s_la S)
    show (lqF t (s_k S) 0 0 (s_la S)).2 ≤ 60
    omega
  · obtain ⟨q1, q2⟩ := va_up_some q
    obtain ⟨m, hm⟩ := h6 u y q2
    refine ⟨m, ?_⟩
    show va_up (s_wa S) t none u = some m
    unfold va_up
    rw [if_neg q1]
    exact hm
theorem WF_gr {S : LSt} (h : WF S) (t : Nat) : WF (gr S t) := WF_leave h t 0 (by omega) _ _ _
theorem WF_svF {o : Nat} : ∀ (f g : Nat) (S : LSt), WF S → WF (svF o f g S).1 := by
  intro f
  induction f with
  | zero => intro g S h; exact h
  | succ f ih =>
    intro g S h
    unfold svF
    split
    · exact h
    · exact ih _ _ (WF_gr h _)
theorem WF_sv {S : LSt} (h : WF S) (o : Nat) : WF (sv S o).1 := WF_svF _ _ _ h
set_option maxHeartbeats 4000000 in
theorem am_firstS {d : Nat} {S : LSt} {o : Nat} (h : WF S) (ho : o < 85) : AM m_firstToGrant (d + 2) (.inl (some (.int (oI (s_ftg S o))))) [.ref 0, .int (nI o)] (wS S) (wS S) := am_first ho h.2.1 h.1 h.2.2.2.1
set_option maxHeartbeats 4000000 in
theorem am_grantS {d : Nat} {S : LSt} {o t : Nat} (h : WF S) (ht : s_ftg S o = some t) : AM m_grant (d + 2) (.inl none) [.ref 0, .int (nI t)] (wS S) (wS (gr S t)) := by
  obtain ⟨h1, ⟨i, hi, e⟩, -⟩ := ftg_in ht
  obtain ⟨m, hm⟩ := h.2.2.2.2.2.1 t o h1
  have ht6 : t < 60 := by rw [e]; exact h.1 i
  have K := am_grant (d := d) (st := s_st S) (pr := s_pr S) (aw := s_aw S) (wa := s_wa S) (ha := s_ha S) (la := s_la S) (wr := s_wr S) (n := s_n S) (k := s_k S) (c5 := s_c5 S) (c6 := s_c6 S) (c7 := s_c7 S) ht6 h1 hm (h.2.2.2.1 t o h1) (h.2.2.2.2.1 t m hm) h.2.2.2.2.2.2.1 h.2.1 h.1
  unfold gr wS
  rw [h1, hm]
  exact K
