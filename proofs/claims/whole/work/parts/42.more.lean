/-! THE CLASS: escalate, and what is told -/
section AQT
variable {mi : aq_M} {d : Nat} {O : aq_O} {w w' : List va_E} {pc nx tg len tgt : Nat} {kc x : Int32} {al : List (Option Value)} {st : List Value} {dflt lo hi off : Int} {offs : Array Int}
theorem aq_tabI (hok : aq_okM mi = true) (hat : aq_at (aq_t mi) pc = some (.tableswitch dflt lo hi offs, len, nx, kc, tg)) (h1 : ¬ x.toInt < lo) (h2 : ¬ hi < x.toInt) (ho : offs[(x.toInt - lo).toNat]? = some off) (ht : (pc : Int) + off = (tgt : Int)) (k : AW mi d O w' (tgt, al, st, w)) : AW mi d O w' (pc, al, .int x :: st, w) :=
  aq_read (fun hF _ _ kk => lv_tableIn hF.1 hF.2.1 (aq_ok_at hok hat).1 h1 h2 ho ht kk) k
theorem aq_tabO (hok : aq_okM mi = true) (hat : aq_at (aq_t mi) pc = some (.tableswitch dflt lo hi offs, len, nx, kc, tg)) (h : x.toInt < lo ∨ hi < x.toInt) (ht : (pc : Int) + dflt = (tgt : Int)) (k : AW mi d O w' (tgt, al, st, w)) : AW mi d O w' (pc, al, .int x :: st, w) :=
  aq_read (fun hF _ _ kk => lv_tableOut hF.1 hF.2.1 (aq_ok_at hok hat).1 h ht kk) k
end AQT
/-- is the object u among the first f above x -/
def ibF (u : Nat) : Nat → Option Nat → Bool
  | 0, _ => false
  | f + 1, x => if abv x = some u then true else ibF u f (abv x)
def blw (l u : Nat) : Bool := ibF u 3 (some l)
def wbF (ha : Nat → Int64) (t o : Nat) : Nat → Nat → Bool
  | 0, _ => false
  | f + 1, i => if blw i o = true ∧ wrI (oI (hm ha t i)) = true then true else wbF ha t o f (i + 1)
def wb (ha : Nat → Int64) (t o : Nat) : Bool := wbF ha t o (84 - o) (o + 1)
def dbF (t o : Nat) : Nat → Nat → Nat → LSt → LSt × Nat
  | 0, _, c, S => (S, c)
  | f + 1, i, c, S => if blw i o = true then (if (hm (s_ha S) t i).isSome = true then dbF t o f (i + 1) (c + 1) (sv (s_hl S (lg (s_ha S) t i)) i).1 else dbF t o f (i + 1) c (s_hl S (lg (s_ha S) t i))) else dbF t o f (i + 1) c S
def db (S : LSt) (t o : Nat) : LSt × Nat := dbF t o (84 - o) (o + 1) 0 S
theorem WF_dbF {t o : Nat} : ∀ (f i c : Nat) (S : LSt), WF S → WF (dbF t o f i c S).1 := by
  intro f
  induction f with
  | zero => intro i c S h; exact h
  | succ f ih =>
    intro i c S h
    unfold dbF
    split
    · split
      · exact ih _ _ _ (WF_sv (WF_hl h _) i)
      · exact ih _ _ _ (WF_hl h _)
    · exact ih _ _ _ h
theorem WF_db {S : LSt} (h : WF S) (t o : Nat) : WF (db S t o).1 := WF_dbF _ _ _ _ h
def eww (S : LSt) (t o : Nat) : Nat := lub (hm (s_ha S) t o) (if wb (s_ha S) t o then 4 else 2)
def esc (S : LSt) (t o : Nat) : LSt × Int32 := if ow (s_ha S) t o (nI (eww S t o)) = 0 then ((sv (db (s_hl S (hd (s_ha S) t o (eww S t o))) t o).1 o).1, nI (db (s_hl S (hd (s_ha S) t o (eww S t o))) t o).2) else (S, -1)
set_option maxHeartbeats 4000000 in
theorem lp_isBelow {d : Nat} {w : List va_E} {l u : Nat} (hu : u < 85) : ∀ (f i : Nat), i + f = 4 → ∀ x : Option Nat, (∀ y, x = some y → y < 85) → AW m_isBelow (d + 2) (.inl (some (.int (bI (ibF u f x))))) (w) (4, [some (.int (nI l)), some (.int (nI u)), some (.int (oI x)), some (.int (nI i))], [], w) := by
  intro f
  induction f with
  | zero =>
    intro i hif x hx
    refine aq_gn (n := 2) (c1 := (6, [some (.int (nI l)), some (.int (nI u)), some (.int (oI x)), some (.int (nI i))], [.int (nI 4), .int (nI i)], w)) ok_m_isBelow rfl ?_
    refine aq_icmp_ge ok_m_isBelow rfl (fun h => ?_) (fun h => ?_)
    · refine aq_gn (n := 1) (c1 := (28, [some (.int (nI l)), some (.int (nI u)), some (.int (oI x)), some (.int (nI i))], [.int (nI 0)], w)) ok_m_isBelow rfl ?_
      exact aq_ez ok_m_isBelow rfl rfl rfl rfl
    · exact absurd (nI_le (show 4 ≤ i by omega) (by omega)) h
  | succ f ih =>
    intro i hif x hx
    refine aq_gn (n := 2) (c1 := (6, [some (.int (nI l)), some (.int (nI u)), some (.int (oI x)), some (.int (nI i))], [.int (nI 4), .int (nI i)], w)) ok_m_isBelow rfl ?_
    refine aq_icmp_ge ok_m_isBelow rfl (fun h => ?_) (fun h => ?_)
    · exact absurd (q_le h (by omega) (by omega)) (by omega)
    · refine aq_gn (n := 1) (c1 := (10, [some (.int (nI l)), some (.int (nI u)), some (.int (oI x)), some (.int (nI i))], [.int (oI x)], w)) ok_m_isBelow rfl ?_
      refine aq_callS (as := [.int (oI x)]) (st := []) ok_m_isBelow rfl c0_m_above (am_above (oI x)) rfl (Nat.le_of_ble_eq_true rfl) ?_
      rw [avI_o hx]
      refine aq_gn (n := 3) (c1 := (16, [some (.int (nI l)), some (.int (nI u)), some (.int (oI (abv x))), some (.int (nI i))], [.int (nI u), .int (oI (abv x))], w)) ok_m_isBelow rfl ?_
      refine aq_icmp_ne ok_m_isBelow rfl (fun h2 => ?_) (fun h2 => ?_)
      · have hne := oI_ne h2
        refine aq_gn (n := 2) (c1 := (4, [some (.int (nI l)), some (.int (nI u)), some (.int (oI (abv x))), some (.int ((nI i) + 1))], [], w)) ok_m_isBelow rfl ?_
        rw [nI_1]
        have e : ibF u (f + 1) x = ibF u f (abv x) := by rw [ibF, if_neg hne]
        rw [e]
        exact ih (i + 1) (by omega) (abv x) (abv_lt hx)
      · have hy := oI_eq h2 (by omega) (fun y q => by have := abv_lt hx y q; omega)
        refine aq_gn (n := 1) (c1 := (20, [some (.int (nI l)), some (.int (nI u)), some (.int (oI (abv x))), some (.int (nI i))], [.int (nI 1)], w)) ok_m_isBelow rfl ?_
        exact aq_ez ok_m_isBelow rfl rfl (by rw [ibF, if_pos hy]; rfl) rfl
set_option maxHeartbeats 4000000 in
theorem am_isBelow {d : Nat} {w : List va_E} {l u : Nat} (hl : l < 85) (hu : u < 85) : AM m_isBelow (d + 2) (.inl (some (.int (bI (blw l u))))) [.int (nI l), .int (nI u)] (w) (w) := by
  refine aq_enter pl_m_isBelow (Nat.le_of_ble_eq_true rfl) ?_
  refine aq_gn (n := 4) (c1 := (4, [some (.int (nI l)), some (.int (nI u)), some (.int (nI l)), some (.int (nI 1))], [], w)) ok_m_isBelow rfl ?_
  exact lp_isBelow hu 3 1 rfl (some l) (fun y q => by cases q; exact hl)
set_option maxHeartbeats 4000000 in
theorem lp_wb {d : Nat} {st pr : Nat → Nat} {aw wa : Nat → Option Nat} {ha : Nat → Int64} {la : Nat → Nat} {wr : Nat → Int64} {n k c5 c6 c7 : Nat} {t o : Nat} (ht : t < 60) (ho : o < 85) : ∀ (f i : Nat), i + f = 85 → AW m_writesBelow (d + 3) (.inl (some (.int (bI (wbF ha t o f i))))) (wL st pr aw wa ha la wr n k c5 c6 c7) (4, [some (.ref 0), some (.int (nI t)), some (.int (nI o)), some (.int (nI i))], [], wL st pr aw wa ha la wr n k c5 c6 c7) := by
  intro f
  induction f with
  | zero =>
    intro i hif 
    refine aq_gn (n := 2) (c1 := (7, [some (.ref 0), some (.int (nI t)), some (.int (nI o)), some (.int (nI i))], [.int (nI 85), .int (nI i)], wL st pr aw wa ha la wr n k c5 c6 c7)) ok_m_writesBelow rfl ?_
    refine aq_icmp_ge ok_m_writesBelow rfl (fun h => ?_) (fun h => ?_)
    · refine aq_gn (n := 1) (c1 := (39, [some (.ref 0), some (.int (nI t)), some (.int (nI o)), some (.int (nI i))], [.int (nI 0)], wL st pr aw wa ha la wr n k c5 c6 c7)) ok_m_writesBelow rfl ?_
      exact aq_ez ok_m_writesBelow rfl rfl rfl rfl
    · exact absurd (nI_le (show 85 ≤ i by omega) (by omega)) h
  | succ f ih =>
    intro i hif 
    refine aq_gn (n := 2) (c1 := (7, [some (.ref 0), some (.int (nI t)), some (.int (nI o)), some (.int (nI i))], [.int (nI 85), .int (nI i)], wL st pr aw wa ha la wr n k c5 c6 c7)) ok_m_writesBelow rfl ?_
    refine aq_icmp_ge ok_m_writesBelow rfl (fun h => ?_) (fun h => ?_)
    · exact absurd (q_le h (by omega) (by omega)) (by omega)
    · refine aq_gn (n := 2) (c1 := (12, [some (.ref 0), some (.int (nI t)), some (.int (nI o)), some (.int (nI i))], [.int (nI o), .int (nI i)], wL st pr aw wa ha la wr n k c5 c6 c7)) ok_m_writesBelow rfl ?_
      refine aq_callS (as := [.int (nI i), .int (nI o)]) (st := []) ok_m_writesBelow rfl c0_m_isBelow (am_isBelow (d := d) (show i < 85 by omega) ho) rfl (Nat.le_of_ble_eq_true rfl) ?_
      refine aq_if_eq ok_m_writesBelow rfl (fun h2 => ?_) (fun h2 => ?_)
      · have hb := (bI_0 _).mp h2
        refine aq_gn (n := 2) (c1 := (4, [some (.ref 0), some (.int (nI t)), some (.int (nI o)), some (.int ((nI i) + 1))], [], wL st pr aw wa ha la wr n k c5 c6 c7)) ok_m_writesBelow rfl ?_
        rw [nI_1]
        have e : wbF ha t o (f + 1) i = wbF ha t o f (i + 1) := by rw [wbF, if_neg (by simp [hb])]
        rw [e]
        exact ih (i + 1) (by omega)
      · have hc : blw i o = true := by cases hy : blw i o with | true => rfl | false => exact absurd ((bI_0 _).mpr hy) h2
        refine aq_gn (n := 3) (c1 := (21, [some (.ref 0), some (.int (nI t)), some (.int (nI o)), some (.int (nI i))], [.int (nI i), .int (nI t), .ref 0], wL st pr aw wa ha la wr n k c5 c6 c7)) ok_m_writesBelow rfl ?_
        refine aq_callV (as := [.int (nI t), .int (nI i)]) (st := []) ok_m_writesBelow rfl c0_m_heldMode (am_heldMode (d := d + 1) ht (show i < 85 by omega)) rfl (Nat.le_of_ble_eq_true rfl) rfl rfl rfl ?_
        refine aq_callS (as := [.int (oI (hm ha t i))]) (st := []) ok_m_writesBelow rfl c0_m_isWriting (am_isWriting (oI (hm ha t i))) rfl (Nat.le_of_ble_eq_true rfl) ?_
        refine aq_if_eq ok_m_writesBelow rfl (fun h3 => ?_) (fun h3 => ?_)
        · have hb := (bI_0 _).mp h3
          refine aq_gn (n := 2) (c1 := (4, [some (.ref 0), some (.int (nI t)), some (.int (nI o)), some (.int ((nI i) + 1))], [], wL st pr aw wa ha la wr n k c5 c6 c7)) ok_m_writesBelow rfl ?_
          rw [nI_1]
          have e : wbF ha t o (f + 1) i = wbF ha t o f (i + 1) := by rw [wbF, if_neg (by simp [hb])]
          rw [e]
          exact ih (i + 1) (by omega)
        · have hd : wrI (oI (hm ha t i)) = true := by cases hy : wrI (oI (hm ha t i)) with | true => rfl | false => exact absurd ((bI_0 _).mpr hy) h3
          refine aq_gn (n := 1) (c1 := (31, [some (.ref 0), some (.int (nI t)), some (.int (nI o)), some (.int (nI i))], [.int (nI 1)], wL st pr aw wa ha la wr n k c5 c6 c7)) ok_m_writesBelow rfl ?_
          exact aq_ez ok_m_writesBelow rfl rfl (by rw [wbF, if_pos ⟨hc, hd⟩]; rfl) rfl
set_option maxHeartbeats 4000000 in
theorem am_wb {d : Nat} {st pr : Nat → Nat} {aw wa : Nat → Option Nat} {ha : Nat → Int64} {la : Nat → Nat} {wr : Nat → Int64} {n k c5 c6 c7 : Nat} {t o : Nat} (ht : t < 60) (ho : o < 85) : AM m_writesBelow (d + 3) (.inl (some (.int (bI (wb ha t o))))) [.ref 0, .int (nI t), .int (nI o)] (wL st pr aw wa ha la wr n k c5 c6 c7) (wL st pr aw wa ha la wr n k c5 c6 c7) := by
  refine aq_enter pl_m_writesBelow (Nat.le_of_ble_eq_true rfl) ?_
  refine aq_gn (n := 4) (c1 := (4, [some (.ref 0), some (.int (nI t)), some (.int (nI o)), some (.int ((nI o) + (nI 1)))], [], wL st pr aw wa ha la wr n k c5 c6 c7)) ok_m_writesBelow rfl ?_
  rw [nI_add]
  exact lp_wb ht ho (84 - o) (o + 1) (by omega)
set_option maxHeartbeats 4000000 in
theorem lp_db {d : Nat} {t o : Nat} (ht : t < 60) (ho : o < 85) : ∀ (f i : Nat), i + f = 85 → ∀ (c : Nat) (S : LSt), WF S → AW m_dropBelow (d + 4) (.inl (some (.int (nI (dbF t o f i c S).2)))) (wS (dbF t o f i c S).1) (7, [some (.ref 0), some (.int (nI t)), some (.int (nI o)), some (.int (nI c)), some (.int (nI i))], [], wS S) := by
  intro f
  induction f with
  | zero =>
    intro i hif c S hS
    refine aq_gn (n := 2) (c1 := (11, [some (.ref 0), some (.int (nI t)), some (.int (nI o)), some (.int (nI c)), some (.int (nI i))], [.int (nI 85), .int (nI i)], wS S)) ok_m_dropBelow rfl ?_
    refine aq_icmp_ge ok_m_dropBelow rfl (fun h => ?_) (fun h => ?_)
    · refine aq_gn (n := 1) (c1 := (50, [some (.ref 0), some (.int (nI t)), some (.int (nI o)), some (.int (nI c)), some (.int (nI i))], [.int (nI c)], wS S)) ok_m_dropBelow rfl ?_
      exact aq_ei ok_m_dropBelow rfl rfl rfl rfl
    · exact absurd (nI_le (show 85 ≤ i by omega) (by omega)) h
  | succ f ih =>
    intro i hif c S hS
    refine aq_gn (n := 2) (c1 := (11, [some (.ref 0), some (.int (nI t)), some (.int (nI o)), some (.int (nI c)), some (.int (nI i))], [.int (nI 85), .int (nI i)], wS S)) ok_m_dropBelow rfl ?_
    refine aq_icmp_ge ok_m_dropBelow rfl (fun h => ?_) (fun h => ?_)
    · exact absurd (q_le h (by omega) (by omega)) (by omega)
    · refine aq_gn (n := 2) (c1 := (17, [some (.ref 0), some (.int (nI t)), some (.int (nI o)), some (.int (nI c)), some (.int (nI i))], [.int (nI o), .int (nI i)], wS S)) ok_m_dropBelow rfl ?_
      refine aq_callS (as := [.int (nI i), .int (nI o)]) (st := []) ok_m_dropBelow rfl c0_m_isBelow (am_isBelow (d := d + 1) (show i < 85 by omega) ho) rfl (Nat.le_of_ble_eq_true rfl) ?_
      refine aq_if_eq ok_m_dropBelow rfl (fun h2 => ?_) (fun h2 => ?_)
      · have hb := (bI_0 _).mp h2
        refine aq_gn (n := 2) (c1 := (7, [some (.ref 0), some (.int (nI t)), some (.int (nI o)), some (.int (nI c)), some (.int ((nI i) + 1))], [], wS S)) ok_m_dropBelow rfl ?_
        rw [nI_1]
        have e : dbF t o (f + 1) i c S = dbF t o f (i + 1) c S := by rw [dbF, if_neg (by simp [hb])]
        rw [e]
        exact ih (i + 1) (by omega) c S hS
      · have hc : blw i o = true := by cases hy : blw i o with | true => rfl | false => exact absurd ((bI_0 _).mpr hy) h2
        refine aq_gn (n := 3) (c1 := (27, [some (.ref 0), some (.int (nI t)), some (.int (nI o)), some (.int (nI c)), some (.int (nI i))], [.int (nI i), .int (nI t), .ref 0], wS S)) ok_m_dropBelow rfl ?_
        refine aq_callV (as := [.int (nI t), .int (nI i)]) (st := []) ok_m_dropBelow rfl c0_m_letGo (am_letGoS (d := d + 1) ht (show i < 85 by omega)) rfl (Nat.le_of_ble_eq_true rfl) rfl rfl rfl ?_
        refine aq_if_eq ok_m_dropBelow rfl (fun h3 => ?_) (fun h3 => ?_)
        · have hb := (bI_0 _).mp h3
          refine aq_gn (n := 2) (c1 := (7, [some (.ref 0), some (.int (nI t)), some (.int (nI o)), some (.int (nI c)), some (.int ((nI i) + 1))], [], wS (s_hl S (lg (s_ha S) t i)))) ok_m_dropBelow rfl ?_
          rw [nI_1]
          have e : dbF t o (f + 1) i c S = dbF t o f (i + 1) c (s_hl S (lg (s_ha S) t i)) := by rw [dbF, if_pos hc, if_neg (by simp [hb])]
          rw [e]
          exact ih (i + 1) (by omega) c _ (WF_hl hS _)
        · have hd : (hm (s_ha S) t i).isSome = true := by cases hy : (hm (s_ha S) t i).isSome with | true => rfl | false => exact absurd ((bI_0 _).mpr hy) h3
          refine aq_gn (n := 2) (c1 := (36, [some (.ref 0), some (.int (nI t)), some (.int (nI o)), some (.int (nI c)), some (.int (nI i))], [.int (nI i), .ref 0], wS (s_hl S (lg (s_ha S) t i)))) ok_m_dropBelow rfl ?_
          refine aq_callV (as := [.int (nI i)]) (st := []) ok_m_dropBelow rfl c0_m_serve (am_serve (WF_hl hS _) (show i < 85 by omega)) rfl (Nat.le_of_ble_eq_true rfl) rfl rfl rfl ?_
          refine aq_gn (n := 4) (c1 := (7, [some (.ref 0), some (.int (nI t)), some (.int (nI o)), some (.int ((nI c) + 1)), some (.int ((nI i) + 1))], [], wS (sv (s_hl S (lg (s_ha S) t i)) i).1)) ok_m_dropBelow rfl ?_
          rw [nI_1, nI_1]
          have e : dbF t o (f + 1) i c S = dbF t o f (i + 1) (c + 1) (sv (s_hl S (lg (s_ha S) t i)) i).1 := by rw [dbF, if_pos hc, if_pos hd]
          rw [e]
          exact ih (i + 1) (by omega) (c + 1) _ (WF_sv (WF_hl hS _) i)
set_option maxHeartbeats 4000000 in
theorem am_db {d : Nat} {S : LSt} {t o : Nat} (hS : WF S) (ht : t < 60) (ho : o < 85) : AM m_dropBelow (d + 4) (.inl (some (.int (nI (db S t o).2)))) [.ref 0, .int (nI t), .int (nI o)] (wS S) (wS (db S t o).1) := by
  refine aq_enter pl_m_dropBelow (Nat.le_of_ble_eq_true rfl) ?_
  refine aq_gn (n := 6) (c1 := (7, [some (.ref 0), some (.int (nI t)), some (.int (nI o)), some (.int (nI 0)), some (.int ((nI o) + (nI 1)))], [], wS S)) ok_m_dropBelow rfl ?_
  rw [nI_add]
  exact lp_db ht ho (84 - o) (o + 1) (by omega) 0 S hS
set_option maxHeartbeats 4000000 in
theorem am_wbS {d : Nat} {S : LSt} {t o : Nat} (ht : t < 60) (ho : o < 85) : AM m_writesBelow (d + 3) (.inl (some (.int (bI (wb (s_ha S) t o))))) [.ref 0, .int (nI t), .int (nI o)] (wS S) (wS S) := am_wb ht ho
set_option maxHeartbeats 4000000 in
theorem am_othersS {d : Nat} {S : LSt} {t o : Nat} {x : Int32} (ho : o < 85) : AM m_othersInTheWay (d + 1) (.inl (some (.long (ow (s_ha S) t o x)))) [.ref 0, .int (nI t), .int (nI o), .int x] (wS S) (wS S) := am_others ho
set_option maxHeartbeats 4000000 in
theorem am_holdS {d : Nat} {S : LSt} {t o m : Nat} (ho : o < 85) (hm : m < 5) : AM m_hold (d + 1) (.inl none) [.ref 0, .int (nI t), .int (nI o), .int (nI m)] (wS S) (wS (s_hl S (hd (s_ha S) t o m))) := am_hold ho hm
set_option maxHeartbeats 4000000 in
theorem am_escalate {d : Nat} {S : LSt} {t o : Nat} (hS : WF S) (ht : t < s_n S) (ho : o < 85) (hs : s_st S t = 0) (hh : ¬ hm (s_ha S) t o = none) : AM m_escalate (d + 6) (.inl (some (.int ((esc S t o).2)))) [.ref 0, .int (nI t), .int (nI o)] (wS S) (wS (esc S t o).1) := by
  refine aq_enter pl_m_escalate (Nat.le_of_ble_eq_true rfl) ?_
  have ht6 : t < 60 := Nat.lt_of_lt_of_le ht hS.2.2.1
  refine aq_gn (n := 2) (c1 := (2, [some (.ref 0), some (.int (nI t)), some (.int (nI o)), none, none, none], [.int (nI t), .ref 0], wS S)) ok_m_escalate rfl ?_
  refine aq_callV (as := [.int (nI t)]) (st := []) ok_m_escalate rfl c0_m_checkTransaction (am_chkTS hS ht) rfl (Nat.le_of_ble_eq_true rfl) rfl rfl rfl ?_
  refine aq_gn (n := 1) (c1 := (6, [some (.ref 0), some (.int (nI t)), some (.int (nI o)), none, none, none], [.int (nI o)], wS S)) ok_m_escalate rfl ?_
  refine aq_callS (as := [.int (nI o)]) (st := []) ok_m_escalate rfl c0_m_checkObject (am_chkO ho) rfl (Nat.le_of_ble_eq_true rfl) ?_
  refine aq_gn (n := 2) (c1 := (11, [some (.ref 0), some (.int (nI t)), some (.int (nI o)), none, none, none], [.int (nI t), .ref 0], wS S)) ok_m_escalate rfl ?_
  refine aq_callV (as := [.int (nI t)]) (st := []) ok_m_escalate rfl c0_m_checkActive (am_chkAS (Nat.lt_of_lt_of_le ht hS.2.2.1) hs) rfl (Nat.le_of_ble_eq_true rfl) rfl rfl rfl ?_
  refine aq_gn (n := 3) (c1 := (17, [some (.ref 0), some (.int (nI t)), some (.int (nI o)), none, none, none], [.int (nI o), .int (nI t), .ref 0], wS S)) ok_m_escalate rfl ?_
  refine aq_callV (as := [.int (nI t), .int (nI o)]) (st := []) ok_m_escalate rfl c0_m_heldMode (am_heldS (d := d + 4) (Nat.lt_of_lt_of_le ht hS.2.2.1) ho) rfl (Nat.le_of_ble_eq_true rfl) rfl rfl rfl ?_
  refine aq_gn (n := 3) (c1 := (23, [some (.ref 0), some (.int (nI t)), some (.int (nI o)), some (.int (oI (hm (s_ha S) t o))), none, none], [.int (-1), .int (oI (hm (s_ha S) t o))], wS S)) ok_m_escalate rfl ?_
  refine aq_icmp_ne ok_m_escalate rfl (fun h => ?_) (fun h => ?_)
  · refine aq_gn (n := 4) (c1 := (40, [some (.ref 0), some (.int (nI t)), some (.int (nI o)), some (.int (oI (hm (s_ha S) t o))), none, none], [.int (nI o), .int (nI t), .ref 0, .int (oI (hm (s_ha S) t o))], wS S)) ok_m_escalate rfl ?_
    refine aq_callV (as := [.int (nI t), .int (nI o)]) (st := [.int (oI (hm (s_ha S) t o))]) ok_m_escalate rfl c0_m_writesBelow (am_wbS (d := d + 2) ht6 ho) rfl (Nat.le_of_ble_eq_true rfl) rfl rfl rfl ?_
    refine aq_if_eq ok_m_escalate rfl (fun h2 => ?_) (fun h2 => ?_)
    · have hb := (bI_0 _).mp h2
      refine aq_gn (n := 1) (c1 := (51, [some (.ref 0), some (.int (nI t)), some (.int (nI o)), some (.int (oI (hm (s_ha S) t o))), none, none], [.int (nI 2), .int (oI (hm (s_ha S) t o))], wS S)) ok_m_escalate rfl ?_
      have ew : eww S t o = lub (hm (s_ha S) t o) 2 := by rw [eww, hb]; rfl
      refine aq_callS (as := [.int (oI (hm (s_ha S) t o)), .int (nI 2)]) (st := []) ok_m_escalate rfl c0_m_leastAbove (am_leastAbove (oI (hm (s_ha S) t o)) (nI 2)) rfl (Nat.le_of_ble_eq_true rfl) ?_
      have hlub := lub_o (fun x q => hm_lt q) (show 2 < 5 by omega) (h := hm (s_ha S) t o)
      rw [← ew] at hlub
      rw [hlub.1]
      refine aq_gn (n := 5) (c1 := (61, [some (.ref 0), some (.int (nI t)), some (.int (nI o)), some (.int (oI (hm (s_ha S) t o))), some (.int (nI (eww S t o))), none], [.int (nI (eww S t o)), .int (nI o), .int (nI t), .ref 0], wS S)) ok_m_escalate rfl ?_
      refine aq_callV (as := [.int (nI t), .int (nI o), .int (nI (eww S t o))]) (st := []) ok_m_escalate rfl c0_m_othersInTheWay (am_othersS (d := d + 4) ho) rfl (Nat.le_of_ble_eq_true rfl) rfl rfl rfl ?_
      refine aq_gn (n := 2) (c1 := (66, [some (.ref 0), some (.int (nI t)), some (.int (nI o)), some (.int (oI (hm (s_ha S) t o))), some (.int (nI (eww S t o))), none], [.int (lg_cmp (ow (s_ha S) t o (nI (eww S t o))) 0)], wS S)) ok_m_escalate rfl ?_
      refine aq_if_eq ok_m_escalate rfl (fun h3 => ?_) (fun h3 => ?_)
      · have hz := (lg_cmp_0 _ _).mp h3
        rw [esc, if_pos hz]
        refine aq_gn (n := 4) (c1 := (76, [some (.ref 0), some (.int (nI t)), some (.int (nI o)), some (.int (oI (hm (s_ha S) t o))), some (.int (nI (eww S t o))), none], [.int (nI (eww S t o)), .int (nI o), .int (nI t), .ref 0], wS S)) ok_m_escalate rfl ?_
        refine aq_callV (as := [.int (nI t), .int (nI o), .int (nI (eww S t o))]) (st := []) ok_m_escalate rfl c0_m_hold (am_holdS (d := d + 4) ho hlub.2) rfl (Nat.le_of_ble_eq_true rfl) rfl rfl rfl ?_
        obtain ⟨Q, hQ⟩ : ∃ Q, Q = s_hl S (hd (s_ha S) t o (eww S t o)) := ⟨_, rfl⟩
        have hWQ : WF Q := by rw [hQ]; exact WF_hl hS _
        rw [← hQ]
        refine aq_gn (n := 3) (c1 := (82, [some (.ref 0), some (.int (nI t)), some (.int (nI o)), some (.int (oI (hm (s_ha S) t o))), some (.int (nI (eww S t o))), none], [.int (nI o), .int (nI t), .ref 0], wS Q)) ok_m_escalate rfl ?_
        refine aq_callV (as := [.int (nI t), .int (nI o)]) (st := []) ok_m_escalate rfl c0_m_dropBelow (am_db (d := d + 1) hWQ ht6 ho) rfl (Nat.le_of_ble_eq_true rfl) rfl rfl rfl ?_
        refine aq_gn (n := 3) (c1 := (89, [some (.ref 0), some (.int (nI t)), some (.int (nI o)), some (.int (oI (hm (s_ha S) t o))), some (.int (nI (eww S t o))), some (.int (nI (db Q t o).2))], [.int (nI o), .ref 0], wS (db Q t o).1)) ok_m_escalate rfl ?_
        refine aq_callV (as := [.int (nI o)]) (st := []) ok_m_escalate rfl c0_m_serve (am_serve (d := d + 2) (WF_db hWQ t o) ho) rfl (Nat.le_of_ble_eq_true rfl) rfl rfl rfl ?_
        refine aq_gn (n := 2) (c1 := (95, [some (.ref 0), some (.int (nI t)), some (.int (nI o)), some (.int (oI (hm (s_ha S) t o))), some (.int (nI (eww S t o))), some (.int (nI (db Q t o).2))], [.int (nI (db Q t o).2)], wS (sv (db Q t o).1 o).1)) ok_m_escalate rfl ?_
        exact aq_ei ok_m_escalate rfl rfl rfl rfl
      · have hz : ¬ ow (s_ha S) t o (nI (eww S t o)) = 0 := fun q => h3 ((lg_cmp_0 _ _).mpr q)
        rw [esc, if_neg hz]
        refine aq_gn (n := 1) (c1 := (70, [some (.ref 0), some (.int (nI t)), some (.int (nI o)), some (.int (oI (hm (s_ha S) t o))), some (.int (nI (eww S t o))), none], [.int (-1)], wS S)) ok_m_escalate rfl ?_
        exact aq_ei ok_m_escalate rfl rfl rfl rfl
    · have hb : wb (s_ha S) t o = true := by cases hy : wb (s_ha S) t o with | true => rfl | false => exact absurd ((bI_0 _).mpr hy) h2
      refine aq_gn (n := 2) (c1 := (51, [some (.ref 0), some (.int (nI t)), some (.int (nI o)), some (.int (oI (hm (s_ha S) t o))), none, none], [.int (nI 4), .int (oI (hm (s_ha S) t o))], wS S)) ok_m_escalate rfl ?_
      have ew : eww S t o = lub (hm (s_ha S) t o) 4 := by rw [eww, hb]; rfl
      refine aq_callS (as := [.int (oI (hm (s_ha S) t o)), .int (nI 4)]) (st := []) ok_m_escalate rfl c0_m_leastAbove (am_leastAbove (oI (hm (s_ha S) t o)) (nI 4)) rfl (Nat.le_of_ble_eq_true rfl) ?_
      have hlub := lub_o (fun x q => hm_lt q) (show 4 < 5 by omega) (h := hm (s_ha S) t o)
      rw [← ew] at hlub
      rw [hlub.1]
      refine aq_gn (n := 5) (c1 := (61, [some (.ref 0), some (.int (nI t)), some (.int (nI o)), some (.int (oI (hm (s_ha S) t o))), some (.int (nI (eww S t o))), none], [.int (nI (eww S t o)), .int (nI o), .int (nI t), .ref 0], wS S)) ok_m_escalate rfl ?_
      refine aq_callV (as := [.int (nI t), .int (nI o), .int (nI (eww S t o))]) (st := []) ok_m_escalate rfl c0_m_othersInTheWay (am_othersS (d := d + 4) ho) rfl (Nat.le_of_ble_eq_true rfl) rfl rfl rfl ?_
      refine aq_gn (n := 2) (c1 := (66, [some (.ref 0), some (.int (nI t)), some (.int (nI o)), some (.int (oI (hm (s_ha S) t o))), some (.int (nI (eww S t o))), none], [.int (lg_cmp (ow (s_ha S) t o (nI (eww S t o))) 0)], wS S)) ok_m_escalate rfl ?_
      refine aq_if_eq ok_m_escalate rfl (fun h3 => ?_) (fun h3 => ?_)
      · have hz := (lg_cmp_0 _ _).mp h3
        rw [esc, if_pos hz]
        refine aq_gn (n := 4) (c1 := (76, [some (.ref 0), some (.int (nI t)), some (.int (nI o)), some (.int (oI (hm (s_ha S) t o))), some (.int (nI (eww S t o))), none], [.int (nI (eww S t o)), .int (nI o), .int (nI t), .ref 0], wS S)) ok_m_escalate rfl ?_
        refine aq_callV (as := [.int (nI t), .int (nI o), .int (nI (eww S t o))]) (st := []) ok_m_escalate rfl c0_m_hold (am_holdS (d := d + 4) ho hlub.2) rfl (Nat.le_of_ble_eq_true rfl) rfl rfl rfl ?_
        obtain ⟨Q, hQ⟩ : ∃ Q, Q = s_hl S (hd (s_ha S) t o (eww S t o)) := ⟨_, rfl⟩
        have hWQ : WF Q := by rw [hQ]; exact WF_hl hS _
        rw [← hQ]
        refine aq_gn (n := 3) (c1 := (82, [some (.ref 0), some (.int (nI t)), some (.int (nI o)), some (.int (oI (hm (s_ha S) t o))), some (.int (nI (eww S t o))), none], [.int (nI o), .int (nI t), .ref 0], wS Q)) ok_m_escalate rfl ?_
        refine aq_callV (as := [.int (nI t), .int (nI o)]) (st := []) ok_m_escalate rfl c0_m_dropBelow (am_db (d := d + 1) hWQ ht6 ho) rfl (Nat.le_of_ble_eq_true rfl) rfl rfl rfl ?_
        refine aq_gn (n := 3) (c1 := (89, [some (.ref 0), some (.int (nI t)), some (.int (nI o)), some (.int (oI (hm (s_ha S) t o))), some (.int (nI (eww S t o))), some (.int (nI (db Q t o).2))], [.int (nI o), .ref 0], wS (db Q t o).1)) ok_m_escalate rfl ?_
        refine aq_callV (as := [.int (nI o)]) (st := []) ok_m_escalate rfl c0_m_serve (am_serve (d := d + 2) (WF_db hWQ t o) ho) rfl (Nat.le_of_ble_eq_true rfl) rfl rfl rfl ?_
        refine aq_gn (n := 2) (c1 := (95, [some (.ref 0), some (.int (nI t)), some (.int (nI o)), some (.int (oI (hm (s_ha S) t o))), some (.int (nI (eww S t o))), some (.int (nI (db Q t o).2))], [.int (nI (db Q t o).2)], wS (sv (db Q t o).1 o).1)) ok_m_escalate rfl ?_
        exact aq_ei ok_m_escalate rfl rfl rfl rfl
      · have hz : ¬ ow (s_ha S) t o (nI (eww S t o)) = 0 := fun q => h3 ((lg_cmp_0 _ _).mpr q)
        rw [esc, if_neg hz]
        refine aq_gn (n := 1) (c1 := (70, [some (.ref 0), some (.int (nI t)), some (.int (nI o)), some (.int (oI (hm (s_ha S) t o))), some (.int (nI (eww S t o))), none], [.int (-1)], wS S)) ok_m_escalate rfl ?_
        exact aq_ei ok_m_escalate rfl rfl rfl rfl
  · exact absurd (oI_m1 h (fun x q => by have := hm_lt q; omega)) hh
set_option maxHeartbeats 4000000 in
theorem am_escalate_t {d : Nat} {S : LSt} {x y : Int32} (hx : x < 0 ∨ nI (s_n S) ≤ x) : AM m_escalate (d + 1) (.inr 0) [.ref 0, .int x, .int y] (wS S) (wS S) := by
  refine aq_enter pl_m_escalate (Nat.le_of_ble_eq_true rfl) ?_
  refine aq_gn (n := 2) (c1 := (2, [some (.ref 0), some (.int x), some (.int y), none, none, none], [.int x, .ref 0], wS S)) ok_m_escalate rfl ?_
  exact aq_callVT (as := [.int x]) (st := []) ok_m_escalate rfl c0_m_checkTransaction (am_chkTS_x hx) rfl (Nat.le_of_ble_eq_true rfl) rfl rfl rfl
set_option maxHeartbeats 4000000 in
theorem am_escalate_o {d : Nat} {S : LSt} {t : Nat} {y : Int32} (hS : WF S) (ht : t < s_n S) (hx : y < 0 ∨ nI 85 ≤ y) : AM m_escalate (d + 1) (.inr 0) [.ref 0, .int (nI t), .int y] (wS S) (wS S) := by
  refine aq_enter pl_m_escalate (Nat.le_of_ble_eq_true rfl) ?_
  refine aq_gn (n := 2) (c1 := (2, [some (.ref 0), some (.int (nI t)), some (.int y), none, none, none], [.int (nI t), .ref 0], wS S)) ok_m_escalate rfl ?_
  refine aq_callV (as := [.int (nI t)]) (st := []) ok_m_escalate rfl c0_m_checkTransaction (am_chkTS hS ht) rfl (Nat.le_of_ble_eq_true rfl) rfl rfl rfl ?_
  refine aq_gn (n := 1) (c1 := (6, [some (.ref 0), some (.int (nI t)), some (.int y), none, none, none], [.int y], wS S)) ok_m_escalate rfl ?_
  exact aq_callST (as := [.int y]) (st := []) ok_m_escalate rfl c0_m_checkObject (am_chkO_x hx) rfl (Nat.le_of_ble_eq_true rfl)
set_option maxHeartbeats 4000000 in
theorem am_escalate_a {d : Nat} {S : LSt} {t o : Nat} (hS : WF S) (ht : t < s_n S) (ho : o < 85) (hs : ¬ s_st S t = 0) : AM m_escalate (d + 1) (.inr 2) [.ref 0, .int (nI t), .int (nI o)] (wS S) (wS S) := by
  refine aq_enter pl_m_escalate (Nat.le_of_ble_eq_true rfl) ?_
  refine aq_gn (n := 2) (c1 := (2, [some (.ref 0), some (.int (nI t)), some (.int (nI o)), none, none, none], [.int (nI t), .ref 0], wS S)) ok_m_escalate rfl ?_
  refine aq_callV (as := [.int (nI t)]) (st := []) ok_m_escalate rfl c0_m_checkTransaction (am_chkTS hS ht) rfl (Nat.le_of_ble_eq_true rfl) rfl rfl rfl ?_
  refine aq_gn (n := 1) (c1 := (6, [some (.ref 0), some (.int (nI t)), some (.int (nI o)), none, none, none], [.int (nI o)], wS S)) ok_m_escalate rfl ?_
  refine aq_callS (as := [.int (nI o)]) (st := []) ok_m_escalate rfl c0_m_checkObject (am_chkO ho) rfl (Nat.le_of_ble_eq_true rfl) ?_
  refine aq_gn (n := 2) (c1 := (11, [some (.ref 0), some (.int (nI t)), some (.int (nI o)), none, none, none], [.int (nI t), .ref 0], wS S)) ok_m_escalate rfl ?_
  exact aq_callVT (as := [.int (nI t)]) (st := []) ok_m_escalate rfl c0_m_checkActive (am_chkAS_x hS (Nat.lt_of_lt_of_le ht hS.2.2.1) hs) rfl (Nat.le_of_ble_eq_true rfl) rfl rfl rfl
set_option maxHeartbeats 4000000 in
theorem am_escalate_h {d : Nat} {S : LSt} {t o : Nat} (hS : WF S) (ht : t < s_n S) (ho : o < 85) (hs : s_st S t = 0) (hh : hm (s_ha S) t o = none) : AM m_escalate (d + 2) (.inr 2) [.ref 0, .int (nI t), .int (nI o)] (wS S) (wS S) := by
  refine aq_enter pl_m_escalate (Nat.le_of_ble_eq_true rfl) ?_
  refine aq_gn (n := 2) (c1 := (2, [some (.ref 0), some (.int (nI t)), some (.int (nI o)), none, none, none], [.int (nI t), .ref 0], wS S)) ok_m_escalate rfl ?_
  refine aq_callV (as := [.int (nI t)]) (st := []) ok_m_escalate rfl c0_m_checkTransaction (am_chkTS hS ht) rfl (Nat.le_of_ble_eq_true rfl) rfl rfl rfl ?_
  refine aq_gn (n := 1) (c1 := (6, [some (.ref 0), some (.int (nI t)), some (.int (nI o)), none, none, none], [.int (nI o)], wS S)) ok_m_escalate rfl ?_
  refine aq_callS (as := [.int (nI o)]) (st := []) ok_m_escalate rfl c0_m_checkObject (am_chkO ho) rfl (Nat.le_of_ble_eq_true rfl) ?_
  refine aq_gn (n := 2) (c1 := (11, [some (.ref 0), some (.int (nI t)), some (.int (nI o)), none, none, none], [.int (nI t), .ref 0], wS S)) ok_m_escalate rfl ?_
  refine aq_callV (as := [.int (nI t)]) (st := []) ok_m_escalate rfl c0_m_checkActive (am_chkAS (Nat.lt_of_lt_of_le ht hS.2.2.1) hs) rfl (Nat.le_of_ble_eq_true rfl) rfl rfl rfl ?_
  refine aq_gn (n := 3) (c1 := (17, [some (.ref 0), some (.int (nI t)), some (.int (nI o)), none, none, none], [.int (nI o), .int (nI t), .ref 0], wS S)) ok_m_escalate rfl ?_
  refine aq_callV (as := [.int (nI t), .int (nI o)]) (st := []) ok_m_escalate rfl c0_m_heldMode (am_heldS (d := d) (Nat.lt_of_lt_of_le ht hS.2.2.1) ho) rfl (Nat.le_of_ble_eq_true rfl) rfl rfl rfl ?_
  refine aq_gn (n := 3) (c1 := (23, [some (.ref 0), some (.int (nI t)), some (.int (nI o)), some (.int (oI (hm (s_ha S) t o))), none, none], [.int (-1), .int (oI (hm (s_ha S) t o))], wS S)) ok_m_escalate rfl ?_
  refine aq_icmp_ne ok_m_escalate rfl (fun h => ?_) (fun h => ?_)
  · exact absurd (by rw [hh]; rfl) h
  · exact aq_throw (text := "the object is not held") ok_m_escalate rfl tw2 (aq_fit _) aq_upf (by decide +kernel) rfl rfl rfl rfl rfl (Nat.le_of_ble_eq_true rfl)
set_option maxHeartbeats 4000000 in
theorem am_mode {d : Nat} {S : LSt} {t o : Nat} (hS : WF S) (ht : t < s_n S) (ho : o < 85) : AM m_mode (d + 2) (.inl (some (.int (oI (hm (s_ha S) t o))))) [.ref 0, .int (nI t), .int (nI o)] (wS S) (wS S) := by
  refine aq_enter pl_m_mode (Nat.le_of_ble_eq_true rfl) ?_
  refine aq_gn (n := 2) (c1 := (2, [some (.ref 0), some (.int (nI t)), some (.int (nI o))], [.int (nI t), .ref 0], wS S)) ok_m_mode rfl ?_
  refine aq_callV (as := [.int (nI t)]) (st := []) ok_m_mode rfl c0_m_checkTransaction (am_chkTS hS ht) rfl (Nat.le_of_ble_eq_true rfl) rfl rfl rfl ?_
  refine aq_gn (n := 1) (c1 := (6, [some (.ref 0), some (.int (nI t)), some (.int (nI o))], [.int (nI o)], wS S)) ok_m_mode rfl ?_
  refine aq_callS (as := [.int (nI o)]) (st := []) ok_m_mode rfl c0_m_checkObject (am_chkO ho) rfl (Nat.le_of_ble_eq_true rfl) ?_
  refine aq_gn (n := 3) (c1 := (12, [some (.ref 0), some (.int (nI t)), some (.int (nI o))], [.int (nI o), .int (nI t), .ref 0], wS S)) ok_m_mode rfl ?_
  refine aq_callV (as := [.int (nI t), .int (nI o)]) (st := []) ok_m_mode rfl c0_m_heldMode (am_heldS (Nat.lt_of_lt_of_le ht hS.2.2.1) ho) rfl (Nat.le_of_ble_eq_true rfl) rfl rfl rfl ?_
  exact aq_ei ok_m_mode rfl rfl rfl rfl
set_option maxHeartbeats 4000000 in
theorem am_mode_t {d : Nat} {S : LSt} {x y : Int32} (hx : x < 0 ∨ nI (s_n S) ≤ x) : AM m_mode (d + 1) (.inr 0) [.ref 0, .int x, .int y] (wS S) (wS S) := by
  refine aq_enter pl_m_mode (Nat.le_of_ble_eq_true rfl) ?_
  refine aq_gn (n := 2) (c1 := (2, [some (.ref 0), some (.int x), some (.int y)], [.int x, .ref 0], wS S)) ok_m_mode rfl ?_
  exact aq_callVT (as := [.int x]) (st := []) ok_m_mode rfl c0_m_checkTransaction (am_chkTS_x hx) rfl (Nat.le_of_ble_eq_true rfl) rfl rfl rfl
set_option maxHeartbeats 4000000 in
theorem am_mode_o {d : Nat} {S : LSt} {t : Nat} {y : Int32} (hS : WF S) (ht : t < s_n S) (hx : y < 0 ∨ nI 85 ≤ y) : AM m_mode (d + 1) (.inr 0) [.ref 0, .int (nI t), .int y] (wS S) (wS S) := by
  refine aq_enter pl_m_mode (Nat.le_of_ble_eq_true rfl) ?_
  refine aq_gn (n := 2) (c1 := (2, [some (.ref 0), some (.int (nI t)), some (.int y)], [.int (nI t), .ref 0], wS S)) ok_m_mode rfl ?_
  refine aq_callV (as := [.int (nI t)]) (st := []) ok_m_mode rfl c0_m_checkTransaction (am_chkTS hS ht) rfl (Nat.le_of_ble_eq_true rfl) rfl rfl rfl ?_
  refine aq_gn (n := 1) (c1 := (6, [some (.ref 0), some (.int (nI t)), some (.int y)], [.int y], wS S)) ok_m_mode rfl ?_
  exact aq_callST (as := [.int y]) (st := []) ok_m_mode rfl c0_m_checkObject (am_chkO_x hx) rfl (Nat.le_of_ble_eq_true rfl)
set_option maxHeartbeats 4000000 in
theorem am_waitsFor {d : Nat} {S : LSt} {t : Nat} (hS : WF S) (ht : t < s_n S) : AM m_waitsFor (d + 3) (.inl (some (.long (wrw (s_aw S) (s_wa S) (s_ha S) (s_la S) (s_k S) t)))) [.ref 0, .int (nI t)] (wS S) (wS S) := by
  refine aq_enter pl_m_waitsFor (Nat.le_of_ble_eq_true rfl) ?_
  refine aq_gn (n := 2) (c1 := (2, [some (.ref 0), some (.int (nI t))], [.int (nI t), .ref 0], wS S)) ok_m_waitsFor rfl ?_
  refine aq_callV (as := [.int (nI t)]) (st := []) ok_m_waitsFor rfl c0_m_checkTransaction (am_chkTS hS ht) rfl (Nat.le_of_ble_eq_true rfl) rfl rfl rfl ?_
  refine aq_gn (n := 2) (c1 := (7, [some (.ref 0), some (.int (nI t))], [.int (nI t), .ref 0], wS S)) ok_m_waitsFor rfl ?_
  refine aq_callV (as := [.int (nI t)]) (st := []) ok_m_waitsFor rfl c0_m_waitRow (am_waitRowS hS (Nat.lt_of_lt_of_le ht hS.2.2.1)) rfl (Nat.le_of_ble_eq_true rfl) rfl rfl rfl ?_
  exact aq_el ok_m_waitsFor rfl rfl rfl rfl
set_option maxHeartbeats 4000000 in
theorem am_waitsFor_t {d : Nat} {S : LSt} {x : Int32} (hx : x < 0 ∨ nI (s_n S) ≤ x) : AM m_waitsFor (d + 1) (.inr 0) [.ref 0, .int x] (wS S) (wS S) := by
  refine aq_enter pl_m_waitsFor (Nat.le_of_ble_eq_true rfl) ?_
  refine aq_gn (n := 2) (c1 := (2, [some (.ref 0), some (.int x)], [.int x, .ref 0], wS S)) ok_m_waitsFor rfl ?_
  exact aq_callVT (as := [.int x]) (st := []) ok_m_waitsFor rfl c0_m_checkTransaction (am_chkTS_x hx) rfl (Nat.le_of_ble_eq_true rfl) rfl rfl rfl
set_option maxHeartbeats 4000000 in
theorem am_told0 {d : Nat} {S : LSt} {t : Nat} (hS : WF S) (ht : t < s_n S) : AM m_told (d + 3) (.inl (some (.int (nI (s_st S t))))) [.ref 0, .int (nI t), .int (nI 0)] (wS S) (wS S) := by
  refine aq_enter pl_m_told (Nat.le_of_ble_eq_true rfl) ?_
  have ht6 : t < 60 := Nat.lt_of_lt_of_le ht hS.2.2.1
  refine aq_gn (n := 2) (c1 := (2, [some (.ref 0), some (.int (nI t)), some (.int (nI 0))], [.int (nI t), .ref 0], wS S)) ok_m_told rfl ?_
  refine aq_callV (as := [.int (nI t)]) (st := []) ok_m_told rfl c0_m_checkTransaction (am_chkTS hS ht) rfl (Nat.le_of_ble_eq_true rfl) rfl rfl rfl ?_
  refine aq_gn (n := 1) (c1 := (6, [some (.ref 0), some (.int (nI t)), some (.int (nI 0))], [.int (nI 0)], wS S)) ok_m_told rfl ?_
  refine aq_tabI (tgt := 40) ok_m_told rfl (by decide) (by decide) rfl (by decide) ?_
  refine aq_go (n := 4) (c1 := (46, [some (.ref 0), some (.int (nI t)), some (.int (nI 0))], [.int (nI ((s_st S) (nI t).toNatClampNeg))], wL (s_st S) (s_pr S) (s_aw S) (s_wa S) (s_ha S) (s_la S) (s_wr S) (s_n S) (s_k S) (s_c5 S) (s_c6 S) (s_c7 S))) (P := vp_in (nI t) 60) ok_m_told rfl (in60 ht6) ?_
  rw [cl60 ht6]
  exact aq_ei ok_m_told rfl rfl rfl rfl
set_option maxHeartbeats 4000000 in
theorem am_told1 {d : Nat} {S : LSt} {t : Nat} (hS : WF S) (ht : t < s_n S) : AM m_told (d + 3) (.inl (some (.int (nI (s_pr S t))))) [.ref 0, .int (nI t), .int (nI 1)] (wS S) (wS S) := by
  refine aq_enter pl_m_told (Nat.le_of_ble_eq_true rfl) ?_
  have ht6 : t < 60 := Nat.lt_of_lt_of_le ht hS.2.2.1
  refine aq_gn (n := 2) (c1 := (2, [some (.ref 0), some (.int (nI t)), some (.int (nI 1))], [.int (nI t), .ref 0], wS S)) ok_m_told rfl ?_
  refine aq_callV (as := [.int (nI t)]) (st := []) ok_m_told rfl c0_m_checkTransaction (am_chkTS hS ht) rfl (Nat.le_of_ble_eq_true rfl) rfl rfl rfl ?_
  refine aq_gn (n := 1) (c1 := (6, [some (.ref 0), some (.int (nI t)), some (.int (nI 1))], [.int (nI 1)], wS S)) ok_m_told rfl ?_
  refine aq_tabI (tgt := 47) ok_m_told rfl (by decide) (by decide) rfl (by decide) ?_
  refine aq_go (n := 4) (c1 := (53, [some (.ref 0), some (.int (nI t)), some (.int (nI 1))], [.int (nI ((s_pr S) (nI t).toNatClampNeg))], wL (s_st S) (s_pr S) (s_aw S) (s_wa S) (s_ha S) (s_la S) (s_wr S) (s_n S) (s_k S) (s_c5 S) (s_c6 S) (s_c7 S))) (P := vp_in (nI t) 60) ok_m_told rfl (in60 ht6) ?_
  rw [cl60 ht6]
  exact aq_ei ok_m_told rfl rfl rfl rfl
set_option maxHeartbeats 4000000 in
theorem am_told2 {d : Nat} {S : LSt} {t : Nat} (hS : WF S) (ht : t < s_n S) : AM m_told (d + 3) (.inl (some (.int (nI (cnt (fun o => (hm (s_ha S) t o).isSome) 85 0 0))))) [.ref 0, .int (nI t), .int (nI 2)] (wS S) (wS S) := by
  refine aq_enter pl_m_told (Nat.le_of_ble_eq_true rfl) ?_
  have ht6 : t < 60 := Nat.lt_of_lt_of_le ht hS.2.2.1
  refine aq_gn (n := 2) (c1 := (2, [some (.ref 0), some (.int (nI t)), some (.int (nI 2))], [.int (nI t), .ref 0], wS S)) ok_m_told rfl ?_
  refine aq_callV (as := [.int (nI t)]) (st := []) ok_m_told rfl c0_m_checkTransaction (am_chkTS hS ht) rfl (Nat.le_of_ble_eq_true rfl) rfl rfl rfl ?_
  refine aq_gn (n := 1) (c1 := (6, [some (.ref 0), some (.int (nI t)), some (.int (nI 2))], [.int (nI 2)], wS S)) ok_m_told rfl ?_
  refine aq_tabI (tgt := 54) ok_m_told rfl (by decide) (by decide) rfl (by decide) ?_
  refine aq_gn (n := 2) (c1 := (56, [some (.ref 0), some (.int (nI t)), some (.int (nI 2))], [.int (nI t), .ref 0], wS S)) ok_m_told rfl ?_
  refine aq_callV (as := [.int (nI t)]) (st := []) ok_m_told rfl c0_m_heldObjects (am_heldObjects (d := d) ht6) rfl (Nat.le_of_ble_eq_true rfl) rfl rfl rfl ?_
  exact aq_ei ok_m_told rfl rfl rfl rfl
set_option maxHeartbeats 4000000 in
theorem am_told3 {d : Nat} {S : LSt} {t : Nat} (hS : WF S) (ht : t < s_n S) : AM m_told (d + 3) (.inl (some (.int (oI (s_aw S t))))) [.ref 0, .int (nI t), .int (nI 3)] (wS S) (wS S) := by
  refine aq_enter pl_m_told (Nat.le_of_ble_eq_true rfl) ?_
  have ht6 : t < 60 := Nat.lt_of_lt_of_le ht hS.2.2.1
  refine aq_gn (n := 2) (c1 := (2, [some (.ref 0), some (.int (nI t)), some (.int (nI 3))], [.int (nI t), .ref 0], wS S)) ok_m_told rfl ?_
  refine aq_callV (as := [.int (nI t)]) (st := []) ok_m_told rfl c0_m_checkTransaction (am_chkTS hS ht) rfl (Nat.le_of_ble_eq_true rfl) rfl rfl rfl ?_
  refine aq_gn (n := 1) (c1 := (6, [some (.ref 0), some (.int (nI t)), some (.int (nI 3))], [.int (nI 3)], wS S)) ok_m_told rfl ?_
  refine aq_tabI (tgt := 60) ok_m_told rfl (by decide) (by decide) rfl (by decide) ?_
  refine aq_go (n := 4) (c1 := (66, [some (.ref 0), some (.int (nI t)), some (.int (nI 3))], [.int (oI ((s_aw S) (nI t).toNatClampNeg))], wL (s_st S) (s_pr S) (s_aw S) (s_wa S) (s_ha S) (s_la S) (s_wr S) (s_n S) (s_k S) (s_c5 S) (s_c6 S) (s_c7 S))) (P := vp_in (nI t) 60) ok_m_told rfl (in60 ht6) ?_
  rw [cl60 ht6]
  exact aq_ei ok_m_told rfl rfl rfl rfl
set_option maxHeartbeats 4000000 in
theorem am_told4 {d : Nat} {S : LSt} {t : Nat} (hS : WF S) (ht : t < s_n S) : AM m_told (d + 3) (.inl (some (.int (oI (s_wa S t))))) [.ref 0, .int (nI t), .int (nI 4)] (wS S) (wS S) := by
  refine aq_enter pl_m_told (Nat.le_of_ble_eq_true rfl) ?_
  have ht6 : t < 60 := Nat.lt_of_lt_of_le ht hS.2.2.1
  refine aq_gn (n := 2) (c1 := (2, [some (.ref 0), some (.int (nI t)), some (.int (nI 4))], [.int (nI t), .ref 0], wS S)) ok_m_told rfl ?_
  refine aq_callV (as := [.int (nI t)]) (st := []) ok_m_told rfl c0_m_checkTransaction (am_chkTS hS ht) rfl (Nat.le_of_ble_eq_true rfl) rfl rfl rfl ?_
  refine aq_gn (n := 1) (c1 := (6, [some (.ref 0), some (.int (nI t)), some (.int (nI 4))], [.int (nI 4)], wS S)) ok_m_told rfl ?_
  refine aq_tabI (tgt := 67) ok_m_told rfl (by decide) (by decide) rfl (by decide) ?_
  refine aq_go (n := 4) (c1 := (73, [some (.ref 0), some (.int (nI t)), some (.int (nI 4))], [.int (oI ((s_wa S) (nI t).toNatClampNeg))], wL (s_st S) (s_pr S) (s_aw S) (s_wa S) (s_ha S) (s_la S) (s_wr S) (s_n S) (s_k S) (s_c5 S) (s_c6 S) (s_c7 S))) (P := vp_in (nI t) 60) ok_m_told rfl (in60 ht6) ?_
  rw [cl60 ht6]
  exact aq_ei ok_m_told rfl rfl rfl rfl
set_option maxHeartbeats 4000000 in
theorem am_told_t {d : Nat} {S : LSt} {x y : Int32} (hx : x < 0 ∨ nI (s_n S) ≤ x) : AM m_told (d + 1) (.inr 0) [.ref 0, .int x, .int y] (wS S) (wS S) := by
  refine aq_enter pl_m_told (Nat.le_of_ble_eq_true rfl) ?_
  refine aq_gn (n := 2) (c1 := (2, [some (.ref 0), some (.int x), some (.int y)], [.int x, .ref 0], wS S)) ok_m_told rfl ?_
  exact aq_callVT (as := [.int x]) (st := []) ok_m_told rfl c0_m_checkTransaction (am_chkTS_x hx) rfl (Nat.le_of_ble_eq_true rfl) rfl rfl rfl
set_option maxHeartbeats 4000000 in
theorem am_told_w {d : Nat} {S : LSt} {t : Nat} {y : Int32} (hS : WF S) (ht : t < s_n S) (hx : y.toInt < 0 ∨ 4 < y.toInt) : AM m_told (d + 1) (.inr 1) [.ref 0, .int (nI t), .int y] (wS S) (wS S) := by
  refine aq_enter pl_m_told (Nat.le_of_ble_eq_true rfl) ?_
  refine aq_gn (n := 2) (c1 := (2, [some (.ref 0), some (.int (nI t)), some (.int y)], [.int (nI t), .ref 0], wS S)) ok_m_told rfl ?_
  refine aq_callV (as := [.int (nI t)]) (st := []) ok_m_told rfl c0_m_checkTransaction (am_chkTS hS ht) rfl (Nat.le_of_ble_eq_true rfl) rfl rfl rfl ?_
  refine aq_gn (n := 1) (c1 := (6, [some (.ref 0), some (.int (nI t)), some (.int y)], [.int y], wS S)) ok_m_told rfl ?_
  refine aq_tabO (tgt := 74) ok_m_told rfl hx (by decide) ?_
  exact aq_throw (text := "what is none of 0 .. 4") ok_m_told rfl tw1 (aq_fit _) aq_upf (by decide +kernel) rfl rfl rfl rfl rfl (Nat.le_of_ble_eq_true rfl)
set_option maxHeartbeats 4000000 in
theorem am_count0 {d : Nat} {S : LSt} (hS : WF S) : AM m_count (d + 1) (.inl (some (.int (nI (s_n S))))) [.ref 0, .int (nI 0)] (wS S) (wS S) := by
  refine aq_enter pl_m_count (Nat.le_of_ble_eq_true rfl) ?_
  refine aq_gn (n := 1) (c1 := (1, [some (.ref 0), some (.int (nI 0))], [.int (nI 0)], wS S)) ok_m_count rfl ?_
  refine aq_tabI (tgt := 48) ok_m_count rfl (by decide) (by decide) rfl (by decide) ?_
  refine aq_gn (n := 2) (c1 := (52, [some (.ref 0), some (.int (nI 0))], [.int (nI (s_n S))], wL (s_st S) (s_pr S) (s_aw S) (s_wa S) (s_ha S) (s_la S) (s_wr S) (s_n S) (s_k S) (s_c5 S) (s_c6 S) (s_c7 S))) ok_m_count rfl ?_
  exact aq_ei ok_m_count rfl rfl rfl rfl
set_option maxHeartbeats 4000000 in
theorem am_count1 {d : Nat} {S : LSt} (hS : WF S) : AM m_count (d + 1) (.inl (some (.int (nI (cnt (fun i => decide (nI (s_st S i) = nI 0)) (s_n S) 0 0))))) [.ref 0, .int (nI 1)] (wS S) (wS S) := by
  refine aq_enter pl_m_count (Nat.le_of_ble_eq_true rfl) ?_
  refine aq_gn (n := 1) (c1 := (1, [some (.ref 0), some (.int (nI 1))], [.int (nI 1)], wS S)) ok_m_count rfl ?_
  refine aq_tabI (tgt := 53) ok_m_count rfl (by decide) (by decide) rfl (by decide) ?_
  refine aq_gn (n := 2) (c1 := (55, [some (.ref 0), some (.int (nI 1))], [.int (nI 0), .ref 0], wS S)) ok_m_count rfl ?_
  refine aq_callV (as := [.int (nI 0)]) (st := []) ok_m_count rfl c0_m_inState (am_inState hS.2.2.1) rfl (Nat.le_of_ble_eq_true rfl) rfl rfl rfl ?_
  exact aq_ei ok_m_count rfl rfl rfl rfl
set_option maxHeartbeats 4000000 in
theorem am_count2 {d : Nat} {S : LSt} (hS : WF S) : AM m_count (d + 1) (.inl (some (.int (nI (cnt (fun i => decide (nI (s_st S i) = nI 1)) (s_n S) 0 0))))) [.ref 0, .int (nI 2)] (wS S) (wS S) := by
  refine aq_enter pl_m_count (Nat.le_of_ble_eq_true rfl) ?_
  refine aq_gn (n := 1) (c1 := (1, [some (.ref 0), some (.int (nI 2))], [.int (nI 2)], wS S)) ok_m_count rfl ?_
  refine aq_tabI (tgt := 59) ok_m_count rfl (by decide) (by decide) rfl (by decide) ?_
  refine aq_gn (n := 2) (c1 := (61, [some (.ref 0), some (.int (nI 2))], [.int (nI 1), .ref 0], wS S)) ok_m_count rfl ?_
  refine aq_callV (as := [.int (nI 1)]) (st := []) ok_m_count rfl c0_m_inState (am_inState hS.2.2.1) rfl (Nat.le_of_ble_eq_true rfl) rfl rfl rfl ?_
  exact aq_ei ok_m_count rfl rfl rfl rfl
set_option maxHeartbeats 4000000 in
theorem am_count3 {d : Nat} {S : LSt} (hS : WF S) : AM m_count (d + 1) (.inl (some (.int (nI (cnt (fun i => decide (nI (s_st S i) = nI 2)) (s_n S) 0 0))))) [.ref 0, .int (nI 3)] (wS S) (wS S) := by
  refine aq_enter pl_m_count (Nat.le_of_ble_eq_true rfl) ?_
  refine aq_gn (n := 1) (c1 := (1, [some (.ref 0), some (.int (nI 3))], [.int (nI 3)], wS S)) ok_m_count rfl ?_
  refine aq_tabI (tgt := 65) ok_m_count rfl (by decide) (by decide) rfl (by decide) ?_
  refine aq_gn (n := 2) (c1 := (67, [some (.ref 0), some (.int (nI 3))], [.int (nI 2), .ref 0], wS S)) ok_m_count rfl ?_
  refine aq_callV (as := [.int (nI 2)]) (st := []) ok_m_count rfl c0_m_inState (am_inState hS.2.2.1) rfl (Nat.le_of_ble_eq_true rfl) rfl rfl rfl ?_
  exact aq_ei ok_m_count rfl rfl rfl rfl
set_option maxHeartbeats 4000000 in
theorem am_count4 {d : Nat} {S : LSt} (hS : WF S) : AM m_count (d + 1) (.inl (some (.int (nI (cnt (fun i => decide (nI (s_st S i) = nI 3)) (s_n S) 0 0))))) [.ref 0, .int (nI 4)] (wS S) (wS S) := by
  refine aq_enter pl_m_count (Nat.le_of_ble_eq_true rfl) ?_
  refine aq_gn (n := 1) (c1 := (1, [some (.ref 0), some (.int (nI 4))], [.int (nI 4)], wS S)) ok_m_count rfl ?_
  refine aq_tabI (tgt := 71) ok_m_count rfl (by decide) (by decide) rfl (by decide) ?_
  refine aq_gn (n := 2) (c1 := (73, [some (.ref 0), some (.int (nI 4))], [.int (nI 3), .ref 0], wS S)) ok_m_count rfl ?_
  refine aq_callV (as := [.int (nI 3)]) (st := []) ok_m_count rfl c0_m_inState (am_inState hS.2.2.1) rfl (Nat.le_of_ble_eq_true rfl) rfl rfl rfl ?_
  exact aq_ei ok_m_count rfl rfl rfl rfl
set_option maxHeartbeats 4000000 in
theorem am_count5 {d : Nat} {S : LSt} (hS : WF S) : AM m_count (d + 1) (.inl (some (.int (nI (s_c5 S))))) [.ref 0, .int (nI 5)] (wS S) (wS S) := by
  refine aq_enter pl_m_count (Nat.le_of_ble_eq_true rfl) ?_
  refine aq_gn (n := 1) (c1 := (1, [some (.ref 0), some (.int (nI 5))], [.int (nI 5)], wS S)) ok_m_count rfl ?_
  refine aq_tabI (tgt := 77) ok_m_count rfl (by decide) (by decide) rfl (by decide) ?_
  refine aq_gn (n := 2) (c1 := (81, [some (.ref 0), some (.int (nI 5))], [.int (nI (s_c5 S))], wL (s_st S) (s_pr S) (s_aw S) (s_wa S) (s_ha S) (s_la S) (s_wr S) (s_n S) (s_k S) (s_c5 S) (s_c6 S) (s_c7 S))) ok_m_count rfl ?_
  exact aq_ei ok_m_count rfl rfl rfl rfl
set_option maxHeartbeats 4000000 in
theorem am_count6 {d : Nat} {S : LSt} (hS : WF S) : AM m_count (d + 1) (.inl (some (.int (nI (s_c6 S))))) [.ref 0, .int (nI 6)] (wS S) (wS S) := by
  refine aq_enter pl_m_count (Nat.le_of_ble_eq_true rfl) ?_
  refine aq_gn (n := 1) (c1 := (1, [some (.ref 0), some (.int (nI 6))], [.int (nI 6)], wS S)) ok_m_count rfl ?_
  refine aq_tabI (tgt := 82) ok_m_count rfl (by decide) (by decide) rfl (by decide) ?_
  refine aq_gn (n := 2) (c1 := (86, [some (.ref 0), some (.int (nI 6))], [.int (nI (s_c6 S))], wL (s_st S) (s_pr S) (s_aw S) (s_wa S) (s_ha S) (s_la S) (s_wr S) (s_n S) (s_k S) (s_c5 S) (s_c6 S) (s_c7 S))) ok_m_count rfl ?_
  exact aq_ei ok_m_count rfl rfl rfl rfl
set_option maxHeartbeats 4000000 in
theorem am_count7 {d : Nat} {S : LSt} (hS : WF S) : AM m_count (d + 1) (.inl (some (.int (nI (s_c7 S))))) [.ref 0, .int (nI 7)] (wS S) (wS S) := by
  refine aq_enter pl_m_count (Nat.le_of_ble_eq_true rfl) ?_
  refine aq_gn (n := 1) (c1 := (1, [some (.ref 0), some (.int (nI 7))], [.int (nI 7)], wS S)) ok_m_count rfl ?_
  refine aq_tabI (tgt := 87) ok_m_count rfl (by decide) (by decide) rfl (by decide) ?_
  refine aq_gn (n := 2) (c1 := (91, [some (.ref 0), some (.int (nI 7))], [.int (nI (s_c7 S))], wL (s_st S) (s_pr S) (s_aw S) (s_wa S) (s_ha S) (s_la S) (s_wr S) (s_n S) (s_k S) (s_c5 S) (s_c6 S) (s_c7 S))) ok_m_count rfl ?_
  exact aq_ei ok_m_count rfl rfl rfl rfl
set_option maxHeartbeats 4000000 in
theorem am_count_w {d : Nat} {S : LSt} {y : Int32} (hx : y.toInt < 0 ∨ 7 < y.toInt) : AM m_count (d + 1) (.inl (some (.int (-1)))) [.ref 0, .int y] (wS S) (wS S) := by
  refine aq_enter pl_m_count (Nat.le_of_ble_eq_true rfl) ?_
  refine aq_gn (n := 1) (c1 := (1, [some (.ref 0), some (.int y)], [.int y], wS S)) ok_m_count rfl ?_
  refine aq_tabO (tgt := 92) ok_m_count rfl hx (by decide) ?_
  refine aq_gn (n := 1) (c1 := (93, [some (.ref 0), some (.int y)], [.int (-1)], wS S)) ok_m_count rfl ?_
  exact aq_ei ok_m_count rfl rfl rfl rfl
set_option maxHeartbeats 4000000 in
theorem lp_among {d : Nat} {st pr : Nat → Nat} {aw wa : Nat → Option Nat} {ha : Nat → Int64} {la : Nat → Nat} {wr : Nat → Int64} {n k c5 c6 c7 : Nat} {o : Nat} {x : Int32} {c : Int64} (hn : n ≤ 60) : ∀ (f i : Nat), i + f = n → ∀ a : Nat,  AW m_amongHolders (d + 1) (.inl (some (.int (oI (ahF c x f i a))))) (wL st pr aw wa ha la wr n k c5 c6 c7) (12, [some (.ref 0), some (.int (nI o)), some (.int x), some (.long c), none, some (.int (nI a)), some (.int (nI i))], [], wL st pr aw wa ha la wr n k c5 c6 c7) := by
  intro f
  induction f with
  | zero =>
    intro i hif a
    refine aq_gn (n := 3) (c1 := (18, [some (.ref 0), some (.int (nI o)), some (.int x), some (.long c), none, some (.int (nI a)), some (.int (nI i))], [.int (nI n), .int (nI i)], wL st pr aw wa ha la wr n k c5 c6 c7)) ok_m_amongHolders rfl ?_
    refine aq_icmp_ge ok_m_amongHolders rfl (fun h => ?_) (fun h => ?_)
    · refine aq_gn (n := 1) (c1 := (52, [some (.ref 0), some (.int (nI o)), some (.int x), some (.long c), none, some (.int (nI a)), some (.int (nI i))], [.int (-1)], wL st pr aw wa ha la wr n k c5 c6 c7)) ok_m_amongHolders rfl ?_
      exact aq_ei ok_m_amongHolders rfl rfl rfl rfl
    · exact absurd (nI_le (show n ≤ i by omega) (by omega)) h
  | succ f ih =>
    intro i hif a
    refine aq_gn (n := 3) (c1 := (18, [some (.ref 0), some (.int (nI o)), some (.int x), some (.long c), none, some (.int (nI a)), some (.int (nI i))], [.int (nI n), .int (nI i)], wL st pr aw wa ha la wr n k c5 c6 c7)) ok_m_amongHolders rfl ?_
    refine aq_icmp_ge ok_m_amongHolders rfl (fun h => ?_) (fun h => ?_)
    · exact absurd (q_le h (by omega) (by omega)) (by omega)
    · refine aq_gn (n := 2) (c1 := (24, [some (.ref 0), some (.int (nI o)), some (.int x), some (.long c), none, some (.int (nI a)), some (.int (nI i))], [.int (nI i), .long c], wL st pr aw wa ha la wr n k c5 c6 c7)) ok_m_amongHolders rfl ?_
      refine aq_callS (as := [.int (nI i)]) (st := [.long c]) ok_m_amongHolders rfl c0_m_bit (am_bit i) rfl (Nat.le_of_ble_eq_true rfl) ?_
      refine aq_gn (n := 3) (c1 := (30, [some (.ref 0), some (.int (nI o)), some (.int x), some (.long c), none, some (.int (nI a)), some (.int (nI i))], [.int (lg_cmp (c &&& (lbit i)) 0)], wL st pr aw wa ha la wr n k c5 c6 c7)) ok_m_amongHolders rfl ?_
      refine aq_if_eq ok_m_amongHolders rfl (fun h2 => ?_) (fun h2 => ?_)
      · have hb : lb c i = false := (lb_bit_and (by omega)).mp ((lg_cmp_0 _ _).mp h2)
        refine aq_gn (n := 2) (c1 := (12, [some (.ref 0), some (.int (nI o)), some (.int x), some (.long c), none, some (.int (nI a)), some (.int ((nI i) + 1))], [], wL st pr aw wa ha la wr n k c5 c6 c7)) ok_m_amongHolders rfl ?_
        rw [nI_1]
        have e : ahF c x (f + 1) i a = ahF c x f (i + 1) a := by simp [ahF, hb]
        rw [e]
        exact ih (i + 1) (by omega) a
      · have hb : lb c i = true := by cases hx : lb c i with | true => rfl | false => exact absurd ((lg_cmp_0 _ _).mpr ((lb_bit_and (by omega)).mpr hx)) h2
        refine aq_gn (n := 2) (c1 := (36, [some (.ref 0), some (.int (nI o)), some (.int x), some (.long c), none, some (.int (nI a)), some (.int (nI i))], [.int x, .int (nI a)], wL st pr aw wa ha la wr n k c5 c6 c7)) ok_m_amongHolders rfl ?_
        refine aq_icmp_ne ok_m_amongHolders rfl (fun h3 => ?_) (fun h3 => ?_)
        · refine aq_gn (n := 3) (c1 := (12, [some (.ref 0), some (.int (nI o)), some (.int x), some (.long c), none, some (.int ((nI a) + 1)), some (.int ((nI i) + 1))], [], wL st pr aw wa ha la wr n k c5 c6 c7)) ok_m_amongHolders rfl ?_
          rw [nI_1, nI_1]
          have e : ahF c x (f + 1) i a = ahF c x f (i + 1) (a + 1) := by simp [ahF, hb, h3]
          rw [e]
          exact ih (i + 1) (by omega) (a + 1)
        · refine aq_gn (n := 1) (c1 := (41, [some (.ref 0), some (.int (nI o)), some (.int x), some (.long c), none, some (.int (nI a)), some (.int (nI i))], [.int (nI i)], wL st pr aw wa ha la wr n k c5 c6 c7)) ok_m_amongHolders rfl ?_
          exact aq_ei ok_m_amongHolders rfl rfl (by simp [ahF, hb, h3, oI]) rfl
set_option maxHeartbeats 4000000 in
theorem am_among {d : Nat} {st pr : Nat → Nat} {aw wa : Nat → Option Nat} {ha : Nat → Int64} {la : Nat → Nat} {wr : Nat → Int64} {n k c5 c6 c7 : Nat} {o : Nat} {x : Int32} (ho : o < 85) (hn : n ≤ 60) : AM m_amongHolders (d + 1) (.inl (some (.int (oI (ahF (ao ha o) x n 0 0))))) [.ref 0, .int (nI o), .int x] (wL st pr aw wa ha la wr n k c5 c6 c7) (wL st pr aw wa ha la wr n k c5 c6 c7) := by
  refine aq_enter pl_m_amongHolders (Nat.le_of_ble_eq_true rfl) ?_
  refine aq_gn (n := 2) (c1 := (2, [some (.ref 0), some (.int (nI o)), some (.int x), none, none, none, none], [.int (nI o), .ref 0], wL st pr aw wa ha la wr n k c5 c6 c7)) ok_m_amongHolders rfl ?_
  refine aq_callV (as := [.int (nI o)]) (st := []) ok_m_amongHolders rfl c0_m_allHolders (am_allHolders ho) rfl (Nat.le_of_ble_eq_true rfl) rfl rfl rfl ?_
  refine aq_gn (n := 5) (c1 := (12, [some (.ref 0), some (.int (nI o)), some (.int x), some (.long (ao ha o)), none, some (.int (nI 0)), some (.int (nI 0))], [], wL st pr aw wa ha la wr n k c5 c6 c7)) ok_m_amongHolders rfl ?_
  exact lp_among hn n 0 (by omega) 0
theorem ahF_lt {c : Int64} {x : Int32} : ∀ {f i a t : Nat}, ahF c x f i a = some t → t < i + f := by
  intro f
  induction f with
  | zero => intro i a t h; cases h
  | succ f ih =>
    intro i a t h
    unfold ahF at h
    split at h
    · split at h
      · cases h; omega
      · have := ih h; omega
    · have := ih h; omega
def atq (S : LSt) (o : Nat) (x : Int32) (b : Bool) : Option Nat := if b then iqF (s_aw S) (s_la S) o x (s_k S) 0 0 else ahF (ao (s_ha S) o) x (s_n S) 0 0
theorem atq_lt {S : LSt} (h : WF S) {o : Nat} {x : Int32} {b : Bool} : ∀ t, atq S o x b = some t → t < 60 := by
  intro t q
  unfold atq at q
  split at q
  · obtain ⟨-, i, -, -, e⟩ := iqF_in q
    rw [e]; exact h.1 i
  · have := ahF_lt q
    have := h.2.2.1
    omega
set_option maxHeartbeats 4000000 in
theorem am_at {d : Nat} {S : LSt} {o t : Nat} {x : Int32} {b : Bool} (hS : WF S) (ho : o < 85) (hq : atq S o x b = some t) : AM m_at (d + 2) (.inl (some (.int (nI t)))) [.ref 0, .int (nI o), .int x, .int (bI b)] (wS S) (wS S) := by
  refine aq_enter pl_m_at (Nat.le_of_ble_eq_true rfl) ?_
  refine aq_gn (n := 1) (c1 := (1, [some (.ref 0), some (.int (nI o)), some (.int x), some (.int (bI b)), none], [.int (nI o)], wS S)) ok_m_at rfl ?_
  refine aq_callS (as := [.int (nI o)]) (st := []) ok_m_at rfl c0_m_checkObject (am_chkO ho) rfl (Nat.le_of_ble_eq_true rfl) ?_
  refine aq_gn (n := 1) (c1 := (5, [some (.ref 0), some (.int (nI o)), some (.int x), some (.int (bI b)), none], [.int (bI b)], wS S)) ok_m_at rfl ?_
  refine aq_if_eq ok_m_at rfl (fun h => ?_) (fun h => ?_)
  · have hb := (bI_0 _).mp h
    subst hb
    refine aq_gn (n := 3) (c1 := (20, [some (.ref 0), some (.int (nI o)), some (.int x), some (.int (bI false)), none], [.int x, .int (nI o), .ref 0], wS S)) ok_m_at rfl ?_
    refine aq_callV (as := [.int (nI o), .int x]) (st := []) ok_m_at rfl c0_m_amongHolders (am_among ho hS.2.2.1) rfl (Nat.le_of_ble_eq_true rfl) rfl rfl rfl ?_
    have e : atq S o x false = ahF (ao (s_ha S) o) x (s_n S) 0 0 := rfl
    rw [← e]
    refine aq_gn (n := 3) (c1 := (28, [some (.ref 0), some (.int (nI o)), some (.int x), some (.int (bI false)), some (.int (oI (atq S o x false)))], [.int (-1), .int (oI (atq S o x false))], wS S)) ok_m_at rfl ?_
    refine aq_icmp_ne ok_m_at rfl (fun h2 => ?_) (fun h2 => ?_)
    · refine aq_gn (n := 1) (c1 := (43, [some (.ref 0), some (.int (nI o)), some (.int x), some (.int (bI false)), some (.int (oI (atq S o x false)))], [.int (oI (atq S o x false))], wS S)) ok_m_at rfl ?_
      exact aq_ei ok_m_at rfl rfl (by rw [hq]; rfl) rfl
    · exact absurd (oI_m1 h2 (fun y q => by have := atq_lt hS y q; omega)) (by rw [hq]; exact fun z => by cases z)
  · have hb : b = true := by cases b with | true => rfl | false => exact absurd rfl h
    subst hb
    refine aq_gn (n := 3) (c1 := (11, [some (.ref 0), some (.int (nI o)), some (.int x), some (.int (bI true)), none], [.int x, .int (nI o), .ref 0], wS S)) ok_m_at rfl ?_
    refine aq_callV (as := [.int (nI o), .int x]) (st := []) ok_m_at rfl c0_m_inQueue (am_inQueue ho hS.2.1 hS.1 hS.2.2.2.1) rfl (Nat.le_of_ble_eq_true rfl) rfl rfl rfl ?_
    have e : atq S o x true = iqF (s_aw S) (s_la S) o x (s_k S) 0 0 := rfl
    rw [← e]
    refine aq_gn (n := 4) (c1 := (28, [some (.ref 0), some (.int (nI o)), some (.int x), some (.int (bI true)), some (.int (oI (atq S o x true)))], [.int (-1), .int (oI (atq S o x true))], wS S)) ok_m_at rfl ?_
    refine aq_icmp_ne ok_m_at rfl (fun h2 => ?_) (fun h2 => ?_)
    · refine aq_gn (n := 1) (c1 := (43, [some (.ref 0), some (.int (nI o)), some (.int x), some (.int (bI true)), some (.int (oI (atq S o x true)))], [.int (oI (atq S o x true))], wS S)) ok_m_at rfl ?_
      exact aq_ei ok_m_at rfl rfl (by rw [hq]; rfl) rfl
    · exact absurd (oI_m1 h2 (fun y q => by have := atq_lt hS y q; omega)) (by rw [hq]; exact fun z => by cases z)
set_option maxHeartbeats 4000000 in
theorem am_at_n {d : Nat} {S : LSt} {o : Nat} {x : Int32} {b : Bool} (hS : WF S) (ho : o < 85) (hq : atq S o x b = none) : AM m_at (d + 2) (.inr 0) [.ref 0, .int (nI o), .int x, .int (bI b)] (wS S) (wS S) := by
  refine aq_enter pl_m_at (Nat.le_of_ble_eq_true rfl) ?_
  refine aq_gn (n := 1) (c1 := (1, [some (.ref 0), some (.int (nI o)), some (.int x), some (.int (bI b)), none], [.int (nI o)], wS S)) ok_m_at rfl ?_
  refine aq_callS (as := [.int (nI o)]) (st := []) ok_m_at rfl c0_m_checkObject (am_chkO ho) rfl (Nat.le_of_ble_eq_true rfl) ?_
  refine aq_gn (n := 1) (c1 := (5, [some (.ref 0), some (.int (nI o)), some (.int x), some (.int (bI b)), none], [.int (bI b)], wS S)) ok_m_at rfl ?_
  refine aq_if_eq ok_m_at rfl (fun h => ?_) (fun h => ?_)
  · have hb := (bI_0 _).mp h
    subst hb
    refine aq_gn (n := 3) (c1 := (20, [some (.ref 0), some (.int (nI o)), some (.int x), some (.int (bI false)), none], [.int x, .int (nI o), .ref 0], wS S)) ok_m_at rfl ?_
    refine aq_callV (as := [.int (nI o), .int x]) (st := []) ok_m_at rfl c0_m_amongHolders (am_among ho hS.2.2.1) rfl (Nat.le_of_ble_eq_true rfl) rfl rfl rfl ?_
    have e : atq S o x false = ahF (ao (s_ha S) o) x (s_n S) 0 0 := rfl
    rw [← e]
    refine aq_gn (n := 3) (c1 := (28, [some (.ref 0), some (.int (nI o)), some (.int x), some (.int (bI false)), some (.int (oI (atq S o x false)))], [.int (-1), .int (oI (atq S o x false))], wS S)) ok_m_at rfl ?_
    refine aq_icmp_ne ok_m_at rfl (fun h2 => ?_) (fun h2 => ?_)
    · exact absurd (by rw [hq]; rfl) h2
    · exact aq_throw (text := "there is no such place") ok_m_at rfl tw0 (aq_fit _) aq_upf (by decide +kernel) rfl rfl rfl rfl rfl (Nat.le_of_ble_eq_true rfl)
  · have hb : b = true := by cases b with | true => rfl | false => exact absurd rfl h
    subst hb
    refine aq_gn (n := 3) (c1 := (11, [some (.ref 0), some (.int (nI o)), some (.int x), some (.int (bI true)), none], [.int x, .int (nI o), .ref 0], wS S)) ok_m_at rfl ?_
    refine aq_callV (as := [.int (nI o), .int x]) (st := []) ok_m_at rfl c0_m_inQueue (am_inQueue ho hS.2.1 hS.1 hS.2.2.2.1) rfl (Nat.le_of_ble_eq_true rfl) rfl rfl rfl ?_
    have e : atq S o x true = iqF (s_aw S) (s_la S) o x (s_k S) 0 0 := rfl
    rw [← e]
    refine aq_gn (n := 4) (c1 := (28, [some (.ref 0), some (.int (nI o)), some (.int x), some (.int (bI true)), some (.int (oI (atq S o x true)))], [.int (-1), .int (oI (atq S o x true))], wS S)) ok_m_at rfl ?_
    refine aq_icmp_ne ok_m_at rfl (fun h2 => ?_) (fun h2 => ?_)
    · exact absurd (by rw [hq]; rfl) h2
    · exact aq_throw (text := "there is no such place") ok_m_at rfl tw0 (aq_fit _) aq_upf (by decide +kernel) rfl rfl rfl rfl rfl (Nat.le_of_ble_eq_true rfl)
set_option maxHeartbeats 4000000 in
theorem am_at_o {d : Nat} {S : LSt} {x y z : Int32} (hx : y < 0 ∨ nI 85 ≤ y) : AM m_at (d + 1) (.inr 0) [.ref 0, .int y, .int x, .int z] (wS S) (wS S) := by
  refine aq_enter pl_m_at (Nat.le_of_ble_eq_true rfl) ?_
  refine aq_gn (n := 1) (c1 := (1, [some (.ref 0), some (.int y), some (.int x), some (.int z), none], [.int y], wS S)) ok_m_at rfl ?_
  exact aq_callST (as := [.int y]) (st := []) ok_m_at rfl c0_m_checkObject (am_chkO_x hx) rfl (Nat.le_of_ble_eq_true rfl)
