/-! THE TEN HELPERS -/
theorem in01 : vp_in 0 1 := by unfold vp_in; decide
set_option maxHeartbeats 4000000 in
theorem hv_begin {d : Nat} {a1 : Int32} {S S' : LSt} {x : Int32} {f : Nat → Int64} (hM : AM m_begin d (.inl (some (.int x))) [.ref 0, .int a1] (wS S) (wS S')) : HM h_begin hh_begin d (.inl (some (.int x))) [.ref 0, .int a1, .ref 8] (wS S ++ [oL f]) (wS S' ++ [oL (vp_updL f 0 (x.toInt64))]) 0 := by
  refine hq_enter (by decide +kernel) (Nat.le_of_ble_eq_true rfl) (fun X hF hX => ?_)
  refine gq_gn (n := 4) (c1 := (4, [some (.ref 0), some (.int a1), some (.ref 8), none], [.int a1, .ref 0, .int 0, .ref 8], wS S ++ [oL f])) hF ok_h_begin rfl ?_
  refine gq_callV0 (as := [.int a1]) (st := [.int 0, .ref 8]) hF ok_h_begin rfl c3_m_begin hM rfl (Nat.le_of_ble_eq_true rfl) rfl rfl rfl rfl (by rw [hX.1]; exact Nat.le_refl _) (by rw [hX.1]; show 28 * d + 28 ≤ 28 * (d + 1) + 0; omega) ⟨Nat.zero_le _, Nat.zero_le _⟩ ?_
  refine gq_go (n := 4) (c1 := (19, [some (.ref 0), some (.int a1), some (.ref 8), none], [.int 0], wS S' ++ [oL (vp_updL f 0 (x.toInt64))])) (P := vp_in 0 1) hF ok_h_begin rfl in01 ?_
  exact hq_ret hF hX ok_h_begin rfl rfl (Nat.zero_le _) (Nat.zero_le _)
set_option maxHeartbeats 4000000 in
theorem hx_begin_1 {d : Nat} {a1 : Int32} {S : LSt} {f : Nat → Int64} (hM : AM m_begin d (.inr 1) [.ref 0, .int a1] (wS S) (wS S)) : HM h_begin hh_begin d (.inr 1) [.ref 0, .int a1, .ref 8] (wS S ++ [oL f]) (wS S ++ [oL f]) 1 := by
  refine hq_enter (by decide +kernel) (Nat.le_of_ble_eq_true rfl) (fun X hF hX => ?_)
  refine gq_gn (n := 4) (c1 := (4, [some (.ref 0), some (.int a1), some (.ref 8), none], [.int a1, .ref 0, .int 0, .ref 8], wS S ++ [oL f])) hF ok_h_begin rfl ?_
  exact hq_callX (as := [.int a1]) (st := [.int 0, .ref 8]) hF hX ok_h_begin rfl c3_m_begin hM rfl (Nat.le_of_ble_eq_true rfl) rfl rfl rfl rfl [] (⟨0, 9, 12, 13⟩ : ExceptionTableEntry) [(⟨0, 9, 15, 15⟩ : ExceptionTableEntry)] rfl (fun z hz => by cases hz) (by decide) (by decide) (by decide +kernel) (by decide +kernel) (la := 1) (i := 3) (kn := 1) (by decide) (Or.inl ⟨3, by decide +kernel, rfl, rfl⟩) (by decide +kernel) (by decide) (by decide +kernel) rfl
set_option maxHeartbeats 4000000 in
theorem hx_begin_2 {d : Nat} {a1 : Int32} {S : LSt} {f : Nat → Int64} (hM : AM m_begin d (.inr 2) [.ref 0, .int a1] (wS S) (wS S)) : HM h_begin hh_begin d (.inr 2) [.ref 0, .int a1, .ref 8] (wS S ++ [oL f]) (wS S ++ [oL f]) 2 := by
  refine hq_enter (by decide +kernel) (Nat.le_of_ble_eq_true rfl) (fun X hF hX => ?_)
  refine gq_gn (n := 4) (c1 := (4, [some (.ref 0), some (.int a1), some (.ref 8), none], [.int a1, .ref 0, .int 0, .ref 8], wS S ++ [oL f])) hF ok_h_begin rfl ?_
  exact hq_callX (as := [.int a1]) (st := [.int 0, .ref 8]) hF hX ok_h_begin rfl c3_m_begin hM rfl (Nat.le_of_ble_eq_true rfl) rfl rfl rfl rfl [(⟨0, 9, 12, 13⟩ : ExceptionTableEntry)] (⟨0, 9, 15, 15⟩ : ExceptionTableEntry) [] rfl (fun z hz => by rw [List.mem_singleton] at hz; subst hz; exact ⟨by decide, "java/lang/IllegalArgumentException", by decide +kernel, by decide +kernel⟩) (by decide) (by decide) (by decide +kernel) (by decide +kernel) (la := 1) (i := 3) (kn := 2) (by decide) (Or.inl ⟨3, by decide +kernel, rfl, rfl⟩) (by decide +kernel) (by decide) (by decide +kernel) rfl
set_option maxHeartbeats 4000000 in
theorem hv_lock {d : Nat} {a1 a2 a3 : Int32} {S S' : LSt} {x : Int32} {f : Nat → Int64} (hM : AM m_lock d (.inl (some (.int x))) [.ref 0, .int a1, .int a2, .int a3] (wS S) (wS S')) : HM h_lock hh_lock d (.inl (some (.int x))) [.ref 0, .int a1, .int a2, .int a3, .ref 8] (wS S ++ [oL f]) (wS S' ++ [oL (vp_updL f 0 (x.toInt64))]) 0 := by
  refine hq_enter (by decide +kernel) (Nat.le_of_ble_eq_true rfl) (fun X hF hX => ?_)
  refine gq_gn (n := 6) (c1 := (7, [some (.ref 0), some (.int a1), some (.int a2), some (.int a3), some (.ref 8), none], [.int a3, .int a2, .int a1, .ref 0, .int 0, .ref 8], wS S ++ [oL f])) hF ok_h_lock rfl ?_
  refine gq_callV0 (as := [.int a1, .int a2, .int a3]) (st := [.int 0, .ref 8]) hF ok_h_lock rfl c3_m_lock hM rfl (Nat.le_of_ble_eq_true rfl) rfl rfl rfl rfl (by rw [hX.1]; exact Nat.le_refl _) (by rw [hX.1]; show 28 * d + 28 ≤ 28 * (d + 1) + 0; omega) ⟨Nat.zero_le _, Nat.zero_le _⟩ ?_
  refine gq_go (n := 4) (c1 := (28, [some (.ref 0), some (.int a1), some (.int a2), some (.int a3), some (.ref 8), none], [.int 0], wS S' ++ [oL (vp_updL f 0 (x.toInt64))])) (P := vp_in 0 1) hF ok_h_lock rfl in01 ?_
  exact hq_ret hF hX ok_h_lock rfl rfl (Nat.zero_le _) (Nat.zero_le _)
set_option maxHeartbeats 4000000 in
theorem hx_lock_0 {d : Nat} {a1 a2 a3 : Int32} {S : LSt} {f : Nat → Int64} (hM : AM m_lock d (.inr 0) [.ref 0, .int a1, .int a2, .int a3] (wS S) (wS S)) : HM h_lock hh_lock d (.inr 0) [.ref 0, .int a1, .int a2, .int a3, .ref 8] (wS S ++ [oL f]) (wS S ++ [oL f]) 1 := by
  refine hq_enter (by decide +kernel) (Nat.le_of_ble_eq_true rfl) (fun X hF hX => ?_)
  refine gq_gn (n := 6) (c1 := (7, [some (.ref 0), some (.int a1), some (.int a2), some (.int a3), some (.ref 8), none], [.int a3, .int a2, .int a1, .ref 0, .int 0, .ref 8], wS S ++ [oL f])) hF ok_h_lock rfl ?_
  exact hq_callX (as := [.int a1, .int a2, .int a3]) (st := [.int 0, .ref 8]) hF hX ok_h_lock rfl c3_m_lock hM rfl (Nat.le_of_ble_eq_true rfl) rfl rfl rfl rfl [] (⟨0, 12, 15, 21⟩ : ExceptionTableEntry) [(⟨0, 12, 19, 13⟩ : ExceptionTableEntry), (⟨0, 12, 23, 15⟩ : ExceptionTableEntry)] rfl (fun z hz => by cases hz) (by decide) (by decide) (by decide +kernel) (by decide +kernel) (la := 2) (i := 5) (kn := 1) (by decide) (Or.inr ⟨by decide +kernel, rfl⟩) (by decide +kernel) (by decide) (by decide +kernel) rfl
set_option maxHeartbeats 4000000 in
theorem hx_lock_1 {d : Nat} {a1 a2 a3 : Int32} {S : LSt} {f : Nat → Int64} (hM : AM m_lock d (.inr 1) [.ref 0, .int a1, .int a2, .int a3] (wS S) (wS S)) : HM h_lock hh_lock d (.inr 1) [.ref 0, .int a1, .int a2, .int a3, .ref 8] (wS S ++ [oL f]) (wS S ++ [oL f]) 2 := by
  refine hq_enter (by decide +kernel) (Nat.le_of_ble_eq_true rfl) (fun X hF hX => ?_)
  refine gq_gn (n := 6) (c1 := (7, [some (.ref 0), some (.int a1), some (.int a2), some (.int a3), some (.ref 8), none], [.int a3, .int a2, .int a1, .ref 0, .int 0, .ref 8], wS S ++ [oL f])) hF ok_h_lock rfl ?_
  exact hq_callX (as := [.int a1, .int a2, .int a3]) (st := [.int 0, .ref 8]) hF hX ok_h_lock rfl c3_m_lock hM rfl (Nat.le_of_ble_eq_true rfl) rfl rfl rfl rfl [(⟨0, 12, 15, 21⟩ : ExceptionTableEntry)] (⟨0, 12, 19, 13⟩ : ExceptionTableEntry) [(⟨0, 12, 23, 15⟩ : ExceptionTableEntry)] rfl (fun z hz => by rw [List.mem_singleton] at hz; subst hz; exact ⟨by decide, "java/lang/IndexOutOfBoundsException", by decide +kernel, by decide +kernel⟩) (by decide) (by decide) (by decide +kernel) (by decide +kernel) (la := 2) (i := 5) (kn := 2) (by decide) (Or.inr ⟨by decide +kernel, rfl⟩) (by decide +kernel) (by decide) (by decide +kernel) rfl
set_option maxHeartbeats 4000000 in
theorem hx_lock_2 {d : Nat} {a1 a2 a3 : Int32} {S : LSt} {f : Nat → Int64} (hM : AM m_lock d (.inr 2) [.ref 0, .int a1, .int a2, .int a3] (wS S) (wS S)) : HM h_lock hh_lock d (.inr 2) [.ref 0, .int a1, .int a2, .int a3, .ref 8] (wS S ++ [oL f]) (wS S ++ [oL f]) 3 := by
  refine hq_enter (by decide +kernel) (Nat.le_of_ble_eq_true rfl) (fun X hF hX => ?_)
  refine gq_gn (n := 6) (c1 := (7, [some (.ref 0), some (.int a1), some (.int a2), some (.int a3), some (.ref 8), none], [.int a3, .int a2, .int a1, .ref 0, .int 0, .ref 8], wS S ++ [oL f])) hF ok_h_lock rfl ?_
  exact hq_callX (as := [.int a1, .int a2, .int a3]) (st := [.int 0, .ref 8]) hF hX ok_h_lock rfl c3_m_lock hM rfl (Nat.le_of_ble_eq_true rfl) rfl rfl rfl rfl [(⟨0, 12, 15, 21⟩ : ExceptionTableEntry), (⟨0, 12, 19, 13⟩ : ExceptionTableEntry)] (⟨0, 12, 23, 15⟩ : ExceptionTableEntry) [] rfl (fun z hz => (List.mem_cons.mp hz).elim (fun hz => by subst hz; exact ⟨by decide, "java/lang/IndexOutOfBoundsException", by decide +kernel, by decide +kernel⟩) (fun hz => by rw [List.mem_singleton] at hz; subst hz; exact ⟨by decide, "java/lang/IllegalArgumentException", by decide +kernel, by decide +kernel⟩)) (by decide) (by decide) (by decide +kernel) (by decide +kernel) (la := 2) (i := 5) (kn := 3) (by decide) (Or.inr ⟨by decide +kernel, rfl⟩) (by decide +kernel) (by decide) (by decide +kernel) rfl
set_option maxHeartbeats 4000000 in
theorem hv_commit {d : Nat} {a1 : Int32} {S S' : LSt} {x : Int32} {f : Nat → Int64} (hM : AM m_commit d (.inl (some (.int x))) [.ref 0, .int a1] (wS S) (wS S')) : HM h_commit hh_commit d (.inl (some (.int x))) [.ref 0, .int a1, .ref 8] (wS S ++ [oL f]) (wS S' ++ [oL (vp_updL f 0 (x.toInt64))]) 0 := by
  refine hq_enter (by decide +kernel) (Nat.le_of_ble_eq_true rfl) (fun X hF hX => ?_)
  refine gq_gn (n := 4) (c1 := (4, [some (.ref 0), some (.int a1), some (.ref 8), none], [.int a1, .ref 0, .int 0, .ref 8], wS S ++ [oL f])) hF ok_h_commit rfl ?_
  refine gq_callV0 (as := [.int a1]) (st := [.int 0, .ref 8]) hF ok_h_commit rfl c3_m_commit hM rfl (Nat.le_of_ble_eq_true rfl) rfl rfl rfl rfl (by rw [hX.1]; exact Nat.le_refl _) (by rw [hX.1]; show 28 * d + 28 ≤ 28 * (d + 1) + 0; omega) ⟨Nat.zero_le _, Nat.zero_le _⟩ ?_
  refine gq_go (n := 4) (c1 := (19, [some (.ref 0), some (.int a1), some (.ref 8), none], [.int 0], wS S' ++ [oL (vp_updL f 0 (x.toInt64))])) (P := vp_in 0 1) hF ok_h_commit rfl in01 ?_
  exact hq_ret hF hX ok_h_commit rfl rfl (Nat.zero_le _) (Nat.zero_le _)
set_option maxHeartbeats 4000000 in
theorem hx_commit_0 {d : Nat} {a1 : Int32} {S : LSt} {f : Nat → Int64} (hM : AM m_commit d (.inr 0) [.ref 0, .int a1] (wS S) (wS S)) : HM h_commit hh_commit d (.inr 0) [.ref 0, .int a1, .ref 8] (wS S ++ [oL f]) (wS S ++ [oL f]) 1 := by
  refine hq_enter (by decide +kernel) (Nat.le_of_ble_eq_true rfl) (fun X hF hX => ?_)
  refine gq_gn (n := 4) (c1 := (4, [some (.ref 0), some (.int a1), some (.ref 8), none], [.int a1, .ref 0, .int 0, .ref 8], wS S ++ [oL f])) hF ok_h_commit rfl ?_
  exact hq_callX (as := [.int a1]) (st := [.int 0, .ref 8]) hF hX ok_h_commit rfl c3_m_commit hM rfl (Nat.le_of_ble_eq_true rfl) rfl rfl rfl rfl [] (⟨0, 9, 12, 21⟩ : ExceptionTableEntry) [(⟨0, 9, 15, 15⟩ : ExceptionTableEntry)] rfl (fun z hz => by cases hz) (by decide) (by decide) (by decide +kernel) (by decide +kernel) (la := 1) (i := 3) (kn := 1) (by decide) (Or.inl ⟨3, by decide +kernel, rfl, rfl⟩) (by decide +kernel) (by decide) (by decide +kernel) rfl
set_option maxHeartbeats 4000000 in
theorem hx_commit_2 {d : Nat} {a1 : Int32} {S : LSt} {f : Nat → Int64} (hM : AM m_commit d (.inr 2) [.ref 0, .int a1] (wS S) (wS S)) : HM h_commit hh_commit d (.inr 2) [.ref 0, .int a1, .ref 8] (wS S ++ [oL f]) (wS S ++ [oL f]) 2 := by
  refine hq_enter (by decide +kernel) (Nat.le_of_ble_eq_true rfl) (fun X hF hX => ?_)
  refine gq_gn (n := 4) (c1 := (4, [some (.ref 0), some (.int a1), some (.ref 8), none], [.int a1, .ref 0, .int 0, .ref 8], wS S ++ [oL f])) hF ok_h_commit rfl ?_
  exact hq_callX (as := [.int a1]) (st := [.int 0, .ref 8]) hF hX ok_h_commit rfl c3_m_commit hM rfl (Nat.le_of_ble_eq_true rfl) rfl rfl rfl rfl [(⟨0, 9, 12, 21⟩ : ExceptionTableEntry)] (⟨0, 9, 15, 15⟩ : ExceptionTableEntry) [] rfl (fun z hz => by rw [List.mem_singleton] at hz; subst hz; exact ⟨by decide, "java/lang/IndexOutOfBoundsException", by decide +kernel, by decide +kernel⟩) (by decide) (by decide) (by decide +kernel) (by decide +kernel) (la := 1) (i := 3) (kn := 2) (by decide) (Or.inl ⟨3, by decide +kernel, rfl, rfl⟩) (by decide +kernel) (by decide) (by decide +kernel) rfl
set_option maxHeartbeats 4000000 in
theorem hv_abort {d : Nat} {a1 : Int32} {S S' : LSt} {x : Int32} {f : Nat → Int64} (hM : AM m_abort d (.inl (some (.int x))) [.ref 0, .int a1] (wS S) (wS S')) : HM h_abort hh_abort d (.inl (some (.int x))) [.ref 0, .int a1, .ref 8] (wS S ++ [oL f]) (wS S' ++ [oL (vp_updL f 0 (x.toInt64))]) 0 := by
  refine hq_enter (by decide +kernel) (Nat.le_of_ble_eq_true rfl) (fun X hF hX => ?_)
  refine gq_gn (n := 4) (c1 := (4, [some (.ref 0), some (.int a1), some (.ref 8), none], [.int a1, .ref 0, .int 0, .ref 8], wS S ++ [oL f])) hF ok_h_abort rfl ?_
  refine gq_callV0 (as := [.int a1]) (st := [.int 0, .ref 8]) hF ok_h_abort rfl c3_m_abort hM rfl (Nat.le_of_ble_eq_true rfl) rfl rfl rfl rfl (by rw [hX.1]; exact Nat.le_refl _) (by rw [hX.1]; show 28 * d + 28 ≤ 28 * (d + 1) + 0; omega) ⟨Nat.zero_le _, Nat.zero_le _⟩ ?_
  refine gq_go (n := 4) (c1 := (19, [some (.ref 0), some (.int a1), some (.ref 8), none], [.int 0], wS S' ++ [oL (vp_updL f 0 (x.toInt64))])) (P := vp_in 0 1) hF ok_h_abort rfl in01 ?_
  exact hq_ret hF hX ok_h_abort rfl rfl (Nat.zero_le _) (Nat.zero_le _)
set_option maxHeartbeats 4000000 in
theorem hx_abort_0 {d : Nat} {a1 : Int32} {S : LSt} {f : Nat → Int64} (hM : AM m_abort d (.inr 0) [.ref 0, .int a1] (wS S) (wS S)) : HM h_abort hh_abort d (.inr 0) [.ref 0, .int a1, .ref 8] (wS S ++ [oL f]) (wS S ++ [oL f]) 1 := by
  refine hq_enter (by decide +kernel) (Nat.le_of_ble_eq_true rfl) (fun X hF hX => ?_)
  refine gq_gn (n := 4) (c1 := (4, [some (.ref 0), some (.int a1), some (.ref 8), none], [.int a1, .ref 0, .int 0, .ref 8], wS S ++ [oL f])) hF ok_h_abort rfl ?_
  exact hq_callX (as := [.int a1]) (st := [.int 0, .ref 8]) hF hX ok_h_abort rfl c3_m_abort hM rfl (Nat.le_of_ble_eq_true rfl) rfl rfl rfl rfl [] (⟨0, 9, 12, 21⟩ : ExceptionTableEntry) [(⟨0, 9, 15, 15⟩ : ExceptionTableEntry)] rfl (fun z hz => by cases hz) (by decide) (by decide) (by decide +kernel) (by decide +kernel) (la := 1) (i := 3) (kn := 1) (by decide) (Or.inl ⟨3, by decide +kernel, rfl, rfl⟩) (by decide +kernel) (by decide) (by decide +kernel) rfl
set_option maxHeartbeats 4000000 in
theorem hx_abort_2 {d : Nat} {a1 : Int32} {S : LSt} {f : Nat → Int64} (hM : AM m_abort d (.inr 2) [.ref 0, .int a1] (wS S) (wS S)) : HM h_abort hh_abort d (.inr 2) [.ref 0, .int a1, .ref 8] (wS S ++ [oL f]) (wS S ++ [oL f]) 2 := by
  refine hq_enter (by decide +kernel) (Nat.le_of_ble_eq_true rfl) (fun X hF hX => ?_)
  refine gq_gn (n := 4) (c1 := (4, [some (.ref 0), some (.int a1), some (.ref 8), none], [.int a1, .ref 0, .int 0, .ref 8], wS S ++ [oL f])) hF ok_h_abort rfl ?_
  exact hq_callX (as := [.int a1]) (st := [.int 0, .ref 8]) hF hX ok_h_abort rfl c3_m_abort hM rfl (Nat.le_of_ble_eq_true rfl) rfl rfl rfl rfl [(⟨0, 9, 12, 21⟩ : ExceptionTableEntry)] (⟨0, 9, 15, 15⟩ : ExceptionTableEntry) [] rfl (fun z hz => by rw [List.mem_singleton] at hz; subst hz; exact ⟨by decide, "java/lang/IndexOutOfBoundsException", by decide +kernel, by decide +kernel⟩) (by decide) (by decide) (by decide +kernel) (by decide +kernel) (la := 1) (i := 3) (kn := 2) (by decide) (Or.inl ⟨3, by decide +kernel, rfl, rfl⟩) (by decide +kernel) (by decide) (by decide +kernel) rfl
set_option maxHeartbeats 4000000 in
theorem hv_escalate {d : Nat} {a1 a2 : Int32} {S S' : LSt} {x : Int32} {f : Nat → Int64} (hM : AM m_escalate d (.inl (some (.int x))) [.ref 0, .int a1, .int a2] (wS S) (wS S')) : HM h_escalate hh_escalate d (.inl (some (.int x))) [.ref 0, .int a1, .int a2, .ref 8] (wS S ++ [oL f]) (wS S' ++ [oL (vp_updL f 0 (x.toInt64))]) 0 := by
  refine hq_enter (by decide +kernel) (Nat.le_of_ble_eq_true rfl) (fun X hF hX => ?_)
  refine gq_gn (n := 5) (c1 := (5, [some (.ref 0), some (.int a1), some (.int a2), some (.ref 8), none], [.int a2, .int a1, .ref 0, .int 0, .ref 8], wS S ++ [oL f])) hF ok_h_escalate rfl ?_
  refine gq_callV0 (as := [.int a1, .int a2]) (st := [.int 0, .ref 8]) hF ok_h_escalate rfl c3_m_escalate hM rfl (Nat.le_of_ble_eq_true rfl) rfl rfl rfl rfl (by rw [hX.1]; exact Nat.le_refl _) (by rw [hX.1]; show 28 * d + 28 ≤ 28 * (d + 1) + 0; omega) ⟨Nat.zero_le _, Nat.zero_le _⟩ ?_
  refine gq_go (n := 4) (c1 := (22, [some (.ref 0), some (.int a1), some (.int a2), some (.ref 8), none], [.int 0], wS S' ++ [oL (vp_updL f 0 (x.toInt64))])) (P := vp_in 0 1) hF ok_h_escalate rfl in01 ?_
  exact hq_ret hF hX ok_h_escalate rfl rfl (Nat.zero_le _) (Nat.zero_le _)
set_option maxHeartbeats 4000000 in
theorem hx_escalate_0 {d : Nat} {a1 a2 : Int32} {S : LSt} {f : Nat → Int64} (hM : AM m_escalate d (.inr 0) [.ref 0, .int a1, .int a2] (wS S) (wS S)) : HM h_escalate hh_escalate d (.inr 0) [.ref 0, .int a1, .int a2, .ref 8] (wS S ++ [oL f]) (wS S ++ [oL f]) 1 := by
  refine hq_enter (by decide +kernel) (Nat.le_of_ble_eq_true rfl) (fun X hF hX => ?_)
  refine gq_gn (n := 5) (c1 := (5, [some (.ref 0), some (.int a1), some (.int a2), some (.ref 8), none], [.int a2, .int a1, .ref 0, .int 0, .ref 8], wS S ++ [oL f])) hF ok_h_escalate rfl ?_
  exact hq_callX (as := [.int a1, .int a2]) (st := [.int 0, .ref 8]) hF hX ok_h_escalate rfl c3_m_escalate hM rfl (Nat.le_of_ble_eq_true rfl) rfl rfl rfl rfl [] (⟨0, 10, 13, 21⟩ : ExceptionTableEntry) [(⟨0, 10, 17, 15⟩ : ExceptionTableEntry)] rfl (fun z hz => by cases hz) (by decide) (by decide) (by decide +kernel) (by decide +kernel) (la := 2) (i := 4) (kn := 1) (by decide) (Or.inr ⟨by decide +kernel, rfl⟩) (by decide +kernel) (by decide) (by decide +kernel) rfl
set_option maxHeartbeats 4000000 in
theorem hx_escalate_2 {d : Nat} {a1 a2 : Int32} {S : LSt} {f : Nat → Int64} (hM : AM m_escalate d (.inr 2) [.ref 0, .int a1, .int a2] (wS S) (wS S)) : HM h_escalate hh_escalate d (.inr 2) [.ref 0, .int a1, .int a2, .ref 8] (wS S ++ [oL f]) (wS S ++ [oL f]) 2 := by
  refine hq_enter (by decide +kernel) (Nat.le_of_ble_eq_true rfl) (fun X hF hX => ?_)
  refine gq_gn (n := 5) (c1 := (5, [some (.ref 0), some (.int a1), some (.int a2), some (.ref 8), none], [.int a2, .int a1, .ref 0, .int 0, .ref 8], wS S ++ [oL f])) hF ok_h_escalate rfl ?_
  exact hq_callX (as := [.int a1, .int a2]) (st := [.int 0, .ref 8]) hF hX ok_h_escalate rfl c3_m_escalate hM rfl (Nat.le_of_ble_eq_true rfl) rfl rfl rfl rfl [(⟨0, 10, 13, 21⟩ : ExceptionTableEntry)] (⟨0, 10, 17, 15⟩ : ExceptionTableEntry) [] rfl (fun z hz => by rw [List.mem_singleton] at hz; subst hz; exact ⟨by decide, "java/lang/IndexOutOfBoundsException", by decide +kernel, by decide +kernel⟩) (by decide) (by decide) (by decide +kernel) (by decide +kernel) (la := 2) (i := 4) (kn := 2) (by decide) (Or.inr ⟨by decide +kernel, rfl⟩) (by decide +kernel) (by decide) (by decide +kernel) rfl
set_option maxHeartbeats 4000000 in
theorem hv_mode {d : Nat} {a1 a2 : Int32} {S S' : LSt} {x : Int32} {f : Nat → Int64} (hM : AM m_mode d (.inl (some (.int x))) [.ref 0, .int a1, .int a2] (wS S) (wS S')) : HM h_mode hh_mode d (.inl (some (.int x))) [.ref 0, .int a1, .int a2, .ref 8] (wS S ++ [oL f]) (wS S' ++ [oL (vp_updL f 0 (x.toInt64))]) 0 := by
  refine hq_enter (by decide +kernel) (Nat.le_of_ble_eq_true rfl) (fun X hF hX => ?_)
  refine gq_gn (n := 5) (c1 := (5, [some (.ref 0), some (.int a1), some (.int a2), some (.ref 8), none], [.int a2, .int a1, .ref 0, .int 0, .ref 8], wS S ++ [oL f])) hF ok_h_mode rfl ?_
  refine gq_callV0 (as := [.int a1, .int a2]) (st := [.int 0, .ref 8]) hF ok_h_mode rfl c3_m_mode hM rfl (Nat.le_of_ble_eq_true rfl) rfl rfl rfl rfl (by rw [hX.1]; exact Nat.le_refl _) (by rw [hX.1]; show 28 * d + 28 ≤ 28 * (d + 1) + 0; omega) ⟨Nat.zero_le _, Nat.zero_le _⟩ ?_
  refine gq_go (n := 4) (c1 := (18, [some (.ref 0), some (.int a1), some (.int a2), some (.ref 8), none], [.int 0], wS S' ++ [oL (vp_updL f 0 (x.toInt64))])) (P := vp_in 0 1) hF ok_h_mode rfl in01 ?_
  exact hq_ret hF hX ok_h_mode rfl rfl (Nat.zero_le _) (Nat.zero_le _)
set_option maxHeartbeats 4000000 in
theorem hx_mode_0 {d : Nat} {a1 a2 : Int32} {S : LSt} {f : Nat → Int64} (hM : AM m_mode d (.inr 0) [.ref 0, .int a1, .int a2] (wS S) (wS S)) : HM h_mode hh_mode d (.inr 0) [.ref 0, .int a1, .int a2, .ref 8] (wS S ++ [oL f]) (wS S ++ [oL f]) 1 := by
  refine hq_enter (by decide +kernel) (Nat.le_of_ble_eq_true rfl) (fun X hF hX => ?_)
  refine gq_gn (n := 5) (c1 := (5, [some (.ref 0), some (.int a1), some (.int a2), some (.ref 8), none], [.int a2, .int a1, .ref 0, .int 0, .ref 8], wS S ++ [oL f])) hF ok_h_mode rfl ?_
  exact hq_callX (as := [.int a1, .int a2]) (st := [.int 0, .ref 8]) hF hX ok_h_mode rfl c3_m_mode hM rfl (Nat.le_of_ble_eq_true rfl) rfl rfl rfl rfl [] (⟨0, 10, 13, 21⟩ : ExceptionTableEntry) [] rfl (fun z hz => by cases hz) (by decide) (by decide) (by decide +kernel) (by decide +kernel) (la := 2) (i := 4) (kn := 1) (by decide) (Or.inr ⟨by decide +kernel, rfl⟩) (by decide +kernel) (by decide) (by decide +kernel) rfl
set_option maxHeartbeats 4000000 in
theorem hv_told {d : Nat} {a1 a2 : Int32} {S S' : LSt} {x : Int32} {f : Nat → Int64} (hM : AM m_told d (.inl (some (.int x))) [.ref 0, .int a1, .int a2] (wS S) (wS S')) : HM h_told hh_told d (.inl (some (.int x))) [.ref 0, .int a1, .int a2, .ref 8] (wS S ++ [oL f]) (wS S' ++ [oL (vp_updL f 0 (x.toInt64))]) 0 := by
  refine hq_enter (by decide +kernel) (Nat.le_of_ble_eq_true rfl) (fun X hF hX => ?_)
  refine gq_gn (n := 5) (c1 := (5, [some (.ref 0), some (.int a1), some (.int a2), some (.ref 8), none], [.int a2, .int a1, .ref 0, .int 0, .ref 8], wS S ++ [oL f])) hF ok_h_told rfl ?_
  refine gq_callV0 (as := [.int a1, .int a2]) (st := [.int 0, .ref 8]) hF ok_h_told rfl c3_m_told hM rfl (Nat.le_of_ble_eq_true rfl) rfl rfl rfl rfl (by rw [hX.1]; exact Nat.le_refl _) (by rw [hX.1]; show 28 * d + 28 ≤ 28 * (d + 1) + 0; omega) ⟨Nat.zero_le _, Nat.zero_le _⟩ ?_
  refine gq_go (n := 4) (c1 := (22, [some (.ref 0), some (.int a1), some (.int a2), some (.ref 8), none], [.int 0], wS S' ++ [oL (vp_updL f 0 (x.toInt64))])) (P := vp_in 0 1) hF ok_h_told rfl in01 ?_
  exact hq_ret hF hX ok_h_told rfl rfl (Nat.zero_le _) (Nat.zero_le _)
set_option maxHeartbeats 4000000 in
theorem hx_told_0 {d : Nat} {a1 a2 : Int32} {S : LSt} {f : Nat → Int64} (hM : AM m_told d (.inr 0) [.ref 0, .int a1, .int a2] (wS S) (wS S)) : HM h_told hh_told d (.inr 0) [.ref 0, .int a1, .int a2, .ref 8] (wS S ++ [oL f]) (wS S ++ [oL f]) 1 := by
  refine hq_enter (by decide +kernel) (Nat.le_of_ble_eq_true rfl) (fun X hF hX => ?_)
  refine gq_gn (n := 5) (c1 := (5, [some (.ref 0), some (.int a1), some (.int a2), some (.ref 8), none], [.int a2, .int a1, .ref 0, .int 0, .ref 8], wS S ++ [oL f])) hF ok_h_told rfl ?_
  exact hq_callX (as := [.int a1, .int a2]) (st := [.int 0, .ref 8]) hF hX ok_h_told rfl c3_m_told hM rfl (Nat.le_of_ble_eq_true rfl) rfl rfl rfl rfl [] (⟨0, 10, 13, 21⟩ : ExceptionTableEntry) [(⟨0, 10, 17, 13⟩ : ExceptionTableEntry)] rfl (fun z hz => by cases hz) (by decide) (by decide) (by decide +kernel) (by decide +kernel) (la := 2) (i := 4) (kn := 1) (by decide) (Or.inr ⟨by decide +kernel, rfl⟩) (by decide +kernel) (by decide) (by decide +kernel) rfl
set_option maxHeartbeats 4000000 in
theorem hx_told_1 {d : Nat} {a1 a2 : Int32} {S : LSt} {f : Nat → Int64} (hM : AM m_told d (.inr 1) [.ref 0, .int a1, .int a2] (wS S) (wS S)) : HM h_told hh_told d (.inr 1) [.ref 0, .int a1, .int a2, .ref 8] (wS S ++ [oL f]) (wS S ++ [oL f]) 2 := by
  refine hq_enter (by decide +kernel) (Nat.le_of_ble_eq_true rfl) (fun X hF hX => ?_)
  refine gq_gn (n := 5) (c1 := (5, [some (.ref 0), some (.int a1), some (.int a2), some (.ref 8), none], [.int a2, .int a1, .ref 0, .int 0, .ref 8], wS S ++ [oL f])) hF ok_h_told rfl ?_
  exact hq_callX (as := [.int a1, .int a2]) (st := [.int 0, .ref 8]) hF hX ok_h_told rfl c3_m_told hM rfl (Nat.le_of_ble_eq_true rfl) rfl rfl rfl rfl [(⟨0, 10, 13, 21⟩ : ExceptionTableEntry)] (⟨0, 10, 17, 13⟩ : ExceptionTableEntry) [] rfl (fun z hz => by rw [List.mem_singleton] at hz; subst hz; exact ⟨by decide, "java/lang/IndexOutOfBoundsException", by decide +kernel, by decide +kernel⟩) (by decide) (by decide) (by decide +kernel) (by decide +kernel) (la := 2) (i := 4) (kn := 2) (by decide) (Or.inr ⟨by decide +kernel, rfl⟩) (by decide +kernel) (by decide) (by decide +kernel) rfl
set_option maxHeartbeats 4000000 in
theorem hv_many {d : Nat} {a1 a2 : Int32} {S S' : LSt} {x : Int32} {f : Nat → Int64} (hM : AM m_many d (.inl (some (.int x))) [.ref 0, .int a1, .int a2] (wS S) (wS S')) : HM h_many hh_many d (.inl (some (.int x))) [.ref 0, .int a1, .int a2, .ref 8] (wS S ++ [oL f]) (wS S' ++ [oL (vp_updL f 0 (x.toInt64))]) 0 := by
  refine hq_enter (by decide +kernel) (Nat.le_of_ble_eq_true rfl) (fun X hF hX => ?_)
  refine gq_gn (n := 5) (c1 := (5, [some (.ref 0), some (.int a1), some (.int a2), some (.ref 8), none], [.int a2, .int a1, .ref 0, .int 0, .ref 8], wS S ++ [oL f])) hF ok_h_many rfl ?_
  refine gq_callV0 (as := [.int a1, .int a2]) (st := [.int 0, .ref 8]) hF ok_h_many rfl c3_m_many hM rfl (Nat.le_of_ble_eq_true rfl) rfl rfl rfl rfl (by rw [hX.1]; exact Nat.le_refl _) (by rw [hX.1]; show 28 * d + 28 ≤ 28 * (d + 1) + 0; omega) ⟨Nat.zero_le _, Nat.zero_le _⟩ ?_
  refine gq_go (n := 4) (c1 := (18, [some (.ref 0), some (.int a1), some (.int a2), some (.ref 8), none], [.int 0], wS S' ++ [oL (vp_updL f 0 (x.toInt64))])) (P := vp_in 0 1) hF ok_h_many rfl in01 ?_
  exact hq_ret hF hX ok_h_many rfl rfl (Nat.zero_le _) (Nat.zero_le _)
set_option maxHeartbeats 4000000 in
theorem hx_many_0 {d : Nat} {a1 a2 : Int32} {S : LSt} {f : Nat → Int64} (hM : AM m_many d (.inr 0) [.ref 0, .int a1, .int a2] (wS S) (wS S)) : HM h_many hh_many d (.inr 0) [.ref 0, .int a1, .int a2, .ref 8] (wS S ++ [oL f]) (wS S ++ [oL f]) 1 := by
  refine hq_enter (by decide +kernel) (Nat.le_of_ble_eq_true rfl) (fun X hF hX => ?_)
  refine gq_gn (n := 5) (c1 := (5, [some (.ref 0), some (.int a1), some (.int a2), some (.ref 8), none], [.int a2, .int a1, .ref 0, .int 0, .ref 8], wS S ++ [oL f])) hF ok_h_many rfl ?_
  exact hq_callX (as := [.int a1, .int a2]) (st := [.int 0, .ref 8]) hF hX ok_h_many rfl c3_m_many hM rfl (Nat.le_of_ble_eq_true rfl) rfl rfl rfl rfl [] (⟨0, 10, 13, 21⟩ : ExceptionTableEntry) [] rfl (fun z hz => by cases hz) (by decide) (by decide) (by decide +kernel) (by decide +kernel) (la := 2) (i := 4) (kn := 1) (by decide) (Or.inr ⟨by decide +kernel, rfl⟩) (by decide +kernel) (by decide) (by decide +kernel) rfl
set_option maxHeartbeats 4000000 in
theorem hv_at {d : Nat} {a1 a2 a3 : Int32} {S S' : LSt} {x : Int32} {f : Nat → Int64} (hM : AM m_at d (.inl (some (.int x))) [.ref 0, .int a1, .int a2, .int a3] (wS S) (wS S')) : HM h_at hh_at d (.inl (some (.int x))) [.ref 0, .int a1, .int a2, .int a3, .ref 8] (wS S ++ [oL f]) (wS S' ++ [oL (vp_updL f 0 (x.toInt64))]) 0 := by
  refine hq_enter (by decide +kernel) (Nat.le_of_ble_eq_true rfl) (fun X hF hX => ?_)
  refine gq_gn (n := 6) (c1 := (7, [some (.ref 0), some (.int a1), some (.int a2), some (.int a3), some (.ref 8), none], [.int a3, .int a2, .int a1, .ref 0, .int 0, .ref 8], wS S ++ [oL f])) hF ok_h_at rfl ?_
  refine gq_callV0 (as := [.int a1, .int a2, .int a3]) (st := [.int 0, .ref 8]) hF ok_h_at rfl c3_m_at hM rfl (Nat.le_of_ble_eq_true rfl) rfl rfl rfl rfl (by rw [hX.1]; exact Nat.le_refl _) (by rw [hX.1]; show 28 * d + 28 ≤ 28 * (d + 1) + 0; omega) ⟨Nat.zero_le _, Nat.zero_le _⟩ ?_
  refine gq_go (n := 4) (c1 := (20, [some (.ref 0), some (.int a1), some (.int a2), some (.int a3), some (.ref 8), none], [.int 0], wS S' ++ [oL (vp_updL f 0 (x.toInt64))])) (P := vp_in 0 1) hF ok_h_at rfl in01 ?_
  exact hq_ret hF hX ok_h_at rfl rfl (Nat.zero_le _) (Nat.zero_le _)
set_option maxHeartbeats 4000000 in
theorem hx_at_0 {d : Nat} {a1 a2 a3 : Int32} {S : LSt} {f : Nat → Int64} (hM : AM m_at d (.inr 0) [.ref 0, .int a1, .int a2, .int a3] (wS S) (wS S)) : HM h_at hh_at d (.inr 0) [.ref 0, .int a1, .int a2, .int a3, .ref 8] (wS S ++ [oL f]) (wS S ++ [oL f]) 1 := by
  refine hq_enter (by decide +kernel) (Nat.le_of_ble_eq_true rfl) (fun X hF hX => ?_)
  refine gq_gn (n := 6) (c1 := (7, [some (.ref 0), some (.int a1), some (.int a2), some (.int a3), some (.ref 8), none], [.int a3, .int a2, .int a1, .ref 0, .int 0, .ref 8], wS S ++ [oL f])) hF ok_h_at rfl ?_
  exact hq_callX (as := [.int a1, .int a2, .int a3]) (st := [.int 0, .ref 8]) hF hX ok_h_at rfl c3_m_at hM rfl (Nat.le_of_ble_eq_true rfl) rfl rfl rfl rfl [] (⟨0, 12, 15, 21⟩ : ExceptionTableEntry) [] rfl (fun z hz => by cases hz) (by decide) (by decide) (by decide +kernel) (by decide +kernel) (la := 2) (i := 5) (kn := 1) (by decide) (Or.inr ⟨by decide +kernel, rfl⟩) (by decide +kernel) (by decide) (by decide +kernel) rfl
set_option maxHeartbeats 4000000 in
theorem hv_waitsFor {d : Nat} {a1 : Int32} {S S' : LSt} {x : Int64} {f : Nat → Int64} (hM : AM m_waitsFor d (.inl (some (.long x))) [.ref 0, .int a1] (wS S) (wS S')) : HM h_waitsFor hh_waitsFor d (.inl (some (.long x))) [.ref 0, .int a1, .ref 8] (wS S ++ [oL f]) (wS S' ++ [oL (vp_updL f 0 (x))]) 0 := by
  refine hq_enter (by decide +kernel) (Nat.le_of_ble_eq_true rfl) (fun X hF hX => ?_)
  refine gq_gn (n := 4) (c1 := (4, [some (.ref 0), some (.int a1), some (.ref 8), none], [.int a1, .ref 0, .int 0, .ref 8], wS S ++ [oL f])) hF ok_h_waitsFor rfl ?_
  refine gq_callV0 (as := [.int a1]) (st := [.int 0, .ref 8]) hF ok_h_waitsFor rfl c3_m_waitsFor hM rfl (Nat.le_of_ble_eq_true rfl) rfl rfl rfl rfl (by rw [hX.1]; exact Nat.le_refl _) (by rw [hX.1]; show 28 * d + 28 ≤ 28 * (d + 1) + 0; omega) ⟨Nat.zero_le _, Nat.zero_le _⟩ ?_
  refine gq_go (n := 3) (c1 := (15, [some (.ref 0), some (.int a1), some (.ref 8), none], [.int 0], wS S' ++ [oL (vp_updL f 0 (x))])) (P := vp_in 0 1) hF ok_h_waitsFor rfl in01 ?_
  exact hq_ret hF hX ok_h_waitsFor rfl rfl (Nat.zero_le _) (Nat.zero_le _)
set_option maxHeartbeats 4000000 in
theorem hx_waitsFor_0 {d : Nat} {a1 : Int32} {S : LSt} {f : Nat → Int64} (hM : AM m_waitsFor d (.inr 0) [.ref 0, .int a1] (wS S) (wS S)) : HM h_waitsFor hh_waitsFor d (.inr 0) [.ref 0, .int a1, .ref 8] (wS S ++ [oL f]) (wS S ++ [oL f]) 1 := by
  refine hq_enter (by decide +kernel) (Nat.le_of_ble_eq_true rfl) (fun X hF hX => ?_)
  refine gq_gn (n := 4) (c1 := (4, [some (.ref 0), some (.int a1), some (.ref 8), none], [.int a1, .ref 0, .int 0, .ref 8], wS S ++ [oL f])) hF ok_h_waitsFor rfl ?_
  exact hq_callX (as := [.int a1]) (st := [.int 0, .ref 8]) hF hX ok_h_waitsFor rfl c3_m_waitsFor hM rfl (Nat.le_of_ble_eq_true rfl) rfl rfl rfl rfl [] (⟨0, 8, 11, 21⟩ : ExceptionTableEntry) [] rfl (fun z hz => by cases hz) (by decide) (by decide) (by decide +kernel) (by decide +kernel) (la := 1) (i := 3) (kn := 1) (by decide) (Or.inl ⟨3, by decide +kernel, rfl, rfl⟩) (by decide +kernel) (by decide) (by decide +kernel) rfl
