/-! THE LAW FROM ITS START -/
def st_ws : List Cond := (aq_str.map (fun q => Cond.exactly (.string "LockDesk" q.1) "java/lang/String")) ++ ((aq_nc.map (fun q => Cond.not (.castable q.1 q.2))) ++ [.isRef (.static Bundle.tN "UNASSIGNED_STACK" Bundle.steD), .isRef (.static Bundle.tN "SUPPRESSED_SENTINEL" Bundle.listD)])
theorem st_ws_in : ∀ w ∈ st_ws, w ∈ flatC (Jvm.Cond.and given_1 narrow_1) := by decide +kernel
theorem st_str_in : ∀ q ∈ aq_str, Cond.stringRef "LockDesk" q.1 q.2 ∈ lw_tbl := by decide +kernel
theorem st_lay1 : Cond.laysStatic Bundle.tN "UNASSIGNED_STACK" Bundle.steD ∈ lw_tbl := by decide +kernel
theorem st_lay2 : Cond.laysStatic Bundle.tN "SUPPRESSED_SENTINEL" Bundle.listD ∈ lw_tbl := by decide +kernel
theorem st_ini : Cond.initialized Bundle.tN ∈ lw_tbl := by decide +kernel
theorem st_words {b : Nat} {s : State} (hts : ∀ w ∈ lw_tbl, w.before #[Value.ref b] s = true) : ∀ w ∈ aq_TB, w.before #[Value.ref b] s = true := fun w h => hts w (List.mem_filter.mp h).1
theorem st_Ex {b : Nat} {s : State} (hts : ∀ w ∈ lw_tbl, w.before #[Value.ref b] s = true) (hg : (Jvm.Cond.and given_1 narrow_1).before #[Value.ref b] s = true) : aq_Ex (fun q => s.heap.size ≤ q) s := by
  have hf := flat_of_before _ hg
  have hw : ∀ w ∈ st_ws, w.before #[Value.ref b] s = true := fun w h => hf w (st_ws_in w h)
  refine ⟨vx_Zqof (hts _ st_lay1) (hts _ st_ini) (hw _ ?_) (fun a h => Nat.not_le.mpr h), vx_Zqof (hts _ st_lay2) (hts _ st_ini) (hw _ ?_) (fun a h => Nat.not_le.mpr h), fun q hq => ?_, fun w h => aq_cd_any (List.mem_filter.mp h).2 (hts w (List.mem_filter.mp h).1)⟩
  · exact List.mem_append_right _ (List.mem_append_right _ List.mem_cons_self)
  · exact List.mem_append_right _ (List.mem_append_right _ (List.mem_cons_of_mem _ List.mem_cons_self))
  · have h1 := hw _ (List.mem_append_left _ (List.mem_map.mpr ⟨q, hq, rfl⟩))
    obtain ⟨a, c, cell, k, g1, -⟩ := Cond.exactly_spec h1
    exact ⟨a, vk_R.of (hts _ (st_str_in q hq)) g1⟩
theorem st_Nc {b : Nat} {s : State} (hg : (Jvm.Cond.and given_1 narrow_1).before #[Value.ref b] s = true) : aq_Nc s := fun q hq => va_Nc.of (flat_of_before _ hg _ (st_ws_in _ (List.mem_append_right _ (List.mem_append_left _ (List.mem_map.mpr ⟨q, hq, rfl⟩)))))
theorem st_arr {b : Nat} {s : State} {ty : FieldType} (h : (Cond.arrayClass ty).before #[Value.ref b] s = true) : ∃ cA : ClassId, s.vm.findClass ("[" ++ ty.toString) = some cA ∧ ArrOfT s cA ty := by
  obtain ⟨cA, kA, comp, h1, h2, h3⟩ := Cond.arrayClass_spec h
  exact ⟨cA, h1, fun n z => ⟨fun k h => (by cases h), kA, h2, comp, h3⟩⟩
def adL (u1 u2 : Nat → Nat) (q b : Nat) : Nat → Nat := fun k => match k with
  | 0 => u1 0
  | 1 => u1 1
  | 2 => u1 2
  | 3 => u1 3
  | 4 => u1 4
  | 5 => u1 5
  | 6 => u1 6
  | 7 => u1 7
  | 8 => q
  | 9 => u2 0
  | 10 => u2 1
  | 11 => u2 2
  | 12 => u2 3
  | 13 => u2 4
  | 14 => u2 5
  | 15 => u2 6
  | 16 => u2 7
  | 17 => u2 8
  | _ => b
theorem aq_l_lAl (ad : Nat → Nat) (i : Nat) : aq_l ad (lAl i) = [(0, .ref (ad 18)), (1, .ref (ad 0)), (2, .ref (ad 9)), (3, .ref (ad 8)), (4, .int (nI i))] := rfl
def rf_ok (n : Nat) (e : va_E) : Bool := match e with
  | .inl _ => true
  | .inr o => o.2.all (fun v => match v with
    | .ref k => decide (k < n)
    | _ => true)
theorem aq_e_congr {ad ad' kt : Nat → Nat} {n k : Nat} (h : ∀ k, k < n → ad k = ad' k) (hk : k < n) {e : va_E} (he : rf_ok n e = true) : aq_e ad kt k e = aq_e ad' kt k e := by
  cases e with
  | inl a => show (ad k, _) = (ad' k, _); rw [h k hk]
  | inr o =>
    have hv : o.2.map (aq_v ad) = o.2.map (aq_v ad') := List.map_congr_left (fun v hv => by
      have h1 := List.all_eq_true.mp he v hv
      cases v with
      | ref k => show Value.ref (ad k) = Value.ref (ad' k); rw [h k (by simpa using h1)]
      | _ => rfl)
    show (ad k, (Sum.inr (o.1, o.2.map (aq_v ad)) : va_E)) = (ad' k, Sum.inr (o.1, o.2.map (aq_v ad')))
    rw [hv, h k hk]
theorem aq_w_congr {ad ad' kt : Nat → Nat} {n : Nat} {w : List va_E} (h : ∀ k, k < n → ad k = ad' k) (hn : w.length ≤ n) (hw : w.all (rf_ok n) = true) : aq_w ad kt w = aq_w ad' kt w := by
  unfold aq_w
  apply List.ext_getElem?
  intro i
  rw [List.getElem?_mapIdx, List.getElem?_mapIdx]
  cases q : w[i]? with
  | none => rfl
  | some e => exact congrArg some (aq_e_congr h (Nat.lt_of_lt_of_le (List.getElem?_eq_some_iff.mp q).1 hn) (List.all_eq_true.mp hw e (List.mem_of_getElem? q)))
theorem aq_w_one (ad kt : Nat → Nat) (u : List va_E) (x : va_E) : aq_w ad kt (u ++ [x]) = aq_w ad kt u ++ [aq_e ad kt u.length x] := by
  unfold aq_w
  rw [List.mapIdx_append]
  congr 1
  show [aq_e ad kt (0 + u.length) x] = _
  rw [Nat.zero_add]
theorem aq_w_two (ad kt : Nat → Nat) (u v : List va_E) : aq_w ad kt (u ++ v.map (she u.length)) = aq_w ad kt u ++ aq_w (adn ad u.length) kt v := by
  have h := aq_w_seg ad kt u v []
  have e : aq_z ad kt (u.length + v.length) [] = [] := rfl
  rw [e, List.append_nil, List.append_nil] at h
  exact h
theorem wS_len (S : LSt) : (wS S).length = 8 := rfl
theorem wM_len (M : MSt) : (wM M).length = 9 := rfl
theorem wS_rf (S : LSt) : (wS S).all (rf_ok 8) = true := rfl
theorem wM_rf (M : MSt) : (wM M).all (rf_ok 9) = true := rfl
theorem adL_1 (u1 u2 : Nat → Nat) (q b : Nat) : ∀ k, k < 8 → adL u1 u2 q b k = u1 k := by
  intro k hk
  rcases (show k = 0 ∨ k = 1 ∨ k = 2 ∨ k = 3 ∨ k = 4 ∨ k = 5 ∨ k = 6 ∨ k = 7 by omega) with rfl | rfl | rfl | rfl | rfl | rfl | rfl | rfl <;> rfl
theorem adL_2 (u1 u2 : Nat → Nat) (q b : Nat) : ∀ k, k < 9 → adn (adL u1 u2 q b) 9 k = u2 k := by
  intro k hk
  rcases (show k = 0 ∨ k = 1 ∨ k = 2 ∨ k = 3 ∨ k = 4 ∨ k = 5 ∨ k = 6 ∨ k = 7 ∨ k = 8 by omega) with rfl | rfl | rfl | rfl | rfl | rfl | rfl | rfl | rfl <;> rfl
theorem adL_w (u1 u2 kt : Nat → Nat) (q b : Nat) : aq_w (adL u1 u2 q b) kt (lWd S0 M00 (fun _ => 0)) = (aq_w u1 kt (wS S0) ++ [(q, .inl (kt 1, (1, .inr (.inl (fun _ => 0)))))]) ++ aq_w u2 kt (wM M00) := by
  have h9 : (wS S0 ++ [oL (fun _ => 0)]).length = 9 := by rw [List.length_append, wS_len]; rfl
  have h := aq_w_two (adL u1 u2 q b) kt (wS S0 ++ [oL (fun _ => 0)]) (wM M00)
  rw [h9] at h
  unfold lWd
  rw [h, aq_w_one, aq_w_congr (adL_1 u1 u2 q b) (Nat.le_of_eq (wS_len S0)) (wS_rf S0), aq_w_congr (adL_2 u1 u2 q b) (Nat.le_of_eq (wM_len M00)) (wM_rf M00), wS_len]
  rfl
