/-! THE LAW FROM ITS START -/
set_option maxHeartbeats 400000 in
theorem law_start {R : LSt → MSt → Prop} (hR : Steps12 R) (h0 : R S0 M00) {p : Program} {e : Env} {s : State} {m : MethodId} {below : List Frame} {meth : Method} {c : Code} (l : Launch) (hl : l.stackTraces = false) {b L : Nat} {sc : Nat → Int32} (hL : L ≤ 2048) (C0 : lw_At p s m meth c b L sc) : W p l e room_1 s m #[Value.ref b] below meth c s.heap [] 0 0 (lw_Z below #[Value.ref b] s) (entryFrame m ([Value.ref b] : List Value).toArray 8) := by
  obtain ⟨hx, hb, hr, hml, hown, hts0, hX, hbl, hlocks, hgv⟩ := id C0
  have hts := st_words hts0
  have hown : s.vm.findClass "LockDeskLaw" = some m.cls := hown
  have hE := st_Ex hts0 hgv
  have hN := st_Nc hgv
  have hA : ∀ q : Nat, s.heap.size ≤ q → (fun q : Nat => s.heap.size ≤ q) q := fun _ h => h
  have hbA : ¬ (fun q : Nat => s.heap.size ≤ q) b := Nat.not_le.mpr hbl
  obtain ⟨c0, iS0, hKn0⟩ := u_known (C := RX0) (T := TX0) (N := 12) (n := 12) hts aq_okK0.1 (hts (.instantiable RX0 12) (by decide +kernel))
  obtain ⟨c1, iS1, hKn1⟩ := u_known (C := RX1) (T := TX1) (N := 13) (n := 13) hts aq_okK1.1 (hts (.instantiable RX1 13) (by decide +kernel))
  obtain ⟨D, hKc⟩ : ∃ D : va_G, ∀ (k : Nat) (q : vw_C), vwCl[k]? = some q → u_Kn s q.1 q.2.1 q.2.2 (D.1 k) (D.2 k) := by
    refine ⟨(fun k => if k = 0 then c0 else c1, fun k => if k = 0 then iS0 else iS1), ?_⟩
    intro k q hq
    match k, hq with
    | 0, hq => cases hq; exact hKn0
    | 1, hq => cases hq; exact hKn1
    | k + 2, hq => simp [vwCl] at hq
  obtain ⟨t0, ht0, ha0⟩ := st_arr (ty := .int) (hts (.arrayClass .int) (by decide +kernel))
  obtain ⟨t1, ht1, ha1⟩ := st_arr (ty := .long) (hts (.arrayClass .long) (by decide +kernel))
  obtain ⟨t2, ht2, ha2⟩ := st_arr (ty := .boolean) (hts (.arrayClass .boolean) (by decide +kernel))
  obtain ⟨kt, hkt⟩ : ∃ kt : Nat → Nat, kt 0 = t0 ∧ kt 1 = t1 ∧ kt 2 = t2 := ⟨fun k => match k with | 0 => t0 | 1 => t1 | _ => t2, rfl, rfl, rfl⟩
  have hK : va_K D vwCl (aq_ty kt) s := by
    refine ⟨hKc, fun k q h => ?_⟩
    match k, h with
    | 0, h => cases h; rw [hkt.1]; exact ⟨ha0, ht0⟩
    | 1, h => cases h; rw [hkt.2.1]; exact ⟨ha1, ht1⟩
    | 2, h => cases h; rw [hkt.2.2]; exact ⟨ha2, ht2⟩
    | k + 3, h => simp [aq_ty] at h
  have hS : va_S (fun q : Nat => s.heap.size ≤ q) s.heap s.heap [] := va_S.rf
  have hP : va_P D vwCl [] s.heap := fun k q h => by simp at h
  have hD : va_D (fun q : Nat => s.heap.size ≤ q) [] := ⟨fun i j p q h => by simp at h, fun k q h => by simp at h⟩
  have hlv := lv_entry ([.ref b]) (n := 8) (Nat.le_of_ble_eq_true rfl)
  rw [lg_entry_eq]
  generalize (lg_sl ([.ref b]) ++ List.replicate (8 - (lg_sl ([.ref b])).length) Slot.unset).toArray = ls at hlv ⊢
  have hlv : lv_has ls 8 [(0, .ref b)] := hlv
  refine va_new (ci := 0) (fs := [.null, .null, .null, .null, .int 0, .null, .null, .int 0, .null, .int 0, .int 0, .int 0]) (C := RX0) (T := TX0) (N := 12) hx hb hts aq_okK0.1 (tyX (RX0, TX0, 12)) (tyX_ok aq_okK0) hown (hts (.classLink "LockDeskLaw" 8 RX0) (by decide +kernel)) (hts (.instantiable RX0 12) (by decide +kernel)) (hts (.initialized RX0) (by decide +kernel)) hK hP hD hS hA rfl (fun j hj => by rcases (show j = 0 ∨ j = 1 ∨ j = 2 ∨ j = 3 ∨ j = 4 ∨ j = 5 ∨ j = 6 ∨ j = 7 ∨ j = 8 ∨ j = 9 ∨ j = 10 ∨ j = 11 by omega) with rfl | rfl | rfl | rfl | rfl | rfl | rfl | rfl | rfl | rfl | rfl | rfl <;> decide +kernel) (Nat.le_of_ble_eq_true rfl) (Nat.le_of_ble_eq_true rfl) (show decode code 0 = .ok (.new 8, 3) by decide +kernel) (fun q0 H hP hD hS => ?_)
  have hP : va_P D vwCl [(q0, .inr (0, [.null, .null, .null, .null, .int 0, .null, .null, .int 0, .null, .int 0, .int 0, .int 0]))] H := hP
  have hD : va_D (fun q : Nat => s.heap.size ≤ q) [(q0, .inr (0, [.null, .null, .null, .null, .int 0, .null, .null, .int 0, .null, .int 0, .int 0, .int 0]))] := hD
  refine W.widen (k := 1) (n := 12) (Nat.le_of_ble_eq_true rfl) (Nat.le_of_ble_eq_true rfl) ?_
  refine lv_dup hx hb (show decode code 3 = .ok (.dup, 1) by decide +kernel) rfl ?_
  have hPc := hP
  have hDc := hD
  have hFc := sg_free (a := []) (b := [(q0, .inr (0, [.null, .null, .null, .null, .int 0, .null, .null, .int 0, .null, .int 0, .int 0, .int 0]))]) (c := []) hD hS hA
  refine va_callv (va_runI (As := []) (rest := [.ref q0]) ⟨hx, hb, hml, hown, hts⟩ (cm_init0 l D kt q0 H.size) (cwI 0 hts (aq_good (fun w hw => (List.mem_cons.mp hw).elim (fun h => by rw [h]; decide +kernel) id)) rfl rfl rfl (hts (.initialized (aq_y m_init).cls) (by decide +kernel)) (hts (.methodLink "LockDeskLaw" 51 (aq_y m_init)) (by decide +kernel)) (hts (.instanceMethod (aq_y m_init)) (by decide +kernel)) rfl (by decide +kernel) ⟨Nat.le_of_ble_eq_true rfl, Nat.le_of_ble_eq_true rfl⟩) ⟨fun a U g mk q => by obtain ⟨q0, q1, qP, qK, qD⟩ := q; exact ⟨q0, q1, qP, va_K.moved (u := U) (U := U.calling g mk a) (Vm.Alike.refl U.vm) qK, qD⟩, fun U hU hW => ⟨rfl, by rw [hU], by rw [hU]; exact hPc, va_K.moved hW.alike hK, hDc.weaken (fun _ _ _ _ => trivial)⟩⟩ rfl rfl hlv.1 rfl (lv_room (Nat.le_of_ble_eq_true rfl)) (show decode code 4 = .ok (.invokespecial 51, 3) by decide +kernel) ⟨Nat.le_of_ble_eq_true rfl, Nat.le_of_ble_eq_true rfl⟩) hS (fun q _ h => hFc q h) hFc (fun u1 t H1 locs1 ht hvm _ hB hz1 hk1 hS1 => ?_)
  obtain ⟨hu1, hP1, hD1⟩ := hB
  rw [ht] at hP1
  obtain ⟨w1, hw1⟩ : ∃ w, w = aq_w u1 kt (wS S0) := ⟨_, rfl⟩
  rw [← hw1] at hP1 hD1
  have hD1 := hD1.weaken (fun k q _ h => hFc q.1 h)
  clear hP hD hS hPc hDc hFc hk1 hz1 ht
  refine W.widen (k := 8) (n := 797) (Nat.le_of_ble_eq_true rfl) (Nat.le_of_ble_eq_true rfl) ?_
  refine lv_astore_n hx hb (show decode code 7 = .ok (.astore_n 1, 1) by decide +kernel) rfl hlv (by decide) rfl (fun ls hlv => ?_)
  have hlv : lv_has ls 8 [(1, .ref q0), (0, .ref b)] := hlv
  refine va_new (ci := 1) (fs := [.int 0, .int 0, .null, .null, .null, .null, .null, .null, .null, .null, .int 0, .int 0, .int 0]) (C := RX1) (T := TX1) (N := 13) hx hb hts aq_okK1.1 (tyX (RX1, TX1, 13)) (tyX_ok aq_okK1) hown (hts (.classLink "LockDeskLaw" 52 RX1) (by decide +kernel)) (hts (.instantiable RX1 13) (by decide +kernel)) (hts (.initialized RX1) (by decide +kernel)) hK hP1 hD1 hS1 hA rfl (fun j hj => by rcases (show j = 0 ∨ j = 1 ∨ j = 2 ∨ j = 3 ∨ j = 4 ∨ j = 5 ∨ j = 6 ∨ j = 7 ∨ j = 8 ∨ j = 9 ∨ j = 10 ∨ j = 11 ∨ j = 12 by omega) with rfl | rfl | rfl | rfl | rfl | rfl | rfl | rfl | rfl | rfl | rfl | rfl | rfl <;> decide +kernel) (Nat.le_of_ble_eq_true rfl) (Nat.le_of_ble_eq_true rfl) (show decode code 8 = .ok (.new 52, 3) by decide +kernel) (fun q1 H hP hD hS => ?_)
  have hP : va_P D vwCl (w1 ++ ([(q1, .inr (1, [.int 0, .int 0, .null, .null, .null, .null, .null, .null, .null, .null, .int 0, .int 0, .int 0]))] ++ [])) H := by rw [List.append_nil]; exact hP
  have hD : va_D (fun q : Nat => s.heap.size ≤ q) (w1 ++ ([(q1, .inr (1, [.int 0, .int 0, .null, .null, .null, .null, .null, .null, .null, .null, .int 0, .int 0, .int 0]))] ++ [])) := by rw [List.append_nil]; exact hD
  refine W.widen (k := 9) (n := 810) (Nat.le_of_ble_eq_true rfl) (Nat.le_of_ble_eq_true rfl) ?_
  refine lv_dup hx hb (show decode code 11 = .ok (.dup, 1) by decide +kernel) rfl ?_
  have hPc := (sg_P hP).2.1
  have hDc := sg_D hD
  have hFc := sg_free hD hS hA
  refine va_callv (va_runI (As := []) (rest := [.ref q1]) ⟨hx, hb, hml, hown, hts⟩ (cm_init1 l D kt q1 H.size) (cwI 0 hts (aq_good (fun w hw => (List.mem_cons.mp hw).elim (fun h => by rw [h]; decide +kernel) id)) rfl rfl rfl (hts (.initialized (aq_y r_init).cls) (by decide +kernel)) (hts (.methodLink "LockDeskLaw" 54 (aq_y r_init)) (by decide +kernel)) (hts (.instanceMethod (aq_y r_init)) (by decide +kernel)) rfl (by decide +kernel) ⟨Nat.le_of_ble_eq_true rfl, Nat.le_of_ble_eq_true rfl⟩) ⟨fun a U g mk q => by obtain ⟨q0, q1, qP, qK, qD⟩ := q; exact ⟨q0, q1, qP, va_K.moved (u := U) (U := U.calling g mk a) (Vm.Alike.refl U.vm) qK, qD⟩, fun U hU hW => ⟨rfl, by rw [hU], by rw [hU]; exact hPc, va_K.moved hW.alike hK, hDc.weaken (fun _ _ _ _ => trivial)⟩⟩ rfl rfl hlv.1 rfl (lv_room (Nat.le_of_ble_eq_true rfl)) (show decode code 12 = .ok (.invokespecial 54, 3) by decide +kernel) ⟨Nat.le_of_ble_eq_true rfl, Nat.le_of_ble_eq_true rfl⟩) hS (fun q _ h => hFc q h) hFc (fun u2 t H1 locs1 ht hvm _ hB hz1 hk1 hS1 => ?_)
  obtain ⟨hu2, hP2, hD2⟩ := hB
  rw [ht] at hP2
  obtain ⟨w2, hw2⟩ : ∃ w, w = aq_w u2 kt (wM M00) := ⟨_, rfl⟩
  rw [← hw2] at hP2 hD2
  obtain ⟨hP3, hD3⟩ := sg_join hP hD hk1 hFc hP2 hD2
  clear hP hD hS hPc hDc hFc hk1 hz1 ht hP2 hD2 hP1 hD1
  refine W.widen (k := 17) (n := 11395) (Nat.le_of_ble_eq_true rfl) (Nat.le_of_ble_eq_true rfl) ?_
  refine lv_astore_n hx hb (show decode code 15 = .ok (.astore_n 2, 1) by decide +kernel) rfl hlv (by decide) rfl (fun ls hlv => ?_)
  have hlv : lv_has ls 8 [(2, .ref q1), (1, .ref q0), (0, .ref b)] := hlv
  refine lv_iconst (v := 1) hx hb (show decode code 16 = .ok (.iconst 1, 1) by decide +kernel) (by decide) ?_
  refine va_newa (atype := .long) (ty := .long) (n := 1) (N' := 1) (a0 := (1, .inr (.inl (fun _ => 0)))) hx hb (hts (.arrayClass .long) (by decide +kernel)) rfl hK hP3 hD3 hS1 hA (fun _ => rfl) (by decide) (by decide) (by decide) (Nat.le_of_ble_eq_true rfl) (Nat.le_of_ble_eq_true rfl) (show decode code 17 = .ok (.newarray .long, 2) by decide +kernel) (fun q2 cA H hK1 hP hD hS => ?_)
  have e1 : cA = kt 1 := ra_long (hK1.2 3 _ rfl).2 (hK.2 1 _ rfl).2
  subst e1
  refine W.widen (k := 18) (n := 11396) (Nat.le_of_ble_eq_true rfl) (Nat.le_of_ble_eq_true rfl) ?_
  refine lv_astore_n hx hb (show decode code 19 = .ok (.astore_n 3, 1) by decide +kernel) rfl hlv (by decide) rfl (fun ls hlv => ?_)
  have hlv : lv_has ls 8 [(3, .ref q2), (2, .ref q1), (1, .ref q0), (0, .ref b)] := hlv
  refine lv_iconst (v := 0) hx hb (show decode code 20 = .ok (.iconst 0, 1) by decide +kernel) (by decide) ?_
  refine lv_istore hx hb (show decode code 21 = .ok (.istore 4, 2) by decide +kernel) hlv (by decide) rfl (fun ls hlv => ?_)
  have hlv : lv_has ls 8 [(4, .int 0), (3, .ref q2), (2, .ref q1), (1, .ref q0), (0, .ref b)] := hlv
  rw [List.append_nil] at hP hD
  have hx1 : va_P D vwCl (aq_w (adL u1 u2 q2 b) kt (lWd S0 M00 (fun _ => 0))) H ∧ va_D (fun q : Nat => s.heap.size ≤ q) (aq_w (adL u1 u2 q2 b) kt (lWd S0 M00 (fun _ => 0))) := by
    rw [adL_w, ← hw1, ← hw2, List.append_assoc]
    rw [List.append_assoc] at hP hD
    obtain ⟨p1, p2, p3⟩ := sg_P hP
    obtain ⟨d1, d23, x1⟩ := sg_2 hD
    obtain ⟨d2, d3, x2⟩ := sg_2 d23
    refine ⟨va_P.app p1 (va_P.app p3 p2), va_D.app d1 (va_D.app d3 d2 (fun i j p q hp hq e => x2 j i q p hq hp e.symm)) (fun i j p q hp hq e => ?_)⟩
    rcases List.mem_append.mp (List.mem_of_getElem? hq) with h | h
    · obtain ⟨k, hk⟩ := List.getElem?_of_mem h
      exact x1 i _ p q hp (by rw [List.getElem?_append_right (Nat.le_add_right _ k), Nat.add_sub_cancel_left]; exact hk) e
    · obtain ⟨k, hk⟩ := List.getElem?_of_mem h
      exact x1 i k p q hp (by rw [List.getElem?_append_left (List.getElem?_eq_some_iff.mp hk).1]; exact hk) e
  have K := law_loop (X := (p, l, e, room_1, s, m, #[Value.ref b], below, meth, c, D, kt, adL u1 u2 q2 b, fun q => s.heap.size ≤ q, lw_Z below #[Value.ref b] s)) (b := b) (L := L) (sc := sc) hR ⟨hx, hb, hml, hr, hlocks, hown, hts, hl, hA, hE⟩ hN ⟨hX, hbl, hbA⟩ hL ⟨rfl, rfl, rfl, fun q h => h⟩ 512 0 S0 M00 (fun _ => 0) 18 11396 h0 (by omega) (by omega) (by omega) (by omega) H _ ls ⟨hK, hx1.1, hx1.2, hS⟩ ⟨rfl, ?_⟩
  · exact K
  · have h5 : lv_has ls 8 [(0, .ref b), (1, .ref q0), (2, .ref q1), (3, .ref q2), (4, .int 0)] := lv_sub hlv [4, 3, 2, 1, 0] rfl
    rw [← hu1, ← hu2] at h5
    show lv_has ls 8 (aq_l (adL u1 u2 q2 b) (lAl 0))
    rw [aq_l_lAl]
    exact h5
