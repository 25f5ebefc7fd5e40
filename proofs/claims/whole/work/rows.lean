section
-- ===== PART A: goes FIRST, ahead of the names: the tables' words, and 'selects' of the private methods out of them =====
/-- a private method of a class that the tables say can be made, by its rows of tables_1 -/
def lw_okq (q : MethodName × Nat) : Prop := (q.1.cls ≠ "java/lang/invoke/MethodHandle" ∧ q.1.cls ≠ "java/lang/invoke/VarHandle") ∧ Cond.instantiable q.1.cls q.2 ∈ tables_1 ∧ Cond.privateMethod q.1 ∈ tables_1 ∧ Cond.instanceMethod q.1 ∈ tables_1
theorem lw_p0 : lw_okq (⟨"LockDesk", "inState", "(I)I"⟩, 12) := ⟨⟨by decide +kernel, by decide +kernel⟩, List.mem_of_getElem? (i := 13) (by decide +kernel), List.mem_of_getElem? (i := 64) (by decide +kernel), List.mem_of_getElem? (i := 65) (by decide +kernel)⟩
theorem lw_p1 : lw_okq (⟨"LockDesk", "holdersClash", "(I)Z"⟩, 12) := ⟨⟨by decide +kernel, by decide +kernel⟩, List.mem_of_getElem? (i := 13) (by decide +kernel), List.mem_of_getElem? (i := 72) (by decide +kernel), List.mem_of_getElem? (i := 73) (by decide +kernel)⟩
theorem lw_p2 : lw_okq (⟨"LockDesk", "othersInTheWay", "(III)J"⟩, 12) := ⟨⟨by decide +kernel, by decide +kernel⟩, List.mem_of_getElem? (i := 13) (by decide +kernel), List.mem_of_getElem? (i := 83) (by decide +kernel), List.mem_of_getElem? (i := 84) (by decide +kernel)⟩
theorem lw_p3 : lw_okq (⟨"LockDesk", "firstToGrant", "(I)I"⟩, 12) := ⟨⟨by decide +kernel, by decide +kernel⟩, List.mem_of_getElem? (i := 13) (by decide +kernel), List.mem_of_getElem? (i := 94) (by decide +kernel), List.mem_of_getElem? (i := 95) (by decide +kernel)⟩
theorem lw_p4 : lw_okq (⟨"LockDesk", "inQueue", "(II)I"⟩, 12) := ⟨⟨by decide +kernel, by decide +kernel⟩, List.mem_of_getElem? (i := 13) (by decide +kernel), List.mem_of_getElem? (i := 98) (by decide +kernel), List.mem_of_getElem? (i := 99) (by decide +kernel)⟩
theorem lw_p5 : lw_okq (⟨"java/lang/Throwable", "fillInStackTrace", "(I)Ljava/lang/Throwable;"⟩, 6) := ⟨⟨by decide +kernel, by decide +kernel⟩, List.mem_of_getElem? (i := 149) (by decide +kernel), List.mem_of_getElem? (i := 147) (by decide +kernel), List.mem_of_getElem? (i := 148) (by decide +kernel)⟩
theorem lw_p6 : lw_okq (⟨"LockDesk", "checkTransaction", "(I)V"⟩, 12) := ⟨⟨by decide +kernel, by decide +kernel⟩, List.mem_of_getElem? (i := 13) (by decide +kernel), List.mem_of_getElem? (i := 203) (by decide +kernel), List.mem_of_getElem? (i := 204) (by decide +kernel)⟩
theorem lw_p7 : lw_okq (⟨"LockDesk", "checkActive", "(I)V"⟩, 12) := ⟨⟨by decide +kernel, by decide +kernel⟩, List.mem_of_getElem? (i := 13) (by decide +kernel), List.mem_of_getElem? (i := 228) (by decide +kernel), List.mem_of_getElem? (i := 229) (by decide +kernel)⟩
theorem lw_p8 : lw_okq (⟨"LockDesk", "mayAsk", "(III)Z"⟩, 12) := ⟨⟨by decide +kernel, by decide +kernel⟩, List.mem_of_getElem? (i := 13) (by decide +kernel), List.mem_of_getElem? (i := 233) (by decide +kernel), List.mem_of_getElem? (i := 234) (by decide +kernel)⟩
theorem lw_p9 : lw_okq (⟨"LockDesk", "heldMode", "(II)I"⟩, 12) := ⟨⟨by decide +kernel, by decide +kernel⟩, List.mem_of_getElem? (i := 13) (by decide +kernel), List.mem_of_getElem? (i := 243) (by decide +kernel), List.mem_of_getElem? (i := 244) (by decide +kernel)⟩
theorem lw_p10 : lw_okq (⟨"LockDesk", "joinQueue", "(III)V"⟩, 12) := ⟨⟨by decide +kernel, by decide +kernel⟩, List.mem_of_getElem? (i := 13) (by decide +kernel), List.mem_of_getElem? (i := 257) (by decide +kernel), List.mem_of_getElem? (i := 258) (by decide +kernel)⟩
theorem lw_p11 : lw_okq (⟨"LockDesk", "placeOfNewcomers", "(I)I"⟩, 12) := ⟨⟨by decide +kernel, by decide +kernel⟩, List.mem_of_getElem? (i := 13) (by decide +kernel), List.mem_of_getElem? (i := 261) (by decide +kernel), List.mem_of_getElem? (i := 262) (by decide +kernel)⟩
theorem lw_p12 : lw_okq (⟨"LockDesk", "serve", "(I)I"⟩, 12) := ⟨⟨by decide +kernel, by decide +kernel⟩, List.mem_of_getElem? (i := 13) (by decide +kernel), List.mem_of_getElem? (i := 265) (by decide +kernel), List.mem_of_getElem? (i := 266) (by decide +kernel)⟩
theorem lw_p13 : lw_okq (⟨"LockDesk", "grant", "(I)V"⟩, 12) := ⟨⟨by decide +kernel, by decide +kernel⟩, List.mem_of_getElem? (i := 13) (by decide +kernel), List.mem_of_getElem? (i := 269) (by decide +kernel), List.mem_of_getElem? (i := 270) (by decide +kernel)⟩
theorem lw_p14 : lw_okq (⟨"LockDesk", "hold", "(III)V"⟩, 12) := ⟨⟨by decide +kernel, by decide +kernel⟩, List.mem_of_getElem? (i := 13) (by decide +kernel), List.mem_of_getElem? (i := 273) (by decide +kernel), List.mem_of_getElem? (i := 274) (by decide +kernel)⟩
theorem lw_p15 : lw_okq (⟨"LockDesk", "leaveQueue", "(I)V"⟩, 12) := ⟨⟨by decide +kernel, by decide +kernel⟩, List.mem_of_getElem? (i := 13) (by decide +kernel), List.mem_of_getElem? (i := 277) (by decide +kernel), List.mem_of_getElem? (i := 278) (by decide +kernel)⟩
def lw_privs_1 : List (MethodName × Nat) := [(⟨"LockDesk", "inState", "(I)I"⟩, 12), (⟨"LockDesk", "holdersClash", "(I)Z"⟩, 12), (⟨"LockDesk", "othersInTheWay", "(III)J"⟩, 12), (⟨"LockDesk", "firstToGrant", "(I)I"⟩, 12), (⟨"LockDesk", "inQueue", "(II)I"⟩, 12), (⟨"java/lang/Throwable", "fillInStackTrace", "(I)Ljava/lang/Throwable;"⟩, 6), (⟨"LockDesk", "checkTransaction", "(I)V"⟩, 12), (⟨"LockDesk", "checkActive", "(I)V"⟩, 12), (⟨"LockDesk", "mayAsk", "(III)Z"⟩, 12), (⟨"LockDesk", "heldMode", "(II)I"⟩, 12), (⟨"LockDesk", "joinQueue", "(III)V"⟩, 12), (⟨"LockDesk", "placeOfNewcomers", "(I)I"⟩, 12), (⟨"LockDesk", "serve", "(I)I"⟩, 12), (⟨"LockDesk", "grant", "(I)V"⟩, 12), (⟨"LockDesk", "hold", "(III)V"⟩, 12), (⟨"LockDesk", "leaveQueue", "(I)V"⟩, 12)]
theorem lw_r1 : ∀ q ∈ lw_privs_1, lw_okq q := List.forall_mem_cons.mpr ⟨lw_p0, List.forall_mem_cons.mpr ⟨lw_p1, List.forall_mem_cons.mpr ⟨lw_p2, List.forall_mem_cons.mpr ⟨lw_p3, List.forall_mem_cons.mpr ⟨lw_p4, List.forall_mem_cons.mpr ⟨lw_p5, List.forall_mem_cons.mpr ⟨lw_p6, List.forall_mem_cons.mpr ⟨lw_p7, List.forall_mem_cons.mpr ⟨lw_p8, List.forall_mem_cons.mpr ⟨lw_p9, List.forall_mem_cons.mpr ⟨lw_p10, List.forall_mem_cons.mpr ⟨lw_p11, List.forall_mem_cons.mpr ⟨lw_p12, List.forall_mem_cons.mpr ⟨lw_p13, List.forall_mem_cons.mpr ⟨lw_p14, List.forall_mem_cons.mpr ⟨lw_p15, fun _ h => absurd h List.not_mem_nil⟩⟩⟩⟩⟩⟩⟩⟩⟩⟩⟩⟩⟩⟩⟩⟩
theorem lw_p16 : lw_okq (⟨"LockDesk", "breakCircles", "(I)V"⟩, 12) := ⟨⟨by decide +kernel, by decide +kernel⟩, List.mem_of_getElem? (i := 13) (by decide +kernel), List.mem_of_getElem? (i := 281) (by decide +kernel), List.mem_of_getElem? (i := 282) (by decide +kernel)⟩
theorem lw_p17 : lw_okq (⟨"LockDesk", "circleOf", "(I)J"⟩, 12) := ⟨⟨by decide +kernel, by decide +kernel⟩, List.mem_of_getElem? (i := 13) (by decide +kernel), List.mem_of_getElem? (i := 285) (by decide +kernel), List.mem_of_getElem? (i := 286) (by decide +kernel)⟩
theorem lw_p18 : lw_okq (⟨"LockDesk", "waitRow", "(I)J"⟩, 12) := ⟨⟨by decide +kernel, by decide +kernel⟩, List.mem_of_getElem? (i := 13) (by decide +kernel), List.mem_of_getElem? (i := 289) (by decide +kernel), List.mem_of_getElem? (i := 290) (by decide +kernel)⟩
theorem lw_p19 : lw_okq (⟨"LockDesk", "standingBefore", "(II)J"⟩, 12) := ⟨⟨by decide +kernel, by decide +kernel⟩, List.mem_of_getElem? (i := 13) (by decide +kernel), List.mem_of_getElem? (i := 293) (by decide +kernel), List.mem_of_getElem? (i := 294) (by decide +kernel)⟩
theorem lw_p20 : lw_okq (⟨"LockDesk", "reachedFrom", "(I)J"⟩, 12) := ⟨⟨by decide +kernel, by decide +kernel⟩, List.mem_of_getElem? (i := 13) (by decide +kernel), List.mem_of_getElem? (i := 297) (by decide +kernel), List.mem_of_getElem? (i := 298) (by decide +kernel)⟩
theorem lw_p21 : lw_okq (⟨"LockDesk", "reaching", "(I)J"⟩, 12) := ⟨⟨by decide +kernel, by decide +kernel⟩, List.mem_of_getElem? (i := 13) (by decide +kernel), List.mem_of_getElem? (i := 301) (by decide +kernel), List.mem_of_getElem? (i := 302) (by decide +kernel)⟩
theorem lw_p22 : lw_okq (⟨"LockDesk", "weakestOf", "(J)I"⟩, 12) := ⟨⟨by decide +kernel, by decide +kernel⟩, List.mem_of_getElem? (i := 13) (by decide +kernel), List.mem_of_getElem? (i := 305) (by decide +kernel), List.mem_of_getElem? (i := 306) (by decide +kernel)⟩
theorem lw_p23 : lw_okq (⟨"LockDesk", "end", "(II)I"⟩, 12) := ⟨⟨by decide +kernel, by decide +kernel⟩, List.mem_of_getElem? (i := 13) (by decide +kernel), List.mem_of_getElem? (i := 309) (by decide +kernel), List.mem_of_getElem? (i := 310) (by decide +kernel)⟩
theorem lw_p24 : lw_okq (⟨"LockDesk", "letGo", "(II)Z"⟩, 12) := ⟨⟨by decide +kernel, by decide +kernel⟩, List.mem_of_getElem? (i := 13) (by decide +kernel), List.mem_of_getElem? (i := 313) (by decide +kernel), List.mem_of_getElem? (i := 314) (by decide +kernel)⟩
theorem lw_p25 : lw_okq (⟨"LockDesk", "answerFor", "(I)I"⟩, 12) := ⟨⟨by decide +kernel, by decide +kernel⟩, List.mem_of_getElem? (i := 13) (by decide +kernel), List.mem_of_getElem? (i := 317) (by decide +kernel), List.mem_of_getElem? (i := 318) (by decide +kernel)⟩
theorem lw_p26 : lw_okq (⟨"LockDesk", "writesBelow", "(II)Z"⟩, 12) := ⟨⟨by decide +kernel, by decide +kernel⟩, List.mem_of_getElem? (i := 13) (by decide +kernel), List.mem_of_getElem? (i := 344) (by decide +kernel), List.mem_of_getElem? (i := 345) (by decide +kernel)⟩
theorem lw_p27 : lw_okq (⟨"LockDesk", "dropBelow", "(II)I"⟩, 12) := ⟨⟨by decide +kernel, by decide +kernel⟩, List.mem_of_getElem? (i := 13) (by decide +kernel), List.mem_of_getElem? (i := 351) (by decide +kernel), List.mem_of_getElem? (i := 352) (by decide +kernel)⟩
theorem lw_p28 : lw_okq (⟨"LockDesk", "heldObjects", "(I)I"⟩, 12) := ⟨⟨by decide +kernel, by decide +kernel⟩, List.mem_of_getElem? (i := 13) (by decide +kernel), List.mem_of_getElem? (i := 369) (by decide +kernel), List.mem_of_getElem? (i := 370) (by decide +kernel)⟩
theorem lw_p29 : lw_okq (⟨"LockDesk", "queueLength", "(I)I"⟩, 12) := ⟨⟨by decide +kernel, by decide +kernel⟩, List.mem_of_getElem? (i := 13) (by decide +kernel), List.mem_of_getElem? (i := 381) (by decide +kernel), List.mem_of_getElem? (i := 382) (by decide +kernel)⟩
theorem lw_p30 : lw_okq (⟨"LockDesk", "allHolders", "(I)J"⟩, 12) := ⟨⟨by decide +kernel, by decide +kernel⟩, List.mem_of_getElem? (i := 13) (by decide +kernel), List.mem_of_getElem? (i := 385) (by decide +kernel), List.mem_of_getElem? (i := 386) (by decide +kernel)⟩
theorem lw_p31 : lw_okq (⟨"LockDesk", "amongHolders", "(II)I"⟩, 12) := ⟨⟨by decide +kernel, by decide +kernel⟩, List.mem_of_getElem? (i := 13) (by decide +kernel), List.mem_of_getElem? (i := 402) (by decide +kernel), List.mem_of_getElem? (i := 403) (by decide +kernel)⟩
def lw_privs_2 : List (MethodName × Nat) := [(⟨"LockDesk", "breakCircles", "(I)V"⟩, 12), (⟨"LockDesk", "circleOf", "(I)J"⟩, 12), (⟨"LockDesk", "waitRow", "(I)J"⟩, 12), (⟨"LockDesk", "standingBefore", "(II)J"⟩, 12), (⟨"LockDesk", "reachedFrom", "(I)J"⟩, 12), (⟨"LockDesk", "reaching", "(I)J"⟩, 12), (⟨"LockDesk", "weakestOf", "(J)I"⟩, 12), (⟨"LockDesk", "end", "(II)I"⟩, 12), (⟨"LockDesk", "letGo", "(II)Z"⟩, 12), (⟨"LockDesk", "answerFor", "(I)I"⟩, 12), (⟨"LockDesk", "writesBelow", "(II)Z"⟩, 12), (⟨"LockDesk", "dropBelow", "(II)I"⟩, 12), (⟨"LockDesk", "heldObjects", "(I)I"⟩, 12), (⟨"LockDesk", "queueLength", "(I)I"⟩, 12), (⟨"LockDesk", "allHolders", "(I)J"⟩, 12), (⟨"LockDesk", "amongHolders", "(II)I"⟩, 12)]
theorem lw_r2 : ∀ q ∈ lw_privs_2, lw_okq q := List.forall_mem_cons.mpr ⟨lw_p16, List.forall_mem_cons.mpr ⟨lw_p17, List.forall_mem_cons.mpr ⟨lw_p18, List.forall_mem_cons.mpr ⟨lw_p19, List.forall_mem_cons.mpr ⟨lw_p20, List.forall_mem_cons.mpr ⟨lw_p21, List.forall_mem_cons.mpr ⟨lw_p22, List.forall_mem_cons.mpr ⟨lw_p23, List.forall_mem_cons.mpr ⟨lw_p24, List.forall_mem_cons.mpr ⟨lw_p25, List.forall_mem_cons.mpr ⟨lw_p26, List.forall_mem_cons.mpr ⟨lw_p27, List.forall_mem_cons.mpr ⟨lw_p28, List.forall_mem_cons.mpr ⟨lw_p29, List.forall_mem_cons.mpr ⟨lw_p30, List.forall_mem_cons.mpr ⟨lw_p31, fun _ h => absurd h List.not_mem_nil⟩⟩⟩⟩⟩⟩⟩⟩⟩⟩⟩⟩⟩⟩⟩⟩
theorem lw_p32 : lw_okq (⟨"LockDeskModel", "isTransaction", "(I)Z"⟩, 13) := ⟨⟨by decide +kernel, by decide +kernel⟩, List.mem_of_getElem? (i := 414) (by decide +kernel), List.mem_of_getElem? (i := 473) (by decide +kernel), List.mem_of_getElem? (i := 474) (by decide +kernel)⟩
theorem lw_p33 : lw_okq (⟨"LockDeskModel", "modeOf", "(II)I"⟩, 13) := ⟨⟨by decide +kernel, by decide +kernel⟩, List.mem_of_getElem? (i := 414) (by decide +kernel), List.mem_of_getElem? (i := 480) (by decide +kernel), List.mem_of_getElem? (i := 481) (by decide +kernel)⟩
theorem lw_p34 : lw_okq (⟨"LockDeskModel", "enqueue", "(II)V"⟩, 13) := ⟨⟨by decide +kernel, by decide +kernel⟩, List.mem_of_getElem? (i := 414) (by decide +kernel), List.mem_of_getElem? (i := 490) (by decide +kernel), List.mem_of_getElem? (i := 491) (by decide +kernel)⟩
theorem lw_p35 : lw_okq (⟨"LockDeskModel", "serve", "(I)I"⟩, 13) := ⟨⟨by decide +kernel, by decide +kernel⟩, List.mem_of_getElem? (i := 414) (by decide +kernel), List.mem_of_getElem? (i := 494) (by decide +kernel), List.mem_of_getElem? (i := 495) (by decide +kernel)⟩
theorem lw_p36 : lw_okq (⟨"LockDeskModel", "fits", "(III)Z"⟩, 13) := ⟨⟨by decide +kernel, by decide +kernel⟩, List.mem_of_getElem? (i := 414) (by decide +kernel), List.mem_of_getElem? (i := 498) (by decide +kernel), List.mem_of_getElem? (i := 499) (by decide +kernel)⟩
theorem lw_p37 : lw_okq (⟨"LockDeskModel", "dequeue", "(II)V"⟩, 13) := ⟨⟨by decide +kernel, by decide +kernel⟩, List.mem_of_getElem? (i := 414) (by decide +kernel), List.mem_of_getElem? (i := 505) (by decide +kernel), List.mem_of_getElem? (i := 506) (by decide +kernel)⟩
theorem lw_p38 : lw_okq (⟨"LockDeskModel", "victimOf", "(I)I"⟩, 13) := ⟨⟨by decide +kernel, by decide +kernel⟩, List.mem_of_getElem? (i := 414) (by decide +kernel), List.mem_of_getElem? (i := 509) (by decide +kernel), List.mem_of_getElem? (i := 510) (by decide +kernel)⟩
theorem lw_p39 : lw_okq (⟨"LockDeskModel", "reach", "(I)J"⟩, 13) := ⟨⟨by decide +kernel, by decide +kernel⟩, List.mem_of_getElem? (i := 414) (by decide +kernel), List.mem_of_getElem? (i := 513) (by decide +kernel), List.mem_of_getElem? (i := 514) (by decide +kernel)⟩
theorem lw_p40 : lw_okq (⟨"LockDeskModel", "waitBits", "(I)J"⟩, 13) := ⟨⟨by decide +kernel, by decide +kernel⟩, List.mem_of_getElem? (i := 414) (by decide +kernel), List.mem_of_getElem? (i := 517) (by decide +kernel), List.mem_of_getElem? (i := 518) (by decide +kernel)⟩
theorem lw_p41 : lw_okq (⟨"LockDeskModel", "endIt", "(II)I"⟩, 13) := ⟨⟨by decide +kernel, by decide +kernel⟩, List.mem_of_getElem? (i := 414) (by decide +kernel), List.mem_of_getElem? (i := 521) (by decide +kernel), List.mem_of_getElem? (i := 522) (by decide +kernel)⟩
def lw_privs_3 : List (MethodName × Nat) := [(⟨"LockDeskModel", "isTransaction", "(I)Z"⟩, 13), (⟨"LockDeskModel", "modeOf", "(II)I"⟩, 13), (⟨"LockDeskModel", "enqueue", "(II)V"⟩, 13), (⟨"LockDeskModel", "serve", "(I)I"⟩, 13), (⟨"LockDeskModel", "fits", "(III)Z"⟩, 13), (⟨"LockDeskModel", "dequeue", "(II)V"⟩, 13), (⟨"LockDeskModel", "victimOf", "(I)I"⟩, 13), (⟨"LockDeskModel", "reach", "(I)J"⟩, 13), (⟨"LockDeskModel", "waitBits", "(I)J"⟩, 13), (⟨"LockDeskModel", "endIt", "(II)I"⟩, 13)]
theorem lw_r3 : ∀ q ∈ lw_privs_3, lw_okq q := List.forall_mem_cons.mpr ⟨lw_p32, List.forall_mem_cons.mpr ⟨lw_p33, List.forall_mem_cons.mpr ⟨lw_p34, List.forall_mem_cons.mpr ⟨lw_p35, List.forall_mem_cons.mpr ⟨lw_p36, List.forall_mem_cons.mpr ⟨lw_p37, List.forall_mem_cons.mpr ⟨lw_p38, List.forall_mem_cons.mpr ⟨lw_p39, List.forall_mem_cons.mpr ⟨lw_p40, List.forall_mem_cons.mpr ⟨lw_p41, fun _ h => absurd h List.not_mem_nil⟩⟩⟩⟩⟩⟩⟩⟩⟩⟩
def lw_privs : List (MethodName × Nat) := lw_privs_1 ++ (lw_privs_2 ++ (lw_privs_3))
def lw_tbl : List Cond := k2_sels lw_privs ++ tables_1
theorem lw_privs_ok : ∀ q ∈ lw_privs, lw_okq q := by
  show ∀ q ∈ lw_privs_1 ++ (lw_privs_2 ++ (lw_privs_3)), lw_okq q
  exact List.forall_mem_append.mpr ⟨lw_r1, List.forall_mem_append.mpr ⟨lw_r2, lw_r3⟩⟩
end
section
/-! ===== BEGIN words of one list among another's, by their places ===== -/
theorem goodIn_r {big : List Cond} (ws : List Cond) (ps : List Nat) (hp : ws = ps.filterMap (fun i => big[i]?)) (h : ws.all goodWord = true) : GoodIn big ws := by
  intro w hw
  have h1 := List.all_eq_true.mp h w hw
  rw [hp] at hw
  obtain ⟨i, -, hi⟩ := List.mem_filterMap.mp hw
  have hm : w ∈ big := by first | exact List.mem_of_getElem? hi | exact List.getElem?_mem hi
  exact ⟨hm, good_of_word h1⟩
theorem goodIn_app {big a b : List Cond} (ha : GoodIn big a) (hb : GoodIn big b) : GoodIn big (a ++ b) := fun w h => (List.mem_append.mp h).elim (ha w) (hb w)
theorem goodIn_ca {big a b : List Cond} {c : Cond} (ha : GoodIn big (c :: a)) (hb : GoodIn big b) : GoodIn big (c :: (a ++ b)) := fun w h => (List.mem_cons.mp h).elim (fun e => ha w (List.mem_cons.mpr (Or.inl e))) (fun h => (List.mem_append.mp h).elim (fun h => ha w (List.mem_cons.mpr (Or.inr h))) (hb w))
theorem goodIn_sub {big ws : List Cond} (hm : ∀ w ∈ ws, w ∈ big) (h : ws.all goodWord = true) : GoodIn big ws := fun w hw => ⟨hm w hw, good_of_word (List.all_eq_true.mp h w hw)⟩
/-! ===== END ===== -/

/-! ===== BEGIN exceptions that leave a method, and their catching by the caller (launches without stack traces) ===== -/
section VXA
/-! The laws vx_back, vx_callV, vx_callS, vx_callSW, vx_throw0, vx_throwS follow proofs of the library, with one case more: JvmDerived/Free/Laws.lean (Back.of_free), Shelf42/LK1.lean (callV, callS), Shelf/KitTraced.lean (throwNew0V, throwNewS). -/
/-- where a method has thrown q: the class by its name, the cell, what was written, the world -/
def vx_T (XC : String → State → State → Prop) (st : State) (q : Addr) (t : State) (mc ms : Nat) (free : Addr → Prop) : Prop :=
  ∃ (E : String) (ce : Cell) (L : List Loc), XC E st t ∧ t.heap[q]? = some ce ∧ ce.vm = .none ∧ st.vm.findClass E = some ce.cls ∧ st.WarmedH t.vm ∧ st.sameButNew ({ t with vm := st.vm } : State) L mc ms ∧ ∀ z ∈ L, free z.base
def vx_Q (Qc : Array Value → State → Outcome → State → Prop) (XC : String → State → State → Prop) (mc ms : Nat) (free : Addr → Prop) : Array Value → State → Outcome → State → Prop := fun a st o t =>
  (Qc a st o t ∧ ∃ L, FrameEnd st o t L mc ms ∧ ∀ q ∈ L, free q.base) ∨ ∃ q, o = .threw q ∧ vx_T XC st q t mc ms free
/-- a callee that returns or throws -/
def vx_Met (l : Launch) (y : MethodName) (ws : List Cond) (rm : Room) (Pc : Array Value → State → Prop) (Qc : Array Value → State → Outcome → State → Prop) (XC : String → State → State → Prop) (mc ms : Nat) (free : Addr → Prop) : Prop :=
  MetFree l y (headSpec ws rm) Pc (fun _ _ _ _ _ => True) (vx_Q Qc XC mc ms free)
def vx_Post (XC : String → State → State → Prop) (mc ms : Nat) (free : Addr → Prop) : Pt → Array Value → Addr → Pt → Prop := fun A a q B =>
  ∃ (g : JFrame) (mk : MethodId) (t : State) (L : List Loc) (E : String) (ce : Cell), B.U.heap = t.heap ∧ B.U.vm = t.vm ∧ XC E (A.U.calling g mk a) t ∧ t.heap[q]? = some ce ∧ ce.vm = .none ∧ A.U.vm.findClass E = some ce.cls ∧ B.locs = A.locs ++ L ∧ (∀ z ∈ L, free z.base) ∧ B.cells = A.cells + mc ∧ B.slots = A.slots + ms
def vx_Back (l : Launch) (R : Room) (p : Program) (e : Env) (below : List Frame) (s : State) (sargs : Array Value) (y : MethodName) (len W9 : Nat)
    (Pre : Pt → Array Value → Prop) (Post : Pt → Array Value → Option Value → Pt → Prop) (PostX : Pt → Array Value → Addr → Pt → Prop) : Prop :=
  ∀ (m : MethodId) (meth : Method) (c : Code) (A : Pt) (g : JFrame) (ig : Instr) (mk : MethodId) (a : Array Value),
    Stand p l e R s m sargs below meth c A.U A.locs A.cells A.slots → g.method = m → g.locals.size = c.maxLocals → decode c.code g.pc = .ok (ig, len) →
    2 * g.monitorRoom + (g.stack.map fun v => v.category).sum ≤ W9 → A.U.methodNamed? y = some mk → Pre A a →
    (∃ (v : Option Value) (B : Pt), Stand p l e R s m sargs below meth c B.U B.locs B.cells B.slots ∧ Post A a v B ∧
      Steps p.tables e below (doInvoke e (A.U.setTop g) [] mk a).1 (B.U.setTop { g with pc := g.pc + len, stack := v.toList ++ g.stack })) ∨
    (∃ (q : Addr) (B : Pt), Stand p l e R s m sargs below meth c B.U B.locs B.cells B.slots ∧ PostX A a q B ∧
      Steps p.tables e below (doInvoke e (A.U.setTop g) [] mk a).1 ((B.U.setTop g).pushFrame (.throwing q)))
section Payer
variable {l : Launch} {R : Room} {p : Program} {e : Env} {below : List Frame} {s : State} {sargs : Array Value} {y : MethodName} {len W9 : Nat}
theorem vx_back {ws : List Cond} {rm : Room} {Pc : Array Value → State → Prop} {Qc : Array Value → State → Outcome → State → Prop} {XC : String → State → State → Prop} {mc ms : Nat} {free : Addr → Prop} {bytes : ByteArray} {maxL : Nat} {ret : Option FieldType}
    (hM : vx_Met l y ws rm Pc Qc XC mc ms free) (hblind : FrameBlind Pc) (hrc : rm.cells = mc) (hrs : rm.slots = ms)
    (hframes : rm.frames + 1 ≤ R.frames) (hlocals : W9 + (maxL + 11) + rm.locals ≤ R.locals)
    (hws : ∀ w ∈ ws, ∀ a' U, s.WarmedH U.vm → w.before a' U = true) (hcode : Cond.code y bytes maxL ret ∈ ws) (hinit : ∀ a' U, s.WarmedH U.vm → (Cond.initialized y.cls).before a' U = true) :
    vx_Back l R p e below s sargs y len W9 (PreOf R mc ms Pc) (PostOf Qc mc ms free) (vx_Post XC mc ms free) := by
  intro m meth c A g ig mk a X hg hsize hdg hW hn hp
  have h1 : (headSpec ws rm).pre.before a A.U = true := atoms_intro fun w hw => hws w hw _ _ X.warmed
  have h2 : (Cond.code y bytes maxL ret).before a A.U = true := hws _ hcode _ _ X.warmed
  have h3 : (Cond.initialized y.cls).before a A.U = true := hinit _ _ X.warmed
  have h4 : A.cells + (headSpec ws rm).room.cells ≤ R.cells := by rw [show (headSpec ws rm).room.cells = mc from hrc]; exact hp.1
  have h5 : A.slots + (headSpec ws rm).room.slots ≤ R.slots := by rw [show (headSpec ws rm).room.slots = ms from hrs]; exact hp.2.1
  have hPc : Pc a (A.U.calling g mk a) := hblind _ _ _ _ hp.2.2
  obtain ⟨U, Ls, c0, s0⟩ := A
  dsimp only [Pt.U, Pt.locs, Pt.cells, Pt.slots] at h1 h2 h3 h4 h5 X hn hPc ⊢
  obtain ⟨methY, cY, hmY, hcY, -, hlY, -, -, -, -⟩ := Cond.code_spec hn h2
  obtain ⟨kY, hkY, -⟩ := className_of_methodNamed hn
  have hinitY : kY.init = .initialized := Cond.initialized_spec (findClass_of_methodNamed hn) hkY h3
  have h : At U g.method c below := by rw [hg]; exact X.here
  have hlocals9 : W9 + (maxL + 11) + (headSpec ws rm).room.locals ≤ R.locals := hlocals
  have happ : (headSpec ws rm).appliesLoose y e.platform (U.calling g mk a) = true :=
    Spec.appliesLoose_calling (g := g) h hdg hn hkY hinitY
      (X.room_calling (g := g) (R' := (headSpec ws rm).room) hsize hmY hcY hframes (by rw [hlY]; omega) h4 h5) h1
  obtain ⟨mid, hmid⟩ := h.above
  have hfr : (U.setTop g).frames = (.java g :: mid) ++ below := by rw [State.frames_setTop' g h.top, hmid]; rfl
  obtain ⟨o, s₂, hsteps, -, hend, hq⟩ := Steps.callFree hM p X.admits X.cas X.clock (acts := []) hfr happ hPc trivial
  have hq' : vx_Q Qc XC mc ms free a (U.calling g mk a) o s₂ := hq
  rw [State.frames_setTop' g h.top] at hend
  obtain ⟨g₀, hg0⟩ := Option.isSome_iff_exists.mp h.top
  obtain ⟨r, hr⟩ := State.topJava?_eq_some.mp hg0
  have hr' : (({ U with heap := s₂.heap, slotsUsed := s₂.slotsUsed } : State).setVm s₂.vm).frames = .java g₀ :: r := hr
  rcases hq' with ⟨hqc, L, hfe, hL⟩ | ⟨q, rfl, E, ce, L, hx, hce, hcv, hcl, hW₂, hsm, hL⟩
  · obtain ⟨⟨v, rfl⟩, hW₂, e2, q2, q3, q4, q5, q6⟩ := id hfe
    have e3 : s₂ = ({ (U.calling g mk a).setFrames s₂.frames with heap := s₂.heap, slotsUsed := s₂.slotsUsed } : State).setVm s₂.vm := by
      have : s₂ = ({ s₂ with vm := (U.calling g mk a).vm } : State).setVm s₂.vm := rfl
      rw [e2] at this
      exact this
    obtain ⟨c₂, i₂, len₂, hc₂, hd₂, hf₂⟩ := hend
    have hW' : U.WarmedH s₂.vm := hW₂
    have hcc : c₂ = c := by
      have h1 : s₂.code? g.method = U.code? g.method := by
        rw [State.code?_eq, State.code?_eq, hW'.alike.method?]
      exact Option.some.inj (hc₂.symm.trans (h1.trans h.code))
    subst hcc
    have hlen : len₂ = len := by rw [hdg] at hd₂; cases hd₂; rfl
    subst hlen
    have hs₂ : s₂ = (({ U with heap := s₂.heap, slotsUsed := s₂.slotsUsed } : State).setVm s₂.vm).setTop { g with pc := g.pc + len₂, stack := v.toList ++ g.stack } := by
      refine e3.trans ?_
      rw [hf₂, State.calling_eq h.top, State.setFrames_setFrames, State.setTop_of_frames _ hr', hr]
      rfl
    have hsame : U.sameButNew ({ U with heap := s₂.heap, slotsUsed := s₂.slotsUsed } : State) L mc ms := by
      refine ⟨?_, q2, q3, q4, q5, q6⟩
      obtain ⟨t, ht, -⟩ := State.frames_cons hr
      show ({ U with heap := s₂.heap, slotsUsed := s₂.slotsUsed } : State) = { U.setFrames U.frames with heap := s₂.heap, slotsUsed := s₂.slotsUsed }
      rw [State.setFrames_self ht]
    subst hg
    refine Or.inl ⟨v, ⟨(({ U with heap := s₂.heap, slotsUsed := s₂.slotsUsed } : State).setVm s₂.vm), Ls ++ L, c0 + mc, s0 + ms⟩,
      ⟨X.admits, X.cas, X.clock, X.frames, X.room, X.hears, X.method, X.code, (X.here.setHeapUsed s₂.heap s₂.slotsUsed).setVm hW'.alike, X.tail, State.WarmedH.trans X.warmed hW', X.limits, X.bytes, X.same.trans (hsame.setVm s.vm)⟩,
      ⟨g, mk, s₂, L, rfl, rfl, hqc, rfl, hL, rfl, rfl⟩, ?_⟩
    show Steps p.tables e below _ ((({ U with heap := s₂.heap, slotsUsed := s₂.slotsUsed } : State).setVm s₂.vm).setTop { g with pc := g.pc + len₂, stack := v.toList ++ g.stack })
    rw [← hs₂]
    exact hsteps
  · obtain ⟨e2, q2, q3, q4, q5, q6⟩ := id hsm
    have e3 : s₂ = ({ (U.calling g mk a).setFrames s₂.frames with heap := s₂.heap, slotsUsed := s₂.slotsUsed } : State).setVm s₂.vm := by
      have : s₂ = ({ s₂ with vm := (U.calling g mk a).vm } : State).setVm s₂.vm := rfl
      rw [e2] at this
      exact this
    have hf₂ : s₂.frames = .throwing q :: .java g :: U.frames.tail := hend
    have hW' : U.WarmedH s₂.vm := hW₂
    have hs₂ : s₂ = ((({ U with heap := s₂.heap, slotsUsed := s₂.slotsUsed } : State).setVm s₂.vm).setTop g).pushFrame (.throwing q) := by
      refine e3.trans ?_
      rw [hf₂, State.calling_eq h.top, State.setFrames_setFrames, State.pushFrame, State.frames_setTop _ hr', State.setTop_of_frames _ hr', State.setFrames_setFrames, hr]
      rfl
    have hsame : U.sameButNew ({ U with heap := s₂.heap, slotsUsed := s₂.slotsUsed } : State) L mc ms := by
      refine ⟨?_, q2, q3, q4, q5, q6⟩
      obtain ⟨t, ht, -⟩ := State.frames_cons hr
      show ({ U with heap := s₂.heap, slotsUsed := s₂.slotsUsed } : State) = { U.setFrames U.frames with heap := s₂.heap, slotsUsed := s₂.slotsUsed }
      rw [State.setFrames_self ht]
    subst hg
    refine Or.inr ⟨q, ⟨(({ U with heap := s₂.heap, slotsUsed := s₂.slotsUsed } : State).setVm s₂.vm), Ls ++ L, c0 + mc, s0 + ms⟩,
      ⟨X.admits, X.cas, X.clock, X.frames, X.room, X.hears, X.method, X.code, (X.here.setHeapUsed s₂.heap s₂.slotsUsed).setVm hW'.alike, X.tail, State.WarmedH.trans X.warmed hW', X.limits, X.bytes, X.same.trans (hsame.setVm s.vm)⟩,
      ⟨g, mk, s₂, L, E, ce, rfl, rfl, hx, hce, hcv, hcl, rfl, hL, rfl, rfl⟩, ?_⟩
    show Steps p.tables e below _ (((({ U with heap := s₂.heap, slotsUsed := s₂.slotsUsed } : State).setVm s₂.vm).setTop g).pushFrame (.throwing q))
    rw [← hs₂]
    exact hsteps
end Payer
section Calls
variable {p : Program} {l : Launch} {e : Env} {R : Room} {s : State} {m : MethodId} {args : Array Value} {below : List Frame} {meth : Method} {c : Code} {T : State} {locs : List Loc} {cells slots : Nat}
theorem vx_callV (X : Stand p l e R s m args below meth c T locs cells slots) (hexec : p.tables.exec = Jvm.exec) {own C : String} {index : Nat} {y : MethodName} {bytes : ByteArray} {maxL : Nat} {ret : Option FieldType}
    (hown : s.vm.findClass own = some m.cls) (hlink : (Cond.methodLink own index y).before args s = true) (hinst : (Cond.instanceMethod y).before args s = true) (hsel : (Cond.selects C y y).before args s = true)
    (hcode : (Cond.code y bytes maxL ret).before args s = true) (hy : y.cls ≠ "java/lang/invoke/MethodHandle" ∧ y.cls ≠ "java/lang/invoke/VarHandle")
    {W9 : Nat} {Pre : Pt → Array Value → Prop} {Post : Pt → Array Value → Option Value → Pt → Prop} {PostX : Pt → Array Value → Addr → Pt → Prop} (hK : vx_Back l R p e below s args y 3 W9 Pre Post PostX)
    {b : Addr} {cellB : Cell} (hcell : T.heap[b]? = some cellB) (hobj : cellB.vm.isStatics = false) (hcls : s.vm.findClass C = some cellB.cls)
    {g : JFrame} (hg : g.method = m) (hsize : g.locals.size = c.maxLocals) {argsL rest : List Value} (hlen : ∀ sig, parseMethodDescriptor y.desc = some sig → argsL.length = sig.parameters.length)
    (hstack : g.stack = argsL.reverse ++ .ref b :: rest) (hW : 2 * g.monitorRoom + (rest.map fun v => v.category).sum ≤ W9) (hdg : decode c.code g.pc = .ok (.invokevirtual index, 3))
    (hpre : ∀ vm₁, s.WarmedH vm₁ → Pre ⟨T.setVm vm₁, locs, cells, slots⟩ (Value.ref b :: argsL).toArray) :
    (∃ (v : Option Value) (vm₁ : Vm) (B : Pt), s.WarmedH vm₁ ∧ Stand p l e R s m args below meth c B.U B.locs B.cells B.slots ∧ Post ⟨T.setVm vm₁, locs, cells, slots⟩ (Value.ref b :: argsL).toArray v B ∧
      ∀ target, Steps p.tables e below (B.U.setTop { g with pc := g.pc + 3, stack := v.toList ++ rest }) target → Steps p.tables e below (T.setTop g) target) ∨
    (∃ (q : Addr) (vm₁ : Vm) (B : Pt), s.WarmedH vm₁ ∧ Stand p l e R s m args below meth c B.U B.locs B.cells B.slots ∧ PostX ⟨T.setVm vm₁, locs, cells, slots⟩ (Value.ref b :: argsL).toArray q B ∧
      Steps p.tables e below (T.setTop g) ((B.U.setTop { g with stack := rest }).pushFrame (.throwing q))) := by
  obtain ⟨mk, methM, hnamed, hmethM, hstM, habM⟩ := Cond.instanceMethod_spec hinst
  obtain ⟨methM', cM, hmethM', -, -, -, -, -, -, hsigM⟩ := Cond.code_spec hnamed hcode
  cases hmethM.symm.trans hmethM'
  obtain ⟨c2, r2, m2, q1, q2, q3, q4, kP, hkP, hkPi⟩ := Cond.selects_spec hsel
  cases hcls.symm.trans q1
  cases (State.methodFound?_of_named hnamed hy).symm.trans q2
  cases hnamed.symm.trans q3
  have hselP : selectMethod e.platform s.vm cellB.cls mk = .method mk := by rw [Launch.admits_selectMethod X.admits]; exact q4
  obtain ⟨vm₁, X₁, hstep₁⟩ := X.invokevirtual hexec hown hlink hnamed hmethM hstM hkP hkPi hy (a := b) (cell := cellB) hcell
    (fun z h => by rw [h] at hobj; cases hobj) hselP hmethM habM hkP hkPi (g := g) hg (argsL := argsL) (rest := rest) (hlen _ hsigM) hstack hdg
  rcases hK m meth c ⟨T.setVm vm₁, locs, cells, slots⟩ { g with stack := rest } (.invokevirtual index) mk (Value.ref b :: argsL).toArray X₁ hg hsize hdg hW (X₁.named hnamed) (hpre vm₁ X₁.warmed) with ⟨v, B, X', hpost, hsteps⟩ | ⟨q, B, X', hpost, hsteps⟩
  · exact Or.inl ⟨v, vm₁, B, X₁.warmed, X', hpost, fun target h => hstep₁ _ fun acts => by rw [doInvoke_state]; exact hsteps.trans h⟩
  · exact Or.inr ⟨q, vm₁, B, X₁.warmed, X', hpost, hstep₁ _ fun acts => by rw [doInvoke_state]; exact hsteps⟩
theorem vx_callS (X : Stand p l e R s m args below meth c T locs cells slots) (hexec : p.tables.exec = Jvm.exec) {own : String} {index : Nat} {y : MethodName} {bytes : ByteArray} {maxL : Nat} {ret : Option FieldType}
    (hown : s.vm.findClass own = some m.cls) (hlink : (Cond.methodLink own index y).before args s = true) (hstat : (Cond.static y).before args s = true) (hinit : (Cond.initialized y.cls).before args s = true)
    (hcode : (Cond.code y bytes maxL ret).before args s = true) (hy : y.cls ≠ "java/lang/invoke/MethodHandle" ∧ y.cls ≠ "java/lang/invoke/VarHandle")
    {W9 : Nat} {Pre : Pt → Array Value → Prop} {Post : Pt → Array Value → Option Value → Pt → Prop} {PostX : Pt → Array Value → Addr → Pt → Prop} (hK : vx_Back l R p e below s args y 3 W9 Pre Post PostX)
    {g : JFrame} (hg : g.method = m) (hsize : g.locals.size = c.maxLocals) {argsL rest : List Value} (hlen : ∀ sig, parseMethodDescriptor y.desc = some sig → argsL.length = sig.parameters.length)
    (hstack : g.stack = argsL.reverse ++ rest) (hW : 2 * g.monitorRoom + (rest.map fun v => v.category).sum ≤ W9) (hdg : decode c.code g.pc = .ok (.invokestatic index, 3))
    (hpre : ∀ vm₁, s.WarmedH vm₁ → Pre ⟨T.setVm vm₁, locs, cells, slots⟩ argsL.toArray) :
    (∃ (v : Option Value) (vm₁ : Vm) (B : Pt), s.WarmedH vm₁ ∧ Stand p l e R s m args below meth c B.U B.locs B.cells B.slots ∧ Post ⟨T.setVm vm₁, locs, cells, slots⟩ argsL.toArray v B ∧
      ∀ target, Steps p.tables e below (B.U.setTop { g with pc := g.pc + 3, stack := v.toList ++ rest }) target → Steps p.tables e below (T.setTop g) target) ∨
    (∃ (q : Addr) (vm₁ : Vm) (B : Pt), s.WarmedH vm₁ ∧ Stand p l e R s m args below meth c B.U B.locs B.cells B.slots ∧ PostX ⟨T.setVm vm₁, locs, cells, slots⟩ argsL.toArray q B ∧
      Steps p.tables e below (T.setTop g) ((B.U.setTop { g with stack := rest }).pushFrame (.throwing q))) := by
  obtain ⟨mk, hnamed⟩ := Cond.code_named hcode
  obtain ⟨methM, cM, hmethM, -, -, -, -, -, -, hsigM⟩ := Cond.code_spec hnamed hcode
  have hstatic : methM.isStatic = true := Cond.static_spec hnamed hmethM hstat
  obtain ⟨kP, hkP, -⟩ := className_of_methodNamed hnamed
  have hinitP : kP.init = .initialized := Cond.initialized_spec (findClass_of_methodNamed hnamed) hkP hinit
  obtain ⟨vm₁, X₁, hstep₁⟩ := X.invokestatic hexec hown hlink hnamed hmethM hstatic hkP hinitP hy (g := g) hg (argsL := argsL) (rest := rest) (hlen _ hsigM) hstack hdg
  rcases hK m meth c ⟨T.setVm vm₁, locs, cells, slots⟩ { g with stack := rest } (.invokestatic index) mk argsL.toArray X₁ hg hsize hdg hW (X₁.named hnamed) (hpre vm₁ X₁.warmed) with ⟨v, B, X', hpost, hsteps⟩ | ⟨q, B, X', hpost, hsteps⟩
  · exact Or.inl ⟨v, vm₁, B, X₁.warmed, X', hpost, fun target h => hstep₁ _ fun acts => by rw [doInvoke_state]; exact hsteps.trans h⟩
  · exact Or.inr ⟨q, vm₁, B, X₁.warmed, X', hpost, hstep₁ _ fun acts => by rw [doInvoke_state]; exact hsteps⟩
end Calls
theorem vx_cls {s : State} {T : State} {vm₁ : Vm} {E : String} {k : ClassId} (hW : s.WarmedH vm₁) (h : (T.setVm vm₁).vm.findClass E = some k) : s.vm.findClass E = some k := by
  have h1 : vm₁.findClass E = some k := h
  rw [hW.alike.findClass] at h1
  exact h1
/-- the method's frame g, with q thrown over it -/
def vx_W (p : Program) (l : Launch) (e : Env) (R : Room) (s : State) (m : MethodId) (args : Array Value) (below : List Frame) (meth : Method) (c : Code) (H : Heap) (locs : List Loc) (cells slots : Nat) (Q : State → Prop) (g : JFrame) (q : Addr) : Prop :=
  ∀ T : State, T.heap = H → Stand p l e R s m args below meth c T locs cells slots → ∃ t, Steps p.tables e below ((T.setTop g).pushFrame (.throwing q)) t ∧ Q t
def vx_Run (p : Program) (l : Launch) (e : Env) (R : Room) (s : State) (m : MethodId) (args : Array Value) (below : List Frame) (meth : Method) (c : Code) (H : Heap) (locs : List Loc) (cells slots mc ms : Nat) (g : JFrame) (rest : List Value) (Qa : State → Outcome → State → Prop) (XC : String → State → State → Prop) (free : Addr → Prop) : Prop :=
  ∀ T : State, T.heap = H → Stand p l e R s m args below meth c T locs cells slots →
    (∃ (v : Option Value) (st₀ t T' : State) (L : List Loc), st₀.heap = H ∧ Stand p l e R s m args below meth c T' (locs ++ L) (cells + mc) (slots + ms) ∧ (∀ q ∈ L, free q.base) ∧ T'.heap = t.heap ∧ T'.vm = t.vm ∧ Qa st₀ (.returned v) t ∧
      Goes p e below T g T' { g with pc := g.pc + 3, stack := v.toList ++ rest }) ∨
    (∃ (q : Addr) (st₀ t T' : State) (L : List Loc) (E : String) (ce : Cell), st₀.heap = H ∧ Stand p l e R s m args below meth c T' (locs ++ L) (cells + mc) (slots + ms) ∧ (∀ z ∈ L, free z.base) ∧ T'.heap = t.heap ∧ T'.vm = t.vm ∧ XC E st₀ t ∧ t.heap[q]? = some ce ∧ ce.vm = .none ∧ s.vm.findClass E = some ce.cls ∧
      Steps p.tables e below (T.setTop g) ((T'.setTop { g with stack := rest }).pushFrame (.throwing q)))
def vx_X {S : Type} (px : S → Prop) (B : String → S → State → Prop) (A : Nat → Prop) : String → State → State → Prop := fun E st t => ∃ u : S, px u ∧ B E u t ∧ va_F A st t
section Runs
variable {p : Program} {l : Launch} {e : Env} {R : Room} {s : State} {m : MethodId} {args : Array Value} {below : List Frame} {meth : Method} {c : Code} {H : Heap} {locs : List Loc} {cells slots : Nat}
variable {y : MethodName} {bytes cc : ByteArray} {maxL nL mc ms n index : Nat} {ret : Option FieldType} {ws : List Cond} {rm : Room} {Pc : Array Value → State → Prop} {Qc : Array Value → State → Outcome → State → Prop} {XC : String → State → State → Prop} {free : Addr → Prop} {Ts : List Cond} {own C : String} {b : Addr} {As rest : List Value} {g : JFrame}
theorem vx_callBack (cb : CallB R s args own index y bytes maxL ret ws rm mc ms n) (hM : vx_Met l y ws rm Pc Qc XC mc ms free) (hbl : FrameBlind Pc) : vx_Back l R p e below s args y 3 8 (PreOf R mc ms Pc) (PostOf Qc mc ms free) (vx_Post XC mc ms free) := by
  obtain ⟨hrc, hrs, hfr, hlo, hws, hcw, -, hini, -⟩ := cb
  exact vx_back (bytes := bytes) (maxL := maxL) (ret := ret) hM hbl hrc hrs hfr hlo hws hcw (fun a' U hW => word_at hW (Or.inl (by first | rfl | simp [Cond.onTables, Cond.keeps, Cond.steady])) hini)
theorem vx_runV (S : CallFix p m c cc nL s args Ts own) (hM : vx_Met l y ws rm Pc Qc XC mc ms free) (cw : CallW R s args own C index y bytes maxL ret ws rm mc ms n) (hp : PreV s H C b Pc As)
    (hg : g.method = m) (hn : As.length = n) (hsize : g.locals.size = nL) (hstack : g.stack = As.reverse ++ .ref b :: rest) (hW : 2 * g.monitorRoom + (rest.map fun v => v.category).sum ≤ 8) (hdg : decode cc g.pc = .ok (.invokevirtual index, 3)) (hf : cells + mc ≤ R.cells ∧ slots + ms ≤ R.slots) :
    vx_Run p l e R s m args below meth c H locs cells slots mc ms g rest (Qc (Value.ref b :: As).toArray) XC free := by
  have hK : vx_Back l R p e below s args y 3 8 (PreOf R mc ms Pc) (PostOf Qc mc ms free) (vx_Post XC mc ms free) := vx_callBack cw.1 hM hp.1
  obtain ⟨⟨-, -, -, -, -, -, hcode, -, hy, hlen, hl⟩, hin, hse⟩ := cw
  obtain ⟨hx, hb, hml, ho, -⟩ := S
  obtain ⟨-, ⟨cellB, hcB, hoB, hclB⟩, hPc⟩ := hp
  intro T hT X
  rcases vx_callV X hx (C := C) (bytes := bytes) (maxL := maxL) (ret := ret) ho hl hin hse hcode hy hK (by rw [hT]; exact hcB) hoB hclB hg (hsize.trans hml.symm) (argsL := As) (rest := rest) (fun sig h => hn.trans (hlen sig h)) hstack hW (by rw [hb]; exact hdg)
    (fun vm₁ hW₁ => ⟨hf.1, hf.2, hPc (T.setVm vm₁) hT hW₁⟩) with ⟨v, vm₁, ⟨U', l2, c2, s2⟩, hW₁, X', ⟨g', mk, t, L, e1, e2, hq, h1, hL, h2, h3⟩, st⟩ | ⟨q, vm₁, ⟨U', l2, c2, s2⟩, hW₁, X', ⟨g', mk, t, L, E, ce, e1, e2, hq, hce, hcv, hcl, h1, hL, h2, h3⟩, st⟩
  · dsimp only [Pt.U, Pt.locs, Pt.cells, Pt.slots] at X' e1 e2 h1 h2 h3 st
    subst h1; subst h2; subst h3
    exact Or.inl ⟨v, (T.setVm vm₁).calling g' mk (Value.ref b :: As).toArray, t, U', L, hT, X', hL, e1, e2, hq, st⟩
  · dsimp only [Pt.U, Pt.locs, Pt.cells, Pt.slots] at X' e1 e2 h1 h2 h3 st hcl
    subst h1; subst h2; subst h3
    exact Or.inr ⟨q, (T.setVm vm₁).calling g' mk (Value.ref b :: As).toArray, t, U', L, E, ce, hT, X', hL, e1, e2, hq, hce, hcv, vx_cls hW₁ hcl, st⟩
theorem vx_runS (S : CallFix p m c cc nL s args Ts own) (hM : vx_Met l y ws rm Pc Qc XC mc ms free) (cw : CallB R s args own index y bytes maxL ret ws rm mc ms n ∧ (Cond.static y).before args s = true) (hp : PreS s H Pc As)
    (hg : g.method = m) (hn : As.length = n) (hsize : g.locals.size = nL) (hstack : g.stack = As.reverse ++ rest) (hW : 2 * g.monitorRoom + (rest.map fun v => v.category).sum ≤ 8) (hdg : decode cc g.pc = .ok (.invokestatic index, 3)) (hf : cells + mc ≤ R.cells ∧ slots + ms ≤ R.slots) :
    vx_Run p l e R s m args below meth c H locs cells slots mc ms g rest (Qc As.toArray) XC free := by
  have hK : vx_Back l R p e below s args y 3 8 (PreOf R mc ms Pc) (PostOf Qc mc ms free) (vx_Post XC mc ms free) := vx_callBack cw.1 hM hp.1
  obtain ⟨⟨-, -, -, -, -, -, hcode, hini, hy, hlen, hl⟩, hstt⟩ := cw
  obtain ⟨hx, hb, hml, ho, -⟩ := S
  intro T hT X
  rcases vx_callS X hx (bytes := bytes) (maxL := maxL) (ret := ret) ho hl hstt hini hcode hy hK hg (hsize.trans hml.symm) (argsL := As) (rest := rest) (fun sig h => hn.trans (hlen sig h)) hstack hW (by rw [hb]; exact hdg)
    (fun vm₁ hW₁ => ⟨hf.1, hf.2, hp.2 (T.setVm vm₁) hT hW₁⟩) with ⟨v, vm₁, ⟨U', l2, c2, s2⟩, hW₁, X', ⟨g', mk, t, L, e1, e2, hq, h1, hL, h2, h3⟩, st⟩ | ⟨q, vm₁, ⟨U', l2, c2, s2⟩, hW₁, X', ⟨g', mk, t, L, E, ce, e1, e2, hq, hce, hcv, hcl, h1, hL, h2, h3⟩, st⟩
  · dsimp only [Pt.U, Pt.locs, Pt.cells, Pt.slots] at X' e1 e2 h1 h2 h3 st
    subst h1; subst h2; subst h3
    exact Or.inl ⟨v, (T.setVm vm₁).calling g' mk As.toArray, t, U', L, hT, X', hL, e1, e2, hq, st⟩
  · dsimp only [Pt.U, Pt.locs, Pt.cells, Pt.slots] at X' e1 e2 h1 h2 h3 st hcl
    subst h1; subst h2; subst h3
    exact Or.inr ⟨q, (T.setVm vm₁).calling g' mk As.toArray, t, U', L, E, ce, hT, X', hL, e1, e2, hq, hce, hcv, vx_cls hW₁ hcl, st⟩
end Runs
section Rows
variable {p : Program} {l : Launch} {e : Env} {R : Room} {s : State} {m : MethodId} {args : Array Value} {below : List Frame} {meth : Method} {c : Code} {H : Heap} {locs : List Loc} {cells slots : Nat} {Q : State → Prop}
variable {mc ms : Nat} {free : Addr → Prop} {A0 A1 : Nat → Prop} {H0 : Heap} {a : Array Value} {pc : Nat} {ls : Array Slot} {st0 rest : List Value}
theorem vx_keep {st₀ t T' : State} {L : List Loc} (h0 : st₀.heap = H) (e1 : T'.heap = t.heap) (hS : va_S A0 H0 H locs) (hA : ∀ q, q < H.size → A1 q → A0 q) (hf : ∀ q, free q → A0 q) (hL : ∀ q ∈ L, free q.base) (hF : va_F A1 st₀ t) :
    H.size ≤ T'.heap.size ∧ (∀ q : Nat, q < H.size → ¬ A1 q → T'.heap[q]? = H[q]?) ∧ va_S A0 H0 T'.heap (locs ++ L) := by
  obtain ⟨hz, hk⟩ := hF
  rw [h0] at hz hk
  exact ⟨by rw [e1]; exact hz, fun q h1 h2 => by rw [e1]; exact hk q h1 h2,
    ⟨Nat.le_trans hS.1 (by rw [e1]; exact hz), fun q h1 h2 => by rw [e1, hk q (Nat.lt_of_lt_of_le h1 hS.1) (fun z => h2 (hA q (Nat.lt_of_lt_of_le h1 hS.1) z))]; exact hS.2.1 q h1 h2, fun q hq => by
      rcases List.mem_append.mp hq with h | h
      · exact hS.2.2 q h
      · exact hf _ (hL q h)⟩⟩
theorem vx_calli {S SX : Type} {post : Int32 → S → Prop} {px : SX → Prop} {B : S → State → Prop} {BX : String → SX → State → Prop} {AX : Nat → Prop} (hr : vx_Run p l e R s m args below meth c H locs cells slots mc ms (F0 m pc ls st0) rest (va_Qi post B A1 a) (vx_X px BX AX) free) (hS : va_S A0 H0 H locs) (hA : ∀ q, q < H.size → A1 q → A0 q) (hf : ∀ q, free q → A0 q) (hAX : ∀ q, q < H.size → AX q → A0 q)
    (kx : ∀ (E : String) (ce : Cell) (q9 : Addr) (u : SX) (t : State) (H1 : Heap) (locs1 : List Loc), t.heap = H1 → s.vm.Alike t.vm → px u → BX E u t → H.size ≤ H1.size → (∀ q : Nat, q < H.size → ¬ AX q → H1[q]? = H[q]?) → va_S A0 H0 H1 locs1 → H1[q9]? = some ce → ce.vm = .none → s.vm.findClass E = some ce.cls → vx_W p l e R s m args below meth c H1 locs1 (cells + mc) (slots + ms) Q (F0 m pc ls rest) q9)
    (kk : ∀ (r : Int32) (u : S) (t : State) (H1 : Heap) (locs1 : List Loc), t.heap = H1 → s.vm.Alike t.vm → post r u → B u t → H.size ≤ H1.size → (∀ q : Nat, q < H.size → ¬ A1 q → H1[q]? = H[q]?) → va_S A0 H0 H1 locs1 → W p l e R s m args below meth c H1 locs1 (cells + mc) (slots + ms) Q (F0 m (pc + 3) ls (.int r :: rest))) : W p l e R s m args below meth c H locs cells slots Q (F0 m pc ls st0) := by
  intro T hT X
  rcases hr T hT X with ⟨v, st₀, t, T', L, h0, X', hL, e1, e2, ⟨⟨r, u, hv, hp, hb⟩, hF⟩, st⟩ | ⟨q, st₀, t, T', L, E, ce, h0, X', hL, e1, e2, ⟨u, hp, hb, hF⟩, hce, hcv, hcl, st⟩
  · cases hv
    obtain ⟨k1, k2, k3⟩ := vx_keep h0 e1 hS hA hf hL hF
    obtain ⟨t2, a1, b1⟩ := kk r u t T'.heap (locs ++ L) e1.symm (by rw [← e2]; exact X'.warmed.alike) hp hb k1 k2 k3 T' rfl X'
    exact ⟨t2, st t2 a1, b1⟩
  · obtain ⟨k1, k2, k3⟩ := vx_keep h0 e1 hS hAX hf hL hF
    obtain ⟨t2, a1, b1⟩ := kx E ce q u t T'.heap (locs ++ L) e1.symm (by rw [← e2]; exact X'.warmed.alike) hp hb k1 k2 k3 (by rw [e1]; exact hce) hcv hcl T' rfl X'
    exact ⟨t2, st.trans a1, b1⟩
theorem vx_calll {S SX : Type} {post : Int64 → S → Prop} {px : SX → Prop} {B : S → State → Prop} {BX : String → SX → State → Prop} {AX : Nat → Prop} (hr : vx_Run p l e R s m args below meth c H locs cells slots mc ms (F0 m pc ls st0) rest (va_Ql post B A1 a) (vx_X px BX AX) free) (hS : va_S A0 H0 H locs) (hA : ∀ q, q < H.size → A1 q → A0 q) (hf : ∀ q, free q → A0 q) (hAX : ∀ q, q < H.size → AX q → A0 q)
    (kx : ∀ (E : String) (ce : Cell) (q9 : Addr) (u : SX) (t : State) (H1 : Heap) (locs1 : List Loc), t.heap = H1 → s.vm.Alike t.vm → px u → BX E u t → H.size ≤ H1.size → (∀ q : Nat, q < H.size → ¬ AX q → H1[q]? = H[q]?) → va_S A0 H0 H1 locs1 → H1[q9]? = some ce → ce.vm = .none → s.vm.findClass E = some ce.cls → vx_W p l e R s m args below meth c H1 locs1 (cells + mc) (slots + ms) Q (F0 m pc ls rest) q9)
    (kk : ∀ (r : Int64) (u : S) (t : State) (H1 : Heap) (locs1 : List Loc), t.heap = H1 → s.vm.Alike t.vm → post r u → B u t → H.size ≤ H1.size → (∀ q : Nat, q < H.size → ¬ A1 q → H1[q]? = H[q]?) → va_S A0 H0 H1 locs1 → W p l e R s m args below meth c H1 locs1 (cells + mc) (slots + ms) Q (F0 m (pc + 3) ls (.long r :: rest))) : W p l e R s m args below meth c H locs cells slots Q (F0 m pc ls st0) := by
  intro T hT X
  rcases hr T hT X with ⟨v, st₀, t, T', L, h0, X', hL, e1, e2, ⟨⟨r, u, hv, hp, hb⟩, hF⟩, st⟩ | ⟨q, st₀, t, T', L, E, ce, h0, X', hL, e1, e2, ⟨u, hp, hb, hF⟩, hce, hcv, hcl, st⟩
  · cases hv
    obtain ⟨k1, k2, k3⟩ := vx_keep h0 e1 hS hA hf hL hF
    obtain ⟨t2, a1, b1⟩ := kk r u t T'.heap (locs ++ L) e1.symm (by rw [← e2]; exact X'.warmed.alike) hp hb k1 k2 k3 T' rfl X'
    exact ⟨t2, st t2 a1, b1⟩
  · obtain ⟨k1, k2, k3⟩ := vx_keep h0 e1 hS hAX hf hL hF
    obtain ⟨t2, a1, b1⟩ := kx E ce q u t T'.heap (locs ++ L) e1.symm (by rw [← e2]; exact X'.warmed.alike) hp hb k1 k2 k3 (by rw [e1]; exact hce) hcv hcl T' rfl X'
    exact ⟨t2, st.trans a1, b1⟩
theorem vx_callf {S SX : Type} {post : UInt32 → S → Prop} {px : SX → Prop} {B : S → State → Prop} {BX : String → SX → State → Prop} {AX : Nat → Prop} (hr : vx_Run p l e R s m args below meth c H locs cells slots mc ms (F0 m pc ls st0) rest (va_Qf post B A1 a) (vx_X px BX AX) free) (hS : va_S A0 H0 H locs) (hA : ∀ q, q < H.size → A1 q → A0 q) (hf : ∀ q, free q → A0 q) (hAX : ∀ q, q < H.size → AX q → A0 q)
    (kx : ∀ (E : String) (ce : Cell) (q9 : Addr) (u : SX) (t : State) (H1 : Heap) (locs1 : List Loc), t.heap = H1 → s.vm.Alike t.vm → px u → BX E u t → H.size ≤ H1.size → (∀ q : Nat, q < H.size → ¬ AX q → H1[q]? = H[q]?) → va_S A0 H0 H1 locs1 → H1[q9]? = some ce → ce.vm = .none → s.vm.findClass E = some ce.cls → vx_W p l e R s m args below meth c H1 locs1 (cells + mc) (slots + ms) Q (F0 m pc ls rest) q9)
    (kk : ∀ (r : UInt32) (u : S) (t : State) (H1 : Heap) (locs1 : List Loc), t.heap = H1 → s.vm.Alike t.vm → post r u → B u t → H.size ≤ H1.size → (∀ q : Nat, q < H.size → ¬ A1 q → H1[q]? = H[q]?) → va_S A0 H0 H1 locs1 → W p l e R s m args below meth c H1 locs1 (cells + mc) (slots + ms) Q (F0 m (pc + 3) ls (.float r :: rest))) : W p l e R s m args below meth c H locs cells slots Q (F0 m pc ls st0) := by
  intro T hT X
  rcases hr T hT X with ⟨v, st₀, t, T', L, h0, X', hL, e1, e2, ⟨⟨r, u, hv, hp, hb⟩, hF⟩, st⟩ | ⟨q, st₀, t, T', L, E, ce, h0, X', hL, e1, e2, ⟨u, hp, hb, hF⟩, hce, hcv, hcl, st⟩
  · cases hv
    obtain ⟨k1, k2, k3⟩ := vx_keep h0 e1 hS hA hf hL hF
    obtain ⟨t2, a1, b1⟩ := kk r u t T'.heap (locs ++ L) e1.symm (by rw [← e2]; exact X'.warmed.alike) hp hb k1 k2 k3 T' rfl X'
    exact ⟨t2, st t2 a1, b1⟩
  · obtain ⟨k1, k2, k3⟩ := vx_keep h0 e1 hS hAX hf hL hF
    obtain ⟨t2, a1, b1⟩ := kx E ce q u t T'.heap (locs ++ L) e1.symm (by rw [← e2]; exact X'.warmed.alike) hp hb k1 k2 k3 (by rw [e1]; exact hce) hcv hcl T' rfl X'
    exact ⟨t2, st.trans a1, b1⟩
theorem vx_calld {S SX : Type} {post : UInt64 → S → Prop} {px : SX → Prop} {B : S → State → Prop} {BX : String → SX → State → Prop} {AX : Nat → Prop} (hr : vx_Run p l e R s m args below meth c H locs cells slots mc ms (F0 m pc ls st0) rest (va_Qd post B A1 a) (vx_X px BX AX) free) (hS : va_S A0 H0 H locs) (hA : ∀ q, q < H.size → A1 q → A0 q) (hf : ∀ q, free q → A0 q) (hAX : ∀ q, q < H.size → AX q → A0 q)
    (kx : ∀ (E : String) (ce : Cell) (q9 : Addr) (u : SX) (t : State) (H1 : Heap) (locs1 : List Loc), t.heap = H1 → s.vm.Alike t.vm → px u → BX E u t → H.size ≤ H1.size → (∀ q : Nat, q < H.size → ¬ AX q → H1[q]? = H[q]?) → va_S A0 H0 H1 locs1 → H1[q9]? = some ce → ce.vm = .none → s.vm.findClass E = some ce.cls → vx_W p l e R s m args below meth c H1 locs1 (cells + mc) (slots + ms) Q (F0 m pc ls rest) q9)
    (kk : ∀ (r : UInt64) (u : S) (t : State) (H1 : Heap) (locs1 : List Loc), t.heap = H1 → s.vm.Alike t.vm → post r u → B u t → H.size ≤ H1.size → (∀ q : Nat, q < H.size → ¬ A1 q → H1[q]? = H[q]?) → va_S A0 H0 H1 locs1 → W p l e R s m args below meth c H1 locs1 (cells + mc) (slots + ms) Q (F0 m (pc + 3) ls (.double r :: rest))) : W p l e R s m args below meth c H locs cells slots Q (F0 m pc ls st0) := by
  intro T hT X
  rcases hr T hT X with ⟨v, st₀, t, T', L, h0, X', hL, e1, e2, ⟨⟨r, u, hv, hp, hb⟩, hF⟩, st⟩ | ⟨q, st₀, t, T', L, E, ce, h0, X', hL, e1, e2, ⟨u, hp, hb, hF⟩, hce, hcv, hcl, st⟩
  · cases hv
    obtain ⟨k1, k2, k3⟩ := vx_keep h0 e1 hS hA hf hL hF
    obtain ⟨t2, a1, b1⟩ := kk r u t T'.heap (locs ++ L) e1.symm (by rw [← e2]; exact X'.warmed.alike) hp hb k1 k2 k3 T' rfl X'
    exact ⟨t2, st t2 a1, b1⟩
  · obtain ⟨k1, k2, k3⟩ := vx_keep h0 e1 hS hAX hf hL hF
    obtain ⟨t2, a1, b1⟩ := kx E ce q u t T'.heap (locs ++ L) e1.symm (by rw [← e2]; exact X'.warmed.alike) hp hb k1 k2 k3 (by rw [e1]; exact hce) hcv hcl T' rfl X'
    exact ⟨t2, st.trans a1, b1⟩
theorem vx_callv {S SX : Type} {post : S → Prop} {px : SX → Prop} {B : S → State → Prop} {BX : String → SX → State → Prop} {AX : Nat → Prop} (hr : vx_Run p l e R s m args below meth c H locs cells slots mc ms (F0 m pc ls st0) rest (va_Qv post B A1 a) (vx_X px BX AX) free) (hS : va_S A0 H0 H locs) (hA : ∀ q, q < H.size → A1 q → A0 q) (hf : ∀ q, free q → A0 q) (hAX : ∀ q, q < H.size → AX q → A0 q)
    (kx : ∀ (E : String) (ce : Cell) (q9 : Addr) (u : SX) (t : State) (H1 : Heap) (locs1 : List Loc), t.heap = H1 → s.vm.Alike t.vm → px u → BX E u t → H.size ≤ H1.size → (∀ q : Nat, q < H.size → ¬ AX q → H1[q]? = H[q]?) → va_S A0 H0 H1 locs1 → H1[q9]? = some ce → ce.vm = .none → s.vm.findClass E = some ce.cls → vx_W p l e R s m args below meth c H1 locs1 (cells + mc) (slots + ms) Q (F0 m pc ls rest) q9)
    (kk : ∀ (u : S) (t : State) (H1 : Heap) (locs1 : List Loc), t.heap = H1 → s.vm.Alike t.vm → post u → B u t → H.size ≤ H1.size → (∀ q : Nat, q < H.size → ¬ A1 q → H1[q]? = H[q]?) → va_S A0 H0 H1 locs1 → W p l e R s m args below meth c H1 locs1 (cells + mc) (slots + ms) Q (F0 m (pc + 3) ls (rest))) : W p l e R s m args below meth c H locs cells slots Q (F0 m pc ls st0) := by
  intro T hT X
  rcases hr T hT X with ⟨v, st₀, t, T', L, h0, X', hL, e1, e2, ⟨⟨u, hv, hp, hb⟩, hF⟩, st⟩ | ⟨q, st₀, t, T', L, E, ce, h0, X', hL, e1, e2, ⟨u, hp, hb, hF⟩, hce, hcv, hcl, st⟩
  · cases hv
    obtain ⟨k1, k2, k3⟩ := vx_keep h0 e1 hS hA hf hL hF
    obtain ⟨t2, a1, b1⟩ := kk u t T'.heap (locs ++ L) e1.symm (by rw [← e2]; exact X'.warmed.alike) hp hb k1 k2 k3 T' rfl X'
    exact ⟨t2, st t2 a1, b1⟩
  · obtain ⟨k1, k2, k3⟩ := vx_keep h0 e1 hS hAX hf hL hF
    obtain ⟨t2, a1, b1⟩ := kx E ce q u t T'.heap (locs ++ L) e1.symm (by rw [← e2]; exact X'.warmed.alike) hp hb k1 k2 k3 (by rw [e1]; exact hce) hcv hcl T' rfl X'
    exact ⟨t2, st.trans a1, b1⟩
/-- caught by the row x of this method's table; the rows ahead don't take it -/
theorem vx_catch {own name : String} {E : String} {ce : Cell} {q : Addr} (hown : s.vm.findClass own = some m.cls) (pre : List ExceptionTableEntry) (x : ExceptionTableEntry) (suf : List ExceptionTableEntry) (hsplit : c.exceptionTable.toList = pre ++ x :: suf)
    (hpass : ∀ z ∈ pre, covers z pc = false ∨ (z.catchType ≠ 0 ∧ ∃ nm : String, (Cond.classLink own z.catchType nm).before args s = true ∧ va_Nc E nm s)) (hx : covers x pc = true) (h0 : x.catchType ≠ 0)
    (hlink : (Cond.classLink own x.catchType name).before args s = true) (hcast : (Cond.castable E name).before args s = true) (hcell : H[q]? = some ce) (hv : ce.vm = .none) (hcl : s.vm.findClass E = some ce.cls)
    (kk : W p l e R s m args below meth c H locs cells slots Q (F0 m x.handlerPc ls [.ref q])) : vx_W p l e R s m args below meth c H locs cells slots Q (F0 m pc ls rest) q := by
  intro T hT X
  have hpl : e.platform.magicAccessors = ({} : Platform).magicAccessors := by rw [X.admits.platform]
  obtain ⟨c3, c4, hc3, hc4, hasg⟩ := Cond.castable_spec hcast
  cases Option.some.inj (hc3.symm.trans hcl)
  obtain ⟨c5, hc5, hcl5⟩ := Cond.classLink_spec hown hlink e.platform hpl
  cases Option.some.inj (hc4.symm.trans hc5)
  obtain ⟨vm', X', st⟩ := X.thenCaughtThrough q (g := F0 m pc ls rest) rfl (Steps.refl _) (by rw [hT]; exact hcell) (by rw [hv]; rfl) (by obtain ⟨k9, h9, -⟩ := Vm.findClass_spec hcl; exact ⟨k9, h9⟩) pre x suf hsplit
    (fun z hz => by
      rcases hpass z hz with h | ⟨hz0, nm, hl1, hn1⟩
      · exact Or.inl h
      · obtain ⟨c6, hc6, hcl6⟩ := Cond.classLink_spec hown hl1 e.platform hpl
        obtain ⟨a8, b8, h1, h2, h3⟩ := hn1
        cases Option.some.inj (h1.symm.trans hcl)
        cases Option.some.inj (h2.symm.trans hc6)
        exact Or.inr ⟨hz0, _, hcl6, h3⟩) hx (Or.inr ⟨h0, c4, hcl5, hasg⟩)
  obtain ⟨t, a1, b1⟩ := kk (T.setVm vm') hT X'
  exact ⟨t, st.trans a1, b1⟩
end Rows
section Ends
variable {p : Program} {l : Launch} {e : Env} {R : Room} {s : State} {m : MethodId} {args : Array Value} {below : List Frame} {meth : Method} {c : Code} {H : Heap} {locs : List Loc} {cells slots : Nat} {Q : State → Prop}
variable {mc ms : Nat} {free : Addr → Prop} {A0 A1 : Nat → Prop} {H0 : Heap} {a : Array Value} {ls : Array Slot} {st0 rest : List Value}
variable {Qc : Array Value → State → Outcome → State → Prop} {XC : String → State → State → Prop}
/-- what a body that may throw owes at its end -/
def vx_MQ (below : List Frame) (Qc : Array Value → State → Outcome → State → Prop) (XC : String → State → State → Prop) (a : Array Value) (s : State) (mc ms : Nat) (free : Addr → Prop) : State → Prop := fun t =>
  ∃ o, t.status = .running ∧ Ended t below o ∧ vx_Q Qc XC mc ms free a s o t
theorem vx_ret {g : JFrame} {mc ms : Nat} (k : W p l e R s m args below meth c H locs cells slots (MQ below Qc args s mc ms free) g) : W p l e R s m args below meth c H locs cells slots (vx_MQ below Qc XC args s mc ms free) g := by
  intro T hT X
  obtain ⟨t, a1, o, b1, b2, b3, b4⟩ := k T hT X
  exact ⟨t, a1, o, b1, b2, Or.inl ⟨b3, b4⟩⟩
/-- not caught here: it goes on to the caller -/
theorem vx_widen {g : JFrame} {q : Addr} {k n : Nat} (h1 : cells ≤ k) (h2 : slots ≤ n) (kk : vx_W p l e R s m args below meth c H locs k n Q g q) : vx_W p l e R s m args below meth c H locs cells slots Q g q := fun T hT X => kk T hT (stand_widen X h1 h2)
theorem vx_out {pc : Nat} {E : String} {ce : Cell} {q : Addr} {mc ms : Nat} (hout : ∀ x ∈ c.exceptionTable.toList, covers x pc = false) (hlocks : meth.locks = false) (hcell : H[q]? = some ce) (hv : ce.vm = .none) (hcl : s.vm.findClass E = some ce.cls)
    (hx : ∀ t : State, t.heap = H → s.vm.Alike t.vm → XC E s t) (hf : ∀ z ∈ locs, free z.base) (hc : cells ≤ mc) (hs : slots ≤ ms) :
    vx_W p l e R s m args below meth c H locs cells slots (vx_MQ below Qc XC args s mc ms free) (F0 m pc ls rest) q := by
  intro T hT X
  obtain ⟨st1, hrun, hend, hW, hsm⟩ := X.leaveThrown q (g := F0 m pc ls rest) rfl rfl rfl hout hlocks
  have hcell9 : (T.setFrames (.throwing q :: below)).heap[q]? = some ce := by
    show T.heap[q]? = some ce
    rw [hT]; exact hcell
  exact ⟨_, st1, .threw q, hrun, hend, Or.inr ⟨q, rfl, E, ce, locs, hx _ hT hW.alike, hcell9, hv, hcl, hW, hsm.mono hc hs, hf⟩⟩
theorem vx_frame {U : State} {k n : Nat} (h : s.sameButNew ({ U with vm := s.vm } : State) locs k n) : s.heap.size ≤ U.heap.size ∧ ∀ q : Nat, q < s.heap.size → (∀ z ∈ locs, z.base ≠ q) → U.heap[q]? = s.heap[q]? := by
  obtain ⟨-, h2, -, -, -, h6⟩ := h
  refine ⟨h2, fun q hq hz => ?_⟩
  obtain ⟨c9, e1, e2, e3, e4⟩ := h6 q _ (Array.getElem?_eq_getElem hq)
  have hs : c9.slots = (s.heap[q]).slots := Array.ext_getElem? fun i => e4 i fun hm => hz _ hm rfl
  have h9 : c9 = s.heap[q] := by
    rw [hs] at e2
    exact e2
  have e5 : U.heap[q]? = some c9 := e1
  rw [e5, h9, Array.getElem?_eq_getElem hq]
/-- the words of a throw but the four that speak of the heap -/
def vx_no (w : Cond) : Bool := decide (w ≠ .isRef (.static Bundle.tN "UNASSIGNED_STACK" Bundle.steD)) && decide (w ≠ .isRef (.static Bundle.tN "SUPPRESSED_SENTINEL" Bundle.listD)) && decide (w ≠ .laysStatic Bundle.tN "UNASSIGNED_STACK" Bundle.steD) && decide (w ≠ .laysStatic Bundle.tN "SUPPRESSED_SENTINEL" Bundle.listD)
def vx_at0 (own : String) (ic : Nat) (X : String) (names : List String) : List Cond := (Bundle.ownAtoms0 own ic X names).filter vx_no
def vx_atS (own : String) (ic : Nat) (X : String) (names : List String) : List Cond := (Bundle.ownAtoms own ic X names).filter vx_no
/-- a word that the tables alone decide, or a good one -/
def vx_ot (w : Cond) : Bool := w.onTables || goodWord w
theorem vx_ot_at {args a' : Array Value} {s U : State} {w : Cond} (hW : s.WarmedH U.vm) (hvm : s.vm = U.vm) (hg : vx_ot w = true) (h : w.before args s = true) : w.before a' U = true := by
  simp only [vx_ot, Bool.or_eq_true] at hg
  rcases hg with hg | hg
  · exact va_tabs hg hvm h
  · exact word_at hW (good_of_word hg) h
/-- a list's words: the good ones out of the method's own list, the others by premises of their own -/
theorem vx_hat {args : Array Value} {s : State} {L B : List Cond} (h1 : ∀ w ∈ L.filter goodWord, w.before args s = true) (h2 : ∀ w ∈ L.filter (fun w => !goodWord w), w ∈ B) (h3 : ∀ w ∈ B, w.before args s = true) : ∀ w ∈ L, w.before args s = true := by
  intro w hw
  by_cases g : goodWord w = true
  · exact h1 w (List.mem_filter.mpr ⟨hw, g⟩)
  · refine h3 w (h2 w (List.mem_filter.mpr ⟨hw, ?_⟩))
    show (!goodWord w) = true
    cases hgw : goodWord w
    · rfl
    · exact absurd hgw g
theorem vx_c {args : Array Value} {s : State} {w : Cond} {B : List Cond} (h : w.before args s = true) (t : ∀ w ∈ B, w.before args s = true) : ∀ w' ∈ w :: B, w'.before args s = true := fun w' h' => (List.mem_cons.mp h').elim (fun e => by rw [e]; exact h) (t w')
theorem vx_n {args : Array Value} {s : State} : ∀ w ∈ ([] : List Cond), w.before args s = true := fun _ h => nomatch h
theorem vx_own {args : Array Value} {s : State} {L : List Cond} (h1 : ∀ w ∈ L.filter vx_no, w.before args s = true)
    (hU : (Cond.isRef (.static Bundle.tN "UNASSIGNED_STACK" Bundle.steD)).before args s = true) (hN : (Cond.isRef (.static Bundle.tN "SUPPRESSED_SENTINEL" Bundle.listD)).before args s = true)
    (lU : (Cond.laysStatic Bundle.tN "UNASSIGNED_STACK" Bundle.steD).before args s = true) (lN : (Cond.laysStatic Bundle.tN "SUPPRESSED_SENTINEL" Bundle.listD).before args s = true) : ∀ w ∈ L, w.before args s = true := by
  intro w hw
  by_cases e1 : w = .isRef (.static Bundle.tN "UNASSIGNED_STACK" Bundle.steD)
  · rw [e1]; exact hU
  · by_cases e2 : w = .isRef (.static Bundle.tN "SUPPRESSED_SENTINEL" Bundle.listD)
    · rw [e2]; exact hN
    · by_cases e3 : w = .laysStatic Bundle.tN "UNASSIGNED_STACK" Bundle.steD
      · rw [e3]; exact lU
      · by_cases e4 : w = .laysStatic Bundle.tN "SUPPRESSED_SENTINEL" Bundle.listD
        · rw [e4]; exact lN
        · exact h1 w (List.mem_filter.mpr ⟨hw, by unfold vx_no; rw [decide_eq_true e1, decide_eq_true e2, decide_eq_true e3, decide_eq_true e4]; rfl⟩)
/-- where a static field lies, its class's statics cell in H -/
def vx_L (C n d : String) (A : Nat → Prop) (U : State) (H : Heap) : Prop := ∃ (c : ClassId) (k : Class) (i : Nat) (f : Field) (a : Nat) (cell : Cell), U.vm.findClass C = some c ∧ U.fieldFound? C n d = some (c, k, i, f) ∧ f.isStatic = true ∧ k.statics = some a ∧ H[a]? = some cell ∧ cell.vm.isStatics = true ∧ cell.cls = c ∧ f.slot < cell.slots.size ∧ k.staticTypes[f.slot]? = some f.type ∧ ¬ A a
theorem vx_L.moved {C n d : String} {A : Nat → Prop} {u U : State} {H : Heap} (hvm : u.vm.Alike U.vm) (h : vx_L C n d A u H) : vx_L C n d A U H := by
  obtain ⟨c, k, i, f, a, cell, h1, h2, h3, h4, h5, h6, h7, h8, h9, h10⟩ := h
  obtain ⟨k', hi', he⟩ := State.fieldFound?_setVm hvm h2
  exact ⟨c, k', i, f, a, cell, by rw [hvm.findClass]; exact h1, hi', h3, by rw [he]; exact h4, h5, h6, h7, h8, by rw [he]; exact h9, h10⟩
theorem vx_L.kept {C n d : String} {A : Nat → Prop} {U : State} {H H1 : Heap} (h : vx_L C n d A U H) (hq : ∀ a : Nat, a < H.size → ¬ A a → H1[a]? = H[a]?) : vx_L C n d A U H1 := by
  obtain ⟨c, k, i, f, a, cell, h1, h2, h3, h4, h5, h6, h7, h8, h9, h10⟩ := h
  exact ⟨c, k, i, f, a, cell, h1, h2, h3, h4, by rw [hq a (Array.getElem?_eq_some_iff.mp h5).1 h10]; exact h5, h6, h7, h8, h9, h10⟩
theorem vx_L.narrow {C n d : String} {A B : Nat → Prop} {U : State} {H : Heap} (h : vx_L C n d A U H) (hAB : ∀ q, B q → A q) : vx_L C n d B U H := by
  obtain ⟨c, k, i, f, a, cell, h1, h2, h3, h4, h5, h6, h7, h8, h9, h10⟩ := h
  exact ⟨c, k, i, f, a, cell, h1, h2, h3, h4, h5, h6, h7, h8, h9, fun z => h10 (hAB _ z)⟩
theorem vx_L.word {C n d : String} {A : Nat → Prop} {s : State} {args : Array Value} (h : vx_L C n d A s s.heap) : (Cond.laysStatic C n d).before args s = true := by
  obtain ⟨c, k, i, f, a, cell, h1, h2, h3, h4, h5, h6, h7, h8, h9, -⟩ := h
  show (Cond.laysStatic C n d).holds args s none s [] = true
  exact Cond.laysStatic_of h1 h2 h3 h4 h5 h6 h7 h8 h9
/-- .. and what it holds: null or some reference -/
def vx_Zq (C n d : String) (A : Nat → Prop) (U : State) (H : Heap) : Prop := va_Zq C n d A U H ∧ vx_L C n d A U H
theorem vx_Zq.moved {C n d : String} {A : Nat → Prop} {u U : State} {H : Heap} (hvm : u.vm.Alike U.vm) (h : vx_Zq C n d A u H) : vx_Zq C n d A U H := ⟨va_Zq.moved hvm h.1, vx_L.moved hvm h.2⟩
theorem vx_Zq.kept {C n d : String} {A : Nat → Prop} {U : State} {H H1 : Heap} (h : vx_Zq C n d A U H) (hq : ∀ a : Nat, a < H.size → ¬ A a → H1[a]? = H[a]?) : vx_Zq C n d A U H1 := ⟨va_Zq.kept h.1 hq, vx_L.kept h.2 hq⟩
theorem vx_Zq.narrow {C n d : String} {A B : Nat → Prop} {U : State} {H : Heap} (h : vx_Zq C n d A U H) (hAB : ∀ q, B q → A q) : vx_Zq C n d B U H := ⟨va_Zq.narrow h.1 hAB, vx_L.narrow h.2 hAB⟩
theorem vx_Zqof {args : Array Value} {s : State} {C n d : String} {A : Nat → Prop} (hl : (Cond.laysStatic C n d).before args s = true) (hini : (Cond.initialized C).before args s = true) (h : (Cond.isRef (.static C n d)).before args s = true) (hA : ∀ a : Nat, a < s.heap.size → ¬ A a) : vx_Zq C n d A s s.heap := by
  refine ⟨va_Zqof hl hini h hA, ?_⟩
  obtain ⟨c, k, i, f, a, cell, h1, h2, h3, h4, h5, h6, h7, h8, h9⟩ := Cond.laysStatic_spec hl
  exact ⟨c, k, i, f, a, cell, h1, h2, h3, h4, h5, h6, h7, h8, h9, hA a (Array.getElem?_eq_some_iff.mp h5).1⟩
theorem vx_isRef {C n d : String} {v : Value} {A : Nat → Prop} {s : State} {args : Array Value} (h : va_Z C n d v A s s.heap) (hv : v.isRef = true) : (Cond.isRef (.static C n d)).before args s = true := by
  obtain ⟨cf, kf, fi, f, a, cell, h1, h2, h3, h4, h5, h6, h7, -⟩ := h
  have he : (Term.static C n d).eval args s none [] s = some v := by
    simp [Term.eval, State.fieldNamed?, h1, h2, h4, h5, h6, h7]
  simp only [Cond.before, Cond.holds, Cond.value, he]
  cases v <;> simp_all [Value.isRef]
theorem vx_isRefq {C n d : String} {A : Nat → Prop} {s : State} {args : Array Value} (h : va_Zq C n d A s s.heap) : (Cond.isRef (.static C n d)).before args s = true := by
  rcases h with h | ⟨t, h⟩
  · exact vx_isRef h rfl
  · exact vx_isRef h rfl
/-- the same frame, seen from here: as if the method were called anew in this heap -/
theorem vx_rebase {T : State} (X : Stand p l e R s m args below meth c T locs cells slots) {R' : Room} (hf : R'.frames ≤ R.frames) (hl : R'.locals ≤ R.locals) (hc : cells + R'.cells ≤ R.cells) (hs : slots + R'.slots ≤ R.slots) :
    Stand p l e R' ((T.setVm s.vm).setFrames (.invoking m args :: below)) m args below meth c T [] 0 0 := by
  have htop : (T.setVm s.vm).topJava?.isSome := X.here.top
  have hF : ((T.setVm s.vm).setFrames (.invoking m args :: below)).frames = .invoking m args :: below := State.frames_setFrames _ (State.cur_lt_of_top htop)
  obtain ⟨g₀, hg0⟩ := Option.isSome_iff_exists.mp htop
  obtain ⟨r, hr⟩ := State.topJava?_eq_some.mp hg0
  have hl9 : e.platform.stackLimits (T.setVm s.vm).me = e.platform.stackLimits s.me := X.limits
  have hb9 : (T.setVm s.vm).me.stackBytes = s.me.stackBytes := X.bytes
  refine ⟨X.admits, X.cas, X.clock, hF, ?_, X.hears, X.method, X.code, X.here, X.tail, X.warmed, ?_, ?_, ?_⟩
  · have h := X.room
    have hU : ((T.setVm s.vm).setFrames (.invoking m args :: below)).localsInUse = s.localsInUse := by
      rw [State.localsInUse_invoking hF (meth := meth) (c := c) X.method X.code, State.localsInUse_invoking X.frames X.method X.code]
    simp only [State.hasRoom, Bool.and_eq_true, decide_eq_true_eq] at h ⊢
    obtain ⟨⟨⟨⟨h1, h2, h3, h4, h5, h6⟩, h7⟩, h8⟩, h9⟩ := h
    rw [X.frames, List.length_cons] at h2 h3
    have q1 := X.heapSize
    have q2 := X.used
    simp only [hF, hU, List.length_cons, State.stackLimits_setFrames, State.stackBytes_setFrames, hl9, hb9]
    refine ⟨⟨⟨⟨by omega, by omega, by omega, by omega, by omega, h6⟩, ?_⟩, ?_⟩, X.book⟩
    · show T.heap.size + R'.cells ≤ e.platform.maxCells
      omega
    · show T.slotsUsed + R'.slots ≤ e.platform.maxSlots
      omega
  · rw [State.stackLimits_setFrames]; rfl
  · rw [State.stackBytes_setFrames]; rfl
  · refine ⟨?_, Nat.le_refl _, Nat.le_refl _, ?_, ?_, fun a c9 h9 => ⟨c9, h9, rfl, rfl, fun _ _ => rfl⟩⟩
    · obtain ⟨t, ht, -⟩ := State.frames_cons hr
      show T.setVm s.vm = { ((T.setVm s.vm).setFrames (.invoking m args :: below)).setFrames (T.setVm s.vm).frames with heap := T.heap, slotsUsed := T.slotsUsed }
      rw [State.setFrames_setFrames, State.setFrames_self ht]
      rfl
    · show T.slotsUsed = T.slotsUsed + ((T.heap.toList.drop T.heap.size).map (·.slots.size)).sum
      rw [List.drop_eq_nil_of_le (Nat.le_of_eq Array.length_toList)]
      rfl
    · show ((T.heap.toList.drop T.heap.size).map (·.slots.size)).sum ≤ 0
      rw [List.drop_eq_nil_of_le (Nat.le_of_eq Array.length_toList)]
      exact Nat.le_refl _
/-- 'throw new E()': new; dup; invokespecial; athrow -/
theorem vx_throw0 {cc : ByteArray} {pc : Nat} (hexec : p.tables.exec = Jvm.exec) (hb : c.code = cc) (hl : l.stackTraces = false) {own cls : String} {names : List String} {ik ic mc ms : Nat} {A : Nat → Prop}
    (hown : s.vm.findClass own = some m.cls) (hcls : Bundle.fit cls = true) (hnames : ∀ n ∈ names, Bundle.fit n = true)
    (hk : (Cond.classLink own ik cls).before args s = true) (hini : (Cond.initialized cls).before args s = true) (hat : ∀ w ∈ vx_at0 own ic cls names, w.before args s = true)
    (hgood : ∀ w ∈ Cond.classLink own ik cls :: Cond.initialized cls :: vx_at0 own ic cls names, vx_ot w = true)
    (hU : vx_Zq Bundle.tN "UNASSIGNED_STACK" Bundle.steD A s s.heap) (hN : vx_Zq Bundle.tN "SUPPRESSED_SENTINEL" Bundle.listD A s s.heap) (hS : va_S A s.heap H locs) (hsize : ls.size = c.maxLocals)
    (d0 : decode cc pc = .ok (.new ik, 3)) (d3 : decode cc (pc + 3) = .ok (.dup, 1)) (d4 : decode cc (pc + 4) = .ok (.invokespecial ic, 3)) (d7 : decode cc (pc + 7) = .ok (.athrow, 1))
    (hout : ∀ x ∈ c.exceptionTable.toList, covers x (pc + 7) = false)
    (hRframes : names.length + 3 < R.frames) (hRlocals : (rest.map fun v => v.category).sum + (13 * (names.length + 1) + 42) ≤ R.locals) (hRcells : cells + 1 ≤ R.cells) (hRslots : slots + 6 ≤ R.slots) (hlocks : meth.locks = false)
    (hx : ∀ t : State, s.vm.Alike t.vm → H.size ≤ t.heap.size → (∀ q : Nat, q < H.size → t.heap[q]? = H[q]?) → XC cls s t)
    (hf : ∀ z ∈ locs, free z.base) (hc : cells + 1 ≤ mc) (hs : slots + 6 ≤ ms) :
    W p l e R s m args below meth c H locs cells slots (vx_MQ below Qc XC args s mc ms free) (F0 m pc ls rest) := by
  intro T hT X
  have htr : e.platform.stackTraces = false := (show e.platform.stackTraces = l.stackTraces by rw [X.admits.platform]).trans hl
  have Y := vx_rebase X (R' := { frames := R.frames, locals := R.locals, cells := 1, slots := 6 }) (Nat.le_refl _) (Nat.le_refl _) hRcells hRslots
  obtain ⟨s', hA⟩ : ∃ z, z = (T.setVm s.vm).setFrames (.invoking m args :: below) := ⟨_, rfl⟩
  rw [← hA] at Y
  have hvm : s'.vm = s.vm := by rw [hA]; rfl
  have hhp : s'.heap = H := by rw [hA]; exact hT
  have hW0 : s.WarmedH s'.vm := by rw [hvm]; exact State.WarmedH.refl s
  have hat' : ∀ w ∈ vx_at0 own ic cls names, w.before args s' = true := fun w hw => vx_ot_at hW0 hvm.symm (hgood w (List.mem_cons_of_mem _ (List.mem_cons_of_mem _ hw))) (hat w hw)
  have hk' : (Cond.classLink own ik cls).before args s' = true := vx_ot_at hW0 hvm.symm (hgood _ List.mem_cons_self) hk
  have hini' : (Cond.initialized cls).before args s' = true := vx_ot_at hW0 hvm.symm (hgood _ (List.mem_cons_of_mem _ List.mem_cons_self)) hini
  have hU' : vx_Zq Bundle.tN "UNASSIGNED_STACK" Bundle.steD A s' s'.heap := by rw [hhp]; exact vx_Zq.moved hW0.alike (hU.kept hS.2.1)
  have hN' : vx_Zq Bundle.tN "SUPPRESSED_SENTINEL" Bundle.listD A s' s'.heap := by rw [hhp]; exact vx_Zq.moved hW0.alike (hN.kept hS.2.1)
  have h : ∀ w ∈ Bundle.ownAtoms0 own ic cls names, w.before args s' = true := vx_own hat' (vx_isRefq hU'.1) (vx_isRefq hN'.1) hU'.2.word hN'.2.word
  have hown' : s'.vm.findClass own = some m.cls := by rw [hvm]; exact hown
  have hins : (Cond.instantiable cls 6).before args s' = true := h _ (by simp [Bundle.ownAtoms0])
  obtain ⟨vm₁, cX, kX, hfX, hkX, -, -, X₁, st1⟩ := Y.newCold hexec (own := own) (C := cls) (index := ik) (n := 6) hown' hk' hins hini'
    (g := F0 m pc ls rest) rfl (by rw [hb]; exact d0) (Nat.le_refl _) (Nat.le_refl _)
  generalize hT1 : (T.setVm vm₁).pushCell { cls := cX, slots := kX.instanceTypes.map defaultValue, vm := .none } = T1 at X₁ st1
  have hcat : (Value.ref T.heap.size).category = 1 := rfl
  have hcellA : T1.heap[T.heap.size]? = some (freshCell cX kX) := by rw [← hT1]; exact State.heap_pushCell_size _ _
  have d3' : decode c.code (pc + 3) = .ok (.dup, 1) := by rw [hb]; exact d3
  obtain ⟨U, hsteps, hrun, hend, hW, hsame, ce, hce, hO⟩ := X₁.ctorThrow0 hexec htr (own := own) (cls := cls) (names := names) (ic := ic) hown' hcls hnames h (fun x hx => nomatch hx) hfX hkX hcellA (by rw [hhp, hT]; exact Nat.le_refl _)
    (g := { method := m, pc := pc + 4, locals := ls, stack := .ref T.heap.size :: .ref T.heap.size :: rest, locked := none }) rfl hsize rfl rfl (rest := rest) rfl
    (by rw [hb]; exact d4) (by rw [hb]; exact d7) hout hRframes (by simp only [List.map_cons, List.sum_cons, hcat]; omega) hlocks
  obtain ⟨f1, f2⟩ := vx_frame hsame
  rw [hhp] at f1 f2
  have hWs : s.WarmedH U.vm := State.WarmedH.trans hW0 hW
  have hcl : s.vm.findClass cls = some ce.cls := by
    have h9 := hO.cls
    rw [hvm] at h9
    exact h9
  have hall : s.sameButNew ({ U with vm := s.vm } : State) locs mc ms := by
    subst hA
    obtain ⟨e1, e2⟩ := hsame
    rw [State.setFrames_setFrames] at e1
    have h2 : (T.setVm s.vm).sameButNew ({ U with vm := s.vm } : State) [] (0 + 1) (0 + 6) := ⟨e1, e2⟩
    have h3 := X.same.trans h2
    rw [List.append_nil] at h3
    exact h3.mono hc hs
  refine ⟨U, ?_, .threw T.heap.size, hrun, hend, Or.inr ⟨T.heap.size, rfl, cls, ce, locs, hx U hWs.alike f1 (fun q hq => f2 q hq (fun z hz => nomatch hz)), hce, hO.vm, hcl, hWs, hall, hf⟩⟩
  refine st1 _ ?_
  show Steps p.tables e below (T1.setTop { method := m, pc := pc + 3, locals := ls, stack := .ref T.heap.size :: rest, locked := none }) _
  jvm_step X₁.here [X₁.here.top, hexec, d3', Value.category]
  exact hsteps
/-- 'throw new E("text")': new; dup; ldc; invokespecial; athrow -/
theorem vx_throwS {cc : ByteArray} {pc : Nat} (hexec : p.tables.exec = Jvm.exec) (hb : c.code = cc) (hl : l.stackTraces = false) {own cls text : String} {names : List String} {ik is ic mc ms sa : Nat} {A : Nat → Prop}
    (hown : s.vm.findClass own = some m.cls) (hcls : Bundle.fit cls = true) (hnames : ∀ n ∈ names, Bundle.fit n = true)
    (hk : (Cond.classLink own ik cls).before args s = true) (hini : (Cond.initialized cls).before args s = true) (hstr : vk_R own is text sa s) (hat : ∀ w ∈ vx_atS own ic cls names, w.before args s = true)
    (hgood : ∀ w ∈ Cond.classLink own ik cls :: Cond.initialized cls :: vx_atS own ic cls names, vx_ot w = true)
    (hU : vx_Zq Bundle.tN "UNASSIGNED_STACK" Bundle.steD A s s.heap) (hN : vx_Zq Bundle.tN "SUPPRESSED_SENTINEL" Bundle.listD A s s.heap) (hS : va_S A s.heap H locs) (hsize : ls.size = c.maxLocals)
    (d0 : decode cc pc = .ok (.new ik, 3)) (d3 : decode cc (pc + 3) = .ok (.dup, 1)) (d4 : decode cc (pc + 4) = .ok (.ldc is, 2)) (d6 : decode cc (pc + 6) = .ok (.invokespecial ic, 3)) (d9 : decode cc (pc + 9) = .ok (.athrow, 1))
    (hout : ∀ x ∈ c.exceptionTable.toList, covers x (pc + 9) = false)
    (hRframes : names.length + 3 < R.frames) (hRlocals : (rest.map fun v => v.category).sum + (13 * (names.length + 1) + 43) ≤ R.locals) (hRcells : cells + 1 ≤ R.cells) (hRslots : slots + 6 ≤ R.slots) (hlocks : meth.locks = false)
    (hx : ∀ t : State, s.vm.Alike t.vm → H.size ≤ t.heap.size → (∀ q : Nat, q < H.size → t.heap[q]? = H[q]?) → XC cls s t)
    (hf : ∀ z ∈ locs, free z.base) (hc : cells + 1 ≤ mc) (hs : slots + 6 ≤ ms) :
    W p l e R s m args below meth c H locs cells slots (vx_MQ below Qc XC args s mc ms free) (F0 m pc ls rest) := by
  intro T hT X
  have htr : e.platform.stackTraces = false := (show e.platform.stackTraces = l.stackTraces by rw [X.admits.platform]).trans hl
  have Y := vx_rebase X (R' := { frames := R.frames, locals := R.locals, cells := 1, slots := 6 }) (Nat.le_refl _) (Nat.le_refl _) hRcells hRslots
  obtain ⟨s', hA⟩ : ∃ z, z = (T.setVm s.vm).setFrames (.invoking m args :: below) := ⟨_, rfl⟩
  rw [← hA] at Y
  have hvm : s'.vm = s.vm := by rw [hA]; rfl
  have hhp : s'.heap = H := by rw [hA]; exact hT
  have hW0 : s.WarmedH s'.vm := by rw [hvm]; exact State.WarmedH.refl s
  have hat' : ∀ w ∈ vx_atS own ic cls names, w.before args s' = true := fun w hw => vx_ot_at hW0 hvm.symm (hgood w (List.mem_cons_of_mem _ (List.mem_cons_of_mem _ hw))) (hat w hw)
  have hk' : (Cond.classLink own ik cls).before args s' = true := vx_ot_at hW0 hvm.symm (hgood _ List.mem_cons_self) hk
  have hini' : (Cond.initialized cls).before args s' = true := vx_ot_at hW0 hvm.symm (hgood _ (List.mem_cons_of_mem _ List.mem_cons_self)) hini
  have hU' : vx_Zq Bundle.tN "UNASSIGNED_STACK" Bundle.steD A s' s'.heap := by rw [hhp]; exact vx_Zq.moved hW0.alike (hU.kept hS.2.1)
  have hN' : vx_Zq Bundle.tN "SUPPRESSED_SENTINEL" Bundle.listD A s' s'.heap := by rw [hhp]; exact vx_Zq.moved hW0.alike (hN.kept hS.2.1)
  have h : ∀ w ∈ Bundle.ownAtoms own ic cls names, w.before args s' = true := vx_own hat' (vx_isRefq hU'.1) (vx_isRefq hN'.1) hU'.2.word hN'.2.word
  have hown' : s'.vm.findClass own = some m.cls := by rw [hvm]; exact hown
  have hins : (Cond.instantiable cls 6).before args s' = true := h _ (by simp [Bundle.ownAtoms])
  obtain ⟨vm₁, cX, kX, hfX, hkX, -, -, X₁, st1⟩ := Y.newCold hexec (own := own) (C := cls) (index := ik) (n := 6) hown' hk' hins hini'
    (g := F0 m pc ls rest) rfl (by rw [hb]; exact d0) (Nat.le_refl _) (Nat.le_refl _)
  generalize hT1 : (T.setVm vm₁).pushCell { cls := cX, slots := kX.instanceTypes.map defaultValue, vm := .none } = T1 at X₁ st1
  have hcat : (Value.ref T.heap.size).category = 1 := rfl
  have hcellA : T1.heap[T.heap.size]? = some (freshCell cX kX) := by rw [← hT1]; exact State.heap_pushCell_size _ _
  have d3' : decode c.code (pc + 3) = .ok (.dup, 1) := by rw [hb]; exact d3
  have d4' : decode c.code (pc + 4) = .ok (.ldc is, 2) := by rw [hb]; exact d4
  have hstr' : vk_R own is text sa s' := vk_R.warm hW0 hstr
  obtain ⟨U, hsteps, hrun, hend, hW, hsame, ce, hce, hO⟩ := X₁.ctorThrowS hexec htr (own := own) (cls := cls) (names := names) (ic := ic) hown' hcls hnames h (fun x hx => nomatch hx) hfX hkX hcellA (by rw [hhp, hT]; exact Nat.le_refl _) (msg := .ref sa) rfl
    (g := { method := m, pc := pc + 6, locals := ls, stack := .ref sa :: .ref T.heap.size :: .ref T.heap.size :: rest, locked := none }) rfl hsize rfl rfl (rest := rest) rfl
    (by rw [hb]; exact d6) (by rw [hb]; exact d9) hout hRframes (by simp only [List.map_cons, List.sum_cons, hcat]; omega) hlocks
  obtain ⟨f1, f2⟩ := vx_frame hsame
  rw [hhp] at f1 f2
  have hWs : s.WarmedH U.vm := State.WarmedH.trans hW0 hW
  have hcl : s.vm.findClass cls = some ce.cls := by
    have h9 := hO.cls
    rw [hvm] at h9
    exact h9
  have hall : s.sameButNew ({ U with vm := s.vm } : State) locs mc ms := by
    subst hA
    obtain ⟨e1, e2⟩ := hsame
    rw [State.setFrames_setFrames] at e1
    have h2 : (T.setVm s.vm).sameButNew ({ U with vm := s.vm } : State) [] (0 + 1) (0 + 6) := ⟨e1, e2⟩
    have h3 := X.same.trans h2
    rw [List.append_nil] at h3
    exact h3.mono hc hs
  refine ⟨U, ?_, .threw T.heap.size, hrun, hend, Or.inr ⟨T.heap.size, rfl, cls, ce, locs, hx U hWs.alike f1 (fun q hq => f2 q hq (fun z hz => nomatch hz)), hce, hO.vm, hcl, hWs, hall, hf⟩⟩
  refine st1 _ ?_
  show Steps p.tables e below (T1.setTop { method := m, pc := pc + 3, locals := ls, stack := .ref T.heap.size :: rest, locked := none }) _
  jvm_step X₁.here [X₁.here.top, hexec, d3', Value.category]
  exact X₁.ldcString hexec (own := own) (text := text) (index := is) (a := sa) hown' hstr'.1 hstr'.2
    (g := { method := m, pc := pc + 4, locals := ls, stack := .ref T.heap.size :: .ref T.heap.size :: rest, locked := none }) rfl d4' _ hsteps
/-- 'throw new E("text")', the text by a wide index -/
theorem vx_throwSW {cc : ByteArray} {pc : Nat} (hexec : p.tables.exec = Jvm.exec) (hb : c.code = cc) (hl : l.stackTraces = false) {own cls text : String} {names : List String} {ik is ic mc ms sa : Nat} {A : Nat → Prop}
    (hown : s.vm.findClass own = some m.cls) (hcls : Bundle.fit cls = true) (hnames : ∀ n ∈ names, Bundle.fit n = true)
    (hk : (Cond.classLink own ik cls).before args s = true) (hini : (Cond.initialized cls).before args s = true) (hstr : vk_R own is text sa s) (hat : ∀ w ∈ vx_atS own ic cls names, w.before args s = true)
    (hgood : ∀ w ∈ Cond.classLink own ik cls :: Cond.initialized cls :: vx_atS own ic cls names, vx_ot w = true)
    (hU : vx_Zq Bundle.tN "UNASSIGNED_STACK" Bundle.steD A s s.heap) (hN : vx_Zq Bundle.tN "SUPPRESSED_SENTINEL" Bundle.listD A s s.heap) (hS : va_S A s.heap H locs) (hsize : ls.size = c.maxLocals)
    (d0 : decode cc pc = .ok (.new ik, 3)) (d3 : decode cc (pc + 3) = .ok (.dup, 1)) (d4 : decode cc (pc + 4) = .ok (.ldc_w is, 3)) (d7 : decode cc (pc + 7) = .ok (.invokespecial ic, 3)) (d10 : decode cc (pc + 10) = .ok (.athrow, 1))
    (hout : ∀ x ∈ c.exceptionTable.toList, covers x (pc + 10) = false)
    (hRframes : names.length + 3 < R.frames) (hRlocals : (rest.map fun v => v.category).sum + (13 * (names.length + 1) + 43) ≤ R.locals) (hRcells : cells + 1 ≤ R.cells) (hRslots : slots + 6 ≤ R.slots) (hlocks : meth.locks = false)
    (hx : ∀ t : State, s.vm.Alike t.vm → H.size ≤ t.heap.size → (∀ q : Nat, q < H.size → t.heap[q]? = H[q]?) → XC cls s t)
    (hf : ∀ z ∈ locs, free z.base) (hc : cells + 1 ≤ mc) (hs : slots + 6 ≤ ms) :
    W p l e R s m args below meth c H locs cells slots (vx_MQ below Qc XC args s mc ms free) (F0 m pc ls rest) := by
  intro T hT X
  have htr : e.platform.stackTraces = false := (show e.platform.stackTraces = l.stackTraces by rw [X.admits.platform]).trans hl
  have Y := vx_rebase X (R' := { frames := R.frames, locals := R.locals, cells := 1, slots := 6 }) (Nat.le_refl _) (Nat.le_refl _) hRcells hRslots
  obtain ⟨s', hA⟩ : ∃ z, z = (T.setVm s.vm).setFrames (.invoking m args :: below) := ⟨_, rfl⟩
  rw [← hA] at Y
  have hvm : s'.vm = s.vm := by rw [hA]; rfl
  have hhp : s'.heap = H := by rw [hA]; exact hT
  have hW0 : s.WarmedH s'.vm := by rw [hvm]; exact State.WarmedH.refl s
  have hat' : ∀ w ∈ vx_atS own ic cls names, w.before args s' = true := fun w hw => vx_ot_at hW0 hvm.symm (hgood w (List.mem_cons_of_mem _ (List.mem_cons_of_mem _ hw))) (hat w hw)
  have hk' : (Cond.classLink own ik cls).before args s' = true := vx_ot_at hW0 hvm.symm (hgood _ List.mem_cons_self) hk
  have hini' : (Cond.initialized cls).before args s' = true := vx_ot_at hW0 hvm.symm (hgood _ (List.mem_cons_of_mem _ List.mem_cons_self)) hini
  have hU' : vx_Zq Bundle.tN "UNASSIGNED_STACK" Bundle.steD A s' s'.heap := by rw [hhp]; exact vx_Zq.moved hW0.alike (hU.kept hS.2.1)
  have hN' : vx_Zq Bundle.tN "SUPPRESSED_SENTINEL" Bundle.listD A s' s'.heap := by rw [hhp]; exact vx_Zq.moved hW0.alike (hN.kept hS.2.1)
  have h : ∀ w ∈ Bundle.ownAtoms own ic cls names, w.before args s' = true := vx_own hat' (vx_isRefq hU'.1) (vx_isRefq hN'.1) hU'.2.word hN'.2.word
  have hown' : s'.vm.findClass own = some m.cls := by rw [hvm]; exact hown
  have hins : (Cond.instantiable cls 6).before args s' = true := h _ (by simp [Bundle.ownAtoms])
  obtain ⟨vm₁, cX, kX, hfX, hkX, -, -, X₁, st1⟩ := Y.newCold hexec (own := own) (C := cls) (index := ik) (n := 6) hown' hk' hins hini'
    (g := F0 m pc ls rest) rfl (by rw [hb]; exact d0) (Nat.le_refl _) (Nat.le_refl _)
  generalize hT1 : (T.setVm vm₁).pushCell { cls := cX, slots := kX.instanceTypes.map defaultValue, vm := .none } = T1 at X₁ st1
  have hcat : (Value.ref T.heap.size).category = 1 := rfl
  have hcellA : T1.heap[T.heap.size]? = some (freshCell cX kX) := by rw [← hT1]; exact State.heap_pushCell_size _ _
  have d3' : decode c.code (pc + 3) = .ok (.dup, 1) := by rw [hb]; exact d3
  have d4' : decode c.code (pc + 4) = .ok (.ldc_w is, 3) := by rw [hb]; exact d4
  have hstr' : vk_R own is text sa s' := vk_R.warm hW0 hstr
  obtain ⟨U, hsteps, hrun, hend, hW, hsame, ce, hce, hO⟩ := X₁.ctorThrowS hexec htr (own := own) (cls := cls) (names := names) (ic := ic) hown' hcls hnames h (fun x hx => nomatch hx) hfX hkX hcellA (by rw [hhp, hT]; exact Nat.le_refl _) (msg := .ref sa) rfl
    (g := { method := m, pc := pc + 7, locals := ls, stack := .ref sa :: .ref T.heap.size :: .ref T.heap.size :: rest, locked := none }) rfl hsize rfl rfl (rest := rest) rfl
    (by rw [hb]; exact d7) (by rw [hb]; exact d10) hout hRframes (by simp only [List.map_cons, List.sum_cons, hcat]; omega) hlocks
  obtain ⟨f1, f2⟩ := vx_frame hsame
  rw [hhp] at f1 f2
  have hWs : s.WarmedH U.vm := State.WarmedH.trans hW0 hW
  have hcl : s.vm.findClass cls = some ce.cls := by
    have h9 := hO.cls
    rw [hvm] at h9
    exact h9
  have hall : s.sameButNew ({ U with vm := s.vm } : State) locs mc ms := by
    subst hA
    obtain ⟨e1, e2⟩ := hsame
    rw [State.setFrames_setFrames] at e1
    have h2 : (T.setVm s.vm).sameButNew ({ U with vm := s.vm } : State) [] (0 + 1) (0 + 6) := ⟨e1, e2⟩
    have h3 := X.same.trans h2
    rw [List.append_nil] at h3
    exact h3.mono hc hs
  refine ⟨U, ?_, .threw T.heap.size, hrun, hend, Or.inr ⟨T.heap.size, rfl, cls, ce, locs, hx U hWs.alike f1 (fun q hq => f2 q hq (fun z hz => nomatch hz)), hce, hO.vm, hcl, hWs, hall, hf⟩⟩
  refine st1 _ ?_
  show Steps p.tables e below (T1.setTop { method := m, pc := pc + 3, locals := ls, stack := .ref T.heap.size :: rest, locked := none }) _
  jvm_step X₁.here [X₁.here.top, hexec, d3', Value.category]
  exact X₁.ldcStringW hexec (own := own) (text := text) (index := is) (a := sa) hown' hstr'.1 hstr'.2
    (g := { method := m, pc := pc + 4, locals := ls, stack := .ref T.heap.size :: .ref T.heap.size :: rest, locked := none }) rfl d4' _ hsteps
end Ends
section Bodies
variable {l : Launch}
theorem vx_ofW {y : MethodName} {ws ws' : List Cond} {rm : Room} {Pc : Array Value → State → Prop} {Qc : Array Value → State → Outcome → State → Prop} {XC : String → State → State → Prop} {mc ms : Nat} {free : Addr → Prop} {cc : ByteArray} {maxL : Nat} {ret : Option FieldType}
    (hy : plainName y.cls = true) (hw : ws = Cond.code y cc maxL ret :: ws')
    (body : ∀ p e s m args below meth c s₁, BodyLoose p l y (headSpec ws rm) cc maxL ret e s m args below meth c s₁ → c.maxLocals = maxL → (∀ x ∈ c.exceptionTable.toList, False) → Pc args s →
      W p l e (headSpec ws rm).room s m args below meth c s.heap [] 0 0 (vx_MQ below Qc XC args s mc ms free) (entryFrame m args maxL)) : vx_Met l y ws rm Pc Qc XC mc ms free := by
  refine MetFree.of_bodyS (code := cc) (maxLocals := maxL) (ret := ret) hy ?_ ?_
  · intro args s m h hn
    obtain ⟨meth, c, h1, h2, h3, h4, h5, h6, -, -⟩ := Cond.code_spec hn (atoms_spec (ws := ws) h _ (by rw [hw]; exact List.mem_cons_self))
    exact ⟨meth, c, h1, h2, h3, h4, h5, h6⟩
  · intro p e s m args below meth c s₁ B hml hP _
    have hh0 : s₁.heap = s.heap := by rw [B.state]; rfl
    have ht : ∀ x ∈ c.exceptionTable.toList, False := by
      obtain ⟨meth9, c9, h1, h2, -, -, -, -, h7, -⟩ := Cond.code_spec B.named (atoms_spec (ws := ws) B.pre _ (by rw [hw]; exact List.mem_cons_self))
      cases Option.some.inj (h1.symm.trans B.method)
      cases Option.some.inj (h2.symm.trans (Stand.of_body B).code)
      intro x hx
      rw [Array.isEmpty_iff.mp h7] at hx
      cases hx
    obtain ⟨t, a1, o, b1, b2, b3⟩ := body p e s m args below meth c s₁ B hml ht hP s₁ hh0 (Stand.of_body B)
    exact ⟨t, o, a1, b1, b2, b3⟩
/-- the table of a body with handlers -/
theorem vx_table {p : Program} {x y : MethodName} {S : Spec} {cc bytes : ByteArray} {maxL maxL' : Nat} {ret ret' : Option FieldType} {e : Env} {s s₁ : State} {m : MethodId} {args : Array Value} {below : List Frame} {meth : Method} {c : Code} {hh : List (Nat × Nat × Nat × Nat)}
    (B : BodyLoose p l y S cc maxL ret e s m args below meth c s₁) (h : (Cond.codeWith y bytes maxL' ret' hh).before args s = true) : c.exceptionTable.toList = tableOf hh := by
  obtain ⟨m9, meth9, c9, hn9, h1, h2, -, -, h6, -⟩ := Cond.codeWith_spec h
  cases Option.some.inj (hn9.symm.trans B.named)
  cases Option.some.inj (h1.symm.trans B.method)
  cases Option.some.inj (h2.symm.trans (Stand.of_body B).code)
  rw [← h6, table_eq]
end Bodies
end VXA
/-! ===== END ===== -/
/-! ===== BEGIN a static call of a method with an exception table ===== -/
section VXS
variable {p : Program} {l : Launch} {e : Env} {R : Room} {s : State} {m : MethodId} {args : Array Value} {below : List Frame} {meth : Method} {c : Code} {T : State} {H : Heap} {locs : List Loc} {cells slots : Nat}
abbrev vx_CSW (R : Room) (s : State) (args : Array Value) (own : String) (index : Nat) (y : MethodName) (bytes : ByteArray) (maxL : Nat) (ret : Option FieldType) (hh : List (Nat × Nat × Nat × Nat)) (ws : List Cond) (rm : Room) (mc ms n : Nat) : Prop :=
  (rm.cells = mc ∧ rm.slots = ms ∧ rm.frames + 1 ≤ R.frames ∧ 8 + (maxL + 11) + rm.locals ≤ R.locals ∧ (∀ w ∈ ws, ∀ (a' : Array Value) (U : State), s.WarmedH U.vm → w.before a' U = true) ∧ Cond.codeWith y bytes maxL ret hh ∈ ws) ∧
  (Cond.codeWith y bytes maxL ret hh).before args s = true ∧ (Cond.initialized y.cls).before args s = true ∧ (y.cls ≠ "java/lang/invoke/MethodHandle" ∧ y.cls ≠ "java/lang/invoke/VarHandle") ∧
  (∀ sig, parseMethodDescriptor y.desc = some sig → n = sig.parameters.length) ∧ (Cond.methodLink own index y).before args s = true ∧ (Cond.static y).before args s = true
theorem vx_cwSW {own : String} {index maxL mc ms : Nat} {y : MethodName} {bytes : ByteArray} {ret : Option FieldType} {hh : List (Nat × Nat × Nat × Nat)} {Ts ws ws' : List Cond} {rm : Room} (n : Nat) (ht : ∀ w ∈ Ts, w.before args s = true) (hT : GoodIn Ts (va_wsS own index y ws)) (hw : ws = Cond.codeWith y bytes maxL ret hh :: ws') (hrc : rm.cells = mc) (hrs : rm.slots = ms)
    (hd : y.cls ≠ "java/lang/invoke/MethodHandle" ∧ y.cls ≠ "java/lang/invoke/VarHandle" ∧ (parseMethodDescriptor y.desc).map (fun d => d.parameters.length) = some n) (hR : rm.frames + 1 ≤ R.frames ∧ 8 + (maxL + 11) + rm.locals ≤ R.locals) :
    vx_CSW R s args own index y bytes maxL ret hh ws rm mc ms n := by
  have ok : ∀ w ∈ va_wsS own index y ws, w.before args s = true := fun w h => ht w (hT w h).1
  have hG : GoodIn Ts ws := fun w h => hT w (by unfold va_wsS; exact List.mem_append_right _ h)
  have hc : Cond.codeWith y bytes maxL ret hh ∈ ws := by rw [hw]; exact List.mem_cons_self
  refine ⟨⟨hrc, hrs, hR.1, hR.2, pay_in ht hG, hc⟩, ht _ (hG _ hc).1, ok _ (by simp [va_wsS]), ⟨hd.1, hd.2.1⟩, fun sig h => ?_, ok _ (by simp [va_wsS]), ok _ (by simp [va_wsS])⟩
  have h2 := hd.2.2
  rw [h] at h2
  exact (Option.some.inj h2).symm
theorem vx_callSW (X : Stand p l e R s m args below meth c T locs cells slots) (hexec : p.tables.exec = Jvm.exec) {own : String} {index : Nat} {y : MethodName} {bytes : ByteArray} {maxL : Nat} {ret : Option FieldType} {hh : List (Nat × Nat × Nat × Nat)}
    (hown : s.vm.findClass own = some m.cls) (hlink : (Cond.methodLink own index y).before args s = true) (hstat : (Cond.static y).before args s = true) (hinit : (Cond.initialized y.cls).before args s = true)
    (hcode : (Cond.codeWith y bytes maxL ret hh).before args s = true) (hy : y.cls ≠ "java/lang/invoke/MethodHandle" ∧ y.cls ≠ "java/lang/invoke/VarHandle")
    {W9 : Nat} {Pre : Pt → Array Value → Prop} {Post : Pt → Array Value → Option Value → Pt → Prop} (hK : Back l R p e below s args y 3 W9 Pre Post)
    {g : JFrame} (hg : g.method = m) (hsize : g.locals.size = c.maxLocals) {argsL rest : List Value} (hlen : ∀ sig, parseMethodDescriptor y.desc = some sig → argsL.length = sig.parameters.length)
    (hstack : g.stack = argsL.reverse ++ rest) (hW : 2 * g.monitorRoom + (rest.map fun v => v.category).sum ≤ W9) (hdg : decode c.code g.pc = .ok (.invokestatic index, 3))
    (hpre : ∀ vm₁, s.WarmedH vm₁ → Pre ⟨T.setVm vm₁, locs, cells, slots⟩ argsL.toArray) :
    ∃ (v : Option Value) (vm₁ : Vm) (B : Pt), s.WarmedH vm₁ ∧ Stand p l e R s m args below meth c B.U B.locs B.cells B.slots ∧ Post ⟨T.setVm vm₁, locs, cells, slots⟩ argsL.toArray v B ∧
      ∀ target, Steps p.tables e below (B.U.setTop { g with pc := g.pc + 3, stack := v.toList ++ rest }) target → Steps p.tables e below (T.setTop g) target := by
  obtain ⟨mk, methM, cM, hnamed, hmethM, -, -, -, -, -, -, hsigM⟩ := Cond.codeWith_spec hcode
  have hstatic : methM.isStatic = true := Cond.static_spec hnamed hmethM hstat
  obtain ⟨kP, hkP, -⟩ := className_of_methodNamed hnamed
  have hinitP : kP.init = .initialized := Cond.initialized_spec (findClass_of_methodNamed hnamed) hkP hinit
  obtain ⟨vm₁, X₁, hstep₁⟩ := X.invokestatic hexec hown hlink hnamed hmethM hstatic hkP hinitP hy (g := g) hg (argsL := argsL) (rest := rest) (hlen _ hsigM) hstack hdg
  obtain ⟨v, B, X', hpost, hsteps⟩ := hK m meth c ⟨T.setVm vm₁, locs, cells, slots⟩ { g with stack := rest } (.invokestatic index) mk argsL.toArray X₁ hg hsize hdg hW (X₁.named hnamed) (hpre vm₁ X₁.warmed)
  exact ⟨v, vm₁, B, X₁.warmed, X', hpost, fun target h => hstep₁ _ fun acts => by rw [doInvoke_state]; exact hsteps.trans h⟩
theorem vx_runSW {y : MethodName} {bytes cc : ByteArray} {maxL nL mc ms n index : Nat} {ret : Option FieldType} {hh : List (Nat × Nat × Nat × Nat)} {ws : List Cond} {rm : Room} {Pc : Array Value → State → Prop} {Qc : Array Value → State → Outcome → State → Prop} {free : Addr → Prop} {Ts : List Cond} {own : String} {As rest : List Value} {g : JFrame}
    (S : CallFix p m c cc nL s args Ts own) (hM : Met l y ws rm Pc Qc mc ms free) (cw : vx_CSW R s args own index y bytes maxL ret hh ws rm mc ms n) (hp : PreS s H Pc As)
    (hg : g.method = m) (hn : As.length = n) (hsize : g.locals.size = nL) (hstack : g.stack = As.reverse ++ rest) (hW : 2 * g.monitorRoom + (rest.map fun v => v.category).sum ≤ 8) (hdg : decode cc g.pc = .ok (.invokestatic index, 3)) (hf : cells + mc ≤ R.cells ∧ slots + ms ≤ R.slots) :
    va_Run p l e R s m args below meth c H locs cells slots mc ms g rest (Qc As.toArray) (free) := by
  obtain ⟨⟨hrc, hrs, hfr, hlo, hws, hcw⟩, hcode, hini, hy, hlen, hl, hstt⟩ := cw
  have hK : Back l R p e below s args y 3 8 (PreOf R mc ms Pc) (PostOf Qc mc ms free) := va_backW (hh := hh) (bytes := bytes) (maxL := maxL) (ret := ret) hM hp.1 hrc hrs hfr hlo hws hcw (fun a' U hW => word_at hW (Or.inl (by first | rfl | simp [Cond.onTables, Cond.keeps, Cond.steady])) hini)
  obtain ⟨hx, hb, hml, ho, -⟩ := S
  intro T hT X
  obtain ⟨v, vm₁, ⟨U', l2, c2, s2⟩, hW₁, X', ⟨g', mk, t, L, e1, e2, hq, h1, hL, h2, h3⟩, st⟩ := vx_callSW X hx (hh := hh) (bytes := bytes) (maxL := maxL) (ret := ret) ho hl hstt hini hcode hy hK hg (hsize.trans hml.symm) (argsL := As) (rest := rest) (fun sig h => hn.trans (hlen sig h)) hstack hW (by rw [hb]; exact hdg)
    (fun vm₁ hW₁ => ⟨hf.1, hf.2, hp.2 (T.setVm vm₁) hT hW₁⟩)
  dsimp only [Pt.U, Pt.locs, Pt.cells, Pt.slots] at X' e1 e2 h1 h2 h3 st
  subst h1; subst h2; subst h3
  exact ⟨v, (T.setVm vm₁).calling g' mk As.toArray, t, U', L, hT, X', hL, e1, e2, hq, st⟩
/-- not caught here, past rows that name other classes: it goes on to the caller -/
theorem vx_outP {p : Program} {l : Launch} {e : Env} {R : Room} {s : State} {m : MethodId} {args : Array Value} {below : List Frame} {meth : Method} {c : Code} {H : Heap} {locs : List Loc} {cells slots : Nat} {free : Addr → Prop} {ls : Array Slot} {rest : List Value} {Qc : Array Value → State → Outcome → State → Prop} {XC : String → State → State → Prop}
    {pc : Nat} {own E : String} {ce : Cell} {q : Addr} {mc ms : Nat} (hown : s.vm.findClass own = some m.cls) (hlocks : meth.locks = false)
    (hpass : ∀ z ∈ c.exceptionTable.toList, covers z pc = false ∨ (z.catchType ≠ 0 ∧ ∃ nm : String, (Cond.classLink own z.catchType nm).before args s = true ∧ va_Nc E nm s)) (hcell : H[q]? = some ce) (hv : ce.vm = .none) (hcl : s.vm.findClass E = some ce.cls)
    (hx : ∀ t : State, t.heap = H → s.vm.Alike t.vm → XC E s t) (hf : ∀ z ∈ locs, free z.base) (hc : cells ≤ mc) (hs : slots ≤ ms) :
    vx_W p l e R s m args below meth c H locs cells slots (vx_MQ below Qc XC args s mc ms free) (F0 m pc ls rest) q := by
  intro T hT X
  have hpl : e.platform.magicAccessors = ({} : Platform).magicAccessors := by rw [X.admits.platform]
  obtain ⟨vm', hW', X', st⟩ := X.outThrough hlocks q (g := F0 m pc ls rest) rfl rfl rfl (cell := ce) (by rw [hT]; exact hcell) (by rw [hv]; rfl)
    (by obtain ⟨k9, h9, -⟩ := Vm.findClass_spec hcl; exact ⟨k9, h9⟩) (fun z hz => by
      rcases hpass z hz with h | ⟨hz0, nm, hl1, hn1⟩
      · exact Or.inl h
      · obtain ⟨c6, hc6, hcl6⟩ := Cond.classLink_spec hown hl1 e.platform hpl
        obtain ⟨a8, b8, h1, h2, h3⟩ := hn1
        cases Option.some.inj (h1.symm.trans hcl)
        cases Option.some.inj (h2.symm.trans hc6)
        exact Or.inr ⟨hz0, _, hcl6, h3⟩)
  obtain ⟨g₀, hfr⟩ := X'.frames_eq
  have hcell9 : ((T.setVm vm').setFrames (.throwing q :: below)).heap[q]? = some ce := by
    show T.heap[q]? = some ce
    rw [hT]; exact hcell
  have hend : Ended ((T.setVm vm').setFrames (.throwing q :: below)) below (.threw q) := State.frames_setFrames _ (State.cur_lt_of_frames hfr)
  refine ⟨(T.setVm vm').setFrames (.throwing q :: below), ?_, .threw q, X'.here.running, hend, Or.inr ⟨q, rfl, E, ce, locs, hx _ hT (X'.ends _).1.alike, hcell9, hv, hcl, (X'.ends _).1, (X'.ends _).2.mono hc hs, hf⟩⟩
  rw [X.pushThrowing_eq]
  exact st
/-- a thing of a world lies in the heap -/
theorem vx_lt {D : va_G} {cl : List vw_C} {ws : va_W} {H1 : Heap} (h : va_P D cl ws H1) {k : Nat} {q : Nat × va_E} (hk : ws[k]? = some q) : q.1 < H1.size := (h k q hk).lt
end VXS
/-! ===== END ===== -/
/-! ===== BEGIN methods with a table of their own: called by a name, returning or throwing ===== -/
section VXH
/-! vx_backW, vx_callVX, vx_callSX, vx_callVW, vx_runVW, vx_runVX, vx_runSX, vx_ofWH follow the same proofs as their sisters above (Free/Laws.lean, Shelf42/LK1.lean); vx_outP calls Shelf42/NT130.lean (outThrough). -/
section
variable {l : Launch} {R : Room} {p : Program} {e : Env} {below : List Frame} {s : State} {sargs : Array Value} {y : MethodName} {len W9 : Nat}
theorem vx_backW {ws : List Cond} {rm : Room} {Pc : Array Value → State → Prop} {Qc : Array Value → State → Outcome → State → Prop} {XC : String → State → State → Prop} {mc ms : Nat} {free : Addr → Prop} {bytes : ByteArray} {maxL : Nat} {ret : Option FieldType} {hh : List (Nat × Nat × Nat × Nat)}
    (hM : vx_Met l y ws rm Pc Qc XC mc ms free) (hblind : FrameBlind Pc) (hrc : rm.cells = mc) (hrs : rm.slots = ms)
    (hframes : rm.frames + 1 ≤ R.frames) (hlocals : W9 + (maxL + 11) + rm.locals ≤ R.locals)
    (hws : ∀ w ∈ ws, ∀ a' U, s.WarmedH U.vm → w.before a' U = true) (hcode : Cond.codeWith y bytes maxL ret hh ∈ ws) (hinit : ∀ a' U, s.WarmedH U.vm → (Cond.initialized y.cls).before a' U = true) :
    vx_Back l R p e below s sargs y len W9 (PreOf R mc ms Pc) (PostOf Qc mc ms free) (vx_Post XC mc ms free) := by
  intro m meth c A g ig mk a X hg hsize hdg hW hn hp
  have h1 : (headSpec ws rm).pre.before a A.U = true := atoms_intro fun w hw => hws w hw _ _ X.warmed
  have h2 : (Cond.codeWith y bytes maxL ret hh).before a A.U = true := hws _ hcode _ _ X.warmed
  have h3 : (Cond.initialized y.cls).before a A.U = true := hinit _ _ X.warmed
  have h4 : A.cells + (headSpec ws rm).room.cells ≤ R.cells := by rw [show (headSpec ws rm).room.cells = mc from hrc]; exact hp.1
  have h5 : A.slots + (headSpec ws rm).room.slots ≤ R.slots := by rw [show (headSpec ws rm).room.slots = ms from hrs]; exact hp.2.1
  have hPc : Pc a (A.U.calling g mk a) := hblind _ _ _ _ hp.2.2
  obtain ⟨U, Ls, c0, s0⟩ := A
  dsimp only [Pt.U, Pt.locs, Pt.cells, Pt.slots] at h1 h2 h3 h4 h5 X hn hPc ⊢
  obtain ⟨m9, methY, cY, hn9, hmY, hcY, -, hlY, -⟩ := Cond.codeWith_spec h2
  cases Option.some.inj (hn9.symm.trans hn)
  obtain ⟨kY, hkY, -⟩ := className_of_methodNamed hn
  have hinitY : kY.init = .initialized := Cond.initialized_spec (findClass_of_methodNamed hn) hkY h3
  have h : At U g.method c below := by rw [hg]; exact X.here
  have hlocals9 : W9 + (maxL + 11) + (headSpec ws rm).room.locals ≤ R.locals := hlocals
  have happ : (headSpec ws rm).appliesLoose y e.platform (U.calling g mk a) = true :=
    Spec.appliesLoose_calling (g := g) h hdg hn hkY hinitY
      (X.room_calling (g := g) (R' := (headSpec ws rm).room) hsize hmY hcY hframes (by rw [hlY]; omega) h4 h5) h1
  obtain ⟨mid, hmid⟩ := h.above
  have hfr : (U.setTop g).frames = (.java g :: mid) ++ below := by rw [State.frames_setTop' g h.top, hmid]; rfl
  obtain ⟨o, s₂, hsteps, -, hend, hq⟩ := Steps.callFree hM p X.admits X.cas X.clock (acts := []) hfr happ hPc trivial
  have hq' : vx_Q Qc XC mc ms free a (U.calling g mk a) o s₂ := hq
  rw [State.frames_setTop' g h.top] at hend
  obtain ⟨g₀, hg0⟩ := Option.isSome_iff_exists.mp h.top
  obtain ⟨r, hr⟩ := State.topJava?_eq_some.mp hg0
  have hr' : (({ U with heap := s₂.heap, slotsUsed := s₂.slotsUsed } : State).setVm s₂.vm).frames = .java g₀ :: r := hr
  rcases hq' with ⟨hqc, L, hfe, hL⟩ | ⟨q, rfl, E, ce, L, hx, hce, hcv, hcl, hW₂, hsm, hL⟩
  · obtain ⟨⟨v, rfl⟩, hW₂, e2, q2, q3, q4, q5, q6⟩ := id hfe
    have e3 : s₂ = ({ (U.calling g mk a).setFrames s₂.frames with heap := s₂.heap, slotsUsed := s₂.slotsUsed } : State).setVm s₂.vm := by
      have : s₂ = ({ s₂ with vm := (U.calling g mk a).vm } : State).setVm s₂.vm := rfl
      rw [e2] at this
      exact this
    obtain ⟨c₂, i₂, len₂, hc₂, hd₂, hf₂⟩ := hend
    have hW' : U.WarmedH s₂.vm := hW₂
    have hcc : c₂ = c := by
      have h1 : s₂.code? g.method = U.code? g.method := by
        rw [State.code?_eq, State.code?_eq, hW'.alike.method?]
      exact Option.some.inj (hc₂.symm.trans (h1.trans h.code))
    subst hcc
    have hlen : len₂ = len := by rw [hdg] at hd₂; cases hd₂; rfl
    subst hlen
    have hs₂ : s₂ = (({ U with heap := s₂.heap, slotsUsed := s₂.slotsUsed } : State).setVm s₂.vm).setTop { g with pc := g.pc + len₂, stack := v.toList ++ g.stack } := by
      refine e3.trans ?_
      rw [hf₂, State.calling_eq h.top, State.setFrames_setFrames, State.setTop_of_frames _ hr', hr]
      rfl
    have hsame : U.sameButNew ({ U with heap := s₂.heap, slotsUsed := s₂.slotsUsed } : State) L mc ms := by
      refine ⟨?_, q2, q3, q4, q5, q6⟩
      obtain ⟨t, ht, -⟩ := State.frames_cons hr
      show ({ U with heap := s₂.heap, slotsUsed := s₂.slotsUsed } : State) = { U.setFrames U.frames with heap := s₂.heap, slotsUsed := s₂.slotsUsed }
      rw [State.setFrames_self ht]
    subst hg
    refine Or.inl ⟨v, ⟨(({ U with heap := s₂.heap, slotsUsed := s₂.slotsUsed } : State).setVm s₂.vm), Ls ++ L, c0 + mc, s0 + ms⟩,
      ⟨X.admits, X.cas, X.clock, X.frames, X.room, X.hears, X.method, X.code, (X.here.setHeapUsed s₂.heap s₂.slotsUsed).setVm hW'.alike, X.tail, State.WarmedH.trans X.warmed hW', X.limits, X.bytes, X.same.trans (hsame.setVm s.vm)⟩,
      ⟨g, mk, s₂, L, rfl, rfl, hqc, rfl, hL, rfl, rfl⟩, ?_⟩
    show Steps p.tables e below _ ((({ U with heap := s₂.heap, slotsUsed := s₂.slotsUsed } : State).setVm s₂.vm).setTop { g with pc := g.pc + len₂, stack := v.toList ++ g.stack })
    rw [← hs₂]
    exact hsteps
  · obtain ⟨e2, q2, q3, q4, q5, q6⟩ := id hsm
    have e3 : s₂ = ({ (U.calling g mk a).setFrames s₂.frames with heap := s₂.heap, slotsUsed := s₂.slotsUsed } : State).setVm s₂.vm := by
      have : s₂ = ({ s₂ with vm := (U.calling g mk a).vm } : State).setVm s₂.vm := rfl
      rw [e2] at this
      exact this
    have hf₂ : s₂.frames = .throwing q :: .java g :: U.frames.tail := hend
    have hW' : U.WarmedH s₂.vm := hW₂
    have hs₂ : s₂ = ((({ U with heap := s₂.heap, slotsUsed := s₂.slotsUsed } : State).setVm s₂.vm).setTop g).pushFrame (.throwing q) := by
      refine e3.trans ?_
      rw [hf₂, State.calling_eq h.top, State.setFrames_setFrames, State.pushFrame, State.frames_setTop _ hr', State.setTop_of_frames _ hr', State.setFrames_setFrames, hr]
      rfl
    have hsame : U.sameButNew ({ U with heap := s₂.heap, slotsUsed := s₂.slotsUsed } : State) L mc ms := by
      refine ⟨?_, q2, q3, q4, q5, q6⟩
      obtain ⟨t, ht, -⟩ := State.frames_cons hr
      show ({ U with heap := s₂.heap, slotsUsed := s₂.slotsUsed } : State) = { U.setFrames U.frames with heap := s₂.heap, slotsUsed := s₂.slotsUsed }
      rw [State.setFrames_self ht]
    subst hg
    refine Or.inr ⟨q, ⟨(({ U with heap := s₂.heap, slotsUsed := s₂.slotsUsed } : State).setVm s₂.vm), Ls ++ L, c0 + mc, s0 + ms⟩,
      ⟨X.admits, X.cas, X.clock, X.frames, X.room, X.hears, X.method, X.code, (X.here.setHeapUsed s₂.heap s₂.slotsUsed).setVm hW'.alike, X.tail, State.WarmedH.trans X.warmed hW', X.limits, X.bytes, X.same.trans (hsame.setVm s.vm)⟩,
      ⟨g, mk, s₂, L, E, ce, rfl, rfl, hx, hce, hcv, hcl, rfl, hL, rfl, rfl⟩, ?_⟩
    show Steps p.tables e below _ (((({ U with heap := s₂.heap, slotsUsed := s₂.slotsUsed } : State).setVm s₂.vm).setTop g).pushFrame (.throwing q))
    rw [← hs₂]
    exact hsteps
end
variable {p : Program} {l : Launch} {e : Env} {R : Room} {s : State} {m : MethodId} {args : Array Value} {below : List Frame} {meth : Method} {c : Code} {T : State} {H : Heap} {locs : List Loc} {cells slots : Nat}
theorem vx_callVX (X : Stand p l e R s m args below meth c T locs cells slots) (hexec : p.tables.exec = Jvm.exec) {own C : String} {index : Nat} {y : MethodName} {bytes : ByteArray} {maxL : Nat} {ret : Option FieldType} {hh : List (Nat × Nat × Nat × Nat)}
    (hown : s.vm.findClass own = some m.cls) (hlink : (Cond.methodLink own index y).before args s = true) (hinst : (Cond.instanceMethod y).before args s = true) (hsel : (Cond.selects C y y).before args s = true)
    (hcode : (Cond.codeWith y bytes maxL ret hh).before args s = true) (hy : y.cls ≠ "java/lang/invoke/MethodHandle" ∧ y.cls ≠ "java/lang/invoke/VarHandle")
    {W9 : Nat} {Pre : Pt → Array Value → Prop} {Post : Pt → Array Value → Option Value → Pt → Prop} {PostX : Pt → Array Value → Addr → Pt → Prop} (hK : vx_Back l R p e below s args y 3 W9 Pre Post PostX)
    {b : Addr} {cellB : Cell} (hcell : T.heap[b]? = some cellB) (hobj : cellB.vm.isStatics = false) (hcls : s.vm.findClass C = some cellB.cls)
    {g : JFrame} (hg : g.method = m) (hsize : g.locals.size = c.maxLocals) {argsL rest : List Value} (hlen : ∀ sig, parseMethodDescriptor y.desc = some sig → argsL.length = sig.parameters.length)
    (hstack : g.stack = argsL.reverse ++ .ref b :: rest) (hW : 2 * g.monitorRoom + (rest.map fun v => v.category).sum ≤ W9) (hdg : decode c.code g.pc = .ok (.invokevirtual index, 3))
    (hpre : ∀ vm₁, s.WarmedH vm₁ → Pre ⟨T.setVm vm₁, locs, cells, slots⟩ (Value.ref b :: argsL).toArray) :
    (∃ (v : Option Value) (vm₁ : Vm) (B : Pt), s.WarmedH vm₁ ∧ Stand p l e R s m args below meth c B.U B.locs B.cells B.slots ∧ Post ⟨T.setVm vm₁, locs, cells, slots⟩ (Value.ref b :: argsL).toArray v B ∧
      ∀ target, Steps p.tables e below (B.U.setTop { g with pc := g.pc + 3, stack := v.toList ++ rest }) target → Steps p.tables e below (T.setTop g) target) ∨
    (∃ (q : Addr) (vm₁ : Vm) (B : Pt), s.WarmedH vm₁ ∧ Stand p l e R s m args below meth c B.U B.locs B.cells B.slots ∧ PostX ⟨T.setVm vm₁, locs, cells, slots⟩ (Value.ref b :: argsL).toArray q B ∧
      Steps p.tables e below (T.setTop g) ((B.U.setTop { g with stack := rest }).pushFrame (.throwing q))) := by
  obtain ⟨mk, methM, hnamed, hmethM, hstM, habM⟩ := Cond.instanceMethod_spec hinst
  obtain ⟨m8, methM', cM, hn8, hmethM', -, -, -, -, -, -, hsigM⟩ := Cond.codeWith_spec hcode
  cases Option.some.inj (hn8.symm.trans hnamed)
  cases hmethM.symm.trans hmethM'
  obtain ⟨c2, r2, m2, q1, q2, q3, q4, kP, hkP, hkPi⟩ := Cond.selects_spec hsel
  cases hcls.symm.trans q1
  cases (State.methodFound?_of_named hnamed hy).symm.trans q2
  cases hnamed.symm.trans q3
  have hselP : selectMethod e.platform s.vm cellB.cls mk = .method mk := by rw [Launch.admits_selectMethod X.admits]; exact q4
  obtain ⟨vm₁, X₁, hstep₁⟩ := X.invokevirtual hexec hown hlink hnamed hmethM hstM hkP hkPi hy (a := b) (cell := cellB) hcell
    (fun z h => by rw [h] at hobj; cases hobj) hselP hmethM habM hkP hkPi (g := g) hg (argsL := argsL) (rest := rest) (hlen _ hsigM) hstack hdg
  rcases hK m meth c ⟨T.setVm vm₁, locs, cells, slots⟩ { g with stack := rest } (.invokevirtual index) mk (Value.ref b :: argsL).toArray X₁ hg hsize hdg hW (X₁.named hnamed) (hpre vm₁ X₁.warmed) with ⟨v, B, X', hpost, hsteps⟩ | ⟨q, B, X', hpost, hsteps⟩
  · exact Or.inl ⟨v, vm₁, B, X₁.warmed, X', hpost, fun target h => hstep₁ _ fun acts => by rw [doInvoke_state]; exact hsteps.trans h⟩
  · exact Or.inr ⟨q, vm₁, B, X₁.warmed, X', hpost, hstep₁ _ fun acts => by rw [doInvoke_state]; exact hsteps⟩
theorem vx_callSX (X : Stand p l e R s m args below meth c T locs cells slots) (hexec : p.tables.exec = Jvm.exec) {own : String} {index : Nat} {y : MethodName} {bytes : ByteArray} {maxL : Nat} {ret : Option FieldType} {hh : List (Nat × Nat × Nat × Nat)}
    (hown : s.vm.findClass own = some m.cls) (hlink : (Cond.methodLink own index y).before args s = true) (hstat : (Cond.static y).before args s = true) (hinit : (Cond.initialized y.cls).before args s = true)
    (hcode : (Cond.codeWith y bytes maxL ret hh).before args s = true) (hy : y.cls ≠ "java/lang/invoke/MethodHandle" ∧ y.cls ≠ "java/lang/invoke/VarHandle")
    {W9 : Nat} {Pre : Pt → Array Value → Prop} {Post : Pt → Array Value → Option Value → Pt → Prop} {PostX : Pt → Array Value → Addr → Pt → Prop} (hK : vx_Back l R p e below s args y 3 W9 Pre Post PostX)
    {g : JFrame} (hg : g.method = m) (hsize : g.locals.size = c.maxLocals) {argsL rest : List Value} (hlen : ∀ sig, parseMethodDescriptor y.desc = some sig → argsL.length = sig.parameters.length)
    (hstack : g.stack = argsL.reverse ++ rest) (hW : 2 * g.monitorRoom + (rest.map fun v => v.category).sum ≤ W9) (hdg : decode c.code g.pc = .ok (.invokestatic index, 3))
    (hpre : ∀ vm₁, s.WarmedH vm₁ → Pre ⟨T.setVm vm₁, locs, cells, slots⟩ argsL.toArray) :
    (∃ (v : Option Value) (vm₁ : Vm) (B : Pt), s.WarmedH vm₁ ∧ Stand p l e R s m args below meth c B.U B.locs B.cells B.slots ∧ Post ⟨T.setVm vm₁, locs, cells, slots⟩ argsL.toArray v B ∧
      ∀ target, Steps p.tables e below (B.U.setTop { g with pc := g.pc + 3, stack := v.toList ++ rest }) target → Steps p.tables e below (T.setTop g) target) ∨
    (∃ (q : Addr) (vm₁ : Vm) (B : Pt), s.WarmedH vm₁ ∧ Stand p l e R s m args below meth c B.U B.locs B.cells B.slots ∧ PostX ⟨T.setVm vm₁, locs, cells, slots⟩ argsL.toArray q B ∧
      Steps p.tables e below (T.setTop g) ((B.U.setTop { g with stack := rest }).pushFrame (.throwing q))) := by
  obtain ⟨mk, methM, cM, hnamed, hmethM, -, -, -, -, -, -, hsigM⟩ := Cond.codeWith_spec hcode
  have hstatic : methM.isStatic = true := Cond.static_spec hnamed hmethM hstat
  obtain ⟨kP, hkP, -⟩ := className_of_methodNamed hnamed
  have hinitP : kP.init = .initialized := Cond.initialized_spec (findClass_of_methodNamed hnamed) hkP hinit
  obtain ⟨vm₁, X₁, hstep₁⟩ := X.invokestatic hexec hown hlink hnamed hmethM hstatic hkP hinitP hy (g := g) hg (argsL := argsL) (rest := rest) (hlen _ hsigM) hstack hdg
  rcases hK m meth c ⟨T.setVm vm₁, locs, cells, slots⟩ { g with stack := rest } (.invokestatic index) mk argsL.toArray X₁ hg hsize hdg hW (X₁.named hnamed) (hpre vm₁ X₁.warmed) with ⟨v, B, X', hpost, hsteps⟩ | ⟨q, B, X', hpost, hsteps⟩
  · exact Or.inl ⟨v, vm₁, B, X₁.warmed, X', hpost, fun target h => hstep₁ _ fun acts => by rw [doInvoke_state]; exact hsteps.trans h⟩
  · exact Or.inr ⟨q, vm₁, B, X₁.warmed, X', hpost, hstep₁ _ fun acts => by rw [doInvoke_state]; exact hsteps⟩
theorem vx_callVW (X : Stand p l e R s m args below meth c T locs cells slots) (hexec : p.tables.exec = Jvm.exec) {own C : String} {index : Nat} {y : MethodName} {bytes : ByteArray} {maxL : Nat} {ret : Option FieldType} {hh : List (Nat × Nat × Nat × Nat)}
    (hown : s.vm.findClass own = some m.cls) (hlink : (Cond.methodLink own index y).before args s = true) (hinst : (Cond.instanceMethod y).before args s = true) (hsel : (Cond.selects C y y).before args s = true)
    (hcode : (Cond.codeWith y bytes maxL ret hh).before args s = true) (hy : y.cls ≠ "java/lang/invoke/MethodHandle" ∧ y.cls ≠ "java/lang/invoke/VarHandle")
    {W9 : Nat} {Pre : Pt → Array Value → Prop} {Post : Pt → Array Value → Option Value → Pt → Prop} (hK : Back l R p e below s args y 3 W9 Pre Post)
    {b : Addr} {cellB : Cell} (hcell : T.heap[b]? = some cellB) (hobj : cellB.vm.isStatics = false) (hcls : s.vm.findClass C = some cellB.cls)
    {g : JFrame} (hg : g.method = m) (hsize : g.locals.size = c.maxLocals) {argsL rest : List Value} (hlen : ∀ sig, parseMethodDescriptor y.desc = some sig → argsL.length = sig.parameters.length)
    (hstack : g.stack = argsL.reverse ++ .ref b :: rest) (hW : 2 * g.monitorRoom + (rest.map fun v => v.category).sum ≤ W9) (hdg : decode c.code g.pc = .ok (.invokevirtual index, 3))
    (hpre : ∀ vm₁, s.WarmedH vm₁ → Pre ⟨T.setVm vm₁, locs, cells, slots⟩ (Value.ref b :: argsL).toArray) :
    ∃ (v : Option Value) (vm₁ : Vm) (B : Pt), s.WarmedH vm₁ ∧ Stand p l e R s m args below meth c B.U B.locs B.cells B.slots ∧ Post ⟨T.setVm vm₁, locs, cells, slots⟩ (Value.ref b :: argsL).toArray v B ∧
      ∀ target, Steps p.tables e below (B.U.setTop { g with pc := g.pc + 3, stack := v.toList ++ rest }) target → Steps p.tables e below (T.setTop g) target := by
  obtain ⟨mk, methM, hnamed, hmethM, hstM, habM⟩ := Cond.instanceMethod_spec hinst
  obtain ⟨m8, methM', cM, hn8, hmethM', -, -, -, -, -, -, hsigM⟩ := Cond.codeWith_spec hcode
  cases Option.some.inj (hn8.symm.trans hnamed)
  cases hmethM.symm.trans hmethM'
  obtain ⟨c2, r2, m2, q1, q2, q3, q4, kP, hkP, hkPi⟩ := Cond.selects_spec hsel
  cases hcls.symm.trans q1
  cases (State.methodFound?_of_named hnamed hy).symm.trans q2
  cases hnamed.symm.trans q3
  have hselP : selectMethod e.platform s.vm cellB.cls mk = .method mk := by rw [Launch.admits_selectMethod X.admits]; exact q4
  obtain ⟨vm₁, X₁, hstep₁⟩ := X.invokevirtual hexec hown hlink hnamed hmethM hstM hkP hkPi hy (a := b) (cell := cellB) hcell
    (fun z h => by rw [h] at hobj; cases hobj) hselP hmethM habM hkP hkPi (g := g) hg (argsL := argsL) (rest := rest) (hlen _ hsigM) hstack hdg
  obtain ⟨v, B, X', hpost, hsteps⟩ := hK m meth c ⟨T.setVm vm₁, locs, cells, slots⟩ { g with stack := rest } (.invokevirtual index) mk (Value.ref b :: argsL).toArray X₁ hg hsize hdg hW (X₁.named hnamed) (hpre vm₁ X₁.warmed)
  exact ⟨v, vm₁, B, X₁.warmed, X', hpost, fun target h => hstep₁ _ fun acts => by rw [doInvoke_state]; exact hsteps.trans h⟩
abbrev vx_CVW (R : Room) (s : State) (args : Array Value) (own C : String) (index : Nat) (y : MethodName) (bytes : ByteArray) (maxL : Nat) (ret : Option FieldType) (hh : List (Nat × Nat × Nat × Nat)) (ws : List Cond) (rm : Room) (mc ms n : Nat) : Prop :=
  (rm.cells = mc ∧ rm.slots = ms ∧ rm.frames + 1 ≤ R.frames ∧ 8 + (maxL + 11) + rm.locals ≤ R.locals ∧ (∀ w ∈ ws, ∀ (a' : Array Value) (U : State), s.WarmedH U.vm → w.before a' U = true) ∧ Cond.codeWith y bytes maxL ret hh ∈ ws) ∧
  (Cond.codeWith y bytes maxL ret hh).before args s = true ∧ (Cond.initialized y.cls).before args s = true ∧ (y.cls ≠ "java/lang/invoke/MethodHandle" ∧ y.cls ≠ "java/lang/invoke/VarHandle") ∧
  (∀ sig, parseMethodDescriptor y.desc = some sig → n = sig.parameters.length) ∧ (Cond.methodLink own index y).before args s = true ∧ (Cond.instanceMethod y).before args s = true ∧ (Cond.selects C y y).before args s = true
theorem vx_cwVW {own C : String} {index maxL mc ms : Nat} {y : MethodName} {bytes : ByteArray} {ret : Option FieldType} {hh : List (Nat × Nat × Nat × Nat)} {Ts ws ws' : List Cond} {rm : Room} (n : Nat) (ht : ∀ w ∈ Ts, w.before args s = true) (hT : GoodIn Ts (wsV own index C y ws)) (hw : ws = Cond.codeWith y bytes maxL ret hh :: ws') (hrc : rm.cells = mc) (hrs : rm.slots = ms)
    (hd : y.cls = C ∧ y.cls ≠ "java/lang/invoke/MethodHandle" ∧ y.cls ≠ "java/lang/invoke/VarHandle" ∧ (parseMethodDescriptor y.desc).map (fun d => d.parameters.length) = some n) (hR : rm.frames + 1 ≤ R.frames ∧ 8 + (maxL + 11) + rm.locals ≤ R.locals) :
    vx_CVW R s args own C index y bytes maxL ret hh ws rm mc ms n := by
  obtain ⟨hC, hd⟩ := hd
  subst hC
  have ok : ∀ w ∈ wsV own index y.cls y ws, w.before args s = true := fun w h => ht w (hT w h).1
  have hG : GoodIn Ts ws := fun w h => hT w (by unfold wsV; exact List.mem_append_right _ h)
  have hc : Cond.codeWith y bytes maxL ret hh ∈ ws := by rw [hw]; exact List.mem_cons_self
  refine ⟨⟨hrc, hrs, hR.1, hR.2, pay_in ht hG, hc⟩, ht _ (hG _ hc).1, ok _ (by simp [wsV]), ⟨hd.1, hd.2.1⟩, fun sig h => ?_, ok _ (by simp [wsV]), ok _ (by simp [wsV]), ok _ (by simp [wsV])⟩
  have h2 := hd.2.2
  rw [h] at h2
  exact (Option.some.inj h2).symm
theorem vx_runVW {y : MethodName} {bytes cc : ByteArray} {maxL nL mc ms n index : Nat} {ret : Option FieldType} {hh : List (Nat × Nat × Nat × Nat)} {ws : List Cond} {rm : Room} {Pc : Array Value → State → Prop} {Qc : Array Value → State → Outcome → State → Prop} {free : Addr → Prop} {Ts : List Cond} {own C : String} {b : Addr} {As rest : List Value} {g : JFrame}
    (S : CallFix p m c cc nL s args Ts own) (hM : Met l y ws rm Pc Qc mc ms free) (cw : vx_CVW R s args own C index y bytes maxL ret hh ws rm mc ms n) (hp : PreV s H C b Pc As)
    (hg : g.method = m) (hn : As.length = n) (hsize : g.locals.size = nL) (hstack : g.stack = As.reverse ++ .ref b :: rest) (hW : 2 * g.monitorRoom + (rest.map fun v => v.category).sum ≤ 8) (hdg : decode cc g.pc = .ok (.invokevirtual index, 3)) (hf : cells + mc ≤ R.cells ∧ slots + ms ≤ R.slots) :
    va_Run p l e R s m args below meth c H locs cells slots mc ms g rest (Qc (Value.ref b :: As).toArray) free := by
  obtain ⟨⟨hrc, hrs, hfr, hlo, hws, hcw⟩, hcode, hini, hy, hlen, hl, hin, hse⟩ := cw
  have hK : Back l R p e below s args y 3 8 (PreOf R mc ms Pc) (PostOf Qc mc ms free) := va_backW (hh := hh) (bytes := bytes) (maxL := maxL) (ret := ret) hM hp.1 hrc hrs hfr hlo hws hcw (fun a' U hW => word_at hW (Or.inl (by first | rfl | simp [Cond.onTables, Cond.keeps, Cond.steady])) hini)
  obtain ⟨hx, hb, hml, ho, -⟩ := S
  obtain ⟨-, ⟨cellB, hcB, hoB, hclB⟩, hPc⟩ := hp
  intro T hT X
  obtain ⟨v, vm₁, ⟨U', l2, c2, s2⟩, hW₁, X', ⟨g', mk, t, L, e1, e2, hq, h1, hL, h2, h3⟩, st⟩ := vx_callVW X hx (C := C) (hh := hh) (bytes := bytes) (maxL := maxL) (ret := ret) ho hl hin hse hcode hy hK (by rw [hT]; exact hcB) hoB hclB hg (hsize.trans hml.symm) (argsL := As) (rest := rest) (fun sig h => hn.trans (hlen sig h)) hstack hW (by rw [hb]; exact hdg)
    (fun vm₁ hW₁ => ⟨hf.1, hf.2, hPc (T.setVm vm₁) hT hW₁⟩)
  dsimp only [Pt.U, Pt.locs, Pt.cells, Pt.slots] at X' e1 e2 h1 h2 h3 st
  subst h1; subst h2; subst h3
  exact ⟨v, (T.setVm vm₁).calling g' mk (Value.ref b :: As).toArray, t, U', L, hT, X', hL, e1, e2, hq, st⟩
section
variable {y : MethodName} {bytes cc : ByteArray} {maxL nL mc ms n index : Nat} {ret : Option FieldType} {ws : List Cond} {rm : Room} {Pc : Array Value → State → Prop} {Qc : Array Value → State → Outcome → State → Prop} {XC : String → State → State → Prop} {free : Addr → Prop} {Ts : List Cond} {own C : String} {b : Addr} {As rest : List Value} {g : JFrame}
theorem vx_runVX {hh : List (Nat × Nat × Nat × Nat)} (S : CallFix p m c cc nL s args Ts own) (hM : vx_Met l y ws rm Pc Qc XC mc ms free) (cw : vx_CVW R s args own C index y bytes maxL ret hh ws rm mc ms n) (hp : PreV s H C b Pc As)
    (hg : g.method = m) (hn : As.length = n) (hsize : g.locals.size = nL) (hstack : g.stack = As.reverse ++ .ref b :: rest) (hW : 2 * g.monitorRoom + (rest.map fun v => v.category).sum ≤ 8) (hdg : decode cc g.pc = .ok (.invokevirtual index, 3)) (hf : cells + mc ≤ R.cells ∧ slots + ms ≤ R.slots) :
    vx_Run p l e R s m args below meth c H locs cells slots mc ms g rest (Qc (Value.ref b :: As).toArray) XC free := by
  obtain ⟨⟨hrc, hrs, hfr, hlo, hws, hcw⟩, hcode, hini, hy, hlen, hl, hin, hse⟩ := cw
  have hK : vx_Back l R p e below s args y 3 8 (PreOf R mc ms Pc) (PostOf Qc mc ms free) (vx_Post XC mc ms free) := vx_backW (hh := hh) (bytes := bytes) (maxL := maxL) (ret := ret) hM hp.1 hrc hrs hfr hlo hws hcw (fun a' U hW => word_at hW (Or.inl (by first | rfl | simp [Cond.onTables, Cond.keeps, Cond.steady])) hini)
  obtain ⟨hx, hb, hml, ho, -⟩ := S
  obtain ⟨-, ⟨cellB, hcB, hoB, hclB⟩, hPc⟩ := hp
  intro T hT X
  rcases vx_callVX X hx (C := C) (hh := hh) (bytes := bytes) (maxL := maxL) (ret := ret) ho hl hin hse hcode hy hK (by rw [hT]; exact hcB) hoB hclB hg (hsize.trans hml.symm) (argsL := As) (rest := rest) (fun sig h => hn.trans (hlen sig h)) hstack hW (by rw [hb]; exact hdg)
    (fun vm₁ hW₁ => ⟨hf.1, hf.2, hPc (T.setVm vm₁) hT hW₁⟩) with ⟨v, vm₁, ⟨U', l2, c2, s2⟩, hW₁, X', ⟨g', mk, t, L, e1, e2, hq, h1, hL, h2, h3⟩, st⟩ | ⟨q, vm₁, ⟨U', l2, c2, s2⟩, hW₁, X', ⟨g', mk, t, L, E, ce, e1, e2, hq, hce, hcv, hcl, h1, hL, h2, h3⟩, st⟩
  · dsimp only [Pt.U, Pt.locs, Pt.cells, Pt.slots] at X' e1 e2 h1 h2 h3 st
    subst h1; subst h2; subst h3
    exact Or.inl ⟨v, (T.setVm vm₁).calling g' mk (Value.ref b :: As).toArray, t, U', L, hT, X', hL, e1, e2, hq, st⟩
  · dsimp only [Pt.U, Pt.locs, Pt.cells, Pt.slots] at X' e1 e2 h1 h2 h3 st hcl
    subst h1; subst h2; subst h3
    exact Or.inr ⟨q, (T.setVm vm₁).calling g' mk (Value.ref b :: As).toArray, t, U', L, E, ce, hT, X', hL, e1, e2, hq, hce, hcv, vx_cls hW₁ hcl, st⟩
theorem vx_runSX {hh : List (Nat × Nat × Nat × Nat)} (S : CallFix p m c cc nL s args Ts own) (hM : vx_Met l y ws rm Pc Qc XC mc ms free) (cw : vx_CSW R s args own index y bytes maxL ret hh ws rm mc ms n) (hp : PreS s H Pc As)
    (hg : g.method = m) (hn : As.length = n) (hsize : g.locals.size = nL) (hstack : g.stack = As.reverse ++ rest) (hW : 2 * g.monitorRoom + (rest.map fun v => v.category).sum ≤ 8) (hdg : decode cc g.pc = .ok (.invokestatic index, 3)) (hf : cells + mc ≤ R.cells ∧ slots + ms ≤ R.slots) :
    vx_Run p l e R s m args below meth c H locs cells slots mc ms g rest (Qc As.toArray) XC free := by
  obtain ⟨⟨hrc, hrs, hfr, hlo, hws, hcw⟩, hcode, hini, hy, hlen, hl, hstt⟩ := cw
  have hK : vx_Back l R p e below s args y 3 8 (PreOf R mc ms Pc) (PostOf Qc mc ms free) (vx_Post XC mc ms free) := vx_backW (hh := hh) (bytes := bytes) (maxL := maxL) (ret := ret) hM hp.1 hrc hrs hfr hlo hws hcw (fun a' U hW => word_at hW (Or.inl (by first | rfl | simp [Cond.onTables, Cond.keeps, Cond.steady])) hini)
  obtain ⟨hx, hb, hml, ho, -⟩ := S
  intro T hT X
  rcases vx_callSX X hx (hh := hh) (bytes := bytes) (maxL := maxL) (ret := ret) ho hl hstt hini hcode hy hK hg (hsize.trans hml.symm) (argsL := As) (rest := rest) (fun sig h => hn.trans (hlen sig h)) hstack hW (by rw [hb]; exact hdg)
    (fun vm₁ hW₁ => ⟨hf.1, hf.2, hp.2 (T.setVm vm₁) hT hW₁⟩) with ⟨v, vm₁, ⟨U', l2, c2, s2⟩, hW₁, X', ⟨g', mk, t, L, e1, e2, hq, h1, hL, h2, h3⟩, st⟩ | ⟨q, vm₁, ⟨U', l2, c2, s2⟩, hW₁, X', ⟨g', mk, t, L, E, ce, e1, e2, hq, hce, hcv, hcl, h1, hL, h2, h3⟩, st⟩
  · dsimp only [Pt.U, Pt.locs, Pt.cells, Pt.slots] at X' e1 e2 h1 h2 h3 st
    subst h1; subst h2; subst h3
    exact Or.inl ⟨v, (T.setVm vm₁).calling g' mk As.toArray, t, U', L, hT, X', hL, e1, e2, hq, st⟩
  · dsimp only [Pt.U, Pt.locs, Pt.cells, Pt.slots] at X' e1 e2 h1 h2 h3 st hcl
    subst h1; subst h2; subst h3
    exact Or.inr ⟨q, (T.setVm vm₁).calling g' mk As.toArray, t, U', L, E, ce, hT, X', hL, e1, e2, hq, hce, hcv, vx_cls hW₁ hcl, st⟩
end
end VXH
theorem vx_ofWH {l : Launch} {y : MethodName} {ws ws' : List Cond} {rm : Room} {Pc : Array Value → State → Prop} {Qc : Array Value → State → Outcome → State → Prop} {XC : String → State → State → Prop} {mc ms : Nat} {free : Addr → Prop} {cc : ByteArray} {maxL : Nat} {ret : Option FieldType} {hh : List (Nat × Nat × Nat × Nat)}
    (hy : plainName y.cls = true) (hw : ws = Cond.codeWith y cc maxL ret hh :: ws')
    (body : ∀ p e s m args below meth c s₁, BodyLoose p l y (headSpec ws rm) cc maxL ret e s m args below meth c s₁ → c.maxLocals = maxL → Pc args s →
      W p l e (headSpec ws rm).room s m args below meth c s.heap [] 0 0 (vx_MQ below Qc XC args s mc ms free) (entryFrame m args maxL)) : vx_Met l y ws rm Pc Qc XC mc ms free := by
  refine MetFree.of_bodyS (code := cc) (maxLocals := maxL) (ret := ret) hy ?_ ?_
  · intro args s m h hn
    obtain ⟨m9, meth, c, hn9, h1, h2, h3, h4, -, h5, h6, -⟩ := Cond.codeWith_spec (atoms_spec (ws := ws) h _ (by rw [hw]; exact List.mem_cons_self))
    cases hn.symm.trans hn9
    exact ⟨meth, c, h1, h2, h3, h4, h5, h6⟩
  · intro p e s m args below meth c s₁ B hml hP _
    have hh0 : s₁.heap = s.heap := by rw [B.state]; rfl
    obtain ⟨t, a1, o, b1, b2, b3⟩ := body p e s m args below meth c s₁ B hml hP s₁ hh0 (Stand.of_body B)
    exact ⟨t, o, a1, b1, b2, b3⟩
/-! ===== END ===== -/
end
section
/-! NAMES, by program: classes, methods as tables -/
def RX0 : String := "LockDesk"
def TX0 : u_T := fun k => match k with
  | 0 => ("LockDesk", "states", "[I", true)
  | 1 => ("LockDesk", "priorities", "[I", true)
  | 2 => ("LockDesk", "awaited", "[I", true)
  | 3 => ("LockDesk", "wanted", "[I", true)
  | 4 => ("LockDesk", "begun", "I", false)
  | 5 => ("LockDesk", "holders", "[J", true)
  | 6 => ("LockDesk", "line", "[I", true)
  | 7 => ("LockDesk", "lineLength", "I", false)
  | 8 => ("LockDesk", "waitRows", "[J", true)
  | 9 => ("LockDesk", "abortedInCircles", "I", false)
  | 10 => ("LockDesk", "grantedAtOnce", "I", false)
  | _ => ("LockDesk", "grantedLater", "I", false)
-- X0: 12 fields
def RX1 : String := "LockDeskModel"
def TX1 : u_T := fun k => match k with
  | 0 => ("LockDeskModel", "code", "I", false)
  | 1 => ("LockDeskModel", "many", "I", false)
  | 2 => ("LockDeskModel", "priorities", "[I", true)
  | 3 => ("LockDeskModel", "states", "[I", true)
  | 4 => ("LockDeskModel", "held", "[I", true)
  | 5 => ("LockDeskModel", "waitsAt", "[I", true)
  | 6 => ("LockDeskModel", "wanted", "[I", true)
  | 7 => ("LockDeskModel", "converts", "[Z", true)
  | 8 => ("LockDeskModel", "queueSize", "[I", true)
  | 9 => ("LockDeskModel", "queue", "[I", true)
  | 10 => ("LockDeskModel", "victims", "I", false)
  | 11 => ("LockDeskModel", "atOnce", "I", false)
  | _ => ("LockDeskModel", "later", "I", false)
-- X1: 13 fields
abbrev vwCl : List vw_C := [(RX0, TX0, 12), (RX1, TX1, 13)]
def aq_str : List (Nat × String) := [(50, "the priority is not 0 .. 99"), (57, "there are 60 transactions"), (67, "there is no such mode"), (76, "the object above is not held as it must be"), (102, "the transaction has ended"), (104, "the object is not held"), (123, "what is none of 0 .. 4"), (146, "there is no such place"), (162, "there is no such transaction"), (164, "there is no such object"), (166, "the transaction is not active")]
end
section
/-! THE MACHINE OF POSITIONS, 1: values, cells and locals; a reference is the number of its cell in the world, 'ad' gives the cell's address, 'kt' the class of an array kind (0 int, 1 long, 2 boolean) -/
def aq_v (ad : Nat → Nat) (v : Value) : Value := match v with
  | .ref k => .ref (ad k)
  | .int x => .int x
  | .long x => .long x
  | .float x => .float x
  | .double x => .double x
  | .null => .null
  | .retAddr x => .retAddr x
theorem aq_v_cat (ad : Nat → Nat) (v : Value) : (aq_v ad v).category = v.category := by cases v <;> rfl
theorem aq_v_cats (ad : Nat → Nat) (st : List Value) : ((st.map (aq_v ad)).map fun v => v.category).sum = (st.map fun v => v.category).sum := by
  induction st with
  | nil => rfl
  | cons v r ih => simp only [List.map_cons, List.sum_cons, aq_v_cat, ih]
def aq_e (ad kt : Nat → Nat) (k : Nat) (e : va_E) : Nat × va_E := match e with
  | .inl a => (ad k, .inl (kt a.1, a.2))
  | .inr o => (ad k, .inr (o.1, o.2.map (aq_v ad)))
def aq_w (ad kt : Nat → Nat) (w : List va_E) : va_W := w.mapIdx (aq_e ad kt)
theorem aq_w_at {ad kt : Nat → Nat} {w : List va_E} {k : Nat} {e : va_E} (h : w[k]? = some e) : (aq_w ad kt w)[k]? = some (aq_e ad kt k e) := by
  unfold aq_w
  rw [List.getElem?_mapIdx, h]
  rfl
theorem aq_w_set (ad kt : Nat → Nat) (w : List va_E) (k : Nat) (e : va_E) : aq_w ad kt (w.set k e) = (aq_w ad kt w).set k (aq_e ad kt k e) := by
  unfold aq_w
  rw [List.mapIdx_set]
def aq_l (ad : Nat → Nat) (al : List (Option Value)) : List (Nat × Value) := al.zipIdx.filterMap (fun q => q.1.map (fun v => (q.2, aq_v ad v)))
theorem aq_l_in {ad : Nat → Nat} {al : List (Option Value)} {j : Nat} {v : Value} (h : al[j]? = some (some v)) : (j, aq_v ad v) ∈ aq_l ad al := by
  unfold aq_l
  rw [List.mem_filterMap]
  exact ⟨(some v, j), List.mk_mem_zipIdx_iff_getElem?.mpr h, rfl⟩
theorem aq_l_of {ad : Nat → Nat} {al : List (Option Value)} {j : Nat} {x : Value} (h : (j, x) ∈ aq_l ad al) : ∃ v, al[j]? = some (some v) ∧ x = aq_v ad v := by
  unfold aq_l at h
  rw [List.mem_filterMap] at h
  obtain ⟨⟨o, i⟩, h1, h2⟩ := h
  have h1 := List.mk_mem_zipIdx_iff_getElem?.mp h1
  cases o with
  | none => simp at h2
  | some v =>
    simp only [Option.map_some, Option.some.injEq, Prod.mk.injEq] at h2
    obtain ⟨rfl, rfl⟩ := h2
    exact ⟨v, h1, rfl⟩
/-- the locals hold al: a place with 'none' may hold anything -/
def aq_Lo (ad : Nat → Nat) (ls : Array Slot) (nL : Nat) (al : List (Option Value)) : Prop := al.length = nL ∧ lv_has ls nL (aq_l ad al)
theorem aq_Lo_at {ad : Nat → Nat} {ls : Array Slot} {nL : Nat} {al : List (Option Value)} (h : aq_Lo ad ls nL al) {j : Nat} {v : Value} (hj : al[j]? = some (some v)) : ls[j]? = some (.val (aq_v ad v)) := h.2.2.2 _ (aq_l_in hj)
theorem aq_Lo_le {ad : Nat → Nat} {ls : Array Slot} {nL : Nat} {al al' : List (Option Value)} (h : aq_Lo ad ls nL al) (hn : al'.length = al.length) (hle : ∀ (j : Nat) (v : Value), al'[j]? = some (some v) → al[j]? = some (some v)) : aq_Lo ad ls nL al' :=
  ⟨hn.trans h.1, h.2.1, h.2.2.1, fun q hq => by
    obtain ⟨j, x⟩ := q
    obtain ⟨v, h1, rfl⟩ := aq_l_of hq
    exact aq_Lo_at h (hle _ _ h1)⟩
def aq_k2 (al : List (Option Value)) (i : Nat) : List (Option Value) := match i with
  | 0 => al
  | j + 1 => match al[j]? with
    | some (some (.long _)) => al.set j none
    | some (some (.double _)) => al.set j none
    | _ => al
theorem aq_k2_len (al : List (Option Value)) (i : Nat) : (aq_k2 al i).length = al.length := by
  unfold aq_k2
  split
  · rfl
  · split <;> simp
theorem aq_set_none {al : List (Option Value)} {j k : Nat} {u : Value} (h : (al.set k none)[j]? = some (some u)) : j ≠ k ∧ al[j]? = some (some u) := by
  rw [List.getElem?_set] at h
  split at h
  · split at h <;> simp at h
  · rename_i hne
    exact ⟨fun q => hne q.symm, h⟩
theorem aq_k2_spec {al : List (Option Value)} {i j : Nat} {u : Value} (h : (aq_k2 al i)[j]? = some (some u)) : al[j]? = some (some u) ∧ ¬ (j + 1 = i ∧ u.category = 2) := by
  cases i with
  | zero => exact ⟨h, fun q => by omega⟩
  | succ k =>
    unfold aq_k2 at h
    dsimp only at h
    split at h
    · obtain ⟨h1, h2⟩ := aq_set_none h
      exact ⟨h2, fun q => by omega⟩
    · obtain ⟨h1, h2⟩ := aq_set_none h
      exact ⟨h2, fun q => by omega⟩
    · rename_i n1 n2
      refine ⟨h, ?_⟩
      rintro ⟨hj, hu⟩
      have hjk : j = k := by omega
      subst hjk
      cases u with
      | long y => exact n1 y h
      | double y => exact n2 y h
      | _ => simp [Value.category] at hu
def aq_s1 (al : List (Option Value)) (i : Nat) (v : Value) : List (Option Value) := (aq_k2 al i).set i (some v)
def aq_s2 (al : List (Option Value)) (i : Nat) (v : Value) : List (Option Value) := ((aq_k2 al i).set i (some v)).set (i + 1) none
theorem aq_Lo_s1 {ad : Nat → Nat} {ls ls' : Array Slot} {nL i : Nat} {al : List (Option Value)} {v : Value} (h0 : aq_Lo ad ls nL al) (h : lv_has ls' nL ((i, aq_v ad v) :: (aq_l ad al).filter (fun q => !(q.1 == i) && !(q.1 + 1 == i && q.2.category == 2)))) : aq_Lo ad ls' nL (aq_s1 al i v) := by
  refine ⟨by unfold aq_s1; rw [List.length_set, aq_k2_len]; exact h0.1, h.1, h.2.1, fun q hq => ?_⟩
  obtain ⟨j, x⟩ := q
  obtain ⟨u, h1, rfl⟩ := aq_l_of hq
  unfold aq_s1 at h1
  rw [List.getElem?_set] at h1
  split at h1
  · rename_i hij
    subst hij
    split at h1
    · simp only [Option.some.injEq] at h1
      subst h1
      exact h.2.2 _ List.mem_cons_self
    · simp at h1
  · rename_i hne
    obtain ⟨h2, h3⟩ := aq_k2_spec h1
    refine h.2.2 _ (List.mem_cons_of_mem _ (List.mem_filter.mpr ⟨aq_l_in h2, ?_⟩))
    have e1 : (j == i) = false := by simp; exact fun q => hne q.symm
    have e2 : (j + 1 == i && (aq_v ad u).category == 2) = false := by
      rw [aq_v_cat]
      cases hx : (j + 1 == i && u.category == 2) with
      | false => rfl
      | true =>
        simp only [Bool.and_eq_true, beq_iff_eq] at hx
        exact absurd hx h3
    simp only [e1, e2, Bool.not_false, Bool.and_self]
theorem aq_Lo_s2 {ad : Nat → Nat} {ls ls' : Array Slot} {nL i : Nat} {al : List (Option Value)} {v : Value} (h0 : aq_Lo ad ls nL al) (h : lv_has ls' nL ((i, aq_v ad v) :: (aq_l ad al).filter (fun q => !(q.1 == i) && (!(q.1 == i + 1) && !(q.1 + 1 == i && q.2.category == 2))))) : aq_Lo ad ls' nL (aq_s2 al i v) := by
  refine ⟨by unfold aq_s2; rw [List.length_set, List.length_set, aq_k2_len]; exact h0.1, h.1, h.2.1, fun q hq => ?_⟩
  obtain ⟨j, x⟩ := q
  obtain ⟨u, h1, rfl⟩ := aq_l_of hq
  unfold aq_s2 at h1
  obtain ⟨hj1, h7⟩ := aq_set_none h1
  rw [List.getElem?_set] at h7
  split at h7
  · rename_i hij
    subst hij
    split at h7
    · simp only [Option.some.injEq] at h7
      subst h7
      exact h.2.2 _ List.mem_cons_self
    · simp at h7
  · rename_i hne
    obtain ⟨h2, h3⟩ := aq_k2_spec h7
    refine h.2.2 _ (List.mem_cons_of_mem _ (List.mem_filter.mpr ⟨aq_l_in h2, ?_⟩))
    have e1 : (j == i) = false := by simp; exact fun q => hne q.symm
    have e3 : (j == i + 1) = false := by simp; exact hj1
    have e2 : (j + 1 == i && (aq_v ad u).category == 2) = false := by
      rw [aq_v_cat]
      cases hx : (j + 1 == i && u.category == 2) with
      | false => rfl
      | true =>
        simp only [Bool.and_eq_true, beq_iff_eq] at hx
        exact absurd hx h3
    simp only [e1, e2, e3, Bool.not_false, Bool.and_self]
/-- the locals with which a method begins -/
def aq_args : List Value → List (Option Value)
  | [] => []
  | v :: r => match v with
    | .long x => some (.long x) :: none :: aq_args r
    | .double x => some (.double x) :: none :: aq_args r
    | v => some v :: aq_args r
theorem aq_args_in {ad : Nat → Nat} : ∀ (as : List Value) (i j : Nat) (u : Value), (aq_args as)[j]? = some (some u) → (i + j, aq_v ad u) ∈ lv_args i (as.map (aq_v ad)) := by
  intro as
  induction as with
  | nil => intro i j u h; simp [aq_args] at h
  | cons v r ih =>
    intro i j u h
    have two : v.category = 2 → (some v :: none :: aq_args r)[j]? = some (some u) → (i + j, aq_v ad u) ∈ lv_args i ((v :: r).map (aq_v ad)) := by
      intro hc h
      match j, h with
      | 0, h =>
        simp only [List.getElem?_cons_zero, Option.some.injEq] at h
        subst h
        exact List.mem_cons_self
      | 1, h => simp at h
      | j + 2, h =>
        simp only [List.getElem?_cons_succ] at h
        have := ih (i + 2) j u h
        simp only [List.map_cons, lv_args, aq_v_cat, hc, if_true]
        exact List.mem_cons_of_mem _ (by rw [show i + (j + 2) = i + 2 + j by omega]; exact this)
    have one : ¬ v.category = 2 → (some v :: aq_args r)[j]? = some (some u) → (i + j, aq_v ad u) ∈ lv_args i ((v :: r).map (aq_v ad)) := by
      intro hc h
      match j, h with
      | 0, h =>
        simp only [List.getElem?_cons_zero, Option.some.injEq] at h
        subst h
        exact List.mem_cons_self
      | j + 1, h =>
        simp only [List.getElem?_cons_succ] at h
        have := ih (i + 1) j u h
        simp only [List.map_cons, lv_args, aq_v_cat, hc, if_false]
        exact List.mem_cons_of_mem _ (by rw [show i + (j + 1) = i + 1 + j by omega]; exact this)
    cases v with
    | long x => exact two rfl h
    | double x => exact two rfl h
    | _ => exact one (by simp [Value.category]) h
theorem aq_args_len {ad : Nat → Nat} (as : List Value) : (lg_sl (as.map (aq_v ad))).length = (aq_args as).length := by
  induction as with
  | nil => rfl
  | cons v r ih =>
    have e : lg_sl ((v :: r).map (aq_v ad)) = (if (aq_v ad v).category = 2 then [.val (aq_v ad v), .second] else [.val (aq_v ad v)]) ++ lg_sl (r.map (aq_v ad)) := rfl
    rw [e, aq_v_cat, List.length_append, ih]
    cases v <;> simp [Value.category, aq_args] <;> omega
def aq_ent (as : List Value) (nL : Nat) : List (Option Value) := aq_args as ++ List.replicate (nL - (aq_args as).length) none
theorem aq_Lo_ent {ad : Nat → Nat} {as : List Value} {nL : Nat} (h : (aq_args as).length ≤ nL) : aq_Lo ad ((lg_sl (as.map (aq_v ad)) ++ List.replicate (nL - (lg_sl (as.map (aq_v ad))).length) Slot.unset).toArray) nL (aq_ent as nL) := by
  have h0 := lv_entry (as.map (aq_v ad)) (n := nL) (by rw [aq_args_len]; exact h)
  refine ⟨by unfold aq_ent; simp; omega, h0.1, h0.2.1, fun q hq => ?_⟩
  obtain ⟨j, x⟩ := q
  obtain ⟨u, h1, rfl⟩ := aq_l_of hq
  unfold aq_ent at h1
  rw [List.getElem?_append] at h1
  split at h1
  · have := aq_args_in (ad := ad) as 0 j u h1
    rw [Nat.zero_add] at this
    exact h0.2.2 _ this
  · rw [List.getElem?_replicate] at h1
    split at h1 <;> simp at h1
end
section
/-! THE MACHINE OF POSITIONS, 2: a method as a table, the steps that a program can do alone -/
/-- every word of the tables that holds in warmer tables too -/
def aq_TB : List Cond := lw_tbl.filter goodWord
theorem aq_TB_good : ∀ w ∈ aq_TB, (w.onTables && w.keeps) = true ∨ ∃ ty, w = .arrayClass ty := fun w h => good_of_word (List.mem_filter.mp h).2
theorem aq_good {ws : List Cond} (h : ∀ w ∈ ws, w ∈ aq_TB) : GoodIn aq_TB ws := fun w hw => ⟨h w hw, aq_TB_good w (h w hw)⟩
/-- words that a throw needs, that hold in warmer tables for another reason -/
def aq_cd (w : Cond) : Bool := match w with
  | .castable _ _ => true
  | .declares _ => true
  | _ => false
def aq_ext : List Cond := lw_tbl.filter aq_cd
/-- pc, instruction, its length, the next pc, its constant, its target -/
abbrev aq_J : Type := Instr × Nat × Nat × Int32 × Nat
abbrev aq_I : Type := Nat × aq_J
def aq_at : List aq_I → Nat → Option aq_J
  | [], _ => none
  | q :: r, pc => match Nat.beq q.1 pc with
    | true => some q.2
    | false => aq_at r pc
theorem aq_at_in : ∀ {t : List aq_I} {pc : Nat} {j : aq_J}, aq_at t pc = some j → (pc, j) ∈ t := by
  intro t
  induction t with
  | nil => intro pc j h; cases h
  | cons q r ih =>
    intro pc j h
    unfold aq_at at h
    split at h
    · rename_i hb
      have e := Nat.eq_of_beq_eq_true hb
      obtain ⟨a, b⟩ := q
      simp only [Option.some.injEq] at h
      subst h
      simp only at e
      subst e
      exact List.mem_cons_self
    · exact List.mem_cons_of_mem _ (ih h)
def aq_fd : List (Nat × Nat × Nat) → Nat → Option (Nat × Nat)
  | [], _ => none
  | q :: r, i => match Nat.beq q.1 i with
    | true => some q.2
    | false => aq_fd r i
theorem aq_fd_in : ∀ {t : List (Nat × Nat × Nat)} {i : Nat} {j : Nat × Nat}, aq_fd t i = some j → (i, j) ∈ t := by
  intro t
  induction t with
  | nil => intro pc j h; cases h
  | cons q r ih =>
    intro pc j h
    unfold aq_fd at h
    split at h
    · rename_i hb
      have e := Nat.eq_of_beq_eq_true hb
      obtain ⟨a, b⟩ := q
      simp only [Option.some.injEq] at h
      subst h
      simp only at e
      subst e
      exact List.mem_cons_self
    · exact List.mem_cons_of_mem _ (ih h)
def aq_lg : List (Nat × Int64) → Nat → Option Int64
  | [], _ => none
  | q :: r, i => match Nat.beq q.1 i with
    | true => some q.2
    | false => aq_lg r i
theorem aq_lg_in : ∀ {t : List (Nat × Int64)} {i : Nat} {j : Int64}, aq_lg t i = some j → (i, j) ∈ t := by
  intro t
  induction t with
  | nil => intro pc j h; cases h
  | cons q r ih =>
    intro pc j h
    unfold aq_lg at h
    split at h
    · rename_i hb
      have e := Nat.eq_of_beq_eq_true hb
      obtain ⟨a, b⟩ := q
      simp only [Option.some.injEq] at h
      subst h
      simp only at e
      subst e
      exact List.mem_cons_self
    · exact List.mem_cons_of_mem _ (ih h)
def aq_len (i : Instr) : Nat := match i with
  | .bipush _ | .iload _ | .lload _ | .aload _ | .istore _ | .lstore _ | .astore _ => 2
  | .sipush _ | .iinc _ _ | .getfield _ | .putfield _ | .goto _ | .ifCond _ _ | .if_icmp _ _ | .invokevirtual _ | .invokestatic _ | .invokespecial _ | .ldc2_w _ | .ldc_w _ | .new _ => 3
  | _ => 1
def aq_free (i : Instr) : Bool := match i with
  | .tableswitch _ _ _ _ | .lookupswitch _ _ | .ldc _ | .newarray _ => true
  | _ => false
def aq_okC (i : Instr) (k : Int32) : Bool := match i with
  | .iconst n => decide (Int32.ofInt n = k)
  | .bipush n => decide ((Int8.ofInt n).toInt32 = k)
  | .sipush n => decide ((Int16.ofInt n).toInt32 = k)
  | .iinc _ n => decide (Int32.ofInt n = k)
  | _ => true
def aq_okT (i : Instr) (pc tg : Nat) : Bool := match i with
  | .goto o => decide ((pc : Int) + o = (tg : Int))
  | .ifCond _ o => decide ((pc : Int) + o = (tg : Int))
  | .if_icmp _ o => decide ((pc : Int) + o = (tg : Int))
  | _ => true
def aq_ok1 (b : ByteArray) (q : aq_I) : Bool := decide (decode b q.1 = .ok (q.2.1, q.2.2.1)) && ((aq_free q.2.1 || Nat.beq q.2.2.1 (aq_len q.2.1)) && (Nat.beq q.2.2.2.1 (q.1 + q.2.2.1) && (aq_okC q.2.1 q.2.2.2.2.1 && aq_okT q.2.1 q.1 q.2.2.2.2.2)))
/-- a method: name, bytes, how many locals, what it returns; its instructions; its links to fields (entry, class, field); its long constants -/
abbrev aq_M : Type := MethodName × ByteArray × Nat × Option FieldType × List aq_I × List (Nat × Nat × Nat) × List (Nat × Int64)
abbrev aq_y (mi : aq_M) : MethodName := mi.1
abbrev aq_b (mi : aq_M) : ByteArray := mi.2.1
abbrev aq_n (mi : aq_M) : Nat := mi.2.2.1
abbrev aq_r (mi : aq_M) : Option FieldType := mi.2.2.2.1
abbrev aq_t (mi : aq_M) : List aq_I := mi.2.2.2.2.1
abbrev aq_f (mi : aq_M) : List (Nat × Nat × Nat) := mi.2.2.2.2.2.1
abbrev aq_j (mi : aq_M) : List (Nat × Int64) := mi.2.2.2.2.2.2
def aq_okF (own : String) (q : Nat × Nat × Nat) : Bool := match vwCl[q.2.1]? with
  | some r => decide (q.2.2 < r.2.2) && decide (Cond.fieldLink own q.1 (r.2.1 q.2.2).1 (r.2.1 q.2.2).2.1 (r.2.1 q.2.2).2.2.1 ∈ aq_TB)
  | none => false
def aq_okW (own : String) (q : aq_I) : Bool := match q.2.1 with
  | .ldc_w i => decide (Cond.constant own i q.2.2.2.2.1 ∈ aq_TB)
  | _ => true
def aq_okM (mi : aq_M) : Bool := ((aq_t mi).all (aq_ok1 (aq_b mi)) && (aq_t mi).all (aq_okW (aq_y mi).cls)) && ((aq_f mi).all (aq_okF (aq_y mi).cls) && (aq_j mi).all (fun q => decide (Cond.constantLong (aq_y mi).cls q.1 q.2 ∈ aq_TB)))
def aq_okK (r : vw_C) : Prop := (∀ w ∈ u_ws r.1 r.2.1 r.2.2, w ∈ aq_TB) ∧ (∀ k, k < r.2.2 → (parseFieldDescriptor (r.2.1 k).2.2.1).isSome = true) ∧ (∀ a, a < r.2.2 → ∀ b, b < r.2.2 → a ≠ b → (r.2.1 a).2.1 ≠ (r.2.1 b).2.1)
theorem aq_ok_at {mi : aq_M} (h : aq_okM mi = true) {pc : Nat} {j : aq_J} (ha : aq_at (aq_t mi) pc = some j) : decode (aq_b mi) pc = .ok (j.1, j.2.1) ∧ (aq_free j.1 = true ∨ j.2.1 = aq_len j.1) ∧ j.2.2.1 = pc + j.2.1 ∧ aq_okC j.1 j.2.2.2.1 = true ∧ aq_okT j.1 pc j.2.2.2.2 = true := by
  unfold aq_okM at h
  simp only [Bool.and_eq_true] at h
  have h1 := List.all_eq_true.mp h.1.1 _ (aq_at_in ha)
  unfold aq_ok1 at h1
  simp only [Bool.and_eq_true, Bool.or_eq_true, decide_eq_true_eq] at h1
  exact ⟨h1.1, h1.2.1.imp id (fun q => Nat.eq_of_beq_eq_true q), Nat.eq_of_beq_eq_true h1.2.2.1, h1.2.2.2.1, h1.2.2.2.2⟩
theorem aq_ok_f {mi : aq_M} (h : aq_okM mi = true) {i ci k : Nat} (ha : aq_fd (aq_f mi) i = some (ci, k)) : ∃ r : vw_C, vwCl[ci]? = some r ∧ k < r.2.2 ∧ Cond.fieldLink (aq_y mi).cls i (r.2.1 k).1 (r.2.1 k).2.1 (r.2.1 k).2.2.1 ∈ aq_TB := by
  unfold aq_okM at h
  simp only [Bool.and_eq_true] at h
  have h1 := List.all_eq_true.mp h.2.1 _ (aq_fd_in ha)
  unfold aq_okF at h1
  split at h1
  · rename_i r hr
    simp only [Bool.and_eq_true, decide_eq_true_eq] at h1
    exact ⟨r, hr, h1.1, h1.2⟩
  · cases h1
theorem aq_ok_j {mi : aq_M} (h : aq_okM mi = true) {i : Nat} {v : Int64} (ha : aq_lg (aq_j mi) i = some v) : Cond.constantLong (aq_y mi).cls i v ∈ aq_TB := by
  unfold aq_okM at h
  simp only [Bool.and_eq_true] at h
  have h1 := List.all_eq_true.mp h.2.2 _ (aq_lg_in ha)
  simpa using h1
theorem aq_ok_w {mi : aq_M} (h : aq_okM mi = true) {pc i len nx tg : Nat} {k : Int32} (ha : aq_at (aq_t mi) pc = some (.ldc_w i, len, nx, k, tg)) : Cond.constant (aq_y mi).cls i k ∈ aq_TB := by
  unfold aq_okM at h
  simp only [Bool.and_eq_true] at h
  have h1 := List.all_eq_true.mp h.1.2 _ (aq_at_in ha)
  simpa [aq_okW] using h1
/-- a configuration: pc, locals, stack, world -/
abbrev aq_C : Type := Nat × List (Option Value) × List Value × List va_E
abbrev aq_S : Type := Option (aq_C × Option Prop)
def aq_pp (P : Option Prop) : Prop := match P with
  | none => True
  | some p => p
def aq_b2 (f : Int32 → Int32 → Int32) (nx : Nat) (al : List (Option Value)) (st : List Value) (w : List va_E) : aq_S := match st with
  | .int y :: .int x :: r => some ((nx, al, .int (f x y) :: r, w), none)
  | _ => none
def aq_b2l (f : Int64 → Int64 → Int64) (nx : Nat) (al : List (Option Value)) (st : List Value) (w : List va_E) : aq_S := match st with
  | .long y :: .long x :: r => some ((nx, al, .long (f x y) :: r, w), none)
  | _ => none
def aq_shl (f : Int64 → Int32 → Int64) (nx : Nat) (al : List (Option Value)) (st : List Value) (w : List va_E) : aq_S := match st with
  | .int y :: .long x :: r => some ((nx, al, .long (f x y) :: r, w), none)
  | _ => none
def aq_cmp (nx : Nat) (al : List (Option Value)) (st : List Value) (w : List va_E) : aq_S := match st with
  | .long y :: .long x :: r => some ((nx, al, .int (lg_cmp x y) :: r, w), none)
  | _ => none
def aq_i2l (nx : Nat) (al : List (Option Value)) (st : List Value) (w : List va_E) : aq_S := match st with
  | .int x :: r => some ((nx, al, .long x.toInt64 :: r, w), none)
  | _ => none
def aq_l2i (nx : Nat) (al : List (Option Value)) (st : List Value) (w : List va_E) : aq_S := match st with
  | .long x :: r => some ((nx, al, .int x.toInt32 :: r, w), none)
  | _ => none
def aq_ldi (nx : Nat) (al : List (Option Value)) (st : List Value) (w : List va_E) (i : Nat) : aq_S := match al[i]? with
  | some (some (.int x)) => some ((nx, al, .int x :: st, w), none)
  | _ => none
def aq_ldl (nx : Nat) (al : List (Option Value)) (st : List Value) (w : List va_E) (i : Nat) : aq_S := match al[i]? with
  | some (some (.long x)) => some ((nx, al, .long x :: st, w), none)
  | _ => none
def aq_lda (nx : Nat) (al : List (Option Value)) (st : List Value) (w : List va_E) (i : Nat) : aq_S := match al[i]? with
  | some (some (.ref x)) => some ((nx, al, .ref x :: st, w), none)
  | _ => none
def aq_sti (nx : Nat) (al : List (Option Value)) (st : List Value) (w : List va_E) (i : Nat) : aq_S := match Nat.blt i al.length, st with
  | true, .int x :: r => some ((nx, aq_s1 al i (.int x), r, w), none)
  | _, _ => none
def aq_stl (nx : Nat) (al : List (Option Value)) (st : List Value) (w : List va_E) (i : Nat) : aq_S := match Nat.blt (i + 1) al.length, st with
  | true, .long x :: r => some ((nx, aq_s2 al i (.long x), r, w), none)
  | _, _ => none
def aq_sta (nx : Nat) (al : List (Option Value)) (st : List Value) (w : List va_E) (i : Nat) : aq_S := match Nat.blt i al.length, st with
  | true, .ref x :: r => some ((nx, aq_s1 al i (.ref x), r, w), none)
  | _, _ => none
def aq_inc (nx : Nat) (k : Int32) (al : List (Option Value)) (st : List Value) (w : List va_E) (i : Nat) : aq_S := match Nat.blt i al.length, al[i]? with
  | true, some (some (.int x)) => some ((nx, aq_s1 al i (.int (x + k)), st, w), none)
  | _, _ => none
def aq_dup (nx : Nat) (al : List (Option Value)) (st : List Value) (w : List va_E) : aq_S := match st with
  | .int x :: r => some ((nx, al, .int x :: .int x :: r, w), none)
  | .ref x :: r => some ((nx, al, .ref x :: .ref x :: r, w), none)
  | _ => none
def aq_pop (nx : Nat) (al : List (Option Value)) (st : List Value) (w : List va_E) : aq_S := match st with
  | .int _ :: r => some ((nx, al, r, w), none)
  | .ref _ :: r => some ((nx, al, r, w), none)
  | _ => none
def aq_dup2 (nx : Nat) (al : List (Option Value)) (st : List Value) (w : List va_E) : aq_S := match st with
  | .int x :: .ref y :: r => some ((nx, al, .int x :: .ref y :: .int x :: .ref y :: r, w), none)
  | .long x :: r => some ((nx, al, .long x :: .long x :: r, w), none)
  | _ => none
def aq_dx1 (nx : Nat) (al : List (Option Value)) (st : List Value) (w : List va_E) : aq_S := match st with
  | .int x :: .ref y :: r => some ((nx, al, .int x :: .ref y :: .int x :: r, w), none)
  | .int x :: .int y :: r => some ((nx, al, .int x :: .int y :: .int x :: r, w), none)
  | _ => none
def aq_gf (nx : Nat) (fo : Option (Nat × Nat)) (al : List (Option Value)) (st : List Value) (w : List va_E) : aq_S := match fo, st with
  | some (ci, k), .ref q :: r => match w[q]? with
    | some (.inr (c2, fs)) => match Nat.beq c2 ci, fs[k]? with
      | true, some v => some ((nx, al, v :: r, w), none)
      | _, _ => none
    | _ => none
  | _, _ => none
/-- is the field an int that may be written at any time -/
def aq_fi (ci k : Nat) : Bool := match vwCl[ci]? with
  | some r => !(r.2.1 k).2.2.2 && decide (parseFieldDescriptor (r.2.1 k).2.2.1 = some .int)
  | none => false
def aq_pf (nx : Nat) (fo : Option (Nat × Nat)) (al : List (Option Value)) (st : List Value) (w : List va_E) : aq_S := match fo, st with
  | some (ci, k), .int x :: .ref q :: r => match w[q]? with
    | some (.inr (c2, fs)) => match Nat.beq c2 ci, Nat.blt k fs.length with
      | true, true => some ((nx, al, r, w.set q (.inr (ci, fs.set k (.int x)))), some (aq_fi ci k = true))
      | _, _ => none
    | _ => none
  | _, _ => none
def aq_iald (nx : Nat) (al : List (Option Value)) (st : List Value) (w : List va_E) : aq_S := match st with
  | .int i :: .ref q :: r => match w[q]? with
    | some (.inl (t, n, .inl f)) => match t with
      | 0 => some ((nx, al, .int (f i.toNatClampNeg) :: r, w), some (vp_in i n))
      | _ => none
    | _ => none
  | _ => none
def aq_lald (nx : Nat) (al : List (Option Value)) (st : List Value) (w : List va_E) : aq_S := match st with
  | .int i :: .ref q :: r => match w[q]? with
    | some (.inl (t, n, .inr (.inl f))) => match t with
      | 1 => some ((nx, al, .long (f i.toNatClampNeg) :: r, w), some (vp_in i n))
      | _ => none
    | _ => none
  | _ => none
def aq_iast (nx : Nat) (al : List (Option Value)) (st : List Value) (w : List va_E) : aq_S := match st with
  | .int x :: .int i :: .ref q :: r => match w[q]? with
    | some (.inl (t, n, .inl f)) => match t with
      | 0 => some ((nx, al, r, w.set q (.inl (0, n, .inl (upd f i.toNatClampNeg x)))), some (vp_in i n))
      | _ => none
    | _ => none
  | _ => none
def aq_last (nx : Nat) (al : List (Option Value)) (st : List Value) (w : List va_E) : aq_S := match st with
  | .long x :: .int i :: .ref q :: r => match w[q]? with
    | some (.inl (t, n, .inr (.inl f))) => match t with
      | 1 => some ((nx, al, r, w.set q (.inl (1, n, .inr (.inl (vp_updL f i.toNatClampNeg x))))), some (vp_in i n))
      | _ => none
    | _ => none
  | _ => none
def aq_alen (nx : Nat) (al : List (Option Value)) (st : List Value) (w : List va_E) : aq_S := match st with
  | .ref q :: r => match w[q]? with
    | some (.inl (t, n, _)) => match t with
      | 0 => some ((nx, al, .int (nI n) :: r, w), none)
      | 1 => some ((nx, al, .int (nI n) :: r, w), none)
      | _ => none
    | _ => none
  | _ => none
def aq_div (nx : Nat) (al : List (Option Value)) (st : List Value) (w : List va_E) : aq_S := match st with
  | .int y :: .int x :: r => some ((nx, al, .int (x / y) :: r, w), some (¬ y = 0))
  | _ => none
def aq_zald (nx : Nat) (al : List (Option Value)) (st : List Value) (w : List va_E) : aq_S := match st with
  | .int i :: .ref q :: r => match w[q]? with
    | some (.inl (t, n, .inl f)) => match t with
      | 2 => some ((nx, al, .int (f i.toNatClampNeg) :: r, w), some (vp_in i n))
      | _ => none
    | _ => none
  | _ => none
def aq_zast (nx : Nat) (al : List (Option Value)) (st : List Value) (w : List va_E) : aq_S := match st with
  | .int x :: .int i :: .ref q :: r => match w[q]? with
    | some (.inl (t, n, .inl f)) => match t with
      | 2 => some ((nx, al, r, w.set q (.inl (2, n, .inl (upd f i.toNatClampNeg (vp_nar .boolean x))))), some (vp_in i n))
      | _ => none
    | _ => none
  | _ => none
def aq_lc (n : Fin 2) : Int64 := match n with
  | 0 => 0
  | 1 => 1
def aq_op (mi : aq_M) (nx tg : Nat) (k : Int32) (ins : Instr) (al : List (Option Value)) (st : List Value) (w : List va_E) : aq_S := match ins with
  | .iconst _ => some ((nx, al, .int k :: st, w), none)
  | .bipush _ => some ((nx, al, .int k :: st, w), none)
  | .sipush _ => some ((nx, al, .int k :: st, w), none)
  | .lconst n => some ((nx, al, .long (aq_lc n) :: st, w), none)
  | .ldc2_w i => match aq_lg (aq_j mi) i with
    | some v => some ((nx, al, .long v :: st, w), none)
    | none => none
  | .iload i => aq_ldi nx al st w i
  | .iload_n i => aq_ldi nx al st w i.val
  | .lload i => aq_ldl nx al st w i
  | .lload_n i => aq_ldl nx al st w i.val
  | .aload i => aq_lda nx al st w i
  | .aload_n i => aq_lda nx al st w i.val
  | .istore i => aq_sti nx al st w i
  | .istore_n i => aq_sti nx al st w i.val
  | .lstore i => aq_stl nx al st w i
  | .lstore_n i => aq_stl nx al st w i.val
  | .astore i => aq_sta nx al st w i
  | .astore_n i => aq_sta nx al st w i.val
  | .iinc i _ => aq_inc nx k al st w i
  | .iadd => aq_b2 (fun x y => x + y) nx al st w
  | .isub => aq_b2 (fun x y => x - y) nx al st w
  | .imul => aq_b2 (fun x y => x * y) nx al st w
  | .iand => aq_b2 (fun x y => x &&& y) nx al st w
  | .ior => aq_b2 (fun x y => x ||| y) nx al st w
  | .ixor => aq_b2 (fun x y => x ^^^ y) nx al st w
  | .iushr => aq_b2 (fun x y => (x.toUInt32 >>> (y.toUInt32 &&& Int32.toUInt32 31)).toInt32) nx al st w
  | .idiv => aq_div nx al st w
  | .ldc_w _ => some ((nx, al, .int k :: st, w), none)
  | .ladd => aq_b2l (fun x y => x + y) nx al st w
  | .lsub => aq_b2l (fun x y => x - y) nx al st w
  | .land => aq_b2l (fun x y => x &&& y) nx al st w
  | .lor => aq_b2l (fun x y => x ||| y) nx al st w
  | .lxor => aq_b2l (fun x y => x ^^^ y) nx al st w
  | .lshl => aq_shl (fun x y => x <<< (y.toInt64 &&& 63)) nx al st w
  | .lushr => aq_shl (fun x y => (x.toUInt64 >>> (y.toInt64.toUInt64 &&& Int64.toUInt64 63)).toInt64) nx al st w
  | .lshr => aq_shl (fun x y => x >>> (y.toInt64 &&& 63)) nx al st w
  | .lcmp => aq_cmp nx al st w
  | .i2l => aq_i2l nx al st w
  | .l2i => aq_l2i nx al st w
  | .dup => aq_dup nx al st w
  | .pop => aq_pop nx al st w
  | .dup2 => aq_dup2 nx al st w
  | .dup_x1 => aq_dx1 nx al st w
  | .getfield i => aq_gf nx (aq_fd (aq_f mi) i) al st w
  | .putfield i => aq_pf nx (aq_fd (aq_f mi) i) al st w
  | .iaload => aq_iald nx al st w
  | .laload => aq_lald nx al st w
  | .baload => aq_zald nx al st w
  | .bastore => aq_zast nx al st w
  | .iastore => aq_iast nx al st w
  | .lastore => aq_last nx al st w
  | .arraylength => aq_alen nx al st w
  | .goto _ => some ((tg, al, st, w), none)
  | _ => none
def aq_step (mi : aq_M) (c : aq_C) : aq_S := match aq_at (aq_t mi) c.1 with
  | none => none
  | some j => aq_op mi j.2.2.1 j.2.2.2.2 j.2.2.2.1 j.1 c.2.1 c.2.2.1 c.2.2.2
def aq_and (P Q : Option Prop) : Option Prop := match P, Q with
  | none, q => q
  | some p, none => some p
  | some p, some q => some (p ∧ q)
theorem aq_and_pp {P Q : Option Prop} (h : aq_pp (aq_and P Q)) : aq_pp P ∧ aq_pp Q := by
  cases P with
  | none => exact ⟨trivial, h⟩
  | some p => cases Q with
    | none => exact ⟨h, trivial⟩
    | some q => exact h
def aq_run (mi : aq_M) : Nat → aq_C → aq_S
  | 0, c => some (c, none)
  | n + 1, c => match aq_step mi c with
    | none => none
    | some (c1, P) => match aq_run mi n c1 with
      | none => none
      | some (c2, Q) => some (c2, aq_and P Q)
end
section
/-! THE MACHINE OF POSITIONS, 3: what a configuration comes to (AW), a method's contract (AM); the steps are sound -/
/-- how a method ends: it returns, or it throws the exception with that number -/
abbrev aq_O : Type := (Option Value) ⊕ Nat
def aq_mc (O : aq_O) : Nat := match O with
  | .inl _ => 0
  | .inr _ => 1
def aq_ms (O : aq_O) : Nat := match O with
  | .inl _ => 0
  | .inr _ => 6
def aq_mf (O : aq_O) : Nat := match O with
  | .inl _ => 0
  | .inr _ => 6
def aq_ml (O : aq_O) : Nat := match O with
  | .inl _ => 0
  | .inr _ => 96
def aq_rm (d : Nat) (O : aq_O) : Room := { frames := d + aq_mf O, cells := aq_mc O, slots := aq_ms O, locals := 28 * d + aq_ml O }
def aq_ws (mi : aq_M) : List Cond := Cond.code (aq_y mi) (aq_b mi) (aq_n mi) (aq_r mi) :: aq_TB
def aq_Fix (mi : aq_M) (p : Program) (l : Launch) (s : State) (m : MethodId) (args : Array Value) (meth : Method) (c : Code) : Prop :=
  p.tables.exec = Jvm.exec ∧ c.code = aq_b mi ∧ c.maxLocals = aq_n mi ∧ meth.sig.returnType = aq_r mi ∧ meth.locks = false ∧ s.vm.findClass (aq_y mi).cls = some m.cls ∧ (∀ w ∈ aq_TB, w.before args s = true) ∧ l.stackTraces = false ∧ ∀ x ∈ c.exceptionTable.toList, False
abbrev aq_ty (kt : Nat → Nat) : List (ClassId × FieldType) := [(kt 0, .int), (kt 1, .long), (kt 2, .boolean)]
def aq_Wo (D : va_G) (kt ad : Nat → Nat) (A : Nat → Prop) (w : List va_E) (s : State) (H : Heap) (locs : List Loc) : Prop :=
  va_K D vwCl (aq_ty kt) s ∧ va_P D vwCl (aq_w ad kt w) H ∧ va_D A (aq_w ad kt w) ∧ va_S A s.heap H locs
/-- what a throw needs of the start: Throwable's two statics, the class's texts -/
def aq_Ex (A : Nat → Prop) (U : State) : Prop := vx_Zq Bundle.tN "UNASSIGNED_STACK" Bundle.steD A U U.heap ∧ vx_Zq Bundle.tN "SUPPRESSED_SENTINEL" Bundle.listD A U U.heap ∧ (∀ q ∈ aq_str, ∃ a, vk_R "LockDesk" q.1 q.2 a U) ∧ ∀ w ∈ aq_ext, w.before #[] U = true
theorem aq_cd_warm {s U : State} {w : Cond} (hw : aq_cd w = true) (hW : s.WarmedH U.vm) (h : w.before #[] s = true) : w.before #[] U = true := by
  cases w with
  | castable a b =>
    have h1 : (Cond.castable a b).before #[] (s.setVm U.vm) = true := Cond.before_warmed hW (.castable a b) trivial h
    exact h1
  | declares x =>
    have h1 : (Cond.declares x).before #[] (s.setVm U.vm) = true := Cond.before_warmed hW (.declares x) trivial h
    exact h1
  | _ => cases hw
theorem aq_cd_any {s : State} {w : Cond} {a b : Array Value} (hw : aq_cd w = true) (h : w.before a s = true) : w.before b s = true := by
  cases w with
  | castable x y => exact h
  | declares x => exact h
  | _ => cases hw
def aq_Ao (A : Nat → Prop) (s : State) : Prop := (∀ q, s.heap.size ≤ q → A q) ∧ aq_Ex A s
theorem aq_Ex_call {A B : Nat → Prop} {s U : State} {H : Heap} {locs : List Loc} (h : aq_Ex A s) (hS : va_S A s.heap H locs) (hAB : ∀ q, B q → A q) (hW : s.WarmedH U.vm) (hU : U.heap = H) : aq_Ex B U := by
  subst hU
  exact ⟨((h.1.kept hS.2.1).narrow hAB).moved hW.alike, ((h.2.1.kept hS.2.1).narrow hAB).moved hW.alike, fun q hq => by
    obtain ⟨a, ha⟩ := h.2.2.1 q hq
    exact ⟨a, vk_R.warm hW ha⟩, fun w hw => aq_cd_warm (List.mem_filter.mp hw).2 hW (h.2.2.2 w hw)⟩
def aq_P (D : va_G) (kt ad : Nat → Nat) (as : List Value) (w : List va_E) (sz : Nat) : Array Value → State → Prop := fun a U => a = (as.map (aq_v ad)).toArray ∧ U.heap.size = sz ∧ va_P D vwCl (aq_w ad kt w) U.heap ∧ va_K D vwCl (aq_ty kt) U ∧ va_D (fun _ => True) (aq_w ad kt w) ∧ aq_Ex (va_A (aq_w ad kt w) sz) U
theorem aq_P_blind (D : va_G) (kt ad : Nat → Nat) (as : List Value) (w : List va_E) (sz : Nat) : FrameBlind (aq_P D kt ad as w sz) := fun a U g mk q => by
  obtain ⟨q0, q1, qP, qK, qD, qE⟩ := q
  exact ⟨q0, q1, qP, va_K.moved (u := U) (U := U.calling g mk a) (Vm.Alike.refl U.vm) qK, qD, vx_Zq.moved (u := U) (U := U.calling g mk a) (Vm.Alike.refl U.vm) qE.1, vx_Zq.moved (u := U) (U := U.calling g mk a) (Vm.Alike.refl U.vm) qE.2.1, fun q hq => by
    obtain ⟨b, hb⟩ := qE.2.2.1 q hq
    exact ⟨b, vk_R.same (u := U) (U := U.calling g mk a) rfl hb⟩, fun w hw => aq_cd_warm (s := U) (U := U.calling g mk a) (List.mem_filter.mp hw).2 (State.WarmedH.refl U) (qE.2.2.2 w hw)⟩
def aq_ex (x : Nat) : String := match x with
  | 0 => "java/lang/IndexOutOfBoundsException"
  | 1 => "java/lang/IllegalArgumentException"
  | _ => "java/lang/IllegalStateException"
def aq_R (O : aq_O) (D : va_G) (kt ad : Nat → Nat) (w : List va_E) (A : Nat → Prop) : Array Value → State → Outcome → State → Prop := fun _ st oc t => match O with
  | .inl v => oc = .returned (v.map (aq_v ad)) ∧ (va_P D vwCl (aq_w ad kt w) t.heap ∧ va_D A (aq_w ad kt w)) ∧ va_F A st t
  | .inr _ => False
def aq_XC (O : aq_O) (D : va_G) (kt ad : Nat → Nat) (w : List va_E) (A : Nat → Prop) : String → State → State → Prop := fun E st t => match O with
  | .inl _ => False
  | .inr x => E = aq_ex x ∧ (va_P D vwCl (aq_w ad kt w) t.heap ∧ va_D A (aq_w ad kt w)) ∧ va_F A st t
def aq_Q (O : aq_O) (D : va_G) (kt ad : Nat → Nat) (A : Nat → Prop) (w' : List va_E) (below : List Frame) (args : Array Value) (s : State) : State → Prop := vx_MQ below (aq_R O D kt ad w' A) (aq_XC O D kt ad w' A) args s (aq_mc O) (aq_ms O) A
/-- from this configuration of the method mi, with room for d frames more, it ends as O says, the world is w' -/
def AW (mi : aq_M) (d : Nat) (O : aq_O) (w' : List va_E) (k : aq_C) : Prop :=
  ∀ (p : Program) (l : Launch) (e : Env) (s : State) (m : MethodId) (args : Array Value) (below : List Frame) (meth : Method) (c : Code) (D : va_G) (kt ad : Nat → Nat) (A : Nat → Prop) (H : Heap) (locs : List Loc) (ls : Array Slot),
    aq_Fix mi p l s m args meth c → aq_Ao A s → aq_Wo D kt ad A k.2.2.2 s H locs → aq_Lo ad ls (aq_n mi) k.2.1 →
    W p l e (aq_rm d O) s m args below meth c H locs 0 0 (aq_Q O D kt ad A w' below args s) (F0 m k.1 ls (k.2.2.1.map (aq_v ad)))
/-- the contract: called with as in the world w, with room for d frames more, it ends as O says, the world is w' -/
def AM (mi : aq_M) (d : Nat) (O : aq_O) (as : List Value) (w w' : List va_E) : Prop :=
  ∀ (l : Launch) (D : va_G) (kt ad : Nat → Nat) (sz : Nat), l.stackTraces = false →
    vx_Met l (aq_y mi) (aq_ws mi) (aq_rm d O) (aq_P D kt ad as w sz) (aq_R O D kt ad w' (va_A (aq_w ad kt w) sz)) (aq_XC O D kt ad w' (va_A (aq_w ad kt w) sz)) (aq_mc O) (aq_ms O) (va_A (aq_w ad kt w) sz)
section AQ1
variable {mi : aq_M} {d : Nat} {O : aq_O} {w w' : List va_E} {pc nx : Nat} {al : List (Option Value)} {st st1 : List Value}
/-- a step that leaves locals and world -/
theorem aq_read (h : ∀ {p : Program} {l : Launch} {e : Env} {s : State} {m : MethodId} {args : Array Value} {below : List Frame} {meth : Method} {c : Code} {D : va_G} {kt ad : Nat → Nat} {A : Nat → Prop} {H : Heap} {locs : List Loc} {ls : Array Slot} {Q : State → Prop},
      aq_Fix mi p l s m args meth c → aq_Wo D kt ad A w s H locs → aq_Lo ad ls (aq_n mi) al → W p l e (aq_rm d O) s m args below meth c H locs 0 0 Q (F0 m nx ls (st1.map (aq_v ad))) → W p l e (aq_rm d O) s m args below meth c H locs 0 0 Q (F0 m pc ls (st.map (aq_v ad))))
    (k : AW mi d O w' (nx, al, st1, w)) : AW mi d O w' (pc, al, st, w) :=
  fun p l e s m args below meth c D kt ad A H locs ls hF hA hW hL => h hF hW hL (k p l e s m args below meth c D kt ad A H locs ls hF hA hW hL)
/-- fewer locals are known -/
theorem aq_less {al' : List (Option Value)} (hn : al'.length = al.length) (hle : ∀ (j : Nat) (v : Value), al'[j]? = some (some v) → al[j]? = some (some v)) (k : AW mi d O w' (pc, al', st, w)) : AW mi d O w' (pc, al, st, w) :=
  fun p l e s m args below meth c D kt ad A H locs ls hF hA hW hL => k p l e s m args below meth c D kt ad A H locs ls hF hA hW (aq_Lo_le hL hn hle)
theorem aq_drop (i : Nat) (k : AW mi d O w' (pc, al.set i none, st, w)) : AW mi d O w' (pc, al, st, w) := aq_less (by simp) (fun _ _ h => (aq_set_none h).2) k
end AQ1
theorem aq_l1 {i : Instr} {len n : Nat} (h : aq_free i = true ∨ len = aq_len i) (h1 : aq_free i = false) (h2 : aq_len i = n) : len = n := by
  rcases h with h | h
  · rw [h1] at h; cases h
  · rw [h, h2]
theorem aq_lc_ok : ∀ n : Fin 2, Int64.ofNat (n : Nat) = aq_lc n := by decide
set_option maxHeartbeats 4000000 in
theorem aq_step_sound {mi : aq_M} (hok : aq_okM mi = true) (hcl : ∀ (ci : Nat) (r : vw_C), vwCl[ci]? = some r → aq_okK r) {d : Nat} {O : aq_O} {w' : List va_E} {c0 c1 : aq_C} {P : Option Prop} (h : aq_step mi c0 = some (c1, P)) (hP : aq_pp P) (k : AW mi d O w' c1) : AW mi d O w' c0 := by
  obtain ⟨pc, al, st, w⟩ := c0
  unfold aq_step at h
  split at h
  · cases h
  · rename_i j hat
    obtain ⟨ins, len, nx, kc, tg⟩ := j
    obtain ⟨hdec, hlen, hnx, hkc, htg⟩ := aq_ok_at hok hat
    dsimp only at hdec hlen hnx hkc htg h
    cases ins with
    | iconst n =>
      cases h
      have e := aq_l1 hlen rfl rfl; subst e; subst hnx
      exact aq_read (fun hF _ _ kk => lv_iconst hF.1 hF.2.1 hdec (by simpa [aq_okC] using hkc) kk) k
    | bipush n =>
      cases h
      have e := aq_l1 hlen rfl rfl; subst e; subst hnx
      exact aq_read (fun hF _ _ kk => lv_bipush hF.1 hF.2.1 hdec (by simpa [aq_okC] using hkc) kk) k
    | sipush n =>
      cases h
      have e := aq_l1 hlen rfl rfl; subst e; subst hnx
      exact aq_read (fun hF _ _ kk => lv_sipush hF.1 hF.2.1 hdec (by simpa [aq_okC] using hkc) kk) k
    | lconst n =>
      cases h
      have e := aq_l1 hlen rfl rfl; subst e; subst hnx
      exact aq_read (fun hF _ _ kk => lv_lconst hF.1 hF.2.1 hdec (aq_lc_ok n) kk) k
    | ldc2_w i =>
      unfold aq_op at h
      dsimp only at h
      split at h
      · rename_i v hv
        cases h
        have e := aq_l1 hlen rfl rfl; subst e; subst hnx
        exact aq_read (fun hF _ _ kk => lv_ldc2 hF.1 hF.2.1 hF.2.2.2.2.2.1 (hF.2.2.2.2.2.2.1 _ (aq_ok_j hok hv)) hdec kk) k
      · cases h
    | iload i =>
      unfold aq_op aq_ldi at h
      dsimp only at h
      split at h
      · rename_i x hx
        cases h
        have e := aq_l1 hlen rfl rfl; subst e; subst hnx
        exact aq_read (fun hF _ hL kk => lv_iload hF.1 hF.2.1 hdec (aq_Lo_at hL hx) kk) k
      · cases h
    | iload_n i =>
      unfold aq_op aq_ldi at h
      dsimp only at h
      split at h
      · rename_i x hx
        cases h
        have e := aq_l1 hlen rfl rfl; subst e; subst hnx
        exact aq_read (fun hF _ hL kk => lv_iload_n hF.1 hF.2.1 hdec rfl (aq_Lo_at hL hx) kk) k
      · cases h
    | lload i =>
      unfold aq_op aq_ldl at h
      dsimp only at h
      split at h
      · rename_i x hx
        cases h
        have e := aq_l1 hlen rfl rfl; subst e; subst hnx
        exact aq_read (fun hF _ hL kk => lv_lload hF.1 hF.2.1 hdec (aq_Lo_at hL hx) kk) k
      · cases h
    | lload_n i =>
      unfold aq_op aq_ldl at h
      dsimp only at h
      split at h
      · rename_i x hx
        cases h
        have e := aq_l1 hlen rfl rfl; subst e; subst hnx
        exact aq_read (fun hF _ hL kk => lv_lload_n hF.1 hF.2.1 hdec rfl (aq_Lo_at hL hx) kk) k
      · cases h
    | aload i =>
      unfold aq_op aq_lda at h
      dsimp only at h
      split at h
      · rename_i x hx
        cases h
        have e := aq_l1 hlen rfl rfl; subst e; subst hnx
        exact aq_read (fun hF _ hL kk => lv_aload hF.1 hF.2.1 hdec (aq_Lo_at hL hx) kk) k
      · cases h
    | aload_n i =>
      unfold aq_op aq_lda at h
      dsimp only at h
      split at h
      · rename_i x hx
        cases h
        have e := aq_l1 hlen rfl rfl; subst e; subst hnx
        exact aq_read (fun hF _ hL kk => lv_aload_n hF.1 hF.2.1 hdec rfl (aq_Lo_at hL hx) kk) k
      · cases h
    | istore i =>
      unfold aq_op aq_sti at h
      dsimp only at h
      split at h
      · rename_i x r hi
        cases h
        have e := aq_l1 hlen rfl rfl; subst e; subst hnx
        intro p l e s m args below meth c D kt ad A H locs ls hF hA hW hL
        have hi' : i < aq_n mi := by rw [← hL.1]; simpa using hi
        exact lv_istore hF.1 hF.2.1 hdec hL.2 hi' rfl (fun ls' h' => k p l e s m args below meth c D kt ad A H locs ls' hF hA hW (aq_Lo_s1 hL h'))
      · cases h
    | istore_n i =>
      unfold aq_op aq_sti at h
      dsimp only at h
      split at h
      · rename_i x r hi
        cases h
        have e := aq_l1 hlen rfl rfl; subst e; subst hnx
        intro p l e s m args below meth c D kt ad A H locs ls hF hA hW hL
        have hi' : i.val < aq_n mi := by rw [← hL.1]; simpa using hi
        exact lv_istore_n hF.1 hF.2.1 hdec rfl hL.2 hi' rfl (fun ls' h' => k p l e s m args below meth c D kt ad A H locs ls' hF hA hW (aq_Lo_s1 hL h'))
      · cases h
    | lstore i =>
      unfold aq_op aq_stl at h
      dsimp only at h
      split at h
      · rename_i x r hi
        cases h
        have e := aq_l1 hlen rfl rfl; subst e; subst hnx
        intro p l e s m args below meth c D kt ad A H locs ls hF hA hW hL
        have hi' : i + 1 < aq_n mi := by rw [← hL.1]; simpa using hi
        exact lv_lstore hF.1 hF.2.1 hdec hL.2 hi' rfl (fun ls' h' => k p l e s m args below meth c D kt ad A H locs ls' hF hA hW (aq_Lo_s2 hL h'))
      · cases h
    | lstore_n i =>
      unfold aq_op aq_stl at h
      dsimp only at h
      split at h
      · rename_i x r hi
        cases h
        have e := aq_l1 hlen rfl rfl; subst e; subst hnx
        intro p l e s m args below meth c D kt ad A H locs ls hF hA hW hL
        have hi' : i.val + 1 < aq_n mi := by rw [← hL.1]; simpa using hi
        exact lv_lstore_n hF.1 hF.2.1 hdec rfl hL.2 hi' rfl (fun ls' h' => k p l e s m args below meth c D kt ad A H locs ls' hF hA hW (aq_Lo_s2 hL h'))
      · cases h
    | astore i =>
      unfold aq_op aq_sta at h
      dsimp only at h
      split at h
      · rename_i x r hi
        cases h
        have e := aq_l1 hlen rfl rfl; subst e; subst hnx
        intro p l e s m args below meth c D kt ad A H locs ls hF hA hW hL
        have hi' : i < aq_n mi := by rw [← hL.1]; simpa using hi
        exact lv_astore hF.1 hF.2.1 hdec hL.2 hi' rfl (fun ls' h' => k p l e s m args below meth c D kt ad A H locs ls' hF hA hW (aq_Lo_s1 hL h'))
      · cases h
    | astore_n i =>
      unfold aq_op aq_sta at h
      dsimp only at h
      split at h
      · rename_i x r hi
        cases h
        have e := aq_l1 hlen rfl rfl; subst e; subst hnx
        intro p l e s m args below meth c D kt ad A H locs ls hF hA hW hL
        have hi' : i.val < aq_n mi := by rw [← hL.1]; simpa using hi
        exact lv_astore_n hF.1 hF.2.1 hdec rfl hL.2 hi' rfl (fun ls' h' => k p l e s m args below meth c D kt ad A H locs ls' hF hA hW (aq_Lo_s1 hL h'))
      · cases h
    | iinc i n =>
      unfold aq_op aq_inc at h
      dsimp only at h
      split at h
      · rename_i x hi hx
        cases h
        have e := aq_l1 hlen rfl rfl; subst e; subst hnx
        intro p l e s m args below meth c D kt ad A H locs ls hF hA hW hL
        have hi' : i < aq_n mi := by rw [← hL.1]; simpa using hi
        obtain ⟨q, hq⟩ := List.getElem?_of_mem (aq_l_in (ad := ad) hx)
        have e2 : Int32.ofInt n = kc := by simpa [aq_okC] using hkc
        exact lv_iinc (v := x + kc) hF.1 hF.2.1 hdec hL.2 (k := q) hq (by rw [e2]) hi' rfl (fun ls' h' => k p l e s m args below meth c D kt ad A H locs ls' hF hA hW (aq_Lo_s1 hL h'))
      · cases h
    | iadd =>
      unfold aq_op aq_b2 at h
      dsimp only at h
      split at h
      · cases h
        have e := aq_l1 hlen rfl rfl; subst e; subst hnx
        exact aq_read (fun hF _ _ kk => lv_iadd hF.1 hF.2.1 hdec kk) k
      · cases h
    | isub =>
      unfold aq_op aq_b2 at h
      dsimp only at h
      split at h
      · cases h
        have e := aq_l1 hlen rfl rfl; subst e; subst hnx
        exact aq_read (fun hF _ _ kk => lv_isub hF.1 hF.2.1 hdec kk) k
      · cases h
    | imul =>
      unfold aq_op aq_b2 at h
      dsimp only at h
      split at h
      · cases h
        have e := aq_l1 hlen rfl rfl; subst e; subst hnx
        exact aq_read (fun hF _ _ kk => lv_imul hF.1 hF.2.1 hdec kk) k
      · cases h
    | iand =>
      unfold aq_op aq_b2 at h
      dsimp only at h
      split at h
      · cases h
        have e := aq_l1 hlen rfl rfl; subst e; subst hnx
        exact aq_read (fun hF _ _ kk => lv_iand hF.1 hF.2.1 hdec kk) k
      · cases h
    | ior =>
      unfold aq_op aq_b2 at h
      dsimp only at h
      split at h
      · cases h
        have e := aq_l1 hlen rfl rfl; subst e; subst hnx
        exact aq_read (fun hF _ _ kk => lv_ior hF.1 hF.2.1 hdec kk) k
      · cases h
    | ixor =>
      unfold aq_op aq_b2 at h
      dsimp only at h
      split at h
      · cases h
        have e := aq_l1 hlen rfl rfl; subst e; subst hnx
        exact aq_read (fun hF _ _ kk => lv_ixor hF.1 hF.2.1 hdec kk) k
      · cases h
    | iushr =>
      unfold aq_op aq_b2 at h
      dsimp only at h
      split at h
      · cases h
        have e := aq_l1 hlen rfl rfl; subst e; subst hnx
        exact aq_read (fun hF _ _ kk => lv_iushr hF.1 hF.2.1 hdec rfl kk) k
      · cases h
    | idiv =>
      unfold aq_op aq_div at h
      dsimp only at h
      split at h
      · cases h
        have e := aq_l1 hlen rfl rfl; subst e; subst hnx
        exact aq_read (fun hF _ _ kk => lv_idiv hF.1 hF.2.1 hdec hP kk) k
      · cases h
    | ldc_w i =>
      cases h
      have hw := aq_ok_w hok hat
      have e := aq_l1 hlen rfl rfl; subst e; subst hnx
      exact aq_read (fun hF _ _ kk => lv_ldcw hF.1 hF.2.1 hF.2.2.2.2.2.1 (hF.2.2.2.2.2.2.1 _ hw) hdec kk) k
    | ladd =>
      unfold aq_op aq_b2l at h
      dsimp only at h
      split at h
      · cases h
        have e := aq_l1 hlen rfl rfl; subst e; subst hnx
        exact aq_read (fun hF _ _ kk => lv_ladd hF.1 hF.2.1 hdec kk) k
      · cases h
    | lsub =>
      unfold aq_op aq_b2l at h
      dsimp only at h
      split at h
      · cases h
        have e := aq_l1 hlen rfl rfl; subst e; subst hnx
        exact aq_read (fun hF _ _ kk => lv_lsub hF.1 hF.2.1 hdec kk) k
      · cases h
    | land =>
      unfold aq_op aq_b2l at h
      dsimp only at h
      split at h
      · cases h
        have e := aq_l1 hlen rfl rfl; subst e; subst hnx
        exact aq_read (fun hF _ _ kk => lv_land hF.1 hF.2.1 hdec kk) k
      · cases h
    | lor =>
      unfold aq_op aq_b2l at h
      dsimp only at h
      split at h
      · cases h
        have e := aq_l1 hlen rfl rfl; subst e; subst hnx
        exact aq_read (fun hF _ _ kk => lv_lor hF.1 hF.2.1 hdec kk) k
      · cases h
    | lxor =>
      unfold aq_op aq_b2l at h
      dsimp only at h
      split at h
      · cases h
        have e := aq_l1 hlen rfl rfl; subst e; subst hnx
        exact aq_read (fun hF _ _ kk => lv_lxor hF.1 hF.2.1 hdec kk) k
      · cases h
    | lshl =>
      unfold aq_op aq_shl at h
      dsimp only at h
      split at h
      · cases h
        have e := aq_l1 hlen rfl rfl; subst e; subst hnx
        exact aq_read (fun hF _ _ kk => lv_lshl hF.1 hF.2.1 hdec rfl kk) k
      · cases h
    | lushr =>
      unfold aq_op aq_shl at h
      dsimp only at h
      split at h
      · cases h
        have e := aq_l1 hlen rfl rfl; subst e; subst hnx
        exact aq_read (fun hF _ _ kk => lv_lushr hF.1 hF.2.1 hdec rfl kk) k
      · cases h
    | lshr =>
      unfold aq_op aq_shl at h
      dsimp only at h
      split at h
      · cases h
        have e := aq_l1 hlen rfl rfl; subst e; subst hnx
        exact aq_read (fun hF _ _ kk => lv_lshr hF.1 hF.2.1 hdec rfl kk) k
      · cases h
    | lcmp =>
      unfold aq_op aq_cmp at h
      dsimp only at h
      split at h
      · cases h
        have e := aq_l1 hlen rfl rfl; subst e; subst hnx
        exact aq_read (fun hF _ _ kk => W.lcmp hF.1 hF.2.1 hdec kk) k
      · cases h
    | i2l =>
      unfold aq_op aq_i2l at h
      dsimp only at h
      split at h
      · cases h
        have e := aq_l1 hlen rfl rfl; subst e; subst hnx
        exact aq_read (fun hF _ _ kk => lv_i2l hF.1 hF.2.1 hdec rfl kk) k
      · cases h
    | l2i =>
      unfold aq_op aq_l2i at h
      dsimp only at h
      split at h
      · cases h
        have e := aq_l1 hlen rfl rfl; subst e; subst hnx
        exact aq_read (fun hF _ _ kk => lv_l2i hF.1 hF.2.1 hdec rfl kk) k
      · cases h
    | dup =>
      unfold aq_op aq_dup at h
      dsimp only at h
      split at h
      · cases h
        have e := aq_l1 hlen rfl rfl; subst e; subst hnx
        exact aq_read (fun hF _ _ kk => lv_dup hF.1 hF.2.1 hdec rfl kk) k
      · cases h
        have e := aq_l1 hlen rfl rfl; subst e; subst hnx
        exact aq_read (fun hF _ _ kk => lv_dup hF.1 hF.2.1 hdec rfl kk) k
      · cases h
    | pop =>
      unfold aq_op aq_pop at h
      dsimp only at h
      split at h
      · cases h
        have e := aq_l1 hlen rfl rfl; subst e; subst hnx
        exact aq_read (fun hF _ _ kk => lv_pop hF.1 hF.2.1 hdec rfl kk) k
      · cases h
        have e := aq_l1 hlen rfl rfl; subst e; subst hnx
        exact aq_read (fun hF _ _ kk => lv_pop hF.1 hF.2.1 hdec rfl kk) k
      · cases h
    | dup2 =>
      unfold aq_op aq_dup2 at h
      dsimp only at h
      split at h
      · cases h
        have e := aq_l1 hlen rfl rfl; subst e; subst hnx
        exact aq_read (fun hF _ _ kk => lv_dup2_11 hF.1 hF.2.1 hdec rfl rfl kk) k
      · cases h
        have e := aq_l1 hlen rfl rfl; subst e; subst hnx
        exact aq_read (fun hF _ _ kk => lv_dup2_2 hF.1 hF.2.1 hdec rfl kk) k
      · cases h
    | dup_x1 =>
      unfold aq_op aq_dx1 at h
      dsimp only at h
      split at h
      · cases h
        have e := aq_l1 hlen rfl rfl; subst e; subst hnx
        exact aq_read (fun hF _ _ kk => lv_dup_x1 hF.1 hF.2.1 hdec rfl rfl kk) k
      · cases h
        have e := aq_l1 hlen rfl rfl; subst e; subst hnx
        exact aq_read (fun hF _ _ kk => lv_dup_x1 hF.1 hF.2.1 hdec rfl rfl kk) k
      · cases h
    | getfield i =>
      unfold aq_op aq_gf at h
      dsimp only at h
      split at h
      · rename_i ci f q r hfo
        split at h
        · rename_i c2 fs hw
          split at h
          · rename_i v hc2 hv
            cases h
            have e := aq_l1 hlen rfl rfl; subst e; subst hnx
            have e2 := Nat.eq_of_beq_eq_true hc2
            subst e2
            obtain ⟨rr, hr, hk, hl⟩ := aq_ok_f hok hfo
            obtain ⟨k1, k2, k3⟩ := hcl _ _ hr
            refine aq_read (fun {p l e s m args below meth c D kt ad A H locs ls Q} hF hW _ kk => ?_) k
            exact va_get (D := D) (ci := c2) (v := aq_v ad v) (C := rr.1) (T := rr.2.1) (N := rr.2.2) hF.1 hF.2.1 hF.2.2.2.2.2.2.1 k1 hF.2.2.2.2.2.1 hW.1 hW.2.1 q (aq_w_at hw) hr f hk (hF.2.2.2.2.2.2.1 _ hl) (fun _ h9 => h9) (by rw [List.getElem?_map, hv]; rfl) hdec kk
          · cases h
        · cases h
      · cases h
    | putfield i =>
      unfold aq_op aq_pf at h
      dsimp only at h
      split at h
      · rename_i ci f x q r hfo
        split at h
        · rename_i c2 fs hw
          split at h
          · rename_i hc2 hlt
            cases h
            have e := aq_l1 hlen rfl rfl; subst e; subst hnx
            have e2 := Nat.eq_of_beq_eq_true hc2
            subst e2
            obtain ⟨rr, hr, hk, hl⟩ := aq_ok_f hok hfo
            obtain ⟨k1, k2, k3⟩ := hcl _ _ hr
            have hfi : aq_fi c2 f = true := hP
            unfold aq_fi at hfi
            rw [hr] at hfi
            simp only [Bool.and_eq_true, Bool.not_eq_true', decide_eq_true_eq] at hfi
            intro p l e s m args below meth c D kt ad A H locs ls hF hA hW hL
            have hlt' : f < (fs.map (aq_v ad)).length := by rw [List.length_map]; simpa using hlt
            refine va_put (D := D) (ci := c2) (v := .int x) (ty := .int) (C := rr.1) (T := rr.2.1) (N := rr.2.2) hF.1 hF.2.1 hF.2.2.2.2.2.2.1 k1 (fun j => (parseFieldDescriptor (rr.2.1 j).2.2.1).getD .int) (fun j hj => ?_) k3 hF.2.2.2.2.2.1 hW.1 hW.2.1 hW.2.2.1 hW.2.2.2 q (aq_w_at hw) hr f hk (hF.2.2.2.2.2.2.1 _ hl) (fun _ h9 => h9) hfi.1 hfi.2 rfl rfl hlt' hdec (fun H1 locs1 hP1 hD1 hS1 => ?_)
            · have h7 := k2 j hj
              cases h8 : parseFieldDescriptor (rr.2.1 j).2.2.1 with
              | none => rw [h8] at h7; cases h7
              | some ty => rfl
            · have e3 : (aq_w ad kt w).set q (ad q, .inr (c2, (fs.map (aq_v ad)).set f (.int x))) = aq_w ad kt (w.set q (.inr (c2, fs.set f (.int x)))) := by
                rw [aq_w_set]
                simp only [aq_e, List.map_set, aq_v]
              rw [e3] at hP1 hD1
              exact k p l e s m args below meth c D kt ad A H1 locs1 ls hF hA ⟨hW.1, hP1, hD1, hS1⟩ hL
          · cases h
        · cases h
      · cases h
    | iaload =>
      unfold aq_op aq_iald at h
      dsimp only at h
      split at h
      · split at h
        · rename_i t n f hw
          split at h
          · cases h
            have e := aq_l1 hlen rfl rfl; subst e; subst hnx
            exact aq_read (fun hF hW _ kk => va_iald hF.1 hF.2.1 hW.1 hW.2.1 _ 0 (aq_w_at hw) rfl hP hdec kk) k
          · cases h
        · cases h
      · cases h
    | laload =>
      unfold aq_op aq_lald at h
      dsimp only at h
      split at h
      · split at h
        · rename_i t n f hw
          split at h
          · cases h
            have e := aq_l1 hlen rfl rfl; subst e; subst hnx
            exact aq_read (fun hF hW _ kk => va_lald hF.1 hF.2.1 hW.1 hW.2.1 _ 1 (aq_w_at hw) rfl hP hdec kk) k
          · cases h
        · cases h
      · cases h
    | baload =>
      unfold aq_op aq_zald at h
      dsimp only at h
      split at h
      · split at h
        · rename_i t n f hw
          split at h
          · cases h
            have e := aq_l1 hlen rfl rfl; subst e; subst hnx
            exact aq_read (fun hF hW _ kk => va_zald hF.1 hF.2.1 hW.1 hW.2.1 _ 2 (aq_w_at hw) rfl hP hdec kk) k
          · cases h
        · cases h
      · cases h
    | bastore =>
      unfold aq_op aq_zast at h
      dsimp only at h
      split at h
      · rename_i x i q r
        split at h
        · rename_i t n f hw
          split at h
          · cases h
            have e := aq_l1 hlen rfl rfl; subst e; subst hnx
            intro p l e s m args below meth c D kt ad A H locs ls hF hA hW hL
            refine va_zast hF.1 hF.2.1 hW.1 hW.2.1 hW.2.2.1 hW.2.2.2 q 2 (aq_w_at hw) rfl hP hdec (fun H1 locs1 hP1 hD1 hS1 => ?_)
            have e3 : (aq_w ad kt w).set q (ad q, .inl (kt 2, n, .inl (upd f i.toNatClampNeg (vp_nar .boolean x)))) = aq_w ad kt (w.set q (.inl (2, n, .inl (upd f i.toNatClampNeg (vp_nar .boolean x))))) := by
              rw [aq_w_set]
              rfl
            rw [e3] at hP1 hD1
            exact k p l e s m args below meth c D kt ad A H1 locs1 ls hF hA ⟨hW.1, hP1, hD1, hS1⟩ hL
          · cases h
        · cases h
      · cases h
    | iastore =>
      unfold aq_op aq_iast at h
      dsimp only at h
      split at h
      · rename_i x i q r
        split at h
        · rename_i t n f hw
          split at h
          · cases h
            have e := aq_l1 hlen rfl rfl; subst e; subst hnx
            intro p l e s m args below meth c D kt ad A H locs ls hF hA hW hL
            refine va_iast hF.1 hF.2.1 hW.1 hW.2.1 hW.2.2.1 hW.2.2.2 q 0 (aq_w_at hw) rfl hP hdec (fun H1 locs1 hP1 hD1 hS1 => ?_)
            have e3 : (aq_w ad kt w).set q (ad q, .inl (kt 0, n, .inl (upd f i.toNatClampNeg x))) = aq_w ad kt (w.set q (.inl (0, n, .inl (upd f i.toNatClampNeg x)))) := by
              rw [aq_w_set]
              rfl
            rw [e3] at hP1 hD1
            exact k p l e s m args below meth c D kt ad A H1 locs1 ls hF hA ⟨hW.1, hP1, hD1, hS1⟩ hL
          · cases h
        · cases h
      · cases h
    | lastore =>
      unfold aq_op aq_last at h
      dsimp only at h
      split at h
      · rename_i x i q r
        split at h
        · rename_i t n f hw
          split at h
          · cases h
            have e := aq_l1 hlen rfl rfl; subst e; subst hnx
            intro p l e s m args below meth c D kt ad A H locs ls hF hA hW hL
            refine va_last hF.1 hF.2.1 hW.1 hW.2.1 hW.2.2.1 hW.2.2.2 q 1 (aq_w_at hw) rfl hP hdec (fun H1 locs1 hP1 hD1 hS1 => ?_)
            have e3 : (aq_w ad kt w).set q (ad q, .inl (kt 1, n, .inr (.inl (vp_updL f i.toNatClampNeg x)))) = aq_w ad kt (w.set q (.inl (1, n, .inr (.inl (vp_updL f i.toNatClampNeg x))))) := by
              rw [aq_w_set]
              rfl
            rw [e3] at hP1 hD1
            exact k p l e s m args below meth c D kt ad A H1 locs1 ls hF hA ⟨hW.1, hP1, hD1, hS1⟩ hL
          · cases h
        · cases h
      · cases h
    | arraylength =>
      unfold aq_op aq_alen at h
      dsimp only at h
      split at h
      · split at h
        · rename_i t n f hw
          split at h
          · cases h
            have e := aq_l1 hlen rfl rfl; subst e; subst hnx
            exact aq_read (fun hF hW _ kk => va_alen hF.1 hF.2.1 hW.1 hW.2.1 _ 0 (aq_w_at hw) rfl rfl hdec kk) k
          · cases h
            have e := aq_l1 hlen rfl rfl; subst e; subst hnx
            exact aq_read (fun hF hW _ kk => va_alen hF.1 hF.2.1 hW.1 hW.2.1 _ 1 (aq_w_at hw) rfl rfl hdec kk) k
          · cases h
        · cases h
      · cases h
    | goto o =>
      cases h
      have e := aq_l1 hlen rfl rfl; subst e; subst hnx
      exact aq_read (fun hF _ _ kk => lv_goto hF.1 hF.2.1 hdec (by simpa [aq_okT] using htg) kk) k
    | _ => cases h
end
section
/-! THE MACHINE OF POSITIONS, 4: runs, branches, calls, ends -/
theorem aq_run_sound {mi : aq_M} (hok : aq_okM mi = true) (hcl : ∀ (ci : Nat) (r : vw_C), vwCl[ci]? = some r → aq_okK r) {d : Nat} {O : aq_O} {w' : List va_E} : ∀ (n : Nat) {c0 c1 : aq_C} {P : Option Prop}, aq_run mi n c0 = some (c1, P) → aq_pp P → AW mi d O w' c1 → AW mi d O w' c0 := by
  intro n
  induction n with
  | zero =>
    intro c0 c1 P h _ k
    cases h
    exact k
  | succ n ih =>
    intro c0 c1 P h hP k
    unfold aq_run at h
    split at h
    · cases h
    · rename_i c2 P1 h1
      split at h
      · cases h
      · rename_i c3 P2 h2
        cases h
        obtain ⟨p1, p2⟩ := aq_and_pp hP
        exact aq_step_sound hok hcl h1 p1 (ih h2 p2 k)
section AQ4
variable {mi mj : aq_M} {d : Nat} {O : aq_O} {w w' w1 : List va_E} {pc nx tg len idx : Nat} {kc : Int32} {al : List (Option Value)} {st stk as : List Value} {off : Int} {x y : Int32}
theorem aq_if_eq (hok : aq_okM mi = true) (hat : aq_at (aq_t mi) pc = some (.ifCond .eq off, len, nx, kc, tg)) (kt : x = 0 → AW mi d O w' (tg, al, st, w)) (kf : ¬ x = 0 → AW mi d O w' (nx, al, st, w)) : AW mi d O w' (pc, al, .int x :: st, w) := by
  obtain ⟨hdec, hlen, hnx, -, htg⟩ := aq_ok_at hok hat
  dsimp only at hdec hlen hnx htg
  have e := aq_l1 hlen rfl rfl; subst e; subst hnx
  intro p l e s m args below meth c D kt' ad A H locs ls hF hA hW hL
  exact lv_if_eq hF.1 hF.2.1 hdec (by simpa [aq_okT] using htg) (fun h => kt h p l e s m args below meth c D kt' ad A H locs ls hF hA hW hL) (fun h => kf h p l e s m args below meth c D kt' ad A H locs ls hF hA hW hL)
theorem aq_icmp_eq (hok : aq_okM mi = true) (hat : aq_at (aq_t mi) pc = some (.if_icmp .eq off, len, nx, kc, tg)) (kt : x = y → AW mi d O w' (tg, al, st, w)) (kf : ¬ x = y → AW mi d O w' (nx, al, st, w)) : AW mi d O w' (pc, al, .int y :: .int x :: st, w) := by
  obtain ⟨hdec, hlen, hnx, -, htg⟩ := aq_ok_at hok hat
  dsimp only at hdec hlen hnx htg
  have e := aq_l1 hlen rfl rfl; subst e; subst hnx
  intro p l e s m args below meth c D kt' ad A H locs ls hF hA hW hL
  exact lv_icmp_eq hF.1 hF.2.1 hdec (by simpa [aq_okT] using htg) (fun h => kt h p l e s m args below meth c D kt' ad A H locs ls hF hA hW hL) (fun h => kf h p l e s m args below meth c D kt' ad A H locs ls hF hA hW hL)
theorem aq_if_ne (hok : aq_okM mi = true) (hat : aq_at (aq_t mi) pc = some (.ifCond .ne off, len, nx, kc, tg)) (kt : ¬ x = 0 → AW mi d O w' (tg, al, st, w)) (kf : x = 0 → AW mi d O w' (nx, al, st, w)) : AW mi d O w' (pc, al, .int x :: st, w) := by
  obtain ⟨hdec, hlen, hnx, -, htg⟩ := aq_ok_at hok hat
  dsimp only at hdec hlen hnx htg
  have e := aq_l1 hlen rfl rfl; subst e; subst hnx
  intro p l e s m args below meth c D kt' ad A H locs ls hF hA hW hL
  exact lv_if_ne hF.1 hF.2.1 hdec (by simpa [aq_okT] using htg) (fun h => kt h p l e s m args below meth c D kt' ad A H locs ls hF hA hW hL) (fun h => kf h p l e s m args below meth c D kt' ad A H locs ls hF hA hW hL)
theorem aq_icmp_ne (hok : aq_okM mi = true) (hat : aq_at (aq_t mi) pc = some (.if_icmp .ne off, len, nx, kc, tg)) (kt : ¬ x = y → AW mi d O w' (tg, al, st, w)) (kf : x = y → AW mi d O w' (nx, al, st, w)) : AW mi d O w' (pc, al, .int y :: .int x :: st, w) := by
  obtain ⟨hdec, hlen, hnx, -, htg⟩ := aq_ok_at hok hat
  dsimp only at hdec hlen hnx htg
  have e := aq_l1 hlen rfl rfl; subst e; subst hnx
  intro p l e s m args below meth c D kt' ad A H locs ls hF hA hW hL
  exact lv_icmp_ne hF.1 hF.2.1 hdec (by simpa [aq_okT] using htg) (fun h => kt h p l e s m args below meth c D kt' ad A H locs ls hF hA hW hL) (fun h => kf h p l e s m args below meth c D kt' ad A H locs ls hF hA hW hL)
theorem aq_if_lt (hok : aq_okM mi = true) (hat : aq_at (aq_t mi) pc = some (.ifCond .lt off, len, nx, kc, tg)) (kt : x < 0 → AW mi d O w' (tg, al, st, w)) (kf : ¬ x < 0 → AW mi d O w' (nx, al, st, w)) : AW mi d O w' (pc, al, .int x :: st, w) := by
  obtain ⟨hdec, hlen, hnx, -, htg⟩ := aq_ok_at hok hat
  dsimp only at hdec hlen hnx htg
  have e := aq_l1 hlen rfl rfl; subst e; subst hnx
  intro p l e s m args below meth c D kt' ad A H locs ls hF hA hW hL
  exact lv_if_lt hF.1 hF.2.1 hdec (by simpa [aq_okT] using htg) (fun h => kt h p l e s m args below meth c D kt' ad A H locs ls hF hA hW hL) (fun h => kf h p l e s m args below meth c D kt' ad A H locs ls hF hA hW hL)
theorem aq_icmp_lt (hok : aq_okM mi = true) (hat : aq_at (aq_t mi) pc = some (.if_icmp .lt off, len, nx, kc, tg)) (kt : x < y → AW mi d O w' (tg, al, st, w)) (kf : ¬ x < y → AW mi d O w' (nx, al, st, w)) : AW mi d O w' (pc, al, .int y :: .int x :: st, w) := by
  obtain ⟨hdec, hlen, hnx, -, htg⟩ := aq_ok_at hok hat
  dsimp only at hdec hlen hnx htg
  have e := aq_l1 hlen rfl rfl; subst e; subst hnx
  intro p l e s m args below meth c D kt' ad A H locs ls hF hA hW hL
  exact lv_icmp_lt hF.1 hF.2.1 hdec (by simpa [aq_okT] using htg) (fun h => kt h p l e s m args below meth c D kt' ad A H locs ls hF hA hW hL) (fun h => kf h p l e s m args below meth c D kt' ad A H locs ls hF hA hW hL)
theorem aq_if_ge (hok : aq_okM mi = true) (hat : aq_at (aq_t mi) pc = some (.ifCond .ge off, len, nx, kc, tg)) (kt : 0 ≤ x → AW mi d O w' (tg, al, st, w)) (kf : ¬ 0 ≤ x → AW mi d O w' (nx, al, st, w)) : AW mi d O w' (pc, al, .int x :: st, w) := by
  obtain ⟨hdec, hlen, hnx, -, htg⟩ := aq_ok_at hok hat
  dsimp only at hdec hlen hnx htg
  have e := aq_l1 hlen rfl rfl; subst e; subst hnx
  intro p l e s m args below meth c D kt' ad A H locs ls hF hA hW hL
  exact lv_if_ge hF.1 hF.2.1 hdec (by simpa [aq_okT] using htg) (fun h => kt h p l e s m args below meth c D kt' ad A H locs ls hF hA hW hL) (fun h => kf h p l e s m args below meth c D kt' ad A H locs ls hF hA hW hL)
theorem aq_icmp_ge (hok : aq_okM mi = true) (hat : aq_at (aq_t mi) pc = some (.if_icmp .ge off, len, nx, kc, tg)) (kt : y ≤ x → AW mi d O w' (tg, al, st, w)) (kf : ¬ y ≤ x → AW mi d O w' (nx, al, st, w)) : AW mi d O w' (pc, al, .int y :: .int x :: st, w) := by
  obtain ⟨hdec, hlen, hnx, -, htg⟩ := aq_ok_at hok hat
  dsimp only at hdec hlen hnx htg
  have e := aq_l1 hlen rfl rfl; subst e; subst hnx
  intro p l e s m args below meth c D kt' ad A H locs ls hF hA hW hL
  exact lv_icmp_ge hF.1 hF.2.1 hdec (by simpa [aq_okT] using htg) (fun h => kt h p l e s m args below meth c D kt' ad A H locs ls hF hA hW hL) (fun h => kf h p l e s m args below meth c D kt' ad A H locs ls hF hA hW hL)
theorem aq_if_gt (hok : aq_okM mi = true) (hat : aq_at (aq_t mi) pc = some (.ifCond .gt off, len, nx, kc, tg)) (kt : 0 < x → AW mi d O w' (tg, al, st, w)) (kf : ¬ 0 < x → AW mi d O w' (nx, al, st, w)) : AW mi d O w' (pc, al, .int x :: st, w) := by
  obtain ⟨hdec, hlen, hnx, -, htg⟩ := aq_ok_at hok hat
  dsimp only at hdec hlen hnx htg
  have e := aq_l1 hlen rfl rfl; subst e; subst hnx
  intro p l e s m args below meth c D kt' ad A H locs ls hF hA hW hL
  exact lv_if_gt hF.1 hF.2.1 hdec (by simpa [aq_okT] using htg) (fun h => kt h p l e s m args below meth c D kt' ad A H locs ls hF hA hW hL) (fun h => kf h p l e s m args below meth c D kt' ad A H locs ls hF hA hW hL)
theorem aq_icmp_gt (hok : aq_okM mi = true) (hat : aq_at (aq_t mi) pc = some (.if_icmp .gt off, len, nx, kc, tg)) (kt : y < x → AW mi d O w' (tg, al, st, w)) (kf : ¬ y < x → AW mi d O w' (nx, al, st, w)) : AW mi d O w' (pc, al, .int y :: .int x :: st, w) := by
  obtain ⟨hdec, hlen, hnx, -, htg⟩ := aq_ok_at hok hat
  dsimp only at hdec hlen hnx htg
  have e := aq_l1 hlen rfl rfl; subst e; subst hnx
  intro p l e s m args below meth c D kt' ad A H locs ls hF hA hW hL
  exact lv_icmp_gt hF.1 hF.2.1 hdec (by simpa [aq_okT] using htg) (fun h => kt h p l e s m args below meth c D kt' ad A H locs ls hF hA hW hL) (fun h => kf h p l e s m args below meth c D kt' ad A H locs ls hF hA hW hL)
theorem aq_if_le (hok : aq_okM mi = true) (hat : aq_at (aq_t mi) pc = some (.ifCond .le off, len, nx, kc, tg)) (kt : x ≤ 0 → AW mi d O w' (tg, al, st, w)) (kf : ¬ x ≤ 0 → AW mi d O w' (nx, al, st, w)) : AW mi d O w' (pc, al, .int x :: st, w) := by
  obtain ⟨hdec, hlen, hnx, -, htg⟩ := aq_ok_at hok hat
  dsimp only at hdec hlen hnx htg
  have e := aq_l1 hlen rfl rfl; subst e; subst hnx
  intro p l e s m args below meth c D kt' ad A H locs ls hF hA hW hL
  exact lv_if_le hF.1 hF.2.1 hdec (by simpa [aq_okT] using htg) (fun h => kt h p l e s m args below meth c D kt' ad A H locs ls hF hA hW hL) (fun h => kf h p l e s m args below meth c D kt' ad A H locs ls hF hA hW hL)
theorem aq_icmp_le (hok : aq_okM mi = true) (hat : aq_at (aq_t mi) pc = some (.if_icmp .le off, len, nx, kc, tg)) (kt : x ≤ y → AW mi d O w' (tg, al, st, w)) (kf : ¬ x ≤ y → AW mi d O w' (nx, al, st, w)) : AW mi d O w' (pc, al, .int y :: .int x :: st, w) := by
  obtain ⟨hdec, hlen, hnx, -, htg⟩ := aq_ok_at hok hat
  dsimp only at hdec hlen hnx htg
  have e := aq_l1 hlen rfl rfl; subst e; subst hnx
  intro p l e s m args below meth c D kt' ad A H locs ls hF hA hW hL
  exact lv_icmp_le hF.1 hF.2.1 hdec (by simpa [aq_okT] using htg) (fun h => kt h p l e s m args below meth c D kt' ad A H locs ls hF hA hW hL) (fun h => kf h p l e s m args below meth c D kt' ad A H locs ls hF hA hW hL)
/-- the words of a call -/
def aq_cb (own : String) (i : Nat) (mj : aq_M) (n : Nat) : Bool := decide (Cond.methodLink own i (aq_y mj) ∈ aq_TB) && (decide (Cond.initialized (aq_y mj).cls ∈ aq_TB) && (decide (Cond.code (aq_y mj) (aq_b mj) (aq_n mj) (aq_r mj) ∈ aq_TB) && (decide ((aq_y mj).cls ≠ "java/lang/invoke/MethodHandle") && (decide ((aq_y mj).cls ≠ "java/lang/invoke/VarHandle") && (decide ((parseMethodDescriptor (aq_y mj).desc).map (fun d => d.parameters.length) = some n) && decide (aq_n mj ≤ 9))))))
def aq_cv (own : String) (i : Nat) (mj : aq_M) (n : Nat) : Bool := aq_cb own i mj n && (decide (Cond.instanceMethod (aq_y mj) ∈ aq_TB) && decide (Cond.selects (aq_y mj).cls (aq_y mj) (aq_y mj) ∈ aq_TB))
def aq_cs (own : String) (i : Nat) (mj : aq_M) (n : Nat) : Bool := aq_cb own i mj n && decide (Cond.static (aq_y mj) ∈ aq_TB)
theorem aq_callB {R : Room} {s : State} {args : Array Value} {own : String} {i n : Nat} {O1 : aq_O} (hts : ∀ w ∈ aq_TB, w.before args s = true) (h : aq_cb own i mj n = true) (hf : d + 1 + aq_mf O1 ≤ R.frames) (hl : 28 * d + 28 + aq_ml O1 ≤ R.locals) : CallB R s args own i (aq_y mj) (aq_b mj) (aq_n mj) (aq_r mj) (aq_ws mj) (aq_rm d O1) (aq_mc O1) (aq_ms O1) n := by
  unfold aq_cb at h
  simp only [Bool.and_eq_true, decide_eq_true_eq] at h
  obtain ⟨h1, h2, h3, h4, h5, h6, h7⟩ := h
  refine callB_of (ws' := aq_TB) n hts (aq_good (fun w hw => ?_)) rfl rfl rfl (hts _ h2) (hts _ h1) ⟨h4, h5, h6⟩ ⟨?_, ?_⟩
  · rcases List.mem_cons.mp hw with rfl | hw
    · exact h3
    · exact hw
  · show d + aq_mf O1 + 1 ≤ R.frames
    omega
  · show 8 + (aq_n mj + 11) + (28 * d + aq_ml O1) ≤ R.locals
    omega
theorem aq_free_call {A : Nat → Prop} {ad kt : Nat → Nat} {H0 H : Heap} {locs : List Loc} (hD : va_D A (aq_w ad kt w)) (hS : va_S A H0 H locs) (hA : ∀ q, H0.size ≤ q → A q) : ∀ q, va_A (aq_w ad kt w) H.size q → A q := by
  intro q h
  rcases h with ⟨k, e, h⟩ | h
  · exact hD.2 k (q, e) h
  · exact hA q (Nat.le_trans hS.1 h)
theorem aq_Sc {A B : Nat → Prop} {s st₀ t T' : State} {H : Heap} {locs L : List Loc} (hS : va_S A s.heap H locs) (h0 : st₀.heap = H) (e1 : T'.heap = t.heap) (hfr : ∀ q, B q → A q) (hL : ∀ q ∈ L, B q.base) (hF : va_F B st₀ t) : va_S A s.heap T'.heap (locs ++ L) := by
  obtain ⟨hz, hk⟩ := hF
  rw [h0] at hz hk
  exact ⟨Nat.le_trans hS.1 (by rw [e1]; exact hz), fun q h1 h2 => by rw [e1, hk q (Nat.lt_of_lt_of_le h1 hS.1) (fun z => h2 (hfr q z))]; exact hS.2.1 q h1 h2, fun q hq => by
    rcases List.mem_append.mp hq with h | h
    · exact hS.2.2 q h
    · exact hfr _ (hL q h)⟩
/-- behind a call that came back -/
theorem aq_back {p : Program} {l : Launch} {e : Env} {R : Room} {s : State} {m : MethodId} {args a : Array Value} {below : List Frame} {meth : Method} {c : Code} {D : va_G} {kt ad : Nat → Nat} {A : Nat → Prop} {H : Heap} {locs : List Loc} {ls : Array Slot} {Q : State → Prop} {v : Option Value} {stk : List Value}
    (hA : aq_Ao A s) (hW : aq_Wo D kt ad A w s H locs) (hr : vx_Run p l e R s m args below meth c H locs 0 0 0 0 (F0 m pc ls stk) (st.map (aq_v ad)) (aq_R (.inl v) D kt ad w1 (va_A (aq_w ad kt w) H.size) a) (aq_XC (.inl v) D kt ad w1 (va_A (aq_w ad kt w) H.size)) (va_A (aq_w ad kt w) H.size))
    (k : ∀ (H1 : Heap) (locs1 : List Loc), aq_Wo D kt ad A w1 s H1 locs1 → W p l e R s m args below meth c H1 locs1 0 0 Q (F0 m (pc + 3) ls ((v.toList ++ st).map (aq_v ad)))) : W p l e R s m args below meth c H locs 0 0 Q (F0 m pc ls stk) := by
  obtain ⟨hK, hP, hD, hS⟩ := hW
  have hfr := aq_free_call hD hS hA.1
  intro T hT X
  rcases hr T hT X with ⟨vr, st₀, t, T', L, h0, X', hL', e1, e2, ⟨hv, ⟨hP1, hD1⟩, hF1⟩, go⟩ | ⟨q, st₀, t, T', L, E, ce, h0, X', hL', e1, e2, hx, h9⟩
  · have hvr : vr = v.map (aq_v ad) := by injection hv
    subst hvr
    have hS1 := aq_Sc hS h0 e1 hfr hL' hF1
    obtain ⟨t2, a1, b1⟩ := k T'.heap (locs ++ L) ⟨hK, by rw [e1]; exact hP1, hD1.weaken (fun _ _ _ h => hfr _ h), hS1⟩ T' rfl X'
    have e9 : (v.toList ++ st).map (aq_v ad) = (v.map (aq_v ad)).toList ++ st.map (aq_v ad) := by cases v <;> simp
    rw [e9] at a1
    exact ⟨t2, go t2 a1, b1⟩
  · exact hx.elim
/-- a call that throws: it goes through -/
theorem aq_thru {p : Program} {l : Launch} {e : Env} {R : Room} {s : State} {m : MethodId} {args a : Array Value} {below : List Frame} {meth : Method} {c : Code} {D : va_G} {kt ad : Nat → Nat} {A : Nat → Prop} {H : Heap} {locs : List Loc} {ls : Array Slot} {z : Nat} {stk : List Value}
    (hA : aq_Ao A s) (hW : aq_Wo D kt ad A w s H locs) (hlocks : meth.locks = false) (hex : ∀ x ∈ c.exceptionTable.toList, False) (hr : vx_Run p l e R s m args below meth c H locs 0 0 1 6 (F0 m pc ls stk) (st.map (aq_v ad)) (aq_R (.inr z) D kt ad w1 (va_A (aq_w ad kt w) H.size) a) (aq_XC (.inr z) D kt ad w1 (va_A (aq_w ad kt w) H.size)) (va_A (aq_w ad kt w) H.size)) :
    W p l e R s m args below meth c H locs 0 0 (aq_Q (.inr z) D kt ad A w1 below args s) (F0 m pc ls stk) := by
  obtain ⟨hK, hP, hD, hS⟩ := hW
  have hfr := aq_free_call hD hS hA.1
  intro T hT X
  rcases hr T hT X with ⟨vr, st₀, t, T', L, h0, X', hL', e1, e2, hx, go⟩ | ⟨q, st₀, t, T', L, E, ce, h0, X', hL', e1, e2, ⟨hE, ⟨hP1, hD1⟩, hF1⟩, hce, hcv, hcl, hst⟩
  · exact hx.elim
  · have hS1 := aq_Sc hS h0 e1 hfr hL' hF1
    obtain ⟨t2, a1, b1⟩ := vx_out (p := p) (l := l) (e := e) (R := R) (s := s) (m := m) (args := args) (below := below) (meth := meth) (c := c) (H := T'.heap) (locs := locs ++ L) (cells := 0 + 1) (slots := 0 + 6) (Qc := aq_R (.inr z) D kt ad w1 A) (XC := aq_XC (.inr z) D kt ad w1 A) (free := A) (pc := pc) (ls := ls) (rest := st.map (aq_v ad)) (E := E) (ce := ce) (q := q) (mc := 1) (ms := 6)
      (fun x hx => (hex x hx).elim) hlocks (by rw [e1]; exact hce) hcv hcl (fun t9 ht9 _ => ⟨hE, ⟨by rw [ht9, e1]; exact hP1, hD1.weaken (fun _ _ _ h => hfr _ h)⟩, hS1.F ht9⟩) hS1.2.2 (Nat.le_refl _) (Nat.le_refl _) T' rfl X'
    exact ⟨t2, hst.trans a1, b1⟩
theorem aq_runV {q ci : Nat} {O1 : aq_O} {fs : List Value} {r : vw_C} (hok : aq_okM mi = true) (hat : aq_at (aq_t mi) pc = some (.invokevirtual idx, len, nx, kc, tg)) (hcv : aq_cv (aq_y mi).cls idx mj as.length = true) (hM : AM mj d O1 (.ref q :: as) w w1)
    (hwt : (st.map fun v => v.category).sum ≤ 8) (hq : w[q]? = some (.inr (ci, fs))) (hr : vwCl[ci]? = some r) (hrc : r.1 = (aq_y mj).cls)
    {p : Program} {l : Launch} {e : Env} {R : Room} {s : State} {m : MethodId} {args : Array Value} {below : List Frame} {meth : Method} {c : Code} {D : va_G} {kt ad : Nat → Nat} {A : Nat → Prop} {H : Heap} {locs : List Loc} {ls : Array Slot}
    (hF : aq_Fix mi p l s m args meth c) (hA : aq_Ao A s) (hW : aq_Wo D kt ad A w s H locs) (hL : aq_Lo ad ls (aq_n mi) al) (hf : d + 1 + aq_mf O1 ≤ R.frames) (hl : 28 * d + 28 + aq_ml O1 ≤ R.locals) (hc : aq_mc O1 ≤ R.cells ∧ aq_ms O1 ≤ R.slots) :
    nx = pc + 3 ∧ vx_Run p l e R s m args below meth c H locs 0 0 (aq_mc O1) (aq_ms O1) (F0 m pc ls ((as.reverse ++ .ref q :: st).map (aq_v ad))) (st.map (aq_v ad)) (aq_R O1 D kt ad w1 (va_A (aq_w ad kt w) H.size) (Value.ref (ad q) :: as.map (aq_v ad)).toArray) (aq_XC O1 D kt ad w1 (va_A (aq_w ad kt w) H.size)) (va_A (aq_w ad kt w) H.size) := by
  obtain ⟨hdec, hlen, hnx, -, -⟩ := aq_ok_at hok hat
  dsimp only at hdec hlen hnx
  have e := aq_l1 hlen rfl rfl; subst e; subst hnx
  unfold aq_cv at hcv
  simp only [Bool.and_eq_true, decide_eq_true_eq] at hcv
  obtain ⟨hcb, hin, hse⟩ := hcv
  obtain ⟨hx, hb, hml, -, -, hown, hts, hlt, -⟩ := hF
  have hrv := va_recv hW.1 hW.2.1 hr (aq_w_at (ad := ad) (kt := kt) hq)
  rw [hrc] at hrv
  have hfr := aq_free_call hW.2.2.1 hW.2.2.2 hA.1
  exact ⟨rfl, vx_runV (As := as.map (aq_v ad)) (rest := st.map (aq_v ad)) (b := ad q) ⟨hx, hb, hml, hown, hts⟩ (hM l D kt ad H.size hlt) ⟨aq_callB (O1 := O1) hts hcb hf hl, hts _ hin, hts _ hse⟩
    ⟨aq_P_blind _ _ _ _ _ _, hrv, fun U hU hWm => ⟨rfl, by rw [hU], by rw [hU]; exact hW.2.1, va_K.moved hWm.alike hW.1, hW.2.2.1.weaken (fun _ _ _ _ => trivial), aq_Ex_call hA.2 hW.2.2.2 hfr hWm hU⟩⟩
    rfl (by simp) hL.2.1 (by simp [aq_v]) (by rw [aq_v_cats]; exact lv_room (m := m) (pc := pc) (ls := ls) (rest := []) hwt) hdec ⟨by rw [Nat.zero_add]; exact hc.1, by rw [Nat.zero_add]; exact hc.2⟩⟩
theorem aq_runS {O1 : aq_O} (hok : aq_okM mi = true) (hat : aq_at (aq_t mi) pc = some (.invokestatic idx, len, nx, kc, tg)) (hcv : aq_cs (aq_y mi).cls idx mj as.length = true) (hM : AM mj d O1 as w w1)
    (hwt : (st.map fun v => v.category).sum ≤ 8)
    {p : Program} {l : Launch} {e : Env} {R : Room} {s : State} {m : MethodId} {args : Array Value} {below : List Frame} {meth : Method} {c : Code} {D : va_G} {kt ad : Nat → Nat} {A : Nat → Prop} {H : Heap} {locs : List Loc} {ls : Array Slot}
    (hF : aq_Fix mi p l s m args meth c) (hA : aq_Ao A s) (hW : aq_Wo D kt ad A w s H locs) (hL : aq_Lo ad ls (aq_n mi) al) (hf : d + 1 + aq_mf O1 ≤ R.frames) (hl : 28 * d + 28 + aq_ml O1 ≤ R.locals) (hc : aq_mc O1 ≤ R.cells ∧ aq_ms O1 ≤ R.slots) :
    nx = pc + 3 ∧ vx_Run p l e R s m args below meth c H locs 0 0 (aq_mc O1) (aq_ms O1) (F0 m pc ls ((as.reverse ++ st).map (aq_v ad))) (st.map (aq_v ad)) (aq_R O1 D kt ad w1 (va_A (aq_w ad kt w) H.size) (as.map (aq_v ad)).toArray) (aq_XC O1 D kt ad w1 (va_A (aq_w ad kt w) H.size)) (va_A (aq_w ad kt w) H.size) := by
  obtain ⟨hdec, hlen, hnx, -, -⟩ := aq_ok_at hok hat
  dsimp only at hdec hlen hnx
  have e := aq_l1 hlen rfl rfl; subst e; subst hnx
  unfold aq_cs at hcv
  simp only [Bool.and_eq_true, decide_eq_true_eq] at hcv
  obtain ⟨hcb, hin⟩ := hcv
  obtain ⟨hx, hb, hml, -, -, hown, hts, hlt, -⟩ := hF
  have hfr := aq_free_call hW.2.2.1 hW.2.2.2 hA.1
  exact ⟨rfl, vx_runS (As := as.map (aq_v ad)) (rest := st.map (aq_v ad)) ⟨hx, hb, hml, hown, hts⟩ (hM l D kt ad H.size hlt) ⟨aq_callB (O1 := O1) hts hcb hf hl, hts _ hin⟩
    ⟨aq_P_blind _ _ _ _ _ _, fun U hU hWm => ⟨rfl, by rw [hU], by rw [hU]; exact hW.2.1, va_K.moved hWm.alike hW.1, hW.2.2.1.weaken (fun _ _ _ _ => trivial), aq_Ex_call hA.2 hW.2.2.2 hfr hWm hU⟩⟩
    rfl (by simp) hL.2.1 (by simp) (by rw [aq_v_cats]; exact lv_room (m := m) (pc := pc) (ls := ls) (rest := []) hwt) hdec ⟨by rw [Nat.zero_add]; exact hc.1, by rw [Nat.zero_add]; exact hc.2⟩⟩
theorem aq_callV {q ci : Nat} {v : Option Value} {fs : List Value} {r : vw_C} (hok : aq_okM mi = true) (hat : aq_at (aq_t mi) pc = some (.invokevirtual idx, len, nx, kc, tg)) (hcv : aq_cv (aq_y mi).cls idx mj as.length = true) (hM : AM mj d (.inl v) (.ref q :: as) w w1)
    (hst : stk = as.reverse ++ .ref q :: st) (hwt : (st.map fun v => v.category).sum ≤ 8) (hq : w[q]? = some (.inr (ci, fs))) (hr : vwCl[ci]? = some r) (hrc : r.1 = (aq_y mj).cls)
    (k : AW mi (d + 1) O w' (nx, al, v.toList ++ st, w1)) : AW mi (d + 1) O w' (pc, al, stk, w) := by
  subst hst
  intro p l e s m args below meth c D kt ad A H locs ls hF hA hW hL
  obtain ⟨hnx, hrun⟩ := aq_runV (e := e) (below := below) (R := aq_rm (d + 1) O) hok hat hcv hM hwt hq hr hrc hF hA hW hL (by show d + 1 + 0 ≤ d + 1 + aq_mf O; omega) (by show 28 * d + 28 + 0 ≤ 28 * (d + 1) + aq_ml O; omega) ⟨Nat.zero_le _, Nat.zero_le _⟩
  subst hnx
  exact aq_back hA hW hrun (fun H1 locs1 h1 => k p l e s m args below meth c D kt ad A H1 locs1 ls hF hA h1 hL)
theorem aq_callVT {q ci z : Nat} {fs : List Value} {r : vw_C} (hok : aq_okM mi = true) (hat : aq_at (aq_t mi) pc = some (.invokevirtual idx, len, nx, kc, tg)) (hcv : aq_cv (aq_y mi).cls idx mj as.length = true) (hM : AM mj d (.inr z) (.ref q :: as) w w1)
    (hst : stk = as.reverse ++ .ref q :: st) (hwt : (st.map fun v => v.category).sum ≤ 8) (hq : w[q]? = some (.inr (ci, fs))) (hr : vwCl[ci]? = some r) (hrc : r.1 = (aq_y mj).cls) : AW mi (d + 1) (.inr z) w1 (pc, al, stk, w) := by
  subst hst
  intro p l e s m args below meth c D kt ad A H locs ls hF hA hW hL
  obtain ⟨hnx, hrun⟩ := aq_runV (e := e) (below := below) (R := aq_rm (d + 1) (.inr z)) hok hat hcv hM hwt hq hr hrc hF hA hW hL (by show d + 1 + 6 ≤ d + 1 + 6; omega) (by show 28 * d + 28 + 96 ≤ 28 * (d + 1) + 96; omega) ⟨Nat.le_refl _, Nat.le_refl _⟩
  exact aq_thru hA hW hF.2.2.2.2.1 hF.2.2.2.2.2.2.2.2 hrun
theorem aq_callS {v : Option Value} (hok : aq_okM mi = true) (hat : aq_at (aq_t mi) pc = some (.invokestatic idx, len, nx, kc, tg)) (hcv : aq_cs (aq_y mi).cls idx mj as.length = true) (hM : AM mj d (.inl v) as w w1)
    (hst : stk = as.reverse ++ st) (hwt : (st.map fun v => v.category).sum ≤ 8)
    (k : AW mi (d + 1) O w' (nx, al, v.toList ++ st, w1)) : AW mi (d + 1) O w' (pc, al, stk, w) := by
  subst hst
  intro p l e s m args below meth c D kt ad A H locs ls hF hA hW hL
  obtain ⟨hnx, hrun⟩ := aq_runS (e := e) (below := below) (R := aq_rm (d + 1) O) hok hat hcv hM hwt hF hA hW hL (by show d + 1 + 0 ≤ d + 1 + aq_mf O; omega) (by show 28 * d + 28 + 0 ≤ 28 * (d + 1) + aq_ml O; omega) ⟨Nat.zero_le _, Nat.zero_le _⟩
  subst hnx
  exact aq_back hA hW hrun (fun H1 locs1 h1 => k p l e s m args below meth c D kt ad A H1 locs1 ls hF hA h1 hL)
theorem aq_callST {z : Nat} (hok : aq_okM mi = true) (hat : aq_at (aq_t mi) pc = some (.invokestatic idx, len, nx, kc, tg)) (hcv : aq_cs (aq_y mi).cls idx mj as.length = true) (hM : AM mj d (.inr z) as w w1)
    (hst : stk = as.reverse ++ st) (hwt : (st.map fun v => v.category).sum ≤ 8) : AW mi (d + 1) (.inr z) w1 (pc, al, stk, w) := by
  subst hst
  intro p l e s m args below meth c D kt ad A H locs ls hF hA hW hL
  obtain ⟨hnx, hrun⟩ := aq_runS (e := e) (below := below) (R := aq_rm (d + 1) (.inr z)) hok hat hcv hM hwt hF hA hW hL (by show d + 1 + 6 ≤ d + 1 + 6; omega) (by show 28 * d + 28 + 96 ≤ 28 * (d + 1) + 96; omega) ⟨Nat.le_refl _, Nat.le_refl _⟩
  exact aq_thru hA hW hF.2.2.2.2.1 hF.2.2.2.2.2.2.2.2 hrun
theorem aq_iret (hok : aq_okM mi = true) (hat : aq_at (aq_t mi) pc = some (.ireturn, len, nx, kc, tg)) (hr : aq_r mi = some .int) : AW mi d (.inl (some (.int x))) w (pc, al, [.int x], w) := by
  obtain ⟨hdec, hlen, hnx, -, -⟩ := aq_ok_at hok hat
  dsimp only at hdec hlen hnx
  have e := aq_l1 hlen rfl rfl; subst e; subst hnx
  intro p l e s m args below meth c D kt ad A H locs ls hF hA hW hL
  exact vx_ret (W.iret (v := x) hF.1 hF.2.1 (hF.2.2.2.1.trans hr) (fun t ht hWm => ⟨rfl, ⟨by rw [ht]; exact hW.2.1, hW.2.2.1⟩, hW.2.2.2.F ht⟩) hW.2.2.2.2.2 hdec hF.2.2.2.2.1)
theorem aq_zret (hok : aq_okM mi = true) (hat : aq_at (aq_t mi) pc = some (.ireturn, len, nx, kc, tg)) (hr : aq_r mi = some .boolean) (hn : narrow .boolean (.int x) = .int x) : AW mi d (.inl (some (.int x))) w (pc, al, [.int x], w) := by
  obtain ⟨hdec, hlen, hnx, -, -⟩ := aq_ok_at hok hat
  dsimp only at hdec hlen hnx
  have e := aq_l1 hlen rfl rfl; subst e; subst hnx
  intro p l e s m args below meth c D kt ad A H locs ls hF hA hW hL
  exact vx_ret (W.zret (v := x) hF.1 hF.2.1 (hF.2.2.2.1.trans hr) hn (fun t ht hWm => ⟨rfl, ⟨by rw [ht]; exact hW.2.1, hW.2.2.1⟩, hW.2.2.2.F ht⟩) hW.2.2.2.2.2 hdec hF.2.2.2.2.1)
theorem aq_lret {z : Int64} (hok : aq_okM mi = true) (hat : aq_at (aq_t mi) pc = some (.lreturn, len, nx, kc, tg)) (hr : aq_r mi = some .long) : AW mi d (.inl (some (.long z))) w (pc, al, [.long z], w) := by
  obtain ⟨hdec, hlen, hnx, -, -⟩ := aq_ok_at hok hat
  dsimp only at hdec hlen hnx
  have e := aq_l1 hlen rfl rfl; subst e; subst hnx
  intro p l e s m args below meth c D kt ad A H locs ls hF hA hW hL
  exact vx_ret (W.lret (v := z) hF.1 hF.2.1 (hF.2.2.2.1.trans hr) (fun t ht hWm => ⟨rfl, ⟨by rw [ht]; exact hW.2.1, hW.2.2.1⟩, hW.2.2.2.F ht⟩) hW.2.2.2.2.2 hdec hF.2.2.2.2.1)
theorem aq_vret (hok : aq_okM mi = true) (hat : aq_at (aq_t mi) pc = some (.return_, len, nx, kc, tg)) (hr : aq_r mi = none) : AW mi d (.inl none) w (pc, al, [], w) := by
  obtain ⟨hdec, hlen, hnx, -, -⟩ := aq_ok_at hok hat
  dsimp only at hdec hlen hnx
  have e := aq_l1 hlen rfl rfl; subst e; subst hnx
  intro p l e s m args below meth c D kt ad A H locs ls hF hA hW hL
  exact vx_ret (W.vret hF.1 hF.2.1 (hF.2.2.2.1.trans hr) (fun t ht hWm => ⟨rfl, ⟨by rw [ht]; exact hW.2.1, hW.2.2.1⟩, hW.2.2.2.F ht⟩) hW.2.2.2.2.2 hdec hF.2.2.2.2.1)
/-- the contract out of the walk -/
theorem aq_enter (hpl : plainFor (aq_y mi) = true) (hn : (aq_args as).length ≤ aq_n mi) (k : AW mi d O w' (0, aq_ent as (aq_n mi), [], w)) : AM mi d O as w w' := by
  intro l D kt ad sz hl
  refine MetFree.of_bodySF (code := aq_b mi) (maxLocals := aq_n mi) (ret := aq_r mi) hpl ?_ ?_
  · intro args s m h hn
    obtain ⟨meth, c, h1, h2, h3, h4, h5, h6, -, -⟩ := Cond.code_spec hn (atoms_spec (ws := aq_ws mi) h _ List.mem_cons_self)
    exact ⟨meth, c, h1, h2, h3, h4, h5, h6⟩
  · intro p e s m args below meth c s₁ B hml hv _
    obtain ⟨rfl, hsz, hP, hK, hD0, hE⟩ := hv
    subst hsz
    have hts0 := atoms_spec (ws := aq_ws mi) B.pre
    have hex : ∀ x ∈ c.exceptionTable.toList, False := fun x hx => by
      rw [Array.isEmpty_iff.mp (B.noHandlers (hts0 _ List.mem_cons_self))] at hx
      simp at hx
    have hFix : aq_Fix mi p l s m (as.map (aq_v ad)).toArray meth c := ⟨B.exec, B.bytes, hml, B.returns, B.notSynchronized, findClass_of_methodNamed B.named, fun w h => hts0 w (List.mem_cons_of_mem _ h), hl, hex⟩
    have K := k p l e s m (as.map (aq_v ad)).toArray below meth c D kt ad (va_A (aq_w ad kt w) s.heap.size) s.heap [] _ hFix ⟨fun q h => Or.inr h, hE⟩ ⟨hK, hP, hD0.self, va_S.rf⟩ (aq_Lo_ent hn)
    have hh0 : s₁.heap = s.heap := by rw [B.state]; rfl
    obtain ⟨t, a1, o, b1, b2, b3⟩ := K s₁ hh0 (Stand.of_body B)
    refine ⟨t, o, ?_, b1, b2, b3⟩
    rw [lg_entry_eq]
    exact a1
end AQ4
end
section
/-! BITS OF A LONG -/
def lb (x : Int64) (i : Nat) : Bool := x.toBitVec.getLsbD i
theorem lb_ext {x y : Int64} (h : ∀ i, i < 64 → lb x i = lb y i) : x = y := Int64.toBitVec_inj.mp (BitVec.eq_of_getLsbD_eq (fun i hi => h i hi))
theorem lb_or (x y : Int64) (i : Nat) : lb (x ||| y) i = (lb x i || lb y i) := by unfold lb; rw [Int64.toBitVec_or, BitVec.getLsbD_or]
theorem lb_and (x y : Int64) (i : Nat) : lb (x &&& y) i = (lb x i && lb y i) := by unfold lb; rw [Int64.toBitVec_and, BitVec.getLsbD_and]
theorem lb_xor (x y : Int64) (i : Nat) : lb (x ^^^ y) i = (lb x i ^^ lb y i) := by unfold lb; rw [Int64.toBitVec_xor, BitVec.getLsbD_xor]
theorem lb_0 (i : Nat) : lb 0 i = false := by unfold lb; simp
theorem lb_m1 : ∀ i, i < 64 → lb (-1) i = true := by decide +kernel
theorem lb_big {x : Int64} {i : Nat} (h : 64 ≤ i) : lb x i = false := by unfold lb; exact BitVec.getLsbD_of_ge _ _ h
theorem lb_not (x : Int64) {i : Nat} (h : i < 64) : lb (x ^^^ (-1)) i = !lb x i := by rw [lb_xor, lb_m1 i h]; cases lb x i <;> rfl
/-- the long with the one bit t -/
def lbit (t : Nat) : Int64 := (1 : Int64) <<< ((nI t).toInt64 &&& 63)
theorem lbit_bv : ∀ t, t < 64 → (lbit t).toBitVec = BitVec.twoPow 64 t := by decide +kernel
theorem lb_bit {t i : Nat} (ht : t < 64) : lb (lbit t) i = decide (i = t) := by
  unfold lb
  rw [lbit_bv t ht, BitVec.getLsbD_twoPow]
  simp only [ht, decide_true, Bool.true_and]
  by_cases h : t = i
  · subst h; simp
  · have h2 : ¬ i = t := fun q => h q.symm
    simp [h, h2]
theorem lb_ne0 {x : Int64} {i : Nat} (h : lb x i = true) : ¬ x = 0 := fun q => by rw [q, lb_0] at h; cases h
theorem lb_eq0 {x : Int64} (h : ∀ i, i < 64 → lb x i = false) : x = 0 := lb_ext (fun i hi => by rw [h i hi, lb_0])
theorem lb_bit_and {x : Int64} {t : Nat} (ht : t < 64) : x &&& lbit t = 0 ↔ lb x t = false := by
  constructor
  · intro h
    cases hb : lb x t with
    | false => rfl
    | true =>
      have : lb (x &&& lbit t) t = true := by rw [lb_and, hb, lb_bit ht]; simp
      exact absurd h (lb_ne0 this)
  · intro h
    refine lb_eq0 (fun i hi => ?_)
    rw [lb_and, lb_bit ht]
    by_cases e : i = t
    · subst e; rw [h]; rfl
    · simp [e]
theorem lg_cmp_0 (x y : Int64) : lg_cmp x y = 0 ↔ x = y := by
  unfold lg_cmp
  by_cases h1 : x > y
  · rw [if_pos h1]
    constructor
    · intro h; exact absurd h (by decide)
    · intro h
      subst h
      simp only [gt_iff_lt, Int64.lt_iff_toInt_lt] at h1
      omega
  · rw [if_neg h1]
    by_cases h2 : x = y
    · rw [if_pos h2]; exact ⟨fun _ => h2, fun _ => rfl⟩
    · rw [if_neg h2]
      exact ⟨fun h => absurd h (by decide), fun h => absurd h h2⟩
end
section
def m_init_t : List aq_I := [(0, .aload_n 0, 1, 1, 0, 0), (1, .invokespecial 1, 3, 4, 0, 0), (4, .aload_n 0, 1, 5, 0, 0), (5, .bipush 60, 2, 7, 60, 0), (7, .newarray .int, 2, 9, 0, 0), (9, .putfield 9, 3, 12, 0, 0), (12, .aload_n 0, 1, 13, 0, 0), (13, .bipush 60, 2, 15, 60, 0), (15, .newarray .int, 2, 17, 0, 0), (17, .putfield 13, 3, 20, 0, 0), (20, .aload_n 0, 1, 21, 0, 0), (21, .bipush 60, 2, 23, 60, 0), (23, .newarray .int, 2, 25, 0, 0), (25, .putfield 16, 3, 28, 0, 0), (28, .aload_n 0, 1, 29, 0, 0), (29, .bipush 60, 2, 31, 60, 0), (31, .newarray .int, 2, 33, 0, 0), (33, .putfield 19, 3, 36, 0, 0), (36, .aload_n 0, 1, 37, 0, 0), (37, .iconst 0, 1, 38, 0, 0), (38, .putfield 22, 3, 41, 0, 0), (41, .aload_n 0, 1, 42, 0, 0), (42, .sipush 425, 3, 45, 425, 0), (45, .newarray .long, 2, 47, 0, 0), (47, .putfield 26, 3, 50, 0, 0), (50, .aload_n 0, 1, 51, 0, 0), (51, .bipush 60, 2, 53, 60, 0), (53, .newarray .int, 2, 55, 0, 0), (55, .putfield 30, 3, 58, 0, 0), (58, .aload_n 0, 1, 59, 0, 0), (59, .iconst 0, 1, 60, 0, 0), (60, .putfield 33, 3, 63, 0, 0), (63, .aload_n 0, 1, 64, 0, 0), (64, .bipush 60, 2, 66, 60, 0), (66, .newarray .long, 2, 68, 0, 0), (68, .putfield 36, 3, 71, 0, 0), (71, .aload_n 0, 1, 72, 0, 0), (72, .iconst 0, 1, 73, 0, 0), (73, .putfield 39, 3, 76, 0, 0), (76, .aload_n 0, 1, 77, 0, 0), (77, .iconst 0, 1, 78, 0, 0), (78, .putfield 42, 3, 81, 0, 0), (81, .aload_n 0, 1, 82, 0, 0), (82, .iconst 0, 1, 83, 0, 0), (83, .putfield 45, 3, 86, 0, 0), (86, .return_, 1, 87, 0, 0)]
def m_init : aq_M := (⟨"LockDesk", "<init>", "()V"⟩, prog_1_method_1_code, 1, none, m_init_t, [(9, 0, 0), (13, 0, 1), (16, 0, 2), (19, 0, 3), (22, 0, 4), (26, 0, 5), (30, 0, 6), (33, 0, 7), (36, 0, 8), (39, 0, 9), (42, 0, 10), (45, 0, 11)], [])
def m_count_t : List aq_I := [(0, .iload_n 1, 1, 1, 0, 0), (1, .tableswitch 91 0 7 #[47, 52, 58, 64, 70, 76, 81, 86], 47, 48, 0, 0), (48, .aload_n 0, 1, 49, 0, 0), (49, .getfield 22, 3, 52, 0, 0), (52, .ireturn, 1, 53, 0, 0), (53, .aload_n 0, 1, 54, 0, 0), (54, .iconst 0, 1, 55, 0, 0), (55, .invokevirtual 152, 3, 58, 0, 0), (58, .ireturn, 1, 59, 0, 0), (59, .aload_n 0, 1, 60, 0, 0), (60, .iconst 1, 1, 61, 1, 0), (61, .invokevirtual 152, 3, 64, 0, 0), (64, .ireturn, 1, 65, 0, 0), (65, .aload_n 0, 1, 66, 0, 0), (66, .iconst 2, 1, 67, 2, 0), (67, .invokevirtual 152, 3, 70, 0, 0), (70, .ireturn, 1, 71, 0, 0), (71, .aload_n 0, 1, 72, 0, 0), (72, .iconst 3, 1, 73, 3, 0), (73, .invokevirtual 152, 3, 76, 0, 0), (76, .ireturn, 1, 77, 0, 0), (77, .aload_n 0, 1, 78, 0, 0), (78, .getfield 39, 3, 81, 0, 0), (81, .ireturn, 1, 82, 0, 0), (82, .aload_n 0, 1, 83, 0, 0), (83, .getfield 42, 3, 86, 0, 0), (86, .ireturn, 1, 87, 0, 0), (87, .aload_n 0, 1, 88, 0, 0), (88, .getfield 45, 3, 91, 0, 0), (91, .ireturn, 1, 92, 0, 0), (92, .iconst (-1), 1, 93, (-1), 0), (93, .ireturn, 1, 94, 0, 0)]
def m_count : aq_M := (⟨"LockDesk", "count", "(I)I"⟩, prog_1_method_12_code, 2, (some .int), m_count_t, [(22, 0, 4), (39, 0, 9), (42, 0, 10), (45, 0, 11)], [])
def m_inState_t : List aq_I := [(0, .iconst 0, 1, 1, 0, 0), (1, .istore_n 2, 1, 2, 0, 0), (2, .iconst 0, 1, 3, 0, 0), (3, .istore_n 3, 1, 4, 0, 0), (4, .iload_n 3, 1, 5, 0, 0), (5, .aload_n 0, 1, 6, 0, 0), (6, .getfield 22, 3, 9, 0, 0), (9, .if_icmp .ge 22, 3, 12, 0, 31), (12, .aload_n 0, 1, 13, 0, 0), (13, .getfield 9, 3, 16, 0, 0), (16, .iload_n 3, 1, 17, 0, 0), (17, .iaload, 1, 18, 0, 0), (18, .iload_n 1, 1, 19, 0, 0), (19, .if_icmp .ne 6, 3, 22, 0, 25), (22, .iinc 2 1, 3, 25, 1, 0), (25, .iinc 3 1, 3, 28, 1, 0), (28, .goto (-24), 3, 31, 0, 4), (31, .iload_n 2, 1, 32, 0, 0), (32, .ireturn, 1, 33, 0, 0)]
def m_inState : aq_M := (⟨"LockDesk", "inState", "(I)I"⟩, prog_1_method_51_code, 4, (some .int), m_inState_t, [(9, 0, 0), (22, 0, 4)], [])
def m_astray_t : List aq_I := [(0, .iconst 0, 1, 1, 0, 0), (1, .istore_n 1, 1, 2, 0, 0), (2, .iconst 0, 1, 3, 0, 0), (3, .istore_n 2, 1, 4, 0, 0), (4, .iload_n 2, 1, 5, 0, 0), (5, .bipush 85, 2, 7, 85, 0), (7, .if_icmp .ge 29, 3, 10, 0, 36), (10, .aload_n 0, 1, 11, 0, 0), (11, .iload_n 2, 1, 12, 0, 0), (12, .invokevirtual 155, 3, 15, 0, 0), (15, .ifCond .ne 12, 3, 18, 0, 27), (18, .aload_n 0, 1, 19, 0, 0), (19, .iload_n 2, 1, 20, 0, 0), (20, .invokevirtual 159, 3, 23, 0, 0), (23, .iconst (-1), 1, 24, (-1), 0), (24, .if_icmp .eq 6, 3, 27, 0, 30), (27, .iinc 1 1, 3, 30, 1, 0), (30, .iinc 2 1, 3, 33, 1, 0), (33, .goto (-29), 3, 36, 0, 4), (36, .iload_n 1, 1, 37, 0, 0), (37, .ireturn, 1, 38, 0, 0)]
def m_astray : aq_M := (⟨"LockDesk", "astray", "()I"⟩, prog_1_method_13_code, 3, (some .int), m_astray_t, [], [])
def m_holdersClash_t : List aq_I := [(0, .iconst 0, 1, 1, 0, 0), (1, .istore_n 2, 1, 2, 0, 0), (2, .iload_n 2, 1, 3, 0, 0), (3, .iconst 5, 1, 4, 5, 0), (4, .if_icmp .ge 43, 3, 7, 0, 47), (7, .aload_n 0, 1, 8, 0, 0), (8, .getfield 26, 3, 11, 0, 0), (11, .iload_n 1, 1, 12, 0, 0), (12, .iconst 5, 1, 13, 5, 0), (13, .imul, 1, 14, 0, 0), (14, .iload_n 2, 1, 15, 0, 0), (15, .iadd, 1, 16, 0, 0), (16, .laload, 1, 17, 0, 0), (17, .lstore_n 3, 1, 18, 0, 0), (18, .lload_n 3, 1, 19, 0, 0), (19, .lconst 0, 1, 20, 0, 0), (20, .lcmp, 1, 21, 0, 0), (21, .ifCond .eq 20, 3, 24, 0, 41), (24, .aload_n 0, 1, 25, 0, 0), (25, .lload_n 3, 1, 26, 0, 0), (26, .invokestatic 190, 3, 29, 0, 0), (29, .iload_n 1, 1, 30, 0, 0), (30, .iload_n 2, 1, 31, 0, 0), (31, .invokevirtual 110, 3, 34, 0, 0), (34, .lconst 0, 1, 35, 0, 0), (35, .lcmp, 1, 36, 0, 0), (36, .ifCond .eq 5, 3, 39, 0, 41), (39, .iconst 1, 1, 40, 1, 0), (40, .ireturn, 1, 41, 0, 0), (41, .iinc 2 1, 3, 44, 1, 0), (44, .goto (-42), 3, 47, 0, 2), (47, .iconst 0, 1, 48, 0, 0), (48, .ireturn, 1, 49, 0, 0)]
def m_holdersClash : aq_M := (⟨"LockDesk", "holdersClash", "(I)Z"⟩, prog_1_method_31_code, 5, (some .boolean), m_holdersClash_t, [(26, 0, 5)], [])
def j_numberOfTrailingZeros_t : List aq_I := [(0, .lload_n 0, 1, 1, 0, 0), (1, .l2i, 1, 2, 0, 0), (2, .istore_n 2, 1, 3, 0, 0), (3, .iload_n 2, 1, 4, 0, 0), (4, .ifCond .ne 17, 3, 7, 0, 21), (7, .bipush 32, 2, 9, 32, 0), (9, .lload_n 0, 1, 10, 0, 0), (10, .bipush 32, 2, 12, 32, 0), (12, .lushr, 1, 13, 0, 0), (13, .l2i, 1, 14, 0, 0), (14, .invokestatic 311, 3, 17, 0, 0), (17, .iadd, 1, 18, 0, 0), (18, .goto 7, 3, 21, 0, 25), (21, .iload_n 2, 1, 22, 0, 0), (22, .invokestatic 311, 3, 25, 0, 0), (25, .ireturn, 1, 26, 0, 0)]
def j_numberOfTrailingZeros : aq_M := (⟨"java/lang/Long", "numberOfTrailingZeros", "(J)I"⟩, prog_9_method_49_code, 3, (some .int), j_numberOfTrailingZeros_t, [], [])
def i_numberOfTrailingZeros_t : List aq_I := [(0, .iload_n 0, 1, 1, 0, 0), (1, .iconst (-1), 1, 2, (-1), 0), (2, .ixor, 1, 3, 0, 0), (3, .iload_n 0, 1, 4, 0, 0), (4, .iconst 1, 1, 5, 1, 0), (5, .isub, 1, 6, 0, 0), (6, .iand, 1, 7, 0, 0), (7, .istore_n 0, 1, 8, 0, 0), (8, .iload_n 0, 1, 9, 0, 0), (9, .ifCond .gt 8, 3, 12, 0, 17), (12, .iload_n 0, 1, 13, 0, 0), (13, .bipush 32, 2, 15, 32, 0), (15, .iand, 1, 16, 0, 0), (16, .ireturn, 1, 17, 0, 0), (17, .iconst 1, 1, 18, 1, 0), (18, .istore_n 1, 1, 19, 0, 0), (19, .iload_n 0, 1, 20, 0, 0), (20, .ldc_w 264, 3, 23, 65536, 0), (23, .if_icmp .le 11, 3, 26, 0, 34), (26, .iinc 1 16, 3, 29, 16, 0), (29, .iload_n 0, 1, 30, 0, 0), (30, .bipush 16, 2, 32, 16, 0), (32, .iushr, 1, 33, 0, 0), (33, .istore_n 0, 1, 34, 0, 0), (34, .iload_n 0, 1, 35, 0, 0), (35, .sipush 256, 3, 38, 256, 0), (38, .if_icmp .le 11, 3, 41, 0, 49), (41, .iinc 1 8, 3, 44, 8, 0), (44, .iload_n 0, 1, 45, 0, 0), (45, .bipush 8, 2, 47, 8, 0), (47, .iushr, 1, 48, 0, 0), (48, .istore_n 0, 1, 49, 0, 0), (49, .iload_n 0, 1, 50, 0, 0), (50, .bipush 16, 2, 52, 16, 0), (52, .if_icmp .le 10, 3, 55, 0, 62), (55, .iinc 1 4, 3, 58, 4, 0), (58, .iload_n 0, 1, 59, 0, 0), (59, .iconst 4, 1, 60, 4, 0), (60, .iushr, 1, 61, 0, 0), (61, .istore_n 0, 1, 62, 0, 0), (62, .iload_n 0, 1, 63, 0, 0), (63, .iconst 4, 1, 64, 4, 0), (64, .if_icmp .le 10, 3, 67, 0, 74), (67, .iinc 1 2, 3, 70, 2, 0), (70, .iload_n 0, 1, 71, 0, 0), (71, .iconst 2, 1, 72, 2, 0), (72, .iushr, 1, 73, 0, 0), (73, .istore_n 0, 1, 74, 0, 0), (74, .iload_n 1, 1, 75, 0, 0), (75, .iload_n 0, 1, 76, 0, 0), (76, .iconst 1, 1, 77, 1, 0), (77, .iushr, 1, 78, 0, 0), (78, .iadd, 1, 79, 0, 0), (79, .ireturn, 1, 80, 0, 0)]
def i_numberOfTrailingZeros : aq_M := (⟨"java/lang/Integer", "numberOfTrailingZeros", "(I)I"⟩, prog_8_method_48_code, 2, (some .int), i_numberOfTrailingZeros_t, [], [])
def m_othersInTheWay_t : List aq_I := [(0, .lconst 0, 1, 1, 0, 0), (1, .lstore 4, 2, 3, 0, 0), (3, .iconst 0, 1, 4, 0, 0), (4, .istore 6, 2, 6, 0, 0), (6, .iload 6, 2, 8, 0, 0), (8, .iconst 5, 1, 9, 5, 0), (9, .if_icmp .ge 34, 3, 12, 0, 43), (12, .iload 6, 2, 14, 0, 0), (14, .iload_n 3, 1, 15, 0, 0), (15, .invokestatic 187, 3, 18, 0, 0), (18, .ifCond .ne 19, 3, 21, 0, 37), (21, .lload 4, 2, 23, 0, 0), (23, .aload_n 0, 1, 24, 0, 0), (24, .getfield 26, 3, 27, 0, 0), (27, .iload_n 2, 1, 28, 0, 0), (28, .iconst 5, 1, 29, 5, 0), (29, .imul, 1, 30, 0, 0), (30, .iload 6, 2, 32, 0, 0), (32, .iadd, 1, 33, 0, 0), (33, .laload, 1, 34, 0, 0), (34, .lor, 1, 35, 0, 0), (35, .lstore 4, 2, 37, 0, 0), (37, .iinc 6 1, 3, 40, 1, 0), (40, .goto (-34), 3, 43, 0, 6), (43, .lload 4, 2, 45, 0, 0), (45, .iload_n 1, 1, 46, 0, 0), (46, .invokestatic 182, 3, 49, 0, 0), (49, .ldc2_w 185, 3, 52, 0, 0), (52, .lxor, 1, 53, 0, 0), (53, .land, 1, 54, 0, 0), (54, .lreturn, 1, 55, 0, 0)]
def m_othersInTheWay : aq_M := (⟨"LockDesk", "othersInTheWay", "(III)J"⟩, prog_1_method_30_code, 7, (some .long), m_othersInTheWay_t, [(26, 0, 5)], [(185, (-1))])
def m_goTogether_t : List aq_I := [(0, .iload_n 0, 1, 1, 0, 0), (1, .iconst 4, 1, 2, 4, 0), (2, .if_icmp .eq 8, 3, 5, 0, 10), (5, .iload_n 1, 1, 6, 0, 0), (6, .iconst 4, 1, 7, 4, 0), (7, .if_icmp .ne 5, 3, 10, 0, 12), (10, .iconst 0, 1, 11, 0, 0), (11, .ireturn, 1, 12, 0, 0), (12, .iload_n 0, 1, 13, 0, 0), (13, .ifCond .eq 7, 3, 16, 0, 20), (16, .iload_n 1, 1, 17, 0, 0), (17, .ifCond .ne 5, 3, 20, 0, 22), (20, .iconst 1, 1, 21, 1, 0), (21, .ireturn, 1, 22, 0, 0), (22, .iload_n 0, 1, 23, 0, 0), (23, .iload_n 1, 1, 24, 0, 0), (24, .if_icmp .ne 12, 3, 27, 0, 36), (27, .iload_n 0, 1, 28, 0, 0), (28, .iconst 3, 1, 29, 3, 0), (29, .if_icmp .eq 7, 3, 32, 0, 36), (32, .iconst 1, 1, 33, 1, 0), (33, .goto 4, 3, 36, 0, 37), (36, .iconst 0, 1, 37, 0, 0), (37, .ireturn, 1, 38, 0, 0)]
def m_goTogether : aq_M := (⟨"LockDesk", "goTogether", "(II)Z"⟩, prog_1_method_20_code, 2, (some .boolean), m_goTogether_t, [], [])
def m_bit_t : List aq_I := [(0, .lconst 1, 1, 1, 0, 0), (1, .iload_n 0, 1, 2, 0, 0), (2, .lshl, 1, 3, 0, 0), (3, .lreturn, 1, 4, 0, 0)]
def m_bit : aq_M := (⟨"LockDesk", "bit", "(I)J"⟩, prog_1_method_23_code, 1, (some .long), m_bit_t, [], [])
def m_firstToGrant_t : List aq_I := [(0, .aload_n 0, 1, 1, 0, 0), (1, .iload_n 1, 1, 2, 0, 0), (2, .iconst 0, 1, 3, 0, 0), (3, .invokevirtual 138, 3, 6, 0, 0), (6, .istore_n 2, 1, 7, 0, 0), (7, .iload_n 2, 1, 8, 0, 0), (8, .iconst (-1), 1, 9, (-1), 0), (9, .if_icmp .eq 20, 3, 12, 0, 29), (12, .aload_n 0, 1, 13, 0, 0), (13, .iload_n 2, 1, 14, 0, 0), (14, .iload_n 1, 1, 15, 0, 0), (15, .aload_n 0, 1, 16, 0, 0), (16, .getfield 19, 3, 19, 0, 0), (19, .iload_n 2, 1, 20, 0, 0), (20, .iaload, 1, 21, 0, 0), (21, .invokevirtual 110, 3, 24, 0, 0), (24, .lconst 0, 1, 25, 0, 0), (25, .lcmp, 1, 26, 0, 0), (26, .ifCond .eq 5, 3, 29, 0, 31), (29, .iconst (-1), 1, 30, (-1), 0), (30, .ireturn, 1, 31, 0, 0), (31, .iload_n 2, 1, 32, 0, 0), (32, .ireturn, 1, 33, 0, 0)]
def m_firstToGrant : aq_M := (⟨"LockDesk", "firstToGrant", "(I)I"⟩, prog_1_method_39_code, 3, (some .int), m_firstToGrant_t, [(19, 0, 3)], [])
def m_inQueue_t : List aq_I := [(0, .iconst 0, 1, 1, 0, 0), (1, .istore_n 3, 1, 2, 0, 0), (2, .iconst 0, 1, 3, 0, 0), (3, .istore 4, 2, 5, 0, 0), (5, .iload 4, 2, 7, 0, 0), (7, .aload_n 0, 1, 8, 0, 0), (8, .getfield 33, 3, 11, 0, 0), (11, .if_icmp .ge 41, 3, 14, 0, 52), (14, .aload_n 0, 1, 15, 0, 0), (15, .getfield 16, 3, 18, 0, 0), (18, .aload_n 0, 1, 19, 0, 0), (19, .getfield 30, 3, 22, 0, 0), (22, .iload 4, 2, 24, 0, 0), (24, .iaload, 1, 25, 0, 0), (25, .iaload, 1, 26, 0, 0), (26, .iload_n 1, 1, 27, 0, 0), (27, .if_icmp .ne 19, 3, 30, 0, 46), (30, .iload_n 3, 1, 31, 0, 0), (31, .iload_n 2, 1, 32, 0, 0), (32, .if_icmp .ne 11, 3, 35, 0, 43), (35, .aload_n 0, 1, 36, 0, 0), (36, .getfield 30, 3, 39, 0, 0), (39, .iload 4, 2, 41, 0, 0), (41, .iaload, 1, 42, 0, 0), (42, .ireturn, 1, 43, 0, 0), (43, .iinc 3 1, 3, 46, 1, 0), (46, .iinc 4 1, 3, 49, 1, 0), (49, .goto (-44), 3, 52, 0, 5), (52, .iconst (-1), 1, 53, (-1), 0), (53, .ireturn, 1, 54, 0, 0)]
def m_inQueue : aq_M := (⟨"LockDesk", "inQueue", "(II)I"⟩, prog_1_method_38_code, 5, (some .int), m_inQueue_t, [(16, 0, 2), (30, 0, 6), (33, 0, 7)], [])
def m_begin_t : List aq_I := [(0, .iload_n 1, 1, 1, 0, 0), (1, .ifCond .lt 9, 3, 4, 0, 10), (4, .iload_n 1, 1, 5, 0, 0), (5, .bipush 99, 2, 7, 99, 0), (7, .if_icmp .le 13, 3, 10, 0, 20), (10, .new 48, 3, 13, 0, 0), (13, .dup, 1, 14, 0, 0), (14, .ldc 50, 2, 16, 0, 0), (16, .invokespecial 52, 3, 19, 0, 0), (19, .athrow, 1, 20, 0, 0), (20, .aload_n 0, 1, 21, 0, 0), (21, .getfield 22, 3, 24, 0, 0), (24, .bipush 60, 2, 26, 60, 0), (26, .if_icmp .lt 13, 3, 29, 0, 39), (29, .new 55, 3, 32, 0, 0), (32, .dup, 1, 33, 0, 0), (33, .ldc 57, 2, 35, 0, 0), (35, .invokespecial 59, 3, 38, 0, 0), (38, .athrow, 1, 39, 0, 0), (39, .aload_n 0, 1, 40, 0, 0), (40, .getfield 22, 3, 43, 0, 0), (43, .istore_n 2, 1, 44, 0, 0), (44, .aload_n 0, 1, 45, 0, 0), (45, .getfield 9, 3, 48, 0, 0), (48, .iload_n 2, 1, 49, 0, 0), (49, .iconst 0, 1, 50, 0, 0), (50, .iastore, 1, 51, 0, 0), (51, .aload_n 0, 1, 52, 0, 0), (52, .getfield 13, 3, 55, 0, 0), (55, .iload_n 2, 1, 56, 0, 0), (56, .iload_n 1, 1, 57, 0, 0), (57, .iastore, 1, 58, 0, 0), (58, .aload_n 0, 1, 59, 0, 0), (59, .getfield 16, 3, 62, 0, 0), (62, .iload_n 2, 1, 63, 0, 0), (63, .iconst (-1), 1, 64, (-1), 0), (64, .iastore, 1, 65, 0, 0), (65, .aload_n 0, 1, 66, 0, 0), (66, .getfield 19, 3, 69, 0, 0), (69, .iload_n 2, 1, 70, 0, 0), (70, .iconst (-1), 1, 71, (-1), 0), (71, .iastore, 1, 72, 0, 0), (72, .aload_n 0, 1, 73, 0, 0), (73, .dup, 1, 74, 0, 0), (74, .getfield 22, 3, 77, 0, 0), (77, .iconst 1, 1, 78, 1, 0), (78, .iadd, 1, 79, 0, 0), (79, .putfield 22, 3, 82, 0, 0), (82, .iload_n 2, 1, 83, 0, 0), (83, .ireturn, 1, 84, 0, 0)]
def m_begin : aq_M := (⟨"LockDesk", "begin", "(I)I"⟩, prog_1_method_2_code, 3, (some .int), m_begin_t, [(9, 0, 0), (13, 0, 1), (16, 0, 2), (19, 0, 3), (22, 0, 4)], [])
def m_lock_t : List aq_I := [(0, .aload_n 0, 1, 1, 0, 0), (1, .iload_n 1, 1, 2, 0, 0), (2, .invokevirtual 60, 3, 5, 0, 0), (5, .iload_n 2, 1, 6, 0, 0), (6, .invokestatic 64, 3, 9, 0, 0), (9, .iload_n 3, 1, 10, 0, 0), (10, .ifCond .lt 8, 3, 13, 0, 18), (13, .iload_n 3, 1, 14, 0, 0), (14, .iconst 5, 1, 15, 5, 0), (15, .if_icmp .lt 13, 3, 18, 0, 28), (18, .new 48, 3, 21, 0, 0), (21, .dup, 1, 22, 0, 0), (22, .ldc 67, 2, 24, 0, 0), (24, .invokespecial 52, 3, 27, 0, 0), (27, .athrow, 1, 28, 0, 0), (28, .aload_n 0, 1, 29, 0, 0), (29, .iload_n 1, 1, 30, 0, 0), (30, .invokevirtual 69, 3, 33, 0, 0), (33, .aload_n 0, 1, 34, 0, 0), (34, .iload_n 1, 1, 35, 0, 0), (35, .iload_n 2, 1, 36, 0, 0), (36, .iload_n 3, 1, 37, 0, 0), (37, .invokevirtual 72, 3, 40, 0, 0), (40, .ifCond .ne 13, 3, 43, 0, 53), (43, .new 55, 3, 46, 0, 0), (46, .dup, 1, 47, 0, 0), (47, .ldc 76, 2, 49, 0, 0), (49, .invokespecial 59, 3, 52, 0, 0), (52, .athrow, 1, 53, 0, 0), (53, .aload_n 0, 1, 54, 0, 0), (54, .iload_n 1, 1, 55, 0, 0), (55, .iload_n 2, 1, 56, 0, 0), (56, .invokevirtual 78, 3, 59, 0, 0), (59, .istore 4, 2, 61, 0, 0), (61, .iload 4, 2, 63, 0, 0), (63, .iload_n 3, 1, 64, 0, 0), (64, .invokestatic 82, 3, 67, 0, 0), (67, .istore 5, 2, 69, 0, 0), (69, .iload 5, 2, 71, 0, 0), (71, .iload 4, 2, 73, 0, 0), (73, .if_icmp .ne 5, 3, 76, 0, 78), (76, .iconst 1, 1, 77, 1, 0), (77, .ireturn, 1, 78, 0, 0), (78, .aload_n 0, 1, 79, 0, 0), (79, .iload_n 1, 1, 80, 0, 0), (80, .iload_n 2, 1, 81, 0, 0), (81, .iload 5, 2, 83, 0, 0), (83, .invokevirtual 85, 3, 86, 0, 0), (86, .aload_n 0, 1, 87, 0, 0), (87, .iload_n 2, 1, 88, 0, 0), (88, .invokevirtual 89, 3, 91, 0, 0), (91, .pop, 1, 92, 0, 0), (92, .aload_n 0, 1, 93, 0, 0), (93, .getfield 16, 3, 96, 0, 0), (96, .iload_n 1, 1, 97, 0, 0), (97, .iaload, 1, 98, 0, 0), (98, .iconst (-1), 1, 99, (-1), 0), (99, .if_icmp .eq 15, 3, 102, 0, 114), (102, .aload_n 0, 1, 103, 0, 0), (103, .getfield 9, 3, 106, 0, 0), (106, .iload_n 1, 1, 107, 0, 0), (107, .iconst 1, 1, 108, 1, 0), (108, .iastore, 1, 109, 0, 0), (109, .aload_n 0, 1, 110, 0, 0), (110, .iload_n 1, 1, 111, 0, 0), (111, .invokevirtual 93, 3, 114, 0, 0), (114, .aload_n 0, 1, 115, 0, 0), (115, .iload_n 1, 1, 116, 0, 0), (116, .invokevirtual 96, 3, 119, 0, 0), (119, .ireturn, 1, 120, 0, 0)]
def m_lock : aq_M := (⟨"LockDesk", "lock", "(III)I"⟩, prog_1_method_3_code, 6, (some .int), m_lock_t, [(9, 0, 0), (16, 0, 2)], [])
def m_checkTransaction_t : List aq_I := [(0, .iload_n 1, 1, 1, 0, 0), (1, .ifCond .lt 11, 3, 4, 0, 12), (4, .iload_n 1, 1, 5, 0, 0), (5, .aload_n 0, 1, 6, 0, 0), (6, .getfield 22, 3, 9, 0, 0), (9, .if_icmp .lt 13, 3, 12, 0, 22), (12, .new 144, 3, 15, 0, 0), (15, .dup, 1, 16, 0, 0), (16, .ldc 162, 2, 18, 0, 0), (18, .invokespecial 148, 3, 21, 0, 0), (21, .athrow, 1, 22, 0, 0), (22, .return_, 1, 23, 0, 0)]
def m_checkTransaction : aq_M := (⟨"LockDesk", "checkTransaction", "(I)V"⟩, prog_1_method_14_code, 2, none, m_checkTransaction_t, [(22, 0, 4)], [])
def m_checkObject_t : List aq_I := [(0, .iload_n 0, 1, 1, 0, 0), (1, .ifCond .lt 9, 3, 4, 0, 10), (4, .iload_n 0, 1, 5, 0, 0), (5, .bipush 85, 2, 7, 85, 0), (7, .if_icmp .lt 13, 3, 10, 0, 20), (10, .new 144, 3, 13, 0, 0), (13, .dup, 1, 14, 0, 0), (14, .ldc 164, 2, 16, 0, 0), (16, .invokespecial 148, 3, 19, 0, 0), (19, .athrow, 1, 20, 0, 0), (20, .return_, 1, 21, 0, 0)]
def m_checkObject : aq_M := (⟨"LockDesk", "checkObject", "(I)V"⟩, prog_1_method_15_code, 1, none, m_checkObject_t, [], [])
def m_checkActive_t : List aq_I := [(0, .aload_n 0, 1, 1, 0, 0), (1, .getfield 9, 3, 4, 0, 0), (4, .iload_n 1, 1, 5, 0, 0), (5, .iaload, 1, 6, 0, 0), (6, .ifCond .eq 13, 3, 9, 0, 19), (9, .new 55, 3, 12, 0, 0), (12, .dup, 1, 13, 0, 0), (13, .ldc 166, 2, 15, 0, 0), (15, .invokespecial 59, 3, 18, 0, 0), (18, .athrow, 1, 19, 0, 0), (19, .return_, 1, 20, 0, 0)]
def m_checkActive : aq_M := (⟨"LockDesk", "checkActive", "(I)V"⟩, prog_1_method_16_code, 2, none, m_checkActive_t, [(9, 0, 0)], [])
def m_mayAsk_t : List aq_I := [(0, .iload_n 2, 1, 1, 0, 0), (1, .ifCond .ne 5, 3, 4, 0, 6), (4, .iconst 1, 1, 5, 1, 0), (5, .ireturn, 1, 6, 0, 0), (6, .aload_n 0, 1, 7, 0, 0), (7, .iload_n 1, 1, 8, 0, 0), (8, .iload_n 2, 1, 9, 0, 0), (9, .invokestatic 168, 3, 12, 0, 0), (12, .invokevirtual 78, 3, 15, 0, 0), (15, .istore 4, 2, 17, 0, 0), (17, .iload_n 3, 1, 18, 0, 0), (18, .invokestatic 171, 3, 21, 0, 0), (21, .ifCond .eq 11, 3, 24, 0, 32), (24, .iload 4, 2, 26, 0, 0), (26, .invokestatic 171, 3, 29, 0, 0), (29, .goto 14, 3, 32, 0, 43), (32, .iload 4, 2, 34, 0, 0), (34, .iconst (-1), 1, 35, (-1), 0), (35, .if_icmp .eq 7, 3, 38, 0, 42), (38, .iconst 1, 1, 39, 1, 0), (39, .goto 4, 3, 42, 0, 43), (42, .iconst 0, 1, 43, 0, 0), (43, .ireturn, 1, 44, 0, 0)]
def m_mayAsk : aq_M := (⟨"LockDesk", "mayAsk", "(III)Z"⟩, prog_1_method_17_code, 5, (some .boolean), m_mayAsk_t, [], [])
def m_above_t : List aq_I := [(0, .iload_n 0, 1, 1, 0, 0), (1, .iconst 1, 1, 2, 1, 0), (2, .isub, 1, 3, 0, 0), (3, .iconst 4, 1, 4, 4, 0), (4, .invokestatic 174, 3, 7, 0, 0), (7, .ireturn, 1, 8, 0, 0)]
def m_above : aq_M := (⟨"LockDesk", "above", "(I)I"⟩, prog_1_method_18_code, 1, (some .int), m_above_t, [], [])
def j_floorDiv_t : List aq_I := [(0, .iload_n 0, 1, 1, 0, 0), (1, .iload_n 1, 1, 2, 0, 0), (2, .idiv, 1, 3, 0, 0), (3, .istore_n 2, 1, 4, 0, 0), (4, .iload_n 0, 1, 5, 0, 0), (5, .iload_n 1, 1, 6, 0, 0), (6, .ixor, 1, 7, 0, 0), (7, .ifCond .ge 14, 3, 10, 0, 21), (10, .iload_n 2, 1, 11, 0, 0), (11, .iload_n 1, 1, 12, 0, 0), (12, .imul, 1, 13, 0, 0), (13, .iload_n 0, 1, 14, 0, 0), (14, .if_icmp .eq 7, 3, 17, 0, 21), (17, .iload_n 2, 1, 18, 0, 0), (18, .iconst 1, 1, 19, 1, 0), (19, .isub, 1, 20, 0, 0), (20, .ireturn, 1, 21, 0, 0), (21, .iload_n 2, 1, 22, 0, 0), (22, .ireturn, 1, 23, 0, 0)]
def j_floorDiv : aq_M := (⟨"java/lang/Math", "floorDiv", "(II)I"⟩, prog_10_method_47_code, 3, (some .int), j_floorDiv_t, [], [])
def m_heldMode_t : List aq_I := [(0, .iconst 0, 1, 1, 0, 0), (1, .istore_n 3, 1, 2, 0, 0), (2, .iload_n 3, 1, 3, 0, 0), (3, .iconst 5, 1, 4, 5, 0), (4, .if_icmp .ge 31, 3, 7, 0, 35), (7, .aload_n 0, 1, 8, 0, 0), (8, .getfield 26, 3, 11, 0, 0), (11, .iload_n 2, 1, 12, 0, 0), (12, .iconst 5, 1, 13, 5, 0), (13, .imul, 1, 14, 0, 0), (14, .iload_n 3, 1, 15, 0, 0), (15, .iadd, 1, 16, 0, 0), (16, .laload, 1, 17, 0, 0), (17, .iload_n 1, 1, 18, 0, 0), (18, .invokestatic 182, 3, 21, 0, 0), (21, .land, 1, 22, 0, 0), (22, .lconst 0, 1, 23, 0, 0), (23, .lcmp, 1, 24, 0, 0), (24, .ifCond .eq 5, 3, 27, 0, 29), (27, .iload_n 3, 1, 28, 0, 0), (28, .ireturn, 1, 29, 0, 0), (29, .iinc 3 1, 3, 32, 1, 0), (32, .goto (-30), 3, 35, 0, 2), (35, .iconst (-1), 1, 36, (-1), 0), (36, .ireturn, 1, 37, 0, 0)]
def m_heldMode : aq_M := (⟨"LockDesk", "heldMode", "(II)I"⟩, prog_1_method_24_code, 4, (some .int), m_heldMode_t, [(26, 0, 5)], [])
def m_isWriting_t : List aq_I := [(0, .iload_n 0, 1, 1, 0, 0), (1, .iconst 1, 1, 2, 1, 0), (2, .if_icmp .eq 13, 3, 5, 0, 15), (5, .iload_n 0, 1, 6, 0, 0), (6, .iconst 3, 1, 7, 3, 0), (7, .if_icmp .eq 8, 3, 10, 0, 15), (10, .iload_n 0, 1, 11, 0, 0), (11, .iconst 4, 1, 12, 4, 0), (12, .if_icmp .ne 7, 3, 15, 0, 19), (15, .iconst 1, 1, 16, 1, 0), (16, .goto 4, 3, 19, 0, 20), (19, .iconst 0, 1, 20, 0, 0), (20, .ireturn, 1, 21, 0, 0)]
def m_isWriting : aq_M := (⟨"LockDesk", "isWriting", "(I)Z"⟩, prog_1_method_22_code, 1, (some .boolean), m_isWriting_t, [], [])
def m_leastAbove_t : List aq_I := [(0, .iload_n 0, 1, 1, 0, 0), (1, .iconst 1, 1, 2, 1, 0), (2, .if_icmp .ne 8, 3, 5, 0, 10), (5, .iload_n 1, 1, 6, 0, 0), (6, .iconst 2, 1, 7, 2, 0), (7, .if_icmp .eq 13, 3, 10, 0, 20), (10, .iload_n 0, 1, 11, 0, 0), (11, .iconst 2, 1, 12, 2, 0), (12, .if_icmp .ne 12, 3, 15, 0, 24), (15, .iload_n 1, 1, 16, 0, 0), (16, .iconst 1, 1, 17, 1, 0), (17, .if_icmp .ne 7, 3, 20, 0, 24), (20, .iconst 1, 1, 21, 1, 0), (21, .goto 4, 3, 24, 0, 25), (24, .iconst 0, 1, 25, 0, 0), (25, .istore_n 2, 1, 26, 0, 0), (26, .iload_n 2, 1, 27, 0, 0), (27, .ifCond .eq 7, 3, 30, 0, 34), (30, .iconst 3, 1, 31, 3, 0), (31, .goto 8, 3, 34, 0, 39), (34, .iload_n 0, 1, 35, 0, 0), (35, .iload_n 1, 1, 36, 0, 0), (36, .invokestatic 179, 3, 39, 0, 0), (39, .ireturn, 1, 40, 0, 0)]
def m_leastAbove : aq_M := (⟨"LockDesk", "leastAbove", "(II)I"⟩, prog_1_method_21_code, 3, (some .int), m_leastAbove_t, [], [])
def j_max_t : List aq_I := [(0, .iload_n 0, 1, 1, 0, 0), (1, .iload_n 1, 1, 2, 0, 0), (2, .if_icmp .lt 7, 3, 5, 0, 9), (5, .iload_n 0, 1, 6, 0, 0), (6, .goto 4, 3, 9, 0, 10), (9, .iload_n 1, 1, 10, 0, 0), (10, .ireturn, 1, 11, 0, 0)]
def j_max : aq_M := (⟨"java/lang/Math", "max", "(II)I"⟩, prog_10_method_65_code, 2, (some .int), j_max_t, [], [])
def m_joinQueue_t : List aq_I := [(0, .aload_n 0, 1, 1, 0, 0), (1, .iload_n 1, 1, 2, 0, 0), (2, .iload_n 2, 1, 3, 0, 0), (3, .invokevirtual 78, 3, 6, 0, 0), (6, .iconst (-1), 1, 7, (-1), 0), (7, .if_icmp .ne 10, 3, 10, 0, 17), (10, .aload_n 0, 1, 11, 0, 0), (11, .getfield 33, 3, 14, 0, 0), (14, .goto 8, 3, 17, 0, 22), (17, .aload_n 0, 1, 18, 0, 0), (18, .iload_n 2, 1, 19, 0, 0), (19, .invokevirtual 199, 3, 22, 0, 0), (22, .istore 4, 2, 24, 0, 0), (24, .aload_n 0, 1, 25, 0, 0), (25, .getfield 33, 3, 28, 0, 0), (28, .istore 5, 2, 30, 0, 0), (30, .iload 5, 2, 32, 0, 0), (32, .iload 4, 2, 34, 0, 0), (34, .if_icmp .le 25, 3, 37, 0, 59), (37, .aload_n 0, 1, 38, 0, 0), (38, .getfield 30, 3, 41, 0, 0), (41, .iload 5, 2, 43, 0, 0), (43, .aload_n 0, 1, 44, 0, 0), (44, .getfield 30, 3, 47, 0, 0), (47, .iload 5, 2, 49, 0, 0), (49, .iconst 1, 1, 50, 1, 0), (50, .isub, 1, 51, 0, 0), (51, .iaload, 1, 52, 0, 0), (52, .iastore, 1, 53, 0, 0), (53, .iinc 5 (-1), 3, 56, (-1), 0), (56, .goto (-26), 3, 59, 0, 30), (59, .aload_n 0, 1, 60, 0, 0), (60, .getfield 30, 3, 63, 0, 0), (63, .iload 4, 2, 65, 0, 0), (65, .iload_n 1, 1, 66, 0, 0), (66, .iastore, 1, 67, 0, 0), (67, .aload_n 0, 1, 68, 0, 0), (68, .dup, 1, 69, 0, 0), (69, .getfield 33, 3, 72, 0, 0), (72, .iconst 1, 1, 73, 1, 0), (73, .iadd, 1, 74, 0, 0), (74, .putfield 33, 3, 77, 0, 0), (77, .aload_n 0, 1, 78, 0, 0), (78, .getfield 16, 3, 81, 0, 0), (81, .iload_n 1, 1, 82, 0, 0), (82, .iload_n 2, 1, 83, 0, 0), (83, .iastore, 1, 84, 0, 0), (84, .aload_n 0, 1, 85, 0, 0), (85, .getfield 19, 3, 88, 0, 0), (88, .iload_n 1, 1, 89, 0, 0), (89, .iload_n 3, 1, 90, 0, 0), (90, .iastore, 1, 91, 0, 0), (91, .return_, 1, 92, 0, 0)]
def m_joinQueue : aq_M := (⟨"LockDesk", "joinQueue", "(III)V"⟩, prog_1_method_34_code, 6, none, m_joinQueue_t, [(16, 0, 2), (19, 0, 3), (30, 0, 6), (33, 0, 7)], [])
def m_placeOfNewcomers_t : List aq_I := [(0, .iconst 0, 1, 1, 0, 0), (1, .istore_n 2, 1, 2, 0, 0), (2, .iload_n 2, 1, 3, 0, 0), (3, .aload_n 0, 1, 4, 0, 0), (4, .getfield 33, 3, 7, 0, 0), (7, .if_icmp .ge 41, 3, 10, 0, 48), (10, .aload_n 0, 1, 11, 0, 0), (11, .getfield 16, 3, 14, 0, 0), (14, .aload_n 0, 1, 15, 0, 0), (15, .getfield 30, 3, 18, 0, 0), (18, .iload_n 2, 1, 19, 0, 0), (19, .iaload, 1, 20, 0, 0), (20, .iaload, 1, 21, 0, 0), (21, .iload_n 1, 1, 22, 0, 0), (22, .if_icmp .ne 20, 3, 25, 0, 42), (25, .aload_n 0, 1, 26, 0, 0), (26, .aload_n 0, 1, 27, 0, 0), (27, .getfield 30, 3, 30, 0, 0), (30, .iload_n 2, 1, 31, 0, 0), (31, .iaload, 1, 32, 0, 0), (32, .iload_n 1, 1, 33, 0, 0), (33, .invokevirtual 78, 3, 36, 0, 0), (36, .iconst (-1), 1, 37, (-1), 0), (37, .if_icmp .ne 5, 3, 40, 0, 42), (40, .iload_n 2, 1, 41, 0, 0), (41, .ireturn, 1, 42, 0, 0), (42, .iinc 2 1, 3, 45, 1, 0), (45, .goto (-43), 3, 48, 0, 2), (48, .aload_n 0, 1, 49, 0, 0), (49, .getfield 33, 3, 52, 0, 0), (52, .ireturn, 1, 53, 0, 0)]
def m_placeOfNewcomers : aq_M := (⟨"LockDesk", "placeOfNewcomers", "(I)I"⟩, prog_1_method_35_code, 3, (some .int), m_placeOfNewcomers_t, [(16, 0, 2), (30, 0, 6), (33, 0, 7)], [])
def m_serve_t : List aq_I := [(0, .iconst 0, 1, 1, 0, 0), (1, .istore_n 2, 1, 2, 0, 0), (2, .aload_n 0, 1, 3, 0, 0), (3, .iload_n 1, 1, 4, 0, 0), (4, .invokevirtual 159, 3, 7, 0, 0), (7, .istore_n 3, 1, 8, 0, 0), (8, .iload_n 3, 1, 9, 0, 0), (9, .iconst (-1), 1, 10, (-1), 0), (10, .if_icmp .eq 26, 3, 13, 0, 36), (13, .iload_n 2, 1, 14, 0, 0), (14, .bipush 60, 2, 16, 60, 0), (16, .if_icmp .ge 20, 3, 19, 0, 36), (19, .aload_n 0, 1, 20, 0, 0), (20, .iload_n 3, 1, 21, 0, 0), (21, .invokevirtual 202, 3, 24, 0, 0), (24, .iinc 2 1, 3, 27, 1, 0), (27, .aload_n 0, 1, 28, 0, 0), (28, .iload_n 1, 1, 29, 0, 0), (29, .invokevirtual 159, 3, 32, 0, 0), (32, .istore_n 3, 1, 33, 0, 0), (33, .goto (-25), 3, 36, 0, 8), (36, .iload_n 2, 1, 37, 0, 0), (37, .ireturn, 1, 38, 0, 0)]
def m_serve : aq_M := (⟨"LockDesk", "serve", "(I)I"⟩, prog_1_method_40_code, 4, (some .int), m_serve_t, [], [])
def m_grant_t : List aq_I := [(0, .aload_n 0, 1, 1, 0, 0), (1, .iload_n 1, 1, 2, 0, 0), (2, .aload_n 0, 1, 3, 0, 0), (3, .getfield 16, 3, 6, 0, 0), (6, .iload_n 1, 1, 7, 0, 0), (7, .iaload, 1, 8, 0, 0), (8, .aload_n 0, 1, 9, 0, 0), (9, .getfield 19, 3, 12, 0, 0), (12, .iload_n 1, 1, 13, 0, 0), (13, .iaload, 1, 14, 0, 0), (14, .invokevirtual 114, 3, 17, 0, 0), (17, .aload_n 0, 1, 18, 0, 0), (18, .iload_n 1, 1, 19, 0, 0), (19, .invokevirtual 205, 3, 22, 0, 0), (22, .aload_n 0, 1, 23, 0, 0), (23, .getfield 9, 3, 26, 0, 0), (26, .iload_n 1, 1, 27, 0, 0), (27, .iaload, 1, 28, 0, 0), (28, .iconst 1, 1, 29, 1, 0), (29, .if_icmp .ne 16, 3, 32, 0, 45), (32, .aload_n 0, 1, 33, 0, 0), (33, .dup, 1, 34, 0, 0), (34, .getfield 45, 3, 37, 0, 0), (37, .iconst 1, 1, 38, 1, 0), (38, .iadd, 1, 39, 0, 0), (39, .putfield 45, 3, 42, 0, 0), (42, .goto 13, 3, 45, 0, 55), (45, .aload_n 0, 1, 46, 0, 0), (46, .dup, 1, 47, 0, 0), (47, .getfield 42, 3, 50, 0, 0), (50, .iconst 1, 1, 51, 1, 0), (51, .iadd, 1, 52, 0, 0), (52, .putfield 42, 3, 55, 0, 0), (55, .aload_n 0, 1, 56, 0, 0), (56, .getfield 9, 3, 59, 0, 0), (59, .iload_n 1, 1, 60, 0, 0), (60, .iconst 0, 1, 61, 0, 0), (61, .iastore, 1, 62, 0, 0), (62, .return_, 1, 63, 0, 0)]
def m_grant : aq_M := (⟨"LockDesk", "grant", "(I)V"⟩, prog_1_method_41_code, 2, none, m_grant_t, [(9, 0, 0), (16, 0, 2), (19, 0, 3), (42, 0, 10), (45, 0, 11)], [])
def m_hold_t : List aq_I := [(0, .iconst 0, 1, 1, 0, 0), (1, .istore 4, 2, 3, 0, 0), (3, .iload 4, 2, 5, 0, 0), (5, .iconst 5, 1, 6, 5, 0), (6, .if_icmp .ge 31, 3, 9, 0, 37), (9, .aload_n 0, 1, 10, 0, 0), (10, .getfield 26, 3, 13, 0, 0), (13, .iload_n 2, 1, 14, 0, 0), (14, .iconst 5, 1, 15, 5, 0), (15, .imul, 1, 16, 0, 0), (16, .iload 4, 2, 18, 0, 0), (18, .iadd, 1, 19, 0, 0), (19, .dup2, 1, 20, 0, 0), (20, .laload, 1, 21, 0, 0), (21, .iload_n 1, 1, 22, 0, 0), (22, .invokestatic 182, 3, 25, 0, 0), (25, .ldc2_w 185, 3, 28, 0, 0), (28, .lxor, 1, 29, 0, 0), (29, .land, 1, 30, 0, 0), (30, .lastore, 1, 31, 0, 0), (31, .iinc 4 1, 3, 34, 1, 0), (34, .goto (-31), 3, 37, 0, 3), (37, .aload_n 0, 1, 38, 0, 0), (38, .getfield 26, 3, 41, 0, 0), (41, .iload_n 2, 1, 42, 0, 0), (42, .iconst 5, 1, 43, 5, 0), (43, .imul, 1, 44, 0, 0), (44, .iload_n 3, 1, 45, 0, 0), (45, .iadd, 1, 46, 0, 0), (46, .dup2, 1, 47, 0, 0), (47, .laload, 1, 48, 0, 0), (48, .iload_n 1, 1, 49, 0, 0), (49, .invokestatic 182, 3, 52, 0, 0), (52, .lor, 1, 53, 0, 0), (53, .lastore, 1, 54, 0, 0), (54, .return_, 1, 55, 0, 0)]
def m_hold : aq_M := (⟨"LockDesk", "hold", "(III)V"⟩, prog_1_method_25_code, 5, none, m_hold_t, [(26, 0, 5)], [(185, (-1))])
def m_leaveQueue_t : List aq_I := [(0, .iconst 0, 1, 1, 0, 0), (1, .istore_n 2, 1, 2, 0, 0), (2, .iconst 0, 1, 3, 0, 0), (3, .istore_n 3, 1, 4, 0, 0), (4, .iload_n 3, 1, 5, 0, 0), (5, .aload_n 0, 1, 6, 0, 0), (6, .getfield 33, 3, 9, 0, 0), (9, .if_icmp .ge 34, 3, 12, 0, 43), (12, .aload_n 0, 1, 13, 0, 0), (13, .getfield 30, 3, 16, 0, 0), (16, .iload_n 3, 1, 17, 0, 0), (17, .iaload, 1, 18, 0, 0), (18, .iload_n 1, 1, 19, 0, 0), (19, .if_icmp .eq 18, 3, 22, 0, 37), (22, .aload_n 0, 1, 23, 0, 0), (23, .getfield 30, 3, 26, 0, 0), (26, .iload_n 2, 1, 27, 0, 0), (27, .aload_n 0, 1, 28, 0, 0), (28, .getfield 30, 3, 31, 0, 0), (31, .iload_n 3, 1, 32, 0, 0), (32, .iaload, 1, 33, 0, 0), (33, .iastore, 1, 34, 0, 0), (34, .iinc 2 1, 3, 37, 1, 0), (37, .iinc 3 1, 3, 40, 1, 0), (40, .goto (-36), 3, 43, 0, 4), (43, .aload_n 0, 1, 44, 0, 0), (44, .iload_n 2, 1, 45, 0, 0), (45, .putfield 33, 3, 48, 0, 0), (48, .aload_n 0, 1, 49, 0, 0), (49, .getfield 16, 3, 52, 0, 0), (52, .iload_n 1, 1, 53, 0, 0), (53, .iconst (-1), 1, 54, (-1), 0), (54, .iastore, 1, 55, 0, 0), (55, .aload_n 0, 1, 56, 0, 0), (56, .getfield 19, 3, 59, 0, 0), (59, .iload_n 1, 1, 60, 0, 0), (60, .iconst (-1), 1, 61, (-1), 0), (61, .iastore, 1, 62, 0, 0), (62, .return_, 1, 63, 0, 0)]
def m_leaveQueue : aq_M := (⟨"LockDesk", "leaveQueue", "(I)V"⟩, prog_1_method_36_code, 4, none, m_leaveQueue_t, [(16, 0, 2), (19, 0, 3), (30, 0, 6), (33, 0, 7)], [])
def m_breakCircles_t : List aq_I := [(0, .iconst 0, 1, 1, 0, 0), (1, .istore_n 2, 1, 2, 0, 0), (2, .iload_n 2, 1, 3, 0, 0), (3, .bipush 60, 2, 5, 60, 0), (5, .if_icmp .ge 52, 3, 8, 0, 57), (8, .aload_n 0, 1, 9, 0, 0), (9, .getfield 9, 3, 12, 0, 0), (12, .iload_n 1, 1, 13, 0, 0), (13, .iaload, 1, 14, 0, 0), (14, .iconst 1, 1, 15, 1, 0), (15, .if_icmp .ne 42, 3, 18, 0, 57), (18, .aload_n 0, 1, 19, 0, 0), (19, .aload_n 0, 1, 20, 0, 0), (20, .iload_n 1, 1, 21, 0, 0), (21, .invokevirtual 212, 3, 24, 0, 0), (24, .invokevirtual 215, 3, 27, 0, 0), (27, .istore_n 3, 1, 28, 0, 0), (28, .iload_n 3, 1, 29, 0, 0), (29, .iconst (-1), 1, 30, (-1), 0), (30, .if_icmp .ne 4, 3, 33, 0, 34), (33, .return_, 1, 34, 0, 0), (34, .aload_n 0, 1, 35, 0, 0), (35, .dup, 1, 36, 0, 0), (36, .getfield 39, 3, 39, 0, 0), (39, .iconst 1, 1, 40, 1, 0), (40, .iadd, 1, 41, 0, 0), (41, .putfield 39, 3, 44, 0, 0), (44, .aload_n 0, 1, 45, 0, 0), (45, .iload_n 3, 1, 46, 0, 0), (46, .iconst 3, 1, 47, 3, 0), (47, .invokevirtual 99, 3, 50, 0, 0), (50, .pop, 1, 51, 0, 0), (51, .iinc 2 1, 3, 54, 1, 0), (54, .goto (-52), 3, 57, 0, 2), (57, .return_, 1, 58, 0, 0)]
def m_breakCircles : aq_M := (⟨"LockDesk", "breakCircles", "(I)V"⟩, prog_1_method_44_code, 4, none, m_breakCircles_t, [(9, 0, 0), (39, 0, 9)], [])
def m_circleOf_t : List aq_I := [(0, .iconst 0, 1, 1, 0, 0), (1, .istore_n 2, 1, 2, 0, 0), (2, .iload_n 2, 1, 3, 0, 0), (3, .aload_n 0, 1, 4, 0, 0), (4, .getfield 22, 3, 7, 0, 0), (7, .if_icmp .ge 20, 3, 10, 0, 27), (10, .aload_n 0, 1, 11, 0, 0), (11, .getfield 36, 3, 14, 0, 0), (14, .iload_n 2, 1, 15, 0, 0), (15, .aload_n 0, 1, 16, 0, 0), (16, .iload_n 2, 1, 17, 0, 0), (17, .invokevirtual 149, 3, 20, 0, 0), (20, .lastore, 1, 21, 0, 0), (21, .iinc 2 1, 3, 24, 1, 0), (24, .goto (-22), 3, 27, 0, 2), (27, .aload_n 0, 1, 28, 0, 0), (28, .iload_n 1, 1, 29, 0, 0), (29, .invokevirtual 218, 3, 32, 0, 0), (32, .aload_n 0, 1, 33, 0, 0), (33, .iload_n 1, 1, 34, 0, 0), (34, .invokevirtual 221, 3, 37, 0, 0), (37, .land, 1, 38, 0, 0), (38, .lreturn, 1, 39, 0, 0)]
def m_circleOf : aq_M := (⟨"LockDesk", "circleOf", "(I)J"⟩, prog_1_method_45_code, 3, (some .long), m_circleOf_t, [(22, 0, 4), (36, 0, 8)], [])
def m_waitRow_t : List aq_I := [(0, .aload_n 0, 1, 1, 0, 0), (1, .getfield 16, 3, 4, 0, 0), (4, .iload_n 1, 1, 5, 0, 0), (5, .iaload, 1, 6, 0, 0), (6, .istore_n 2, 1, 7, 0, 0), (7, .iload_n 2, 1, 8, 0, 0), (8, .iconst (-1), 1, 9, (-1), 0), (9, .if_icmp .ne 5, 3, 12, 0, 14), (12, .lconst 0, 1, 13, 0, 0), (13, .lreturn, 1, 14, 0, 0), (14, .aload_n 0, 1, 15, 0, 0), (15, .iload_n 1, 1, 16, 0, 0), (16, .iload_n 2, 1, 17, 0, 0), (17, .aload_n 0, 1, 18, 0, 0), (18, .getfield 19, 3, 21, 0, 0), (21, .iload_n 1, 1, 22, 0, 0), (22, .iaload, 1, 23, 0, 0), (23, .invokevirtual 110, 3, 26, 0, 0), (26, .aload_n 0, 1, 27, 0, 0), (27, .iload_n 1, 1, 28, 0, 0), (28, .iload_n 2, 1, 29, 0, 0), (29, .invokevirtual 208, 3, 32, 0, 0), (32, .lor, 1, 33, 0, 0), (33, .lreturn, 1, 34, 0, 0)]
def m_waitRow : aq_M := (⟨"LockDesk", "waitRow", "(I)J"⟩, prog_1_method_42_code, 3, (some .long), m_waitRow_t, [(16, 0, 2), (19, 0, 3)], [])
def m_standingBefore_t : List aq_I := [(0, .lconst 0, 1, 1, 0, 0), (1, .lstore_n 3, 1, 2, 0, 0), (2, .iconst 0, 1, 3, 0, 0), (3, .istore 5, 2, 5, 0, 0), (5, .iload 5, 2, 7, 0, 0), (7, .aload_n 0, 1, 8, 0, 0), (8, .getfield 33, 3, 11, 0, 0), (11, .if_icmp .ge 49, 3, 14, 0, 60), (14, .aload_n 0, 1, 15, 0, 0), (15, .getfield 30, 3, 18, 0, 0), (18, .iload 5, 2, 20, 0, 0), (20, .iaload, 1, 21, 0, 0), (21, .iload_n 1, 1, 22, 0, 0), (22, .if_icmp .eq 38, 3, 25, 0, 60), (25, .aload_n 0, 1, 26, 0, 0), (26, .getfield 16, 3, 29, 0, 0), (29, .aload_n 0, 1, 30, 0, 0), (30, .getfield 30, 3, 33, 0, 0), (33, .iload 5, 2, 35, 0, 0), (35, .iaload, 1, 36, 0, 0), (36, .iaload, 1, 37, 0, 0), (37, .iload_n 2, 1, 38, 0, 0), (38, .if_icmp .ne 16, 3, 41, 0, 54), (41, .lload_n 3, 1, 42, 0, 0), (42, .aload_n 0, 1, 43, 0, 0), (43, .getfield 30, 3, 46, 0, 0), (46, .iload 5, 2, 48, 0, 0), (48, .iaload, 1, 49, 0, 0), (49, .invokestatic 182, 3, 52, 0, 0), (52, .lor, 1, 53, 0, 0), (53, .lstore_n 3, 1, 54, 0, 0), (54, .iinc 5 1, 3, 57, 1, 0), (57, .goto (-52), 3, 60, 0, 5), (60, .lload_n 3, 1, 61, 0, 0), (61, .lreturn, 1, 62, 0, 0)]
def m_standingBefore : aq_M := (⟨"LockDesk", "standingBefore", "(II)J"⟩, prog_1_method_43_code, 6, (some .long), m_standingBefore_t, [(16, 0, 2), (30, 0, 6), (33, 0, 7)], [])
def m_reachedFrom_t : List aq_I := [(0, .aload_n 0, 1, 1, 0, 0), (1, .getfield 36, 3, 4, 0, 0), (4, .iload_n 1, 1, 5, 0, 0), (5, .laload, 1, 6, 0, 0), (6, .lstore_n 2, 1, 7, 0, 0), (7, .iconst 0, 1, 8, 0, 0), (8, .istore 4, 2, 10, 0, 0), (10, .iload 4, 2, 12, 0, 0), (12, .bipush 60, 2, 14, 60, 0), (14, .if_icmp .ge 62, 3, 17, 0, 76), (17, .lload_n 2, 1, 18, 0, 0), (18, .lstore 5, 2, 20, 0, 0), (20, .iconst 0, 1, 21, 0, 0), (21, .istore 7, 2, 23, 0, 0), (23, .iload 7, 2, 25, 0, 0), (25, .aload_n 0, 1, 26, 0, 0), (26, .getfield 22, 3, 29, 0, 0), (29, .if_icmp .ge 31, 3, 32, 0, 60), (32, .lload_n 2, 1, 33, 0, 0), (33, .iload 7, 2, 35, 0, 0), (35, .invokestatic 182, 3, 38, 0, 0), (38, .land, 1, 39, 0, 0), (39, .lconst 0, 1, 40, 0, 0), (40, .lcmp, 1, 41, 0, 0), (41, .ifCond .eq 13, 3, 44, 0, 54), (44, .lload_n 2, 1, 45, 0, 0), (45, .aload_n 0, 1, 46, 0, 0), (46, .getfield 36, 3, 49, 0, 0), (49, .iload 7, 2, 51, 0, 0), (51, .laload, 1, 52, 0, 0), (52, .lor, 1, 53, 0, 0), (53, .lstore_n 2, 1, 54, 0, 0), (54, .iinc 7 1, 3, 57, 1, 0), (57, .goto (-34), 3, 60, 0, 23), (60, .lload_n 2, 1, 61, 0, 0), (61, .lload 5, 2, 63, 0, 0), (63, .lcmp, 1, 64, 0, 0), (64, .ifCond .ne 6, 3, 67, 0, 70), (67, .goto 9, 3, 70, 0, 76), (70, .iinc 4 1, 3, 73, 1, 0), (73, .goto (-63), 3, 76, 0, 10), (76, .lload_n 2, 1, 77, 0, 0), (77, .lreturn, 1, 78, 0, 0)]
def m_reachedFrom : aq_M := (⟨"LockDesk", "reachedFrom", "(I)J"⟩, prog_1_method_46_code, 8, (some .long), m_reachedFrom_t, [(22, 0, 4), (36, 0, 8)], [])
def m_reaching_t : List aq_I := [(0, .iload_n 1, 1, 1, 0, 0), (1, .invokestatic 182, 3, 4, 0, 0), (4, .lstore_n 2, 1, 5, 0, 0), (5, .iconst 0, 1, 6, 0, 0), (6, .istore 4, 2, 8, 0, 0), (8, .iload 4, 2, 10, 0, 0), (10, .bipush 60, 2, 12, 60, 0), (12, .if_icmp .ge 62, 3, 15, 0, 74), (15, .lload_n 2, 1, 16, 0, 0), (16, .lstore 5, 2, 18, 0, 0), (18, .iconst 0, 1, 19, 0, 0), (19, .istore 7, 2, 21, 0, 0), (21, .iload 7, 2, 23, 0, 0), (23, .aload_n 0, 1, 24, 0, 0), (24, .getfield 22, 3, 27, 0, 0), (27, .if_icmp .ge 31, 3, 30, 0, 58), (30, .aload_n 0, 1, 31, 0, 0), (31, .getfield 36, 3, 34, 0, 0), (34, .iload 7, 2, 36, 0, 0), (36, .laload, 1, 37, 0, 0), (37, .lload_n 2, 1, 38, 0, 0), (38, .land, 1, 39, 0, 0), (39, .lconst 0, 1, 40, 0, 0), (40, .lcmp, 1, 41, 0, 0), (41, .ifCond .eq 11, 3, 44, 0, 52), (44, .lload_n 2, 1, 45, 0, 0), (45, .iload 7, 2, 47, 0, 0), (47, .invokestatic 182, 3, 50, 0, 0), (50, .lor, 1, 51, 0, 0), (51, .lstore_n 2, 1, 52, 0, 0), (52, .iinc 7 1, 3, 55, 1, 0), (55, .goto (-34), 3, 58, 0, 21), (58, .lload_n 2, 1, 59, 0, 0), (59, .lload 5, 2, 61, 0, 0), (61, .lcmp, 1, 62, 0, 0), (62, .ifCond .ne 6, 3, 65, 0, 68), (65, .goto 9, 3, 68, 0, 74), (68, .iinc 4 1, 3, 71, 1, 0), (71, .goto (-63), 3, 74, 0, 8), (74, .lload_n 2, 1, 75, 0, 0), (75, .lreturn, 1, 76, 0, 0)]
def m_reaching : aq_M := (⟨"LockDesk", "reaching", "(I)J"⟩, prog_1_method_47_code, 8, (some .long), m_reaching_t, [(22, 0, 4), (36, 0, 8)], [])
def m_weakestOf_t : List aq_I := [(0, .iconst (-1), 1, 1, (-1), 0), (1, .istore_n 3, 1, 2, 0, 0), (2, .iconst 0, 1, 3, 0, 0), (3, .istore 4, 2, 5, 0, 0), (5, .iload 4, 2, 7, 0, 0), (7, .aload_n 0, 1, 8, 0, 0), (8, .getfield 22, 3, 11, 0, 0), (11, .if_icmp .ge 45, 3, 14, 0, 56), (14, .lload_n 1, 1, 15, 0, 0), (15, .iload 4, 2, 17, 0, 0), (17, .invokestatic 182, 3, 20, 0, 0), (20, .land, 1, 21, 0, 0), (21, .lconst 0, 1, 22, 0, 0), (22, .lcmp, 1, 23, 0, 0), (23, .ifCond .eq 27, 3, 26, 0, 50), (26, .iload_n 3, 1, 27, 0, 0), (27, .iconst (-1), 1, 28, (-1), 0), (28, .if_icmp .eq 19, 3, 31, 0, 47), (31, .aload_n 0, 1, 32, 0, 0), (32, .getfield 13, 3, 35, 0, 0), (35, .iload 4, 2, 37, 0, 0), (37, .iaload, 1, 38, 0, 0), (38, .aload_n 0, 1, 39, 0, 0), (39, .getfield 13, 3, 42, 0, 0), (42, .iload_n 3, 1, 43, 0, 0), (43, .iaload, 1, 44, 0, 0), (44, .if_icmp .gt 6, 3, 47, 0, 50), (47, .iload 4, 2, 49, 0, 0), (49, .istore_n 3, 1, 50, 0, 0), (50, .iinc 4 1, 3, 53, 1, 0), (53, .goto (-48), 3, 56, 0, 5), (56, .iload_n 3, 1, 57, 0, 0), (57, .ireturn, 1, 58, 0, 0)]
def m_weakestOf : aq_M := (⟨"LockDesk", "weakestOf", "(J)I"⟩, prog_1_method_48_code, 5, (some .int), m_weakestOf_t, [(13, 0, 1), (22, 0, 4)], [])
def m_end_t : List aq_I := [(0, .aload_n 0, 1, 1, 0, 0), (1, .getfield 16, 3, 4, 0, 0), (4, .iload_n 1, 1, 5, 0, 0), (5, .iaload, 1, 6, 0, 0), (6, .istore_n 3, 1, 7, 0, 0), (7, .aload_n 0, 1, 8, 0, 0), (8, .getfield 9, 3, 11, 0, 0), (11, .iload_n 1, 1, 12, 0, 0), (12, .iload_n 2, 1, 13, 0, 0), (13, .iastore, 1, 14, 0, 0), (14, .aload_n 0, 1, 15, 0, 0), (15, .iload_n 1, 1, 16, 0, 0), (16, .invokevirtual 205, 3, 19, 0, 0), (19, .iconst 0, 1, 20, 0, 0), (20, .istore 4, 2, 22, 0, 0), (22, .iconst 0, 1, 23, 0, 0), (23, .istore 5, 2, 25, 0, 0), (25, .iload 5, 2, 27, 0, 0), (27, .bipush 85, 2, 29, 85, 0), (29, .if_icmp .ge 36, 3, 32, 0, 65), (32, .aload_n 0, 1, 33, 0, 0), (33, .iload_n 1, 1, 34, 0, 0), (34, .iload 5, 2, 36, 0, 0), (36, .invokevirtual 196, 3, 39, 0, 0), (39, .ifCond .ne 9, 3, 42, 0, 48), (42, .iload 5, 2, 44, 0, 0), (44, .iload_n 3, 1, 45, 0, 0), (45, .if_icmp .ne 14, 3, 48, 0, 59), (48, .iload 4, 2, 50, 0, 0), (50, .aload_n 0, 1, 51, 0, 0), (51, .iload 5, 2, 53, 0, 0), (53, .invokevirtual 89, 3, 56, 0, 0), (56, .iadd, 1, 57, 0, 0), (57, .istore 4, 2, 59, 0, 0), (59, .iinc 5 1, 3, 62, 1, 0), (62, .goto (-37), 3, 65, 0, 25), (65, .iload 4, 2, 67, 0, 0), (67, .ireturn, 1, 68, 0, 0)]
def m_end : aq_M := (⟨"LockDesk", "end", "(II)I"⟩, prog_1_method_49_code, 6, (some .int), m_end_t, [(9, 0, 0), (16, 0, 2)], [])
def m_letGo_t : List aq_I := [(0, .aload_n 0, 1, 1, 0, 0), (1, .iload_n 1, 1, 2, 0, 0), (2, .iload_n 2, 1, 3, 0, 0), (3, .invokevirtual 78, 3, 6, 0, 0), (6, .istore_n 3, 1, 7, 0, 0), (7, .iload_n 3, 1, 8, 0, 0), (8, .iconst (-1), 1, 9, (-1), 0), (9, .if_icmp .ne 5, 3, 12, 0, 14), (12, .iconst 0, 1, 13, 0, 0), (13, .ireturn, 1, 14, 0, 0), (14, .aload_n 0, 1, 15, 0, 0), (15, .getfield 26, 3, 18, 0, 0), (18, .iload_n 2, 1, 19, 0, 0), (19, .iconst 5, 1, 20, 5, 0), (20, .imul, 1, 21, 0, 0), (21, .iload_n 3, 1, 22, 0, 0), (22, .iadd, 1, 23, 0, 0), (23, .dup2, 1, 24, 0, 0), (24, .laload, 1, 25, 0, 0), (25, .iload_n 1, 1, 26, 0, 0), (26, .invokestatic 182, 3, 29, 0, 0), (29, .ldc2_w 185, 3, 32, 0, 0), (32, .lxor, 1, 33, 0, 0), (33, .land, 1, 34, 0, 0), (34, .lastore, 1, 35, 0, 0), (35, .iconst 1, 1, 36, 1, 0), (36, .ireturn, 1, 37, 0, 0)]
def m_letGo : aq_M := (⟨"LockDesk", "letGo", "(II)Z"⟩, prog_1_method_26_code, 4, (some .boolean), m_letGo_t, [(26, 0, 5)], [(185, (-1))])
def m_answerFor_t : List aq_I := [(0, .aload_n 0, 1, 1, 0, 0), (1, .getfield 9, 3, 4, 0, 0), (4, .iload_n 1, 1, 5, 0, 0), (5, .iaload, 1, 6, 0, 0), (6, .ifCond .ne 5, 3, 9, 0, 11), (9, .iconst 1, 1, 10, 1, 0), (10, .ireturn, 1, 11, 0, 0), (11, .aload_n 0, 1, 12, 0, 0), (12, .getfield 9, 3, 15, 0, 0), (15, .iload_n 1, 1, 16, 0, 0), (16, .iaload, 1, 17, 0, 0), (17, .iconst 1, 1, 18, 1, 0), (18, .if_icmp .ne 7, 3, 21, 0, 25), (21, .iconst 0, 1, 22, 0, 0), (22, .goto 4, 3, 25, 0, 26), (25, .iconst (-1), 1, 26, (-1), 0), (26, .ireturn, 1, 27, 0, 0)]
def m_answerFor : aq_M := (⟨"LockDesk", "answerFor", "(I)I"⟩, prog_1_method_50_code, 2, (some .int), m_answerFor_t, [(9, 0, 0)], [])
def m_commit_t : List aq_I := [(0, .aload_n 0, 1, 1, 0, 0), (1, .iload_n 1, 1, 2, 0, 0), (2, .invokevirtual 60, 3, 5, 0, 0), (5, .aload_n 0, 1, 6, 0, 0), (6, .iload_n 1, 1, 7, 0, 0), (7, .invokevirtual 69, 3, 10, 0, 0), (10, .aload_n 0, 1, 11, 0, 0), (11, .iload_n 1, 1, 12, 0, 0), (12, .iconst 2, 1, 13, 2, 0), (13, .invokevirtual 99, 3, 16, 0, 0), (16, .ireturn, 1, 17, 0, 0)]
def m_commit : aq_M := (⟨"LockDesk", "commit", "(I)I"⟩, prog_1_method_4_code, 2, (some .int), m_commit_t, [], [])
def m_abort_t : List aq_I := [(0, .aload_n 0, 1, 1, 0, 0), (1, .iload_n 1, 1, 2, 0, 0), (2, .invokevirtual 60, 3, 5, 0, 0), (5, .aload_n 0, 1, 6, 0, 0), (6, .getfield 9, 3, 9, 0, 0), (9, .iload_n 1, 1, 10, 0, 0), (10, .iaload, 1, 11, 0, 0), (11, .ifCond .eq 23, 3, 14, 0, 34), (14, .aload_n 0, 1, 15, 0, 0), (15, .getfield 9, 3, 18, 0, 0), (18, .iload_n 1, 1, 19, 0, 0), (19, .iaload, 1, 20, 0, 0), (20, .iconst 1, 1, 21, 1, 0), (21, .if_icmp .eq 13, 3, 24, 0, 34), (24, .new 55, 3, 27, 0, 0), (27, .dup, 1, 28, 0, 0), (28, .ldc 102, 2, 30, 0, 0), (30, .invokespecial 59, 3, 33, 0, 0), (33, .athrow, 1, 34, 0, 0), (34, .aload_n 0, 1, 35, 0, 0), (35, .iload_n 1, 1, 36, 0, 0), (36, .iconst 3, 1, 37, 3, 0), (37, .invokevirtual 99, 3, 40, 0, 0), (40, .ireturn, 1, 41, 0, 0)]
def m_abort : aq_M := (⟨"LockDesk", "abort", "(I)I"⟩, prog_1_method_5_code, 2, (some .int), m_abort_t, [(9, 0, 0)], [])
def m_escalate_t : List aq_I := [(0, .aload_n 0, 1, 1, 0, 0), (1, .iload_n 1, 1, 2, 0, 0), (2, .invokevirtual 60, 3, 5, 0, 0), (5, .iload_n 2, 1, 6, 0, 0), (6, .invokestatic 64, 3, 9, 0, 0), (9, .aload_n 0, 1, 10, 0, 0), (10, .iload_n 1, 1, 11, 0, 0), (11, .invokevirtual 69, 3, 14, 0, 0), (14, .aload_n 0, 1, 15, 0, 0), (15, .iload_n 1, 1, 16, 0, 0), (16, .iload_n 2, 1, 17, 0, 0), (17, .invokevirtual 78, 3, 20, 0, 0), (20, .istore_n 3, 1, 21, 0, 0), (21, .iload_n 3, 1, 22, 0, 0), (22, .iconst (-1), 1, 23, (-1), 0), (23, .if_icmp .ne 13, 3, 26, 0, 36), (26, .new 55, 3, 29, 0, 0), (29, .dup, 1, 30, 0, 0), (30, .ldc 104, 2, 32, 0, 0), (32, .invokespecial 59, 3, 35, 0, 0), (35, .athrow, 1, 36, 0, 0), (36, .iload_n 3, 1, 37, 0, 0), (37, .aload_n 0, 1, 38, 0, 0), (38, .iload_n 1, 1, 39, 0, 0), (39, .iload_n 2, 1, 40, 0, 0), (40, .invokevirtual 106, 3, 43, 0, 0), (43, .ifCond .eq 7, 3, 46, 0, 50), (46, .iconst 4, 1, 47, 4, 0), (47, .goto 4, 3, 50, 0, 51), (50, .iconst 2, 1, 51, 2, 0), (51, .invokestatic 82, 3, 54, 0, 0), (54, .istore 4, 2, 56, 0, 0), (56, .aload_n 0, 1, 57, 0, 0), (57, .iload_n 1, 1, 58, 0, 0), (58, .iload_n 2, 1, 59, 0, 0), (59, .iload 4, 2, 61, 0, 0), (61, .invokevirtual 110, 3, 64, 0, 0), (64, .lconst 0, 1, 65, 0, 0), (65, .lcmp, 1, 66, 0, 0), (66, .ifCond .eq 5, 3, 69, 0, 71), (69, .iconst (-1), 1, 70, (-1), 0), (70, .ireturn, 1, 71, 0, 0), (71, .aload_n 0, 1, 72, 0, 0), (72, .iload_n 1, 1, 73, 0, 0), (73, .iload_n 2, 1, 74, 0, 0), (74, .iload 4, 2, 76, 0, 0), (76, .invokevirtual 114, 3, 79, 0, 0), (79, .aload_n 0, 1, 80, 0, 0), (80, .iload_n 1, 1, 81, 0, 0), (81, .iload_n 2, 1, 82, 0, 0), (82, .invokevirtual 117, 3, 85, 0, 0), (85, .istore 5, 2, 87, 0, 0), (87, .aload_n 0, 1, 88, 0, 0), (88, .iload_n 2, 1, 89, 0, 0), (89, .invokevirtual 89, 3, 92, 0, 0), (92, .pop, 1, 93, 0, 0), (93, .iload 5, 2, 95, 0, 0), (95, .ireturn, 1, 96, 0, 0)]
def m_escalate : aq_M := (⟨"LockDesk", "escalate", "(II)I"⟩, prog_1_method_6_code, 6, (some .int), m_escalate_t, [], [])
def m_writesBelow_t : List aq_I := [(0, .iload_n 2, 1, 1, 0, 0), (1, .iconst 1, 1, 2, 1, 0), (2, .iadd, 1, 3, 0, 0), (3, .istore_n 3, 1, 4, 0, 0), (4, .iload_n 3, 1, 5, 0, 0), (5, .bipush 85, 2, 7, 85, 0), (7, .if_icmp .ge 31, 3, 10, 0, 38), (10, .iload_n 3, 1, 11, 0, 0), (11, .iload_n 2, 1, 12, 0, 0), (12, .invokestatic 193, 3, 15, 0, 0), (15, .ifCond .eq 17, 3, 18, 0, 32), (18, .aload_n 0, 1, 19, 0, 0), (19, .iload_n 1, 1, 20, 0, 0), (20, .iload_n 3, 1, 21, 0, 0), (21, .invokevirtual 78, 3, 24, 0, 0), (24, .invokestatic 171, 3, 27, 0, 0), (27, .ifCond .eq 5, 3, 30, 0, 32), (30, .iconst 1, 1, 31, 1, 0), (31, .ireturn, 1, 32, 0, 0), (32, .iinc 3 1, 3, 35, 1, 0), (35, .goto (-31), 3, 38, 0, 4), (38, .iconst 0, 1, 39, 0, 0), (39, .ireturn, 1, 40, 0, 0)]
def m_writesBelow : aq_M := (⟨"LockDesk", "writesBelow", "(II)Z"⟩, prog_1_method_32_code, 4, (some .boolean), m_writesBelow_t, [], [])
def m_isBelow_t : List aq_I := [(0, .iload_n 0, 1, 1, 0, 0), (1, .istore_n 2, 1, 2, 0, 0), (2, .iconst 1, 1, 3, 1, 0), (3, .istore_n 3, 1, 4, 0, 0), (4, .iload_n 3, 1, 5, 0, 0), (5, .iconst 4, 1, 6, 4, 0), (6, .if_icmp .ge 21, 3, 9, 0, 27), (9, .iload_n 2, 1, 10, 0, 0), (10, .invokestatic 168, 3, 13, 0, 0), (13, .istore_n 2, 1, 14, 0, 0), (14, .iload_n 2, 1, 15, 0, 0), (15, .iload_n 1, 1, 16, 0, 0), (16, .if_icmp .ne 5, 3, 19, 0, 21), (19, .iconst 1, 1, 20, 1, 0), (20, .ireturn, 1, 21, 0, 0), (21, .iinc 3 1, 3, 24, 1, 0), (24, .goto (-20), 3, 27, 0, 4), (27, .iconst 0, 1, 28, 0, 0), (28, .ireturn, 1, 29, 0, 0)]
def m_isBelow : aq_M := (⟨"LockDesk", "isBelow", "(II)Z"⟩, prog_1_method_19_code, 4, (some .boolean), m_isBelow_t, [], [])
def m_dropBelow_t : List aq_I := [(0, .iconst 0, 1, 1, 0, 0), (1, .istore_n 3, 1, 2, 0, 0), (2, .iload_n 2, 1, 3, 0, 0), (3, .iconst 1, 1, 4, 1, 0), (4, .iadd, 1, 5, 0, 0), (5, .istore 4, 2, 7, 0, 0), (7, .iload 4, 2, 9, 0, 0), (9, .bipush 85, 2, 11, 85, 0), (11, .if_icmp .ge 38, 3, 14, 0, 49), (14, .iload 4, 2, 16, 0, 0), (16, .iload_n 2, 1, 17, 0, 0), (17, .invokestatic 193, 3, 20, 0, 0), (20, .ifCond .eq 23, 3, 23, 0, 43), (23, .aload_n 0, 1, 24, 0, 0), (24, .iload_n 1, 1, 25, 0, 0), (25, .iload 4, 2, 27, 0, 0), (27, .invokevirtual 196, 3, 30, 0, 0), (30, .ifCond .eq 13, 3, 33, 0, 43), (33, .aload_n 0, 1, 34, 0, 0), (34, .iload 4, 2, 36, 0, 0), (36, .invokevirtual 89, 3, 39, 0, 0), (39, .pop, 1, 40, 0, 0), (40, .iinc 3 1, 3, 43, 1, 0), (43, .iinc 4 1, 3, 46, 1, 0), (46, .goto (-39), 3, 49, 0, 7), (49, .iload_n 3, 1, 50, 0, 0), (50, .ireturn, 1, 51, 0, 0)]
def m_dropBelow : aq_M := (⟨"LockDesk", "dropBelow", "(II)I"⟩, prog_1_method_33_code, 5, (some .int), m_dropBelow_t, [], [])
def m_mode_t : List aq_I := [(0, .aload_n 0, 1, 1, 0, 0), (1, .iload_n 1, 1, 2, 0, 0), (2, .invokevirtual 60, 3, 5, 0, 0), (5, .iload_n 2, 1, 6, 0, 0), (6, .invokestatic 64, 3, 9, 0, 0), (9, .aload_n 0, 1, 10, 0, 0), (10, .iload_n 1, 1, 11, 0, 0), (11, .iload_n 2, 1, 12, 0, 0), (12, .invokevirtual 78, 3, 15, 0, 0), (15, .ireturn, 1, 16, 0, 0)]
def m_mode : aq_M := (⟨"LockDesk", "mode", "(II)I"⟩, prog_1_method_7_code, 3, (some .int), m_mode_t, [], [])
def m_told_t : List aq_I := [(0, .aload_n 0, 1, 1, 0, 0), (1, .iload_n 1, 1, 2, 0, 0), (2, .invokevirtual 60, 3, 5, 0, 0), (5, .iload_n 2, 1, 6, 0, 0), (6, .tableswitch 68 0 4 #[34, 41, 48, 54, 61], 34, 40, 0, 0), (40, .aload_n 0, 1, 41, 0, 0), (41, .getfield 9, 3, 44, 0, 0), (44, .iload_n 1, 1, 45, 0, 0), (45, .iaload, 1, 46, 0, 0), (46, .ireturn, 1, 47, 0, 0), (47, .aload_n 0, 1, 48, 0, 0), (48, .getfield 13, 3, 51, 0, 0), (51, .iload_n 1, 1, 52, 0, 0), (52, .iaload, 1, 53, 0, 0), (53, .ireturn, 1, 54, 0, 0), (54, .aload_n 0, 1, 55, 0, 0), (55, .iload_n 1, 1, 56, 0, 0), (56, .invokevirtual 120, 3, 59, 0, 0), (59, .ireturn, 1, 60, 0, 0), (60, .aload_n 0, 1, 61, 0, 0), (61, .getfield 16, 3, 64, 0, 0), (64, .iload_n 1, 1, 65, 0, 0), (65, .iaload, 1, 66, 0, 0), (66, .ireturn, 1, 67, 0, 0), (67, .aload_n 0, 1, 68, 0, 0), (68, .getfield 19, 3, 71, 0, 0), (71, .iload_n 1, 1, 72, 0, 0), (72, .iaload, 1, 73, 0, 0), (73, .ireturn, 1, 74, 0, 0), (74, .new 48, 3, 77, 0, 0), (77, .dup, 1, 78, 0, 0), (78, .ldc 123, 2, 80, 0, 0), (80, .invokespecial 52, 3, 83, 0, 0), (83, .athrow, 1, 84, 0, 0)]
def m_told : aq_M := (⟨"LockDesk", "told", "(II)I"⟩, prog_1_method_8_code, 3, (some .int), m_told_t, [(9, 0, 0), (13, 0, 1), (16, 0, 2), (19, 0, 3)], [])
def m_heldObjects_t : List aq_I := [(0, .iconst 0, 1, 1, 0, 0), (1, .istore_n 2, 1, 2, 0, 0), (2, .iconst 0, 1, 3, 0, 0), (3, .istore_n 3, 1, 4, 0, 0), (4, .iload_n 3, 1, 5, 0, 0), (5, .bipush 85, 2, 7, 85, 0), (7, .if_icmp .ge 22, 3, 10, 0, 29), (10, .aload_n 0, 1, 11, 0, 0), (11, .iload_n 1, 1, 12, 0, 0), (12, .iload_n 3, 1, 13, 0, 0), (13, .invokevirtual 78, 3, 16, 0, 0), (16, .iconst (-1), 1, 17, (-1), 0), (17, .if_icmp .eq 6, 3, 20, 0, 23), (20, .iinc 2 1, 3, 23, 1, 0), (23, .iinc 3 1, 3, 26, 1, 0), (26, .goto (-22), 3, 29, 0, 4), (29, .iload_n 2, 1, 30, 0, 0), (30, .ireturn, 1, 31, 0, 0)]
def m_heldObjects : aq_M := (⟨"LockDesk", "heldObjects", "(I)I"⟩, prog_1_method_27_code, 4, (some .int), m_heldObjects_t, [], [])
def m_many_t : List aq_I := [(0, .iload_n 1, 1, 1, 0, 0), (1, .invokestatic 64, 3, 4, 0, 0), (4, .iload_n 2, 1, 5, 0, 0), (5, .ifCond .eq 11, 3, 8, 0, 16), (8, .aload_n 0, 1, 9, 0, 0), (9, .iload_n 1, 1, 10, 0, 0), (10, .invokevirtual 125, 3, 13, 0, 0), (13, .goto 11, 3, 16, 0, 24), (16, .aload_n 0, 1, 17, 0, 0), (17, .iload_n 1, 1, 18, 0, 0), (18, .invokevirtual 128, 3, 21, 0, 0), (21, .invokestatic 132, 3, 24, 0, 0), (24, .ireturn, 1, 25, 0, 0)]
def m_many : aq_M := (⟨"LockDesk", "many", "(IZ)I"⟩, prog_1_method_9_code, 3, (some .int), m_many_t, [], [])
def m_queueLength_t : List aq_I := [(0, .iconst 0, 1, 1, 0, 0), (1, .istore_n 2, 1, 2, 0, 0), (2, .iconst 0, 1, 3, 0, 0), (3, .istore_n 3, 1, 4, 0, 0), (4, .iload_n 3, 1, 5, 0, 0), (5, .aload_n 0, 1, 6, 0, 0), (6, .getfield 33, 3, 9, 0, 0), (9, .if_icmp .ge 27, 3, 12, 0, 36), (12, .aload_n 0, 1, 13, 0, 0), (13, .getfield 16, 3, 16, 0, 0), (16, .aload_n 0, 1, 17, 0, 0), (17, .getfield 30, 3, 20, 0, 0), (20, .iload_n 3, 1, 21, 0, 0), (21, .iaload, 1, 22, 0, 0), (22, .iaload, 1, 23, 0, 0), (23, .iload_n 1, 1, 24, 0, 0), (24, .if_icmp .ne 6, 3, 27, 0, 30), (27, .iinc 2 1, 3, 30, 1, 0), (30, .iinc 3 1, 3, 33, 1, 0), (33, .goto (-29), 3, 36, 0, 4), (36, .iload_n 2, 1, 37, 0, 0), (37, .ireturn, 1, 38, 0, 0)]
def m_queueLength : aq_M := (⟨"LockDesk", "queueLength", "(I)I"⟩, prog_1_method_37_code, 4, (some .int), m_queueLength_t, [(16, 0, 2), (30, 0, 6), (33, 0, 7)], [])
def m_allHolders_t : List aq_I := [(0, .lconst 0, 1, 1, 0, 0), (1, .lstore_n 2, 1, 2, 0, 0), (2, .iconst 0, 1, 3, 0, 0), (3, .istore 4, 2, 5, 0, 0), (5, .iload 4, 2, 7, 0, 0), (7, .iconst 5, 1, 8, 5, 0), (8, .if_icmp .ge 23, 3, 11, 0, 31), (11, .lload_n 2, 1, 12, 0, 0), (12, .aload_n 0, 1, 13, 0, 0), (13, .getfield 26, 3, 16, 0, 0), (16, .iload_n 1, 1, 17, 0, 0), (17, .iconst 5, 1, 18, 5, 0), (18, .imul, 1, 19, 0, 0), (19, .iload 4, 2, 21, 0, 0), (21, .iadd, 1, 22, 0, 0), (22, .laload, 1, 23, 0, 0), (23, .lor, 1, 24, 0, 0), (24, .lstore_n 2, 1, 25, 0, 0), (25, .iinc 4 1, 3, 28, 1, 0), (28, .goto (-23), 3, 31, 0, 5), (31, .lload_n 2, 1, 32, 0, 0), (32, .lreturn, 1, 33, 0, 0)]
def m_allHolders : aq_M := (⟨"LockDesk", "allHolders", "(I)J"⟩, prog_1_method_28_code, 5, (some .long), m_allHolders_t, [(26, 0, 5)], [])
def j_bitCount_t : List aq_I := [(0, .lload_n 0, 1, 1, 0, 0), (1, .lload_n 0, 1, 2, 0, 0), (2, .iconst 1, 1, 3, 1, 0), (3, .lushr, 1, 4, 0, 0), (4, .ldc2_w 314, 3, 7, 0, 0), (7, .land, 1, 8, 0, 0), (8, .lsub, 1, 9, 0, 0), (9, .lstore_n 0, 1, 10, 0, 0), (10, .lload_n 0, 1, 11, 0, 0), (11, .ldc2_w 316, 3, 14, 0, 0), (14, .land, 1, 15, 0, 0), (15, .lload_n 0, 1, 16, 0, 0), (16, .iconst 2, 1, 17, 2, 0), (17, .lushr, 1, 18, 0, 0), (18, .ldc2_w 316, 3, 21, 0, 0), (21, .land, 1, 22, 0, 0), (22, .ladd, 1, 23, 0, 0), (23, .lstore_n 0, 1, 24, 0, 0), (24, .lload_n 0, 1, 25, 0, 0), (25, .lload_n 0, 1, 26, 0, 0), (26, .iconst 4, 1, 27, 4, 0), (27, .lushr, 1, 28, 0, 0), (28, .ladd, 1, 29, 0, 0), (29, .ldc2_w 318, 3, 32, 0, 0), (32, .land, 1, 33, 0, 0), (33, .lstore_n 0, 1, 34, 0, 0), (34, .lload_n 0, 1, 35, 0, 0), (35, .lload_n 0, 1, 36, 0, 0), (36, .bipush 8, 2, 38, 8, 0), (38, .lushr, 1, 39, 0, 0), (39, .ladd, 1, 40, 0, 0), (40, .lstore_n 0, 1, 41, 0, 0), (41, .lload_n 0, 1, 42, 0, 0), (42, .lload_n 0, 1, 43, 0, 0), (43, .bipush 16, 2, 45, 16, 0), (45, .lushr, 1, 46, 0, 0), (46, .ladd, 1, 47, 0, 0), (47, .lstore_n 0, 1, 48, 0, 0), (48, .lload_n 0, 1, 49, 0, 0), (49, .lload_n 0, 1, 50, 0, 0), (50, .bipush 32, 2, 52, 32, 0), (52, .lushr, 1, 53, 0, 0), (53, .ladd, 1, 54, 0, 0), (54, .lstore_n 0, 1, 55, 0, 0), (55, .lload_n 0, 1, 56, 0, 0), (56, .l2i, 1, 57, 0, 0), (57, .bipush 127, 2, 59, 127, 0), (59, .iand, 1, 60, 0, 0), (60, .ireturn, 1, 61, 0, 0)]
def j_bitCount : aq_M := (⟨"java/lang/Long", "bitCount", "(J)I"⟩, prog_9_method_50_code, 2, (some .int), j_bitCount_t, [], [(314, 6148914691236517205), (316, 3689348814741910323), (318, 1085102592571150095)])
def m_at_t : List aq_I := [(0, .iload_n 1, 1, 1, 0, 0), (1, .invokestatic 64, 3, 4, 0, 0), (4, .iload_n 3, 1, 5, 0, 0), (5, .ifCond .eq 12, 3, 8, 0, 17), (8, .aload_n 0, 1, 9, 0, 0), (9, .iload_n 1, 1, 10, 0, 0), (10, .iload_n 2, 1, 11, 0, 0), (11, .invokevirtual 138, 3, 14, 0, 0), (14, .goto 9, 3, 17, 0, 23), (17, .aload_n 0, 1, 18, 0, 0), (18, .iload_n 1, 1, 19, 0, 0), (19, .iload_n 2, 1, 20, 0, 0), (20, .invokevirtual 141, 3, 23, 0, 0), (23, .istore 4, 2, 25, 0, 0), (25, .iload 4, 2, 27, 0, 0), (27, .iconst (-1), 1, 28, (-1), 0), (28, .if_icmp .ne 13, 3, 31, 0, 41), (31, .new 144, 3, 34, 0, 0), (34, .dup, 1, 35, 0, 0), (35, .ldc 146, 2, 37, 0, 0), (37, .invokespecial 148, 3, 40, 0, 0), (40, .athrow, 1, 41, 0, 0), (41, .iload 4, 2, 43, 0, 0), (43, .ireturn, 1, 44, 0, 0)]
def m_at : aq_M := (⟨"LockDesk", "at", "(IIZ)I"⟩, prog_1_method_10_code, 5, (some .int), m_at_t, [], [])
def m_amongHolders_t : List aq_I := [(0, .aload_n 0, 1, 1, 0, 0), (1, .iload_n 1, 1, 2, 0, 0), (2, .invokevirtual 128, 3, 5, 0, 0), (5, .lstore_n 3, 1, 6, 0, 0), (6, .iconst 0, 1, 7, 0, 0), (7, .istore 5, 2, 9, 0, 0), (9, .iconst 0, 1, 10, 0, 0), (10, .istore 6, 2, 12, 0, 0), (12, .iload 6, 2, 14, 0, 0), (14, .aload_n 0, 1, 15, 0, 0), (15, .getfield 22, 3, 18, 0, 0), (18, .if_icmp .ge 33, 3, 21, 0, 51), (21, .lload_n 3, 1, 22, 0, 0), (22, .iload 6, 2, 24, 0, 0), (24, .invokestatic 182, 3, 27, 0, 0), (27, .land, 1, 28, 0, 0), (28, .lconst 0, 1, 29, 0, 0), (29, .lcmp, 1, 30, 0, 0), (30, .ifCond .eq 15, 3, 33, 0, 45), (33, .iload 5, 2, 35, 0, 0), (35, .iload_n 2, 1, 36, 0, 0), (36, .if_icmp .ne 6, 3, 39, 0, 42), (39, .iload 6, 2, 41, 0, 0), (41, .ireturn, 1, 42, 0, 0), (42, .iinc 5 1, 3, 45, 1, 0), (45, .iinc 6 1, 3, 48, 1, 0), (48, .goto (-36), 3, 51, 0, 12), (51, .iconst (-1), 1, 52, (-1), 0), (52, .ireturn, 1, 53, 0, 0)]
def m_amongHolders : aq_M := (⟨"LockDesk", "amongHolders", "(II)I"⟩, prog_1_method_29_code, 7, (some .int), m_amongHolders_t, [(22, 0, 4)], [])
def m_waitsFor_t : List aq_I := [(0, .aload_n 0, 1, 1, 0, 0), (1, .iload_n 1, 1, 2, 0, 0), (2, .invokevirtual 60, 3, 5, 0, 0), (5, .aload_n 0, 1, 6, 0, 0), (6, .iload_n 1, 1, 7, 0, 0), (7, .invokevirtual 149, 3, 10, 0, 0), (10, .lreturn, 1, 11, 0, 0)]
def m_waitsFor : aq_M := (⟨"LockDesk", "waitsFor", "(I)J"⟩, prog_1_method_11_code, 2, (some .long), m_waitsFor_t, [], [])
def r_init_t : List aq_I := [(0, .aload_n 0, 1, 1, 0, 0), (1, .invokespecial 1, 3, 4, 0, 0), (4, .aload_n 0, 1, 5, 0, 0), (5, .bipush 60, 2, 7, 60, 0), (7, .newarray .int, 2, 9, 0, 0), (9, .putfield 7, 3, 12, 0, 0), (12, .aload_n 0, 1, 13, 0, 0), (13, .bipush 60, 2, 15, 60, 0), (15, .newarray .int, 2, 17, 0, 0), (17, .putfield 13, 3, 20, 0, 0), (20, .aload_n 0, 1, 21, 0, 0), (21, .sipush 5100, 3, 24, 5100, 0), (24, .newarray .int, 2, 26, 0, 0), (26, .putfield 16, 3, 29, 0, 0), (29, .aload_n 0, 1, 30, 0, 0), (30, .bipush 60, 2, 32, 60, 0), (32, .newarray .int, 2, 34, 0, 0), (34, .putfield 19, 3, 37, 0, 0), (37, .aload_n 0, 1, 38, 0, 0), (38, .bipush 60, 2, 40, 60, 0), (40, .newarray .int, 2, 42, 0, 0), (42, .putfield 22, 3, 45, 0, 0), (45, .aload_n 0, 1, 46, 0, 0), (46, .bipush 60, 2, 48, 60, 0), (48, .newarray .boolean, 2, 50, 0, 0), (50, .putfield 25, 3, 53, 0, 0), (53, .aload_n 0, 1, 54, 0, 0), (54, .bipush 85, 2, 56, 85, 0), (56, .newarray .int, 2, 58, 0, 0), (58, .putfield 29, 3, 61, 0, 0), (61, .aload_n 0, 1, 62, 0, 0), (62, .sipush 5100, 3, 65, 5100, 0), (65, .newarray .int, 2, 67, 0, 0), (67, .putfield 32, 3, 70, 0, 0), (70, .return_, 1, 71, 0, 0)]
def r_init : aq_M := (⟨"LockDeskModel", "<init>", "()V"⟩, prog_3_method_1_code, 1, none, r_init_t, [(7, 1, 2), (13, 1, 3), (16, 1, 4), (19, 1, 5), (22, 1, 6), (25, 1, 7), (29, 1, 8), (32, 1, 9)], [])
def r_thrown_t : List aq_I := [(0, .aload_n 0, 1, 1, 0, 0), (1, .getfield 35, 3, 4, 0, 0), (4, .ireturn, 1, 5, 0, 0)]
def r_thrown : aq_M := (⟨"LockDeskModel", "thrown", "()I"⟩, prog_3_method_2_code, 1, (some .int), r_thrown_t, [(35, 1, 0)], [])
def r_begin_t : List aq_I := [(0, .aload_n 0, 1, 1, 0, 0), (1, .iload_n 1, 1, 2, 0, 0), (2, .ifCond .lt 9, 3, 5, 0, 11), (5, .iload_n 1, 1, 6, 0, 0), (6, .bipush 99, 2, 8, 99, 0), (8, .if_icmp .le 7, 3, 11, 0, 15), (11, .iconst 1, 1, 12, 1, 0), (12, .goto 17, 3, 15, 0, 29), (15, .aload_n 0, 1, 16, 0, 0), (16, .getfield 39, 3, 19, 0, 0), (19, .bipush 60, 2, 21, 60, 0), (21, .if_icmp .ne 7, 3, 24, 0, 28), (24, .iconst 2, 1, 25, 2, 0), (25, .goto 4, 3, 28, 0, 29), (28, .iconst 0, 1, 29, 0, 0), (29, .putfield 35, 3, 32, 0, 0), (32, .aload_n 0, 1, 33, 0, 0), (33, .getfield 35, 3, 36, 0, 0), (36, .ifCond .le 5, 3, 39, 0, 41), (39, .iconst 0, 1, 40, 0, 0), (40, .ireturn, 1, 41, 0, 0), (41, .aload_n 0, 1, 42, 0, 0), (42, .getfield 7, 3, 45, 0, 0), (45, .aload_n 0, 1, 46, 0, 0), (46, .getfield 39, 3, 49, 0, 0), (49, .iload_n 1, 1, 50, 0, 0), (50, .iastore, 1, 51, 0, 0), (51, .aload_n 0, 1, 52, 0, 0), (52, .getfield 13, 3, 55, 0, 0), (55, .aload_n 0, 1, 56, 0, 0), (56, .getfield 39, 3, 59, 0, 0), (59, .iconst 0, 1, 60, 0, 0), (60, .iastore, 1, 61, 0, 0), (61, .aload_n 0, 1, 62, 0, 0), (62, .getfield 19, 3, 65, 0, 0), (65, .aload_n 0, 1, 66, 0, 0), (66, .getfield 39, 3, 69, 0, 0), (69, .iconst (-1), 1, 70, (-1), 0), (70, .iastore, 1, 71, 0, 0), (71, .aload_n 0, 1, 72, 0, 0), (72, .dup, 1, 73, 0, 0), (73, .getfield 39, 3, 76, 0, 0), (76, .iconst 1, 1, 77, 1, 0), (77, .iadd, 1, 78, 0, 0), (78, .putfield 39, 3, 81, 0, 0), (81, .aload_n 0, 1, 82, 0, 0), (82, .getfield 39, 3, 85, 0, 0), (85, .iconst 1, 1, 86, 1, 0), (86, .isub, 1, 87, 0, 0), (87, .ireturn, 1, 88, 0, 0)]
def r_begin : aq_M := (⟨"LockDeskModel", "begin", "(I)I"⟩, prog_3_method_17_code, 2, (some .int), r_begin_t, [(7, 1, 2), (13, 1, 3), (19, 1, 5), (35, 1, 0), (39, 1, 1)], [])
def r_lock_t : List aq_I := [(0, .aload_n 0, 1, 1, 0, 0), (1, .aload_n 0, 1, 2, 0, 0), (2, .iload_n 1, 1, 3, 0, 0), (3, .invokevirtual 72, 3, 6, 0, 0), (6, .ifCond .eq 10, 3, 9, 0, 16), (9, .iload_n 2, 1, 10, 0, 0), (10, .invokestatic 76, 3, 13, 0, 0), (13, .ifCond .ne 7, 3, 16, 0, 20), (16, .iconst 1, 1, 17, 1, 0), (17, .goto 30, 3, 20, 0, 47), (20, .iload_n 3, 1, 21, 0, 0), (21, .ifCond .lt 8, 3, 24, 0, 29), (24, .iload_n 3, 1, 25, 0, 0), (25, .iconst 4, 1, 26, 4, 0), (26, .if_icmp .le 7, 3, 29, 0, 33), (29, .iconst 2, 1, 30, 2, 0), (30, .goto 17, 3, 33, 0, 47), (33, .aload_n 0, 1, 34, 0, 0), (34, .getfield 13, 3, 37, 0, 0), (37, .iload_n 1, 1, 38, 0, 0), (38, .iaload, 1, 39, 0, 0), (39, .ifCond .eq 7, 3, 42, 0, 46), (42, .iconst 3, 1, 43, 3, 0), (43, .goto 4, 3, 46, 0, 47), (46, .iconst 0, 1, 47, 0, 0), (47, .putfield 35, 3, 50, 0, 0), (50, .aload_n 0, 1, 51, 0, 0), (51, .getfield 35, 3, 54, 0, 0), (54, .ifCond .ne 48, 3, 57, 0, 102), (57, .iload_n 2, 1, 58, 0, 0), (58, .ifCond .le 44, 3, 61, 0, 102), (61, .aload_n 0, 1, 62, 0, 0), (62, .iload_n 1, 1, 63, 0, 0), (63, .iload_n 2, 1, 64, 0, 0), (64, .iconst 1, 1, 65, 1, 0), (65, .isub, 1, 66, 0, 0), (66, .iconst 4, 1, 67, 4, 0), (67, .idiv, 1, 68, 0, 0), (68, .invokevirtual 42, 3, 71, 0, 0), (71, .istore 4, 2, 73, 0, 0), (73, .aload_n 0, 1, 74, 0, 0), (74, .iload 4, 2, 76, 0, 0), (76, .ifCond .lt 18, 3, 79, 0, 94), (79, .iload_n 3, 1, 80, 0, 0), (80, .invokestatic 79, 3, 83, 0, 0), (83, .ifCond .eq 15, 3, 86, 0, 98), (86, .iload 4, 2, 88, 0, 0), (88, .invokestatic 79, 3, 91, 0, 0), (91, .ifCond .ne 7, 3, 94, 0, 98), (94, .iconst 3, 1, 95, 3, 0), (95, .goto 4, 3, 98, 0, 99), (98, .iconst 0, 1, 99, 0, 0), (99, .putfield 35, 3, 102, 0, 0), (102, .aload_n 0, 1, 103, 0, 0), (103, .getfield 35, 3, 106, 0, 0), (106, .ifCond .le 5, 3, 109, 0, 111), (109, .iconst 0, 1, 110, 0, 0), (110, .ireturn, 1, 111, 0, 0), (111, .aload_n 0, 1, 112, 0, 0), (112, .iload_n 1, 1, 113, 0, 0), (113, .iload_n 2, 1, 114, 0, 0), (114, .invokevirtual 42, 3, 117, 0, 0), (117, .istore 4, 2, 119, 0, 0), (119, .iload 4, 2, 121, 0, 0), (121, .ifCond .ge 7, 3, 124, 0, 128), (124, .iload_n 3, 1, 125, 0, 0), (125, .goto 9, 3, 128, 0, 134), (128, .iload 4, 2, 130, 0, 0), (130, .iload_n 3, 1, 131, 0, 0), (131, .invokestatic 82, 3, 134, 0, 0), (134, .istore 5, 2, 136, 0, 0), (136, .iload 5, 2, 138, 0, 0), (138, .iload 4, 2, 140, 0, 0), (140, .if_icmp .ne 5, 3, 143, 0, 145), (143, .iconst 1, 1, 144, 1, 0), (144, .ireturn, 1, 145, 0, 0), (145, .aload_n 0, 1, 146, 0, 0), (146, .getfield 22, 3, 149, 0, 0), (149, .iload_n 1, 1, 150, 0, 0), (150, .iload 5, 2, 152, 0, 0), (152, .iastore, 1, 153, 0, 0), (153, .aload_n 0, 1, 154, 0, 0), (154, .getfield 25, 3, 157, 0, 0), (157, .iload_n 1, 1, 158, 0, 0), (158, .iload 4, 2, 160, 0, 0), (160, .ifCond .lt 7, 3, 163, 0, 167), (163, .iconst 1, 1, 164, 1, 0), (164, .goto 4, 3, 167, 0, 168), (167, .iconst 0, 1, 168, 0, 0), (168, .bastore, 1, 169, 0, 0), (169, .aload_n 0, 1, 170, 0, 0), (170, .getfield 19, 3, 173, 0, 0), (173, .iload_n 1, 1, 174, 0, 0), (174, .iload_n 2, 1, 175, 0, 0), (175, .iastore, 1, 176, 0, 0), (176, .aload_n 0, 1, 177, 0, 0), (177, .getfield 13, 3, 180, 0, 0), (180, .iload_n 1, 1, 181, 0, 0), (181, .iconst 1, 1, 182, 1, 0), (182, .iastore, 1, 183, 0, 0), (183, .aload_n 0, 1, 184, 0, 0), (184, .iload_n 1, 1, 185, 0, 0), (185, .iload_n 2, 1, 186, 0, 0), (186, .invokevirtual 85, 3, 189, 0, 0), (189, .aload_n 0, 1, 190, 0, 0), (190, .iload_n 2, 1, 191, 0, 0), (191, .invokevirtual 65, 3, 194, 0, 0), (194, .istore 6, 2, 196, 0, 0), (196, .aload_n 0, 1, 197, 0, 0), (197, .dup, 1, 198, 0, 0), (198, .getfield 88, 3, 201, 0, 0), (201, .iload 6, 2, 203, 0, 0), (203, .iadd, 1, 204, 0, 0), (204, .putfield 88, 3, 207, 0, 0), (207, .aload_n 0, 1, 208, 0, 0), (208, .iload_n 1, 1, 209, 0, 0), (209, .invokevirtual 91, 3, 212, 0, 0), (212, .istore 7, 2, 214, 0, 0), (214, .iload 7, 2, 216, 0, 0), (216, .ifCond .lt 32, 3, 219, 0, 248), (219, .aload_n 0, 1, 220, 0, 0), (220, .dup, 1, 221, 0, 0), (221, .getfield 94, 3, 224, 0, 0), (224, .iconst 1, 1, 225, 1, 0), (225, .iadd, 1, 226, 0, 0), (226, .putfield 94, 3, 229, 0, 0), (229, .aload_n 0, 1, 230, 0, 0), (230, .iload 7, 2, 232, 0, 0), (232, .iconst 3, 1, 233, 3, 0), (233, .invokevirtual 97, 3, 236, 0, 0), (236, .istore 8, 2, 238, 0, 0), (238, .aload_n 0, 1, 239, 0, 0), (239, .iload_n 1, 1, 240, 0, 0), (240, .invokevirtual 91, 3, 243, 0, 0), (243, .istore 7, 2, 245, 0, 0), (245, .goto (-31), 3, 248, 0, 214), (248, .aload_n 0, 1, 249, 0, 0), (249, .getfield 13, 3, 252, 0, 0), (252, .iload_n 1, 1, 253, 0, 0), (253, .iaload, 1, 254, 0, 0), (254, .ifCond .ne 7, 3, 257, 0, 261), (257, .iconst 1, 1, 258, 1, 0), (258, .goto 18, 3, 261, 0, 276), (261, .aload_n 0, 1, 262, 0, 0), (262, .getfield 13, 3, 265, 0, 0), (265, .iload_n 1, 1, 266, 0, 0), (266, .iaload, 1, 267, 0, 0), (267, .iconst 1, 1, 268, 1, 0), (268, .if_icmp .ne 7, 3, 271, 0, 275), (271, .iconst 0, 1, 272, 0, 0), (272, .goto 4, 3, 275, 0, 276), (275, .iconst (-1), 1, 276, (-1), 0), (276, .ireturn, 1, 277, 0, 0)]
def r_lock : aq_M := (⟨"LockDeskModel", "lock", "(III)I"⟩, prog_3_method_18_code, 9, (some .int), r_lock_t, [(13, 1, 3), (19, 1, 5), (22, 1, 6), (25, 1, 7), (35, 1, 0), (88, 1, 11), (94, 1, 10)], [])
def r_isTransaction_t : List aq_I := [(0, .iload_n 1, 1, 1, 0, 0), (1, .ifCond .lt 15, 3, 4, 0, 16), (4, .iload_n 1, 1, 5, 0, 0), (5, .aload_n 0, 1, 6, 0, 0), (6, .getfield 39, 3, 9, 0, 0), (9, .if_icmp .ge 7, 3, 12, 0, 16), (12, .iconst 1, 1, 13, 1, 0), (13, .goto 4, 3, 16, 0, 17), (16, .iconst 0, 1, 17, 0, 0), (17, .ireturn, 1, 18, 0, 0)]
def r_isTransaction : aq_M := (⟨"LockDeskModel", "isTransaction", "(I)Z"⟩, prog_3_method_3_code, 2, (some .boolean), r_isTransaction_t, [(39, 1, 1)], [])
def r_isObject_t : List aq_I := [(0, .iload_n 0, 1, 1, 0, 0), (1, .ifCond .lt 13, 3, 4, 0, 14), (4, .iload_n 0, 1, 5, 0, 0), (5, .bipush 85, 2, 7, 85, 0), (7, .if_icmp .ge 7, 3, 10, 0, 14), (10, .iconst 1, 1, 11, 1, 0), (11, .goto 4, 3, 14, 0, 15), (14, .iconst 0, 1, 15, 0, 0), (15, .ireturn, 1, 16, 0, 0)]
def r_isObject : aq_M := (⟨"LockDeskModel", "isObject", "(I)Z"⟩, prog_3_method_4_code, 1, (some .boolean), r_isObject_t, [], [])
def r_modeOf_t : List aq_I := [(0, .aload_n 0, 1, 1, 0, 0), (1, .getfield 16, 3, 4, 0, 0), (4, .bipush 60, 2, 6, 60, 0), (6, .iload_n 2, 1, 7, 0, 0), (7, .imul, 1, 8, 0, 0), (8, .iload_n 1, 1, 9, 0, 0), (9, .iadd, 1, 10, 0, 0), (10, .iaload, 1, 11, 0, 0), (11, .iconst 1, 1, 12, 1, 0), (12, .isub, 1, 13, 0, 0), (13, .ireturn, 1, 14, 0, 0)]
def r_modeOf : aq_M := (⟨"LockDeskModel", "modeOf", "(II)I"⟩, prog_3_method_8_code, 3, (some .int), r_modeOf_t, [(16, 1, 4)], [])
def r_isWriting_t : List aq_I := [(0, .iload_n 0, 1, 1, 0, 0), (1, .iconst 1, 1, 2, 1, 0), (2, .if_icmp .eq 8, 3, 5, 0, 10), (5, .iload_n 0, 1, 6, 0, 0), (6, .iconst 3, 1, 7, 3, 0), (7, .if_icmp .lt 7, 3, 10, 0, 14), (10, .iconst 1, 1, 11, 1, 0), (11, .goto 4, 3, 14, 0, 15), (14, .iconst 0, 1, 15, 0, 0), (15, .ireturn, 1, 16, 0, 0)]
def r_isWriting : aq_M := (⟨"LockDeskModel", "isWriting", "(I)Z"⟩, prog_3_method_6_code, 1, (some .boolean), r_isWriting_t, [], [])
def r_leastAbove_t : List aq_I := [(0, .iload_n 0, 1, 1, 0, 0), (1, .iconst 1, 1, 2, 1, 0), (2, .if_icmp .ne 8, 3, 5, 0, 10), (5, .iload_n 1, 1, 6, 0, 0), (6, .iconst 2, 1, 7, 2, 0), (7, .if_icmp .eq 13, 3, 10, 0, 20), (10, .iload_n 0, 1, 11, 0, 0), (11, .iconst 2, 1, 12, 2, 0), (12, .if_icmp .ne 12, 3, 15, 0, 24), (15, .iload_n 1, 1, 16, 0, 0), (16, .iconst 1, 1, 17, 1, 0), (17, .if_icmp .ne 7, 3, 20, 0, 24), (20, .iconst 1, 1, 21, 1, 0), (21, .goto 4, 3, 24, 0, 25), (24, .iconst 0, 1, 25, 0, 0), (25, .istore_n 2, 1, 26, 0, 0), (26, .iload_n 2, 1, 27, 0, 0), (27, .ifCond .eq 7, 3, 30, 0, 34), (30, .iconst 3, 1, 31, 3, 0), (31, .goto 13, 3, 34, 0, 44), (34, .iload_n 0, 1, 35, 0, 0), (35, .iload_n 1, 1, 36, 0, 0), (36, .if_icmp .le 7, 3, 39, 0, 43), (39, .iload_n 0, 1, 40, 0, 0), (40, .goto 4, 3, 43, 0, 44), (43, .iload_n 1, 1, 44, 0, 0), (44, .ireturn, 1, 45, 0, 0)]
def r_leastAbove : aq_M := (⟨"LockDeskModel", "leastAbove", "(II)I"⟩, prog_3_method_7_code, 3, (some .int), r_leastAbove_t, [], [])
def r_enqueue_t : List aq_I := [(0, .aload_n 0, 1, 1, 0, 0), (1, .getfield 29, 3, 4, 0, 0), (4, .iload_n 2, 1, 5, 0, 0), (5, .iaload, 1, 6, 0, 0), (6, .istore_n 3, 1, 7, 0, 0), (7, .iload_n 3, 1, 8, 0, 0), (8, .ifCond .le 63, 3, 11, 0, 71), (11, .aload_n 0, 1, 12, 0, 0), (12, .getfield 25, 3, 15, 0, 0), (15, .iload_n 1, 1, 16, 0, 0), (16, .baload, 1, 17, 0, 0), (17, .ifCond .eq 54, 3, 20, 0, 71), (20, .aload_n 0, 1, 21, 0, 0), (21, .getfield 25, 3, 24, 0, 0), (24, .aload_n 0, 1, 25, 0, 0), (25, .getfield 32, 3, 28, 0, 0), (28, .bipush 60, 2, 30, 60, 0), (30, .iload_n 2, 1, 31, 0, 0), (31, .imul, 1, 32, 0, 0), (32, .iload_n 3, 1, 33, 0, 0), (33, .iadd, 1, 34, 0, 0), (34, .iconst 1, 1, 35, 1, 0), (35, .isub, 1, 36, 0, 0), (36, .iaload, 1, 37, 0, 0), (37, .baload, 1, 38, 0, 0), (38, .ifCond .ne 33, 3, 41, 0, 71), (41, .aload_n 0, 1, 42, 0, 0), (42, .getfield 32, 3, 45, 0, 0), (45, .bipush 60, 2, 47, 60, 0), (47, .iload_n 2, 1, 48, 0, 0), (48, .imul, 1, 49, 0, 0), (49, .iload_n 3, 1, 50, 0, 0), (50, .iadd, 1, 51, 0, 0), (51, .aload_n 0, 1, 52, 0, 0), (52, .getfield 32, 3, 55, 0, 0), (55, .bipush 60, 2, 57, 60, 0), (57, .iload_n 2, 1, 58, 0, 0), (58, .imul, 1, 59, 0, 0), (59, .iload_n 3, 1, 60, 0, 0), (60, .iadd, 1, 61, 0, 0), (61, .iconst 1, 1, 62, 1, 0), (62, .isub, 1, 63, 0, 0), (63, .iaload, 1, 64, 0, 0), (64, .iastore, 1, 65, 0, 0), (65, .iinc 3 (-1), 3, 68, (-1), 0), (68, .goto (-61), 3, 71, 0, 7), (71, .aload_n 0, 1, 72, 0, 0), (72, .getfield 32, 3, 75, 0, 0), (75, .bipush 60, 2, 77, 60, 0), (77, .iload_n 2, 1, 78, 0, 0), (78, .imul, 1, 79, 0, 0), (79, .iload_n 3, 1, 80, 0, 0), (80, .iadd, 1, 81, 0, 0), (81, .iload_n 1, 1, 82, 0, 0), (82, .iastore, 1, 83, 0, 0), (83, .aload_n 0, 1, 84, 0, 0), (84, .getfield 29, 3, 87, 0, 0), (87, .iload_n 2, 1, 88, 0, 0), (88, .dup2, 1, 89, 0, 0), (89, .iaload, 1, 90, 0, 0), (90, .iconst 1, 1, 91, 1, 0), (91, .iadd, 1, 92, 0, 0), (92, .iastore, 1, 93, 0, 0), (93, .return_, 1, 94, 0, 0)]
def r_enqueue : aq_M := (⟨"LockDeskModel", "enqueue", "(II)V"⟩, prog_3_method_10_code, 4, none, r_enqueue_t, [(25, 1, 7), (29, 1, 8), (32, 1, 9)], [])
def r_serve_t : List aq_I := [(0, .iconst 0, 1, 1, 0, 0), (1, .istore_n 2, 1, 2, 0, 0), (2, .aload_n 0, 1, 3, 0, 0), (3, .getfield 29, 3, 6, 0, 0), (6, .iload_n 1, 1, 7, 0, 0), (7, .iaload, 1, 8, 0, 0), (8, .ifCond .le 89, 3, 11, 0, 97), (11, .aload_n 0, 1, 12, 0, 0), (12, .aload_n 0, 1, 13, 0, 0), (13, .getfield 32, 3, 16, 0, 0), (16, .bipush 60, 2, 18, 60, 0), (18, .iload_n 1, 1, 19, 0, 0), (19, .imul, 1, 20, 0, 0), (20, .iaload, 1, 21, 0, 0), (21, .iload_n 1, 1, 22, 0, 0), (22, .aload_n 0, 1, 23, 0, 0), (23, .getfield 22, 3, 26, 0, 0), (26, .aload_n 0, 1, 27, 0, 0), (27, .getfield 32, 3, 30, 0, 0), (30, .bipush 60, 2, 32, 60, 0), (32, .iload_n 1, 1, 33, 0, 0), (33, .imul, 1, 34, 0, 0), (34, .iaload, 1, 35, 0, 0), (35, .iaload, 1, 36, 0, 0), (36, .invokevirtual 50, 3, 39, 0, 0), (39, .ifCond .eq 58, 3, 42, 0, 97), (42, .aload_n 0, 1, 43, 0, 0), (43, .getfield 32, 3, 46, 0, 0), (46, .bipush 60, 2, 48, 60, 0), (48, .iload_n 1, 1, 49, 0, 0), (49, .imul, 1, 50, 0, 0), (50, .iaload, 1, 51, 0, 0), (51, .istore_n 3, 1, 52, 0, 0), (52, .aload_n 0, 1, 53, 0, 0), (53, .iload_n 3, 1, 54, 0, 0), (54, .iload_n 1, 1, 55, 0, 0), (55, .invokevirtual 54, 3, 58, 0, 0), (58, .aload_n 0, 1, 59, 0, 0), (59, .getfield 16, 3, 62, 0, 0), (62, .bipush 60, 2, 64, 60, 0), (64, .iload_n 1, 1, 65, 0, 0), (65, .imul, 1, 66, 0, 0), (66, .iload_n 3, 1, 67, 0, 0), (67, .iadd, 1, 68, 0, 0), (68, .aload_n 0, 1, 69, 0, 0), (69, .getfield 22, 3, 72, 0, 0), (72, .iload_n 3, 1, 73, 0, 0), (73, .iaload, 1, 74, 0, 0), (74, .iconst 1, 1, 75, 1, 0), (75, .iadd, 1, 76, 0, 0), (76, .iastore, 1, 77, 0, 0), (77, .aload_n 0, 1, 78, 0, 0), (78, .getfield 19, 3, 81, 0, 0), (81, .iload_n 3, 1, 82, 0, 0), (82, .iconst (-1), 1, 83, (-1), 0), (83, .iastore, 1, 84, 0, 0), (84, .aload_n 0, 1, 85, 0, 0), (85, .getfield 13, 3, 88, 0, 0), (88, .iload_n 3, 1, 89, 0, 0), (89, .iconst 0, 1, 90, 0, 0), (90, .iastore, 1, 91, 0, 0), (91, .iinc 2 1, 3, 94, 1, 0), (94, .goto (-92), 3, 97, 0, 2), (97, .iload_n 2, 1, 98, 0, 0), (98, .ireturn, 1, 99, 0, 0)]
def r_serve : aq_M := (⟨"LockDeskModel", "serve", "(I)I"⟩, prog_3_method_12_code, 4, (some .int), r_serve_t, [(13, 1, 3), (16, 1, 4), (19, 1, 5), (22, 1, 6), (29, 1, 8), (32, 1, 9)], [])
def r_fits_t : List aq_I := [(0, .iconst 1, 1, 1, 1, 0), (1, .istore 4, 2, 3, 0, 0), (3, .iconst 0, 1, 4, 0, 0), (4, .istore 5, 2, 6, 0, 0), (6, .iload 5, 2, 8, 0, 0), (8, .aload_n 0, 1, 9, 0, 0), (9, .getfield 39, 3, 12, 0, 0), (12, .if_icmp .ge 50, 3, 15, 0, 62), (15, .aload_n 0, 1, 16, 0, 0), (16, .iload 5, 2, 18, 0, 0), (18, .iload_n 2, 1, 19, 0, 0), (19, .invokevirtual 42, 3, 22, 0, 0), (22, .istore 6, 2, 24, 0, 0), (24, .iload 4, 2, 26, 0, 0), (26, .ifCond .eq 27, 3, 29, 0, 53), (29, .iload 5, 2, 31, 0, 0), (31, .iload_n 1, 1, 32, 0, 0), (32, .if_icmp .eq 17, 3, 35, 0, 49), (35, .iload 6, 2, 37, 0, 0), (37, .ifCond .lt 12, 3, 40, 0, 49), (40, .iload 6, 2, 42, 0, 0), (42, .iload_n 3, 1, 43, 0, 0), (43, .invokestatic 46, 3, 46, 0, 0), (46, .ifCond .eq 7, 3, 49, 0, 53), (49, .iconst 1, 1, 50, 1, 0), (50, .goto 4, 3, 53, 0, 54), (53, .iconst 0, 1, 54, 0, 0), (54, .istore 4, 2, 56, 0, 0), (56, .iinc 5 1, 3, 59, 1, 0), (59, .goto (-53), 3, 62, 0, 6), (62, .iload 4, 2, 64, 0, 0), (64, .ireturn, 1, 65, 0, 0)]
def r_fits : aq_M := (⟨"LockDeskModel", "fits", "(III)Z"⟩, prog_3_method_9_code, 7, (some .boolean), r_fits_t, [(39, 1, 1)], [])
def r_together_t : List aq_I := [(0, .iload_n 0, 1, 1, 0, 0), (1, .iload_n 1, 1, 2, 0, 0), (2, .if_icmp .ge 7, 3, 5, 0, 9), (5, .iload_n 0, 1, 6, 0, 0), (6, .goto 4, 3, 9, 0, 10), (9, .iload_n 1, 1, 10, 0, 0), (10, .istore_n 2, 1, 11, 0, 0), (11, .iload_n 0, 1, 12, 0, 0), (12, .iload_n 1, 1, 13, 0, 0), (13, .if_icmp .ge 7, 3, 16, 0, 20), (16, .iload_n 1, 1, 17, 0, 0), (17, .goto 4, 3, 20, 0, 21), (20, .iload_n 0, 1, 21, 0, 0), (21, .istore_n 3, 1, 22, 0, 0), (22, .iload_n 2, 1, 23, 0, 0), (23, .ifCond .ne 16, 3, 26, 0, 39), (26, .iload_n 3, 1, 27, 0, 0), (27, .iconst 4, 1, 28, 4, 0), (28, .if_icmp .ge 7, 3, 31, 0, 35), (31, .iconst 1, 1, 32, 1, 0), (32, .goto 27, 3, 35, 0, 59), (35, .iconst 0, 1, 36, 0, 0), (36, .goto 23, 3, 39, 0, 59), (39, .iload_n 2, 1, 40, 0, 0), (40, .iload_n 3, 1, 41, 0, 0), (41, .if_icmp .ne 17, 3, 44, 0, 58), (44, .iload_n 2, 1, 45, 0, 0), (45, .iconst 1, 1, 46, 1, 0), (46, .if_icmp .eq 8, 3, 49, 0, 54), (49, .iload_n 2, 1, 50, 0, 0), (50, .iconst 2, 1, 51, 2, 0), (51, .if_icmp .ne 7, 3, 54, 0, 58), (54, .iconst 1, 1, 55, 1, 0), (55, .goto 4, 3, 58, 0, 59), (58, .iconst 0, 1, 59, 0, 0), (59, .ireturn, 1, 60, 0, 0)]
def r_together : aq_M := (⟨"LockDeskModel", "together", "(II)Z"⟩, prog_3_method_5_code, 4, (some .boolean), r_together_t, [], [])
def r_dequeue_t : List aq_I := [(0, .bipush 60, 2, 2, 60, 0), (2, .iload_n 2, 1, 3, 0, 0), (3, .imul, 1, 4, 0, 0), (4, .istore_n 3, 1, 5, 0, 0), (5, .bipush 60, 2, 7, 60, 0), (7, .iload_n 2, 1, 8, 0, 0), (8, .imul, 1, 9, 0, 0), (9, .istore 4, 2, 11, 0, 0), (11, .iload 4, 2, 13, 0, 0), (13, .bipush 60, 2, 15, 60, 0), (15, .iload_n 2, 1, 16, 0, 0), (16, .imul, 1, 17, 0, 0), (17, .aload_n 0, 1, 18, 0, 0), (18, .getfield 29, 3, 21, 0, 0), (21, .iload_n 2, 1, 22, 0, 0), (22, .iaload, 1, 23, 0, 0), (23, .iadd, 1, 24, 0, 0), (24, .if_icmp .ge 36, 3, 27, 0, 60), (27, .aload_n 0, 1, 28, 0, 0), (28, .getfield 32, 3, 31, 0, 0), (31, .iload 4, 2, 33, 0, 0), (33, .iaload, 1, 34, 0, 0), (34, .iload_n 1, 1, 35, 0, 0), (35, .if_icmp .eq 19, 3, 38, 0, 54), (38, .aload_n 0, 1, 39, 0, 0), (39, .getfield 32, 3, 42, 0, 0), (42, .iload_n 3, 1, 43, 0, 0), (43, .aload_n 0, 1, 44, 0, 0), (44, .getfield 32, 3, 47, 0, 0), (47, .iload 4, 2, 49, 0, 0), (49, .iaload, 1, 50, 0, 0), (50, .iastore, 1, 51, 0, 0), (51, .iinc 3 1, 3, 54, 1, 0), (54, .iinc 4 1, 3, 57, 1, 0), (57, .goto (-46), 3, 60, 0, 11), (60, .aload_n 0, 1, 61, 0, 0), (61, .getfield 29, 3, 64, 0, 0), (64, .iload_n 2, 1, 65, 0, 0), (65, .iload_n 3, 1, 66, 0, 0), (66, .bipush 60, 2, 68, 60, 0), (68, .iload_n 2, 1, 69, 0, 0), (69, .imul, 1, 70, 0, 0), (70, .isub, 1, 71, 0, 0), (71, .iastore, 1, 72, 0, 0), (72, .return_, 1, 73, 0, 0)]
def r_dequeue : aq_M := (⟨"LockDeskModel", "dequeue", "(II)V"⟩, prog_3_method_11_code, 5, none, r_dequeue_t, [(29, 1, 8), (32, 1, 9)], [])
def r_victimOf_t : List aq_I := [(0, .aload_n 0, 1, 1, 0, 0), (1, .iload_n 1, 1, 2, 0, 0), (2, .invokevirtual 62, 3, 5, 0, 0), (5, .lstore_n 2, 1, 6, 0, 0), (6, .iconst (-1), 1, 7, (-1), 0), (7, .istore 4, 2, 9, 0, 0), (9, .iconst 0, 1, 10, 0, 0), (10, .istore 5, 2, 12, 0, 0), (12, .iload 5, 2, 14, 0, 0), (14, .aload_n 0, 1, 15, 0, 0), (15, .getfield 39, 3, 18, 0, 0), (18, .if_icmp .ge 88, 3, 21, 0, 106), (21, .lload_n 2, 1, 22, 0, 0), (22, .iload_n 1, 1, 23, 0, 0), (23, .lshr, 1, 24, 0, 0), (24, .lconst 1, 1, 25, 0, 0), (25, .land, 1, 26, 0, 0), (26, .lconst 1, 1, 27, 0, 0), (27, .lcmp, 1, 28, 0, 0), (28, .ifCond .ne 78, 3, 31, 0, 106), (31, .lload_n 2, 1, 32, 0, 0), (32, .iload 5, 2, 34, 0, 0), (34, .lshr, 1, 35, 0, 0), (35, .lconst 1, 1, 36, 0, 0), (36, .land, 1, 37, 0, 0), (37, .lconst 1, 1, 38, 0, 0), (38, .lcmp, 1, 39, 0, 0), (39, .ifCond .ne 22, 3, 42, 0, 61), (42, .aload_n 0, 1, 43, 0, 0), (43, .iload 5, 2, 45, 0, 0), (45, .invokevirtual 62, 3, 48, 0, 0), (48, .iload_n 1, 1, 49, 0, 0), (49, .lshr, 1, 50, 0, 0), (50, .lconst 1, 1, 51, 0, 0), (51, .land, 1, 52, 0, 0), (52, .lconst 1, 1, 53, 0, 0), (53, .lcmp, 1, 54, 0, 0), (54, .ifCond .ne 7, 3, 57, 0, 61), (57, .iconst 1, 1, 58, 1, 0), (58, .goto 4, 3, 61, 0, 62), (61, .iconst 0, 1, 62, 0, 0), (62, .istore 6, 2, 64, 0, 0), (64, .iload 6, 2, 66, 0, 0), (66, .ifCond .eq 30, 3, 69, 0, 96), (69, .iload 4, 2, 71, 0, 0), (71, .ifCond .lt 20, 3, 74, 0, 91), (74, .aload_n 0, 1, 75, 0, 0), (75, .getfield 7, 3, 78, 0, 0), (78, .iload 5, 2, 80, 0, 0), (80, .iaload, 1, 81, 0, 0), (81, .aload_n 0, 1, 82, 0, 0), (82, .getfield 7, 3, 85, 0, 0), (85, .iload 4, 2, 87, 0, 0), (87, .iaload, 1, 88, 0, 0), (88, .if_icmp .gt 8, 3, 91, 0, 96), (91, .iload 5, 2, 93, 0, 0), (93, .goto 5, 3, 96, 0, 98), (96, .iload 4, 2, 98, 0, 0), (98, .istore 4, 2, 100, 0, 0), (100, .iinc 5 1, 3, 103, 1, 0), (103, .goto (-91), 3, 106, 0, 12), (106, .iload 4, 2, 108, 0, 0), (108, .ireturn, 1, 109, 0, 0)]
def r_victimOf : aq_M := (⟨"LockDeskModel", "victimOf", "(I)I"⟩, prog_3_method_15_code, 7, (some .int), r_victimOf_t, [(7, 1, 2), (39, 1, 1)], [])
def r_reach_t : List aq_I := [(0, .aload_n 0, 1, 1, 0, 0), (1, .iload_n 1, 1, 2, 0, 0), (2, .invokevirtual 58, 3, 5, 0, 0), (5, .lstore_n 2, 1, 6, 0, 0), (6, .lconst 0, 1, 7, 0, 0), (7, .lstore 4, 2, 9, 0, 0), (9, .lload_n 2, 1, 10, 0, 0), (10, .lload 4, 2, 12, 0, 0), (12, .lcmp, 1, 13, 0, 0), (13, .ifCond .eq 52, 3, 16, 0, 65), (16, .lload_n 2, 1, 17, 0, 0), (17, .lstore 4, 2, 19, 0, 0), (19, .iconst 0, 1, 20, 0, 0), (20, .istore 6, 2, 22, 0, 0), (22, .iload 6, 2, 24, 0, 0), (24, .aload_n 0, 1, 25, 0, 0), (25, .getfield 39, 3, 28, 0, 0), (28, .if_icmp .ge 34, 3, 31, 0, 62), (31, .lload_n 2, 1, 32, 0, 0), (32, .lload 4, 2, 34, 0, 0), (34, .iload 6, 2, 36, 0, 0), (36, .lshr, 1, 37, 0, 0), (37, .lconst 1, 1, 38, 0, 0), (38, .land, 1, 39, 0, 0), (39, .lconst 1, 1, 40, 0, 0), (40, .lcmp, 1, 41, 0, 0), (41, .ifCond .ne 12, 3, 44, 0, 53), (44, .aload_n 0, 1, 45, 0, 0), (45, .iload 6, 2, 47, 0, 0), (47, .invokevirtual 58, 3, 50, 0, 0), (50, .goto 4, 3, 53, 0, 54), (53, .lconst 0, 1, 54, 0, 0), (54, .lor, 1, 55, 0, 0), (55, .lstore_n 2, 1, 56, 0, 0), (56, .iinc 6 1, 3, 59, 1, 0), (59, .goto (-37), 3, 62, 0, 22), (62, .goto (-53), 3, 65, 0, 9), (65, .lload_n 2, 1, 66, 0, 0), (66, .lreturn, 1, 67, 0, 0)]
def r_reach : aq_M := (⟨"LockDeskModel", "reach", "(I)J"⟩, prog_3_method_14_code, 7, (some .long), r_reach_t, [(39, 1, 1)], [])
def r_waitBits_t : List aq_I := [(0, .lconst 0, 1, 1, 0, 0), (1, .lstore_n 2, 1, 2, 0, 0), (2, .aload_n 0, 1, 3, 0, 0), (3, .getfield 19, 3, 6, 0, 0), (6, .iload_n 1, 1, 7, 0, 0), (7, .iaload, 1, 8, 0, 0), (8, .istore 4, 2, 10, 0, 0), (10, .iload 4, 2, 12, 0, 0), (12, .ifCond .ge 5, 3, 15, 0, 17), (15, .lconst 0, 1, 16, 0, 0), (16, .lreturn, 1, 17, 0, 0), (17, .iconst 0, 1, 18, 0, 0), (18, .istore 5, 2, 20, 0, 0), (20, .iload 5, 2, 22, 0, 0), (22, .aload_n 0, 1, 23, 0, 0), (23, .getfield 39, 3, 26, 0, 0), (26, .if_icmp .ge 55, 3, 29, 0, 81), (29, .aload_n 0, 1, 30, 0, 0), (30, .iload 5, 2, 32, 0, 0), (32, .iload 4, 2, 34, 0, 0), (34, .invokevirtual 42, 3, 37, 0, 0), (37, .istore 6, 2, 39, 0, 0), (39, .lload_n 2, 1, 40, 0, 0), (40, .iload 5, 2, 42, 0, 0), (42, .iload_n 1, 1, 43, 0, 0), (43, .if_icmp .eq 29, 3, 46, 0, 72), (46, .iload 6, 2, 48, 0, 0), (48, .ifCond .lt 24, 3, 51, 0, 72), (51, .iload 6, 2, 53, 0, 0), (53, .aload_n 0, 1, 54, 0, 0), (54, .getfield 22, 3, 57, 0, 0), (57, .iload_n 1, 1, 58, 0, 0), (58, .iaload, 1, 59, 0, 0), (59, .invokestatic 46, 3, 62, 0, 0), (62, .ifCond .ne 10, 3, 65, 0, 72), (65, .lconst 1, 1, 66, 0, 0), (66, .iload 5, 2, 68, 0, 0), (68, .lshl, 1, 69, 0, 0), (69, .goto 4, 3, 72, 0, 73), (72, .lconst 0, 1, 73, 0, 0), (73, .lor, 1, 74, 0, 0), (74, .lstore_n 2, 1, 75, 0, 0), (75, .iinc 5 1, 3, 78, 1, 0), (78, .goto (-58), 3, 81, 0, 20), (81, .bipush 60, 2, 83, 60, 0), (83, .iload 4, 2, 85, 0, 0), (85, .imul, 1, 86, 0, 0), (86, .istore 5, 2, 88, 0, 0), (88, .aload_n 0, 1, 89, 0, 0), (89, .getfield 32, 3, 92, 0, 0), (92, .iload 5, 2, 94, 0, 0), (94, .iaload, 1, 95, 0, 0), (95, .iload_n 1, 1, 96, 0, 0), (96, .if_icmp .eq 21, 3, 99, 0, 117), (99, .lload_n 2, 1, 100, 0, 0), (100, .lconst 1, 1, 101, 0, 0), (101, .aload_n 0, 1, 102, 0, 0), (102, .getfield 32, 3, 105, 0, 0), (105, .iload 5, 2, 107, 0, 0), (107, .iaload, 1, 108, 0, 0), (108, .lshl, 1, 109, 0, 0), (109, .lor, 1, 110, 0, 0), (110, .lstore_n 2, 1, 111, 0, 0), (111, .iinc 5 1, 3, 114, 1, 0), (114, .goto (-26), 3, 117, 0, 88), (117, .lload_n 2, 1, 118, 0, 0), (118, .lreturn, 1, 119, 0, 0)]
def r_waitBits : aq_M := (⟨"LockDeskModel", "waitBits", "(I)J"⟩, prog_3_method_13_code, 7, (some .long), r_waitBits_t, [(19, 1, 5), (22, 1, 6), (32, 1, 9), (39, 1, 1)], [])
def r_endIt_t : List aq_I := [(0, .aload_n 0, 1, 1, 0, 0), (1, .getfield 19, 3, 4, 0, 0), (4, .iload_n 1, 1, 5, 0, 0), (5, .iaload, 1, 6, 0, 0), (6, .istore_n 3, 1, 7, 0, 0), (7, .iload_n 3, 1, 8, 0, 0), (8, .ifCond .lt 9, 3, 11, 0, 17), (11, .aload_n 0, 1, 12, 0, 0), (12, .iload_n 1, 1, 13, 0, 0), (13, .iload_n 3, 1, 14, 0, 0), (14, .invokevirtual 54, 3, 17, 0, 0), (17, .aload_n 0, 1, 18, 0, 0), (18, .getfield 19, 3, 21, 0, 0), (21, .iload_n 1, 1, 22, 0, 0), (22, .iconst (-1), 1, 23, (-1), 0), (23, .iastore, 1, 24, 0, 0), (24, .aload_n 0, 1, 25, 0, 0), (25, .getfield 13, 3, 28, 0, 0), (28, .iload_n 1, 1, 29, 0, 0), (29, .iload_n 2, 1, 30, 0, 0), (30, .iastore, 1, 31, 0, 0), (31, .iconst 0, 1, 32, 0, 0), (32, .istore 4, 2, 34, 0, 0), (34, .iconst 0, 1, 35, 0, 0), (35, .istore 5, 2, 37, 0, 0), (37, .iload 5, 2, 39, 0, 0), (39, .bipush 85, 2, 41, 85, 0), (41, .if_icmp .ge 47, 3, 44, 0, 88), (44, .aload_n 0, 1, 45, 0, 0), (45, .getfield 16, 3, 48, 0, 0), (48, .bipush 60, 2, 50, 60, 0), (50, .iload 5, 2, 52, 0, 0), (52, .imul, 1, 53, 0, 0), (53, .iload_n 1, 1, 54, 0, 0), (54, .iadd, 1, 55, 0, 0), (55, .aload_n 0, 1, 56, 0, 0), (56, .getfield 16, 3, 59, 0, 0), (59, .bipush 60, 2, 61, 60, 0), (61, .iload 5, 2, 63, 0, 0), (63, .imul, 1, 64, 0, 0), (64, .iload_n 1, 1, 65, 0, 0), (65, .iadd, 1, 66, 0, 0), (66, .iaload, 1, 67, 0, 0), (67, .ifCond .gt 9, 3, 70, 0, 76), (70, .iload 5, 2, 72, 0, 0), (72, .iload_n 3, 1, 73, 0, 0), (73, .if_icmp .ne 7, 3, 76, 0, 80), (76, .iconst (-1), 1, 77, (-1), 0), (77, .goto 4, 3, 80, 0, 81), (80, .iconst 0, 1, 81, 0, 0), (81, .iastore, 1, 82, 0, 0), (82, .iinc 5 1, 3, 85, 1, 0), (85, .goto (-48), 3, 88, 0, 37), (88, .iconst 0, 1, 89, 0, 0), (89, .istore 5, 2, 91, 0, 0), (91, .iload 5, 2, 93, 0, 0), (93, .bipush 85, 2, 95, 85, 0), (95, .if_icmp .ge 48, 3, 98, 0, 143), (98, .aload_n 0, 1, 99, 0, 0), (99, .getfield 16, 3, 102, 0, 0), (102, .bipush 60, 2, 104, 60, 0), (104, .iload 5, 2, 106, 0, 0), (106, .imul, 1, 107, 0, 0), (107, .iload_n 1, 1, 108, 0, 0), (108, .iadd, 1, 109, 0, 0), (109, .iaload, 1, 110, 0, 0), (110, .ifCond .ge 27, 3, 113, 0, 137), (113, .aload_n 0, 1, 114, 0, 0), (114, .getfield 16, 3, 117, 0, 0), (117, .bipush 60, 2, 119, 60, 0), (119, .iload 5, 2, 121, 0, 0), (121, .imul, 1, 122, 0, 0), (122, .iload_n 1, 1, 123, 0, 0), (123, .iadd, 1, 124, 0, 0), (124, .iconst 0, 1, 125, 0, 0), (125, .iastore, 1, 126, 0, 0), (126, .iload 4, 2, 128, 0, 0), (128, .aload_n 0, 1, 129, 0, 0), (129, .iload 5, 2, 131, 0, 0), (131, .invokevirtual 65, 3, 134, 0, 0), (134, .iadd, 1, 135, 0, 0), (135, .istore 4, 2, 137, 0, 0), (137, .iinc 5 1, 3, 140, 1, 0), (140, .goto (-49), 3, 143, 0, 91), (143, .aload_n 0, 1, 144, 0, 0), (144, .dup, 1, 145, 0, 0), (145, .getfield 69, 3, 148, 0, 0), (148, .iload 4, 2, 150, 0, 0), (150, .iadd, 1, 151, 0, 0), (151, .putfield 69, 3, 154, 0, 0), (154, .iload 4, 2, 156, 0, 0), (156, .ireturn, 1, 157, 0, 0)]
def r_endIt : aq_M := (⟨"LockDeskModel", "endIt", "(II)I"⟩, prog_3_method_16_code, 6, (some .int), r_endIt_t, [(13, 1, 3), (16, 1, 4), (19, 1, 5), (69, 1, 12)], [])
def r_commit_t : List aq_I := [(0, .aload_n 0, 1, 1, 0, 0), (1, .aload_n 0, 1, 2, 0, 0), (2, .iload_n 1, 1, 3, 0, 0), (3, .invokevirtual 72, 3, 6, 0, 0), (6, .ifCond .ne 7, 3, 9, 0, 13), (9, .iconst 1, 1, 10, 1, 0), (10, .goto 17, 3, 13, 0, 27), (13, .aload_n 0, 1, 14, 0, 0), (14, .getfield 13, 3, 17, 0, 0), (17, .iload_n 1, 1, 18, 0, 0), (18, .iaload, 1, 19, 0, 0), (19, .ifCond .eq 7, 3, 22, 0, 26), (22, .iconst 2, 1, 23, 2, 0), (23, .goto 4, 3, 26, 0, 27), (26, .iconst 0, 1, 27, 0, 0), (27, .putfield 35, 3, 30, 0, 0), (30, .aload_n 0, 1, 31, 0, 0), (31, .getfield 35, 3, 34, 0, 0), (34, .ifCond .le 7, 3, 37, 0, 41), (37, .iconst 0, 1, 38, 0, 0), (38, .goto 9, 3, 41, 0, 47), (41, .aload_n 0, 1, 42, 0, 0), (42, .iload_n 1, 1, 43, 0, 0), (43, .iconst 2, 1, 44, 2, 0), (44, .invokevirtual 97, 3, 47, 0, 0), (47, .ireturn, 1, 48, 0, 0)]
def r_commit : aq_M := (⟨"LockDeskModel", "commit", "(I)I"⟩, prog_3_method_19_code, 2, (some .int), r_commit_t, [(13, 1, 3), (35, 1, 0)], [])
def r_abort_t : List aq_I := [(0, .aload_n 0, 1, 1, 0, 0), (1, .aload_n 0, 1, 2, 0, 0), (2, .iload_n 1, 1, 3, 0, 0), (3, .invokevirtual 72, 3, 6, 0, 0), (6, .ifCond .ne 7, 3, 9, 0, 13), (9, .iconst 1, 1, 10, 1, 0), (10, .goto 18, 3, 13, 0, 28), (13, .aload_n 0, 1, 14, 0, 0), (14, .getfield 13, 3, 17, 0, 0), (17, .iload_n 1, 1, 18, 0, 0), (18, .iaload, 1, 19, 0, 0), (19, .iconst 2, 1, 20, 2, 0), (20, .if_icmp .lt 7, 3, 23, 0, 27), (23, .iconst 2, 1, 24, 2, 0), (24, .goto 4, 3, 27, 0, 28), (27, .iconst 0, 1, 28, 0, 0), (28, .putfield 35, 3, 31, 0, 0), (31, .aload_n 0, 1, 32, 0, 0), (32, .getfield 35, 3, 35, 0, 0), (35, .ifCond .le 7, 3, 38, 0, 42), (38, .iconst 0, 1, 39, 0, 0), (39, .goto 9, 3, 42, 0, 48), (42, .aload_n 0, 1, 43, 0, 0), (43, .iload_n 1, 1, 44, 0, 0), (44, .iconst 3, 1, 45, 3, 0), (45, .invokevirtual 97, 3, 48, 0, 0), (48, .ireturn, 1, 49, 0, 0)]
def r_abort : aq_M := (⟨"LockDeskModel", "abort", "(I)I"⟩, prog_3_method_20_code, 2, (some .int), r_abort_t, [(13, 1, 3), (35, 1, 0)], [])
def r_escalate_t : List aq_I := [(0, .aload_n 0, 1, 1, 0, 0), (1, .aload_n 0, 1, 2, 0, 0), (2, .iload_n 1, 1, 3, 0, 0), (3, .invokevirtual 72, 3, 6, 0, 0), (6, .ifCond .eq 10, 3, 9, 0, 16), (9, .iload_n 2, 1, 10, 0, 0), (10, .invokestatic 76, 3, 13, 0, 0), (13, .ifCond .ne 7, 3, 16, 0, 20), (16, .iconst 1, 1, 17, 1, 0), (17, .goto 26, 3, 20, 0, 43), (20, .aload_n 0, 1, 21, 0, 0), (21, .getfield 13, 3, 24, 0, 0), (24, .iload_n 1, 1, 25, 0, 0), (25, .iaload, 1, 26, 0, 0), (26, .ifCond .ne 12, 3, 29, 0, 38), (29, .aload_n 0, 1, 30, 0, 0), (30, .iload_n 1, 1, 31, 0, 0), (31, .iload_n 2, 1, 32, 0, 0), (32, .invokevirtual 42, 3, 35, 0, 0), (35, .ifCond .ge 7, 3, 38, 0, 42), (38, .iconst 2, 1, 39, 2, 0), (39, .goto 4, 3, 42, 0, 43), (42, .iconst 0, 1, 43, 0, 0), (43, .putfield 35, 3, 46, 0, 0), (46, .aload_n 0, 1, 47, 0, 0), (47, .getfield 35, 3, 50, 0, 0), (50, .ifCond .le 5, 3, 53, 0, 55), (53, .iconst 0, 1, 54, 0, 0), (54, .ireturn, 1, 55, 0, 0), (55, .iconst 0, 1, 56, 0, 0), (56, .istore_n 3, 1, 57, 0, 0), (57, .iconst 0, 1, 58, 0, 0), (58, .istore 4, 2, 60, 0, 0), (60, .iload_n 2, 1, 61, 0, 0), (61, .iconst 1, 1, 62, 1, 0), (62, .iadd, 1, 63, 0, 0), (63, .istore 5, 2, 65, 0, 0), (65, .iload 5, 2, 67, 0, 0), (67, .bipush 85, 2, 69, 85, 0), (69, .if_icmp .ge 78, 3, 72, 0, 147), (72, .iload 5, 2, 74, 0, 0), (74, .iload_n 2, 1, 75, 0, 0), (75, .invokestatic 100, 3, 78, 0, 0), (78, .ifCond .eq 17, 3, 81, 0, 95), (81, .aload_n 0, 1, 82, 0, 0), (82, .iload_n 1, 1, 83, 0, 0), (83, .iload 5, 2, 85, 0, 0), (85, .invokevirtual 42, 3, 88, 0, 0), (88, .ifCond .lt 7, 3, 91, 0, 95), (91, .iconst 1, 1, 92, 1, 0), (92, .goto 4, 3, 95, 0, 96), (95, .iconst 0, 1, 96, 0, 0), (96, .istore 6, 2, 98, 0, 0), (98, .iload_n 3, 1, 99, 0, 0), (99, .ifCond .ne 21, 3, 102, 0, 120), (102, .iload 6, 2, 104, 0, 0), (104, .ifCond .eq 20, 3, 107, 0, 124), (107, .aload_n 0, 1, 108, 0, 0), (108, .iload_n 1, 1, 109, 0, 0), (109, .iload 5, 2, 111, 0, 0), (111, .invokevirtual 42, 3, 114, 0, 0), (114, .invokestatic 79, 3, 117, 0, 0), (117, .ifCond .eq 7, 3, 120, 0, 124), (120, .iconst 1, 1, 121, 1, 0), (121, .goto 4, 3, 124, 0, 125), (124, .iconst 0, 1, 125, 0, 0), (125, .istore_n 3, 1, 126, 0, 0), (126, .iload 4, 2, 128, 0, 0), (128, .iload 6, 2, 130, 0, 0), (130, .ifCond .eq 7, 3, 133, 0, 137), (133, .iconst 1, 1, 134, 1, 0), (134, .goto 4, 3, 137, 0, 138), (137, .iconst 0, 1, 138, 0, 0), (138, .iadd, 1, 139, 0, 0), (139, .istore 4, 2, 141, 0, 0), (141, .iinc 5 1, 3, 144, 1, 0), (144, .goto (-79), 3, 147, 0, 65), (147, .aload_n 0, 1, 148, 0, 0), (148, .iload_n 1, 1, 149, 0, 0), (149, .iload_n 2, 1, 150, 0, 0), (150, .invokevirtual 42, 3, 153, 0, 0), (153, .iload_n 3, 1, 154, 0, 0), (154, .ifCond .eq 7, 3, 157, 0, 161), (157, .iconst 4, 1, 158, 4, 0), (158, .goto 4, 3, 161, 0, 162), (161, .iconst 2, 1, 162, 2, 0), (162, .invokestatic 82, 3, 165, 0, 0), (165, .istore 5, 2, 167, 0, 0), (167, .aload_n 0, 1, 168, 0, 0), (168, .iload_n 1, 1, 169, 0, 0), (169, .iload_n 2, 1, 170, 0, 0), (170, .iload 5, 2, 172, 0, 0), (172, .invokevirtual 50, 3, 175, 0, 0), (175, .ifCond .ne 5, 3, 178, 0, 180), (178, .iconst (-1), 1, 179, (-1), 0), (179, .ireturn, 1, 180, 0, 0), (180, .aload_n 0, 1, 181, 0, 0), (181, .getfield 16, 3, 184, 0, 0), (184, .bipush 60, 2, 186, 60, 0), (186, .iload_n 2, 1, 187, 0, 0), (187, .imul, 1, 188, 0, 0), (188, .iload_n 1, 1, 189, 0, 0), (189, .iadd, 1, 190, 0, 0), (190, .iload 5, 2, 192, 0, 0), (192, .iconst 1, 1, 193, 1, 0), (193, .iadd, 1, 194, 0, 0), (194, .iastore, 1, 195, 0, 0), (195, .iload_n 2, 1, 196, 0, 0), (196, .iconst 1, 1, 197, 1, 0), (197, .iadd, 1, 198, 0, 0), (198, .istore 6, 2, 200, 0, 0), (200, .iload 6, 2, 202, 0, 0), (202, .bipush 85, 2, 204, 85, 0), (204, .if_icmp .ge 41, 3, 207, 0, 245), (207, .iload 6, 2, 209, 0, 0), (209, .iload_n 2, 1, 210, 0, 0), (210, .invokestatic 100, 3, 213, 0, 0), (213, .ifCond .eq 26, 3, 216, 0, 239), (216, .aload_n 0, 1, 217, 0, 0), (217, .iload_n 1, 1, 218, 0, 0), (218, .iload 6, 2, 220, 0, 0), (220, .invokevirtual 42, 3, 223, 0, 0), (223, .ifCond .lt 16, 3, 226, 0, 239), (226, .aload_n 0, 1, 227, 0, 0), (227, .getfield 16, 3, 230, 0, 0), (230, .bipush 60, 2, 232, 60, 0), (232, .iload 6, 2, 234, 0, 0), (234, .imul, 1, 235, 0, 0), (235, .iload_n 1, 1, 236, 0, 0), (236, .iadd, 1, 237, 0, 0), (237, .iconst (-1), 1, 238, (-1), 0), (238, .iastore, 1, 239, 0, 0), (239, .iinc 6 1, 3, 242, 1, 0), (242, .goto (-42), 3, 245, 0, 200), (245, .iload_n 2, 1, 246, 0, 0), (246, .iconst 1, 1, 247, 1, 0), (247, .iadd, 1, 248, 0, 0), (248, .istore 6, 2, 250, 0, 0), (250, .iload 6, 2, 252, 0, 0), (252, .bipush 85, 2, 254, 85, 0), (254, .if_icmp .ge 52, 3, 257, 0, 306), (257, .aload_n 0, 1, 258, 0, 0), (258, .getfield 16, 3, 261, 0, 0), (261, .bipush 60, 2, 263, 60, 0), (263, .iload 6, 2, 265, 0, 0), (265, .imul, 1, 266, 0, 0), (266, .iload_n 1, 1, 267, 0, 0), (267, .iadd, 1, 268, 0, 0), (268, .iaload, 1, 269, 0, 0), (269, .ifCond .ge 31, 3, 272, 0, 300), (272, .aload_n 0, 1, 273, 0, 0), (273, .getfield 16, 3, 276, 0, 0), (276, .bipush 60, 2, 278, 60, 0), (278, .iload 6, 2, 280, 0, 0), (280, .imul, 1, 281, 0, 0), (281, .iload_n 1, 1, 282, 0, 0), (282, .iadd, 1, 283, 0, 0), (283, .iconst 0, 1, 284, 0, 0), (284, .iastore, 1, 285, 0, 0), (285, .aload_n 0, 1, 286, 0, 0), (286, .dup, 1, 287, 0, 0), (287, .getfield 69, 3, 290, 0, 0), (290, .aload_n 0, 1, 291, 0, 0), (291, .iload 6, 2, 293, 0, 0), (293, .invokevirtual 65, 3, 296, 0, 0), (296, .iadd, 1, 297, 0, 0), (297, .putfield 69, 3, 300, 0, 0), (300, .iinc 6 1, 3, 303, 1, 0), (303, .goto (-53), 3, 306, 0, 250), (306, .aload_n 0, 1, 307, 0, 0), (307, .dup, 1, 308, 0, 0), (308, .getfield 69, 3, 311, 0, 0), (311, .aload_n 0, 1, 312, 0, 0), (312, .iload_n 2, 1, 313, 0, 0), (313, .invokevirtual 65, 3, 316, 0, 0), (316, .iadd, 1, 317, 0, 0), (317, .putfield 69, 3, 320, 0, 0), (320, .iload 4, 2, 322, 0, 0), (322, .ireturn, 1, 323, 0, 0)]
def r_escalate : aq_M := (⟨"LockDeskModel", "escalate", "(II)I"⟩, prog_3_method_22_code, 7, (some .int), r_escalate_t, [(13, 1, 3), (16, 1, 4), (35, 1, 0), (69, 1, 12)], [])
def r_isBelow_t : List aq_I := [(0, .iload_n 0, 1, 1, 0, 0), (1, .istore_n 2, 1, 2, 0, 0), (2, .iload_n 2, 1, 3, 0, 0), (3, .iload_n 1, 1, 4, 0, 0), (4, .if_icmp .le 12, 3, 7, 0, 16), (7, .iload_n 2, 1, 8, 0, 0), (8, .iconst 1, 1, 9, 1, 0), (9, .isub, 1, 10, 0, 0), (10, .iconst 4, 1, 11, 4, 0), (11, .idiv, 1, 12, 0, 0), (12, .istore_n 2, 1, 13, 0, 0), (13, .goto (-11), 3, 16, 0, 2), (16, .iload_n 0, 1, 17, 0, 0), (17, .iload_n 1, 1, 18, 0, 0), (18, .if_icmp .le 12, 3, 21, 0, 30), (21, .iload_n 2, 1, 22, 0, 0), (22, .iload_n 1, 1, 23, 0, 0), (23, .if_icmp .ne 7, 3, 26, 0, 30), (26, .iconst 1, 1, 27, 1, 0), (27, .goto 4, 3, 30, 0, 31), (30, .iconst 0, 1, 31, 0, 0), (31, .ireturn, 1, 32, 0, 0)]
def r_isBelow : aq_M := (⟨"LockDeskModel", "isBelow", "(II)Z"⟩, prog_3_method_21_code, 3, (some .boolean), r_isBelow_t, [], [])
def r_mode_t : List aq_I := [(0, .aload_n 0, 1, 1, 0, 0), (1, .aload_n 0, 1, 2, 0, 0), (2, .iload_n 1, 1, 3, 0, 0), (3, .invokevirtual 72, 3, 6, 0, 0), (6, .ifCond .eq 14, 3, 9, 0, 20), (9, .iload_n 2, 1, 10, 0, 0), (10, .invokestatic 76, 3, 13, 0, 0), (13, .ifCond .eq 7, 3, 16, 0, 20), (16, .iconst 0, 1, 17, 0, 0), (17, .goto 4, 3, 20, 0, 21), (20, .iconst 1, 1, 21, 1, 0), (21, .putfield 35, 3, 24, 0, 0), (24, .aload_n 0, 1, 25, 0, 0), (25, .getfield 35, 3, 28, 0, 0), (28, .ifCond .le 7, 3, 31, 0, 35), (31, .iconst 0, 1, 32, 0, 0), (32, .goto 9, 3, 35, 0, 41), (35, .aload_n 0, 1, 36, 0, 0), (36, .iload_n 1, 1, 37, 0, 0), (37, .iload_n 2, 1, 38, 0, 0), (38, .invokevirtual 42, 3, 41, 0, 0), (41, .ireturn, 1, 42, 0, 0)]
def r_mode : aq_M := (⟨"LockDeskModel", "mode", "(II)I"⟩, prog_3_method_23_code, 3, (some .int), r_mode_t, [(35, 1, 0)], [])
def r_told_t : List aq_I := [(0, .aload_n 0, 1, 1, 0, 0), (1, .aload_n 0, 1, 2, 0, 0), (2, .iload_n 1, 1, 3, 0, 0), (3, .invokevirtual 72, 3, 6, 0, 0), (6, .ifCond .ne 7, 3, 9, 0, 13), (9, .iconst 1, 1, 10, 1, 0), (10, .goto 17, 3, 13, 0, 27), (13, .iload_n 2, 1, 14, 0, 0), (14, .ifCond .lt 8, 3, 17, 0, 22), (17, .iload_n 2, 1, 18, 0, 0), (18, .iconst 4, 1, 19, 4, 0), (19, .if_icmp .le 7, 3, 22, 0, 26), (22, .iconst 2, 1, 23, 2, 0), (23, .goto 4, 3, 26, 0, 27), (26, .iconst 0, 1, 27, 0, 0), (27, .putfield 35, 3, 30, 0, 0), (30, .aload_n 0, 1, 31, 0, 0), (31, .getfield 35, 3, 34, 0, 0), (34, .ifCond .le 5, 3, 37, 0, 39), (37, .iconst 0, 1, 38, 0, 0), (38, .ireturn, 1, 39, 0, 0), (39, .iconst 0, 1, 40, 0, 0), (40, .istore_n 3, 1, 41, 0, 0), (41, .iconst 0, 1, 42, 0, 0), (42, .istore 4, 2, 44, 0, 0), (44, .iload 4, 2, 46, 0, 0), (46, .bipush 85, 2, 48, 85, 0), (48, .if_icmp .ge 27, 3, 51, 0, 75), (51, .iload_n 3, 1, 52, 0, 0), (52, .aload_n 0, 1, 53, 0, 0), (53, .iload_n 1, 1, 54, 0, 0), (54, .iload 4, 2, 56, 0, 0), (56, .invokevirtual 42, 3, 59, 0, 0), (59, .ifCond .lt 7, 3, 62, 0, 66), (62, .iconst 1, 1, 63, 1, 0), (63, .goto 4, 3, 66, 0, 67), (66, .iconst 0, 1, 67, 0, 0), (67, .iadd, 1, 68, 0, 0), (68, .istore_n 3, 1, 69, 0, 0), (69, .iinc 4 1, 3, 72, 1, 0), (72, .goto (-28), 3, 75, 0, 44), (75, .iload_n 2, 1, 76, 0, 0), (76, .tableswitch 55 0 3 #[32, 39, 46, 48], 32, 108, 0, 0), (108, .aload_n 0, 1, 109, 0, 0), (109, .getfield 13, 3, 112, 0, 0), (112, .iload_n 1, 1, 113, 0, 0), (113, .iaload, 1, 114, 0, 0), (114, .ireturn, 1, 115, 0, 0), (115, .aload_n 0, 1, 116, 0, 0), (116, .getfield 7, 3, 119, 0, 0), (119, .iload_n 1, 1, 120, 0, 0), (120, .iaload, 1, 121, 0, 0), (121, .ireturn, 1, 122, 0, 0), (122, .iload_n 3, 1, 123, 0, 0), (123, .ireturn, 1, 124, 0, 0), (124, .aload_n 0, 1, 125, 0, 0), (125, .getfield 19, 3, 128, 0, 0), (128, .iload_n 1, 1, 129, 0, 0), (129, .iaload, 1, 130, 0, 0), (130, .ireturn, 1, 131, 0, 0), (131, .aload_n 0, 1, 132, 0, 0), (132, .getfield 19, 3, 135, 0, 0), (135, .iload_n 1, 1, 136, 0, 0), (136, .iaload, 1, 137, 0, 0), (137, .ifCond .ge 7, 3, 140, 0, 144), (140, .iconst (-1), 1, 141, (-1), 0), (141, .goto 9, 3, 144, 0, 150), (144, .aload_n 0, 1, 145, 0, 0), (145, .getfield 22, 3, 148, 0, 0), (148, .iload_n 1, 1, 149, 0, 0), (149, .iaload, 1, 150, 0, 0), (150, .ireturn, 1, 151, 0, 0)]
def r_told : aq_M := (⟨"LockDeskModel", "told", "(II)I"⟩, prog_3_method_24_code, 5, (some .int), r_told_t, [(7, 1, 2), (13, 1, 3), (19, 1, 5), (22, 1, 6), (35, 1, 0)], [])
def r_many_t : List aq_I := [(0, .aload_n 0, 1, 1, 0, 0), (1, .iload_n 1, 1, 2, 0, 0), (2, .invokestatic 76, 3, 5, 0, 0), (5, .ifCond .eq 7, 3, 8, 0, 12), (8, .iconst 0, 1, 9, 0, 0), (9, .goto 4, 3, 12, 0, 13), (12, .iconst 1, 1, 13, 1, 0), (13, .putfield 35, 3, 16, 0, 0), (16, .aload_n 0, 1, 17, 0, 0), (17, .getfield 35, 3, 20, 0, 0), (20, .ifCond .le 5, 3, 23, 0, 25), (23, .iconst 0, 1, 24, 0, 0), (24, .ireturn, 1, 25, 0, 0), (25, .iconst 0, 1, 26, 0, 0), (26, .istore_n 3, 1, 27, 0, 0), (27, .iconst 0, 1, 28, 0, 0), (28, .istore 4, 2, 30, 0, 0), (30, .iload 4, 2, 32, 0, 0), (32, .aload_n 0, 1, 33, 0, 0), (33, .getfield 39, 3, 36, 0, 0), (36, .if_icmp .ge 27, 3, 39, 0, 63), (39, .iload_n 3, 1, 40, 0, 0), (40, .aload_n 0, 1, 41, 0, 0), (41, .iload 4, 2, 43, 0, 0), (43, .iload_n 1, 1, 44, 0, 0), (44, .invokevirtual 42, 3, 47, 0, 0), (47, .ifCond .lt 7, 3, 50, 0, 54), (50, .iconst 1, 1, 51, 1, 0), (51, .goto 4, 3, 54, 0, 55), (54, .iconst 0, 1, 55, 0, 0), (55, .iadd, 1, 56, 0, 0), (56, .istore_n 3, 1, 57, 0, 0), (57, .iinc 4 1, 3, 60, 1, 0), (60, .goto (-30), 3, 63, 0, 30), (63, .iload_n 2, 1, 64, 0, 0), (64, .ifCond .eq 12, 3, 67, 0, 76), (67, .aload_n 0, 1, 68, 0, 0), (68, .getfield 29, 3, 71, 0, 0), (71, .iload_n 1, 1, 72, 0, 0), (72, .iaload, 1, 73, 0, 0), (73, .goto 4, 3, 76, 0, 77), (76, .iload_n 3, 1, 77, 0, 0), (77, .ireturn, 1, 78, 0, 0)]
def r_many : aq_M := (⟨"LockDeskModel", "many", "(IZ)I"⟩, prog_3_method_25_code, 5, (some .int), r_many_t, [(29, 1, 8), (35, 1, 0), (39, 1, 1)], [])
def r_at_t : List aq_I := [(0, .aload_n 0, 1, 1, 0, 0), (1, .iload_n 1, 1, 2, 0, 0), (2, .invokestatic 76, 3, 5, 0, 0), (5, .ifCond .eq 7, 3, 8, 0, 12), (8, .iconst 0, 1, 9, 0, 0), (9, .goto 4, 3, 12, 0, 13), (12, .iconst 1, 1, 13, 1, 0), (13, .putfield 35, 3, 16, 0, 0), (16, .aload_n 0, 1, 17, 0, 0), (17, .getfield 35, 3, 20, 0, 0), (20, .ifCond .le 5, 3, 23, 0, 25), (23, .iconst 0, 1, 24, 0, 0), (24, .ireturn, 1, 25, 0, 0), (25, .iconst (-1), 1, 26, (-1), 0), (26, .istore 4, 2, 28, 0, 0), (28, .iload_n 3, 1, 29, 0, 0), (29, .ifCond .eq 37, 3, 32, 0, 66), (32, .iload_n 2, 1, 33, 0, 0), (33, .ifCond .lt 27, 3, 36, 0, 60), (36, .iload_n 2, 1, 37, 0, 0), (37, .aload_n 0, 1, 38, 0, 0), (38, .getfield 29, 3, 41, 0, 0), (41, .iload_n 1, 1, 42, 0, 0), (42, .iaload, 1, 43, 0, 0), (43, .if_icmp .ge 17, 3, 46, 0, 60), (46, .aload_n 0, 1, 47, 0, 0), (47, .getfield 32, 3, 50, 0, 0), (50, .bipush 60, 2, 52, 60, 0), (52, .iload_n 1, 1, 53, 0, 0), (53, .imul, 1, 54, 0, 0), (54, .iload_n 2, 1, 55, 0, 0), (55, .iadd, 1, 56, 0, 0), (56, .iaload, 1, 57, 0, 0), (57, .goto 4, 3, 60, 0, 61), (60, .iconst (-1), 1, 61, (-1), 0), (61, .istore 4, 2, 63, 0, 0), (63, .goto 51, 3, 66, 0, 114), (66, .iload_n 2, 1, 67, 0, 0), (67, .istore 5, 2, 69, 0, 0), (69, .iconst 0, 1, 70, 0, 0), (70, .istore 6, 2, 72, 0, 0), (72, .iload 6, 2, 74, 0, 0), (74, .aload_n 0, 1, 75, 0, 0), (75, .getfield 39, 3, 78, 0, 0), (78, .if_icmp .ge 36, 3, 81, 0, 114), (81, .aload_n 0, 1, 82, 0, 0), (82, .iload 6, 2, 84, 0, 0), (84, .iload_n 1, 1, 85, 0, 0), (85, .invokevirtual 42, 3, 88, 0, 0), (88, .ifCond .lt 20, 3, 91, 0, 108), (91, .iload 5, 2, 93, 0, 0), (93, .ifCond .ne 8, 3, 96, 0, 101), (96, .iload 6, 2, 98, 0, 0), (98, .goto 5, 3, 101, 0, 103), (101, .iload 4, 2, 103, 0, 0), (103, .istore 4, 2, 105, 0, 0), (105, .iinc 5 (-1), 3, 108, (-1), 0), (108, .iinc 6 1, 3, 111, 1, 0), (111, .goto (-39), 3, 114, 0, 72), (114, .aload_n 0, 1, 115, 0, 0), (115, .iload 4, 2, 117, 0, 0), (117, .ifCond .ge 7, 3, 120, 0, 124), (120, .iconst 1, 1, 121, 1, 0), (121, .goto 4, 3, 124, 0, 125), (124, .iconst 0, 1, 125, 0, 0), (125, .putfield 35, 3, 128, 0, 0), (128, .aload_n 0, 1, 129, 0, 0), (129, .getfield 35, 3, 132, 0, 0), (132, .ifCond .le 7, 3, 135, 0, 139), (135, .iconst 0, 1, 136, 0, 0), (136, .goto 5, 3, 139, 0, 141), (139, .iload 4, 2, 141, 0, 0), (141, .ireturn, 1, 142, 0, 0)]
def r_at : aq_M := (⟨"LockDeskModel", "at", "(IIZ)I"⟩, prog_3_method_26_code, 7, (some .int), r_at_t, [(29, 1, 8), (32, 1, 9), (35, 1, 0), (39, 1, 1)], [])
def r_waitsFor_t : List aq_I := [(0, .aload_n 0, 1, 1, 0, 0), (1, .aload_n 0, 1, 2, 0, 0), (2, .iload_n 1, 1, 3, 0, 0), (3, .invokevirtual 72, 3, 6, 0, 0), (6, .ifCond .eq 7, 3, 9, 0, 13), (9, .iconst 0, 1, 10, 0, 0), (10, .goto 4, 3, 13, 0, 14), (13, .iconst 1, 1, 14, 1, 0), (14, .putfield 35, 3, 17, 0, 0), (17, .aload_n 0, 1, 18, 0, 0), (18, .getfield 35, 3, 21, 0, 0), (21, .ifCond .le 7, 3, 24, 0, 28), (24, .lconst 0, 1, 25, 0, 0), (25, .goto 8, 3, 28, 0, 33), (28, .aload_n 0, 1, 29, 0, 0), (29, .iload_n 1, 1, 30, 0, 0), (30, .invokevirtual 58, 3, 33, 0, 0), (33, .lreturn, 1, 34, 0, 0)]
def r_waitsFor : aq_M := (⟨"LockDeskModel", "waitsFor", "(I)J"⟩, prog_3_method_27_code, 2, (some .long), r_waitsFor_t, [(35, 1, 0)], [])
def r_count_t : List aq_I := [(0, .aload_n 0, 1, 1, 0, 0), (1, .iconst 0, 1, 2, 0, 0), (2, .putfield 35, 3, 5, 0, 0), (5, .iconst 0, 1, 6, 0, 0), (6, .istore_n 2, 1, 7, 0, 0), (7, .iconst 0, 1, 8, 0, 0), (8, .istore_n 3, 1, 9, 0, 0), (9, .iload_n 3, 1, 10, 0, 0), (10, .aload_n 0, 1, 11, 0, 0), (11, .getfield 39, 3, 14, 0, 0), (14, .if_icmp .ge 29, 3, 17, 0, 43), (17, .iload_n 2, 1, 18, 0, 0), (18, .aload_n 0, 1, 19, 0, 0), (19, .getfield 13, 3, 22, 0, 0), (22, .iload_n 3, 1, 23, 0, 0), (23, .iaload, 1, 24, 0, 0), (24, .iload_n 1, 1, 25, 0, 0), (25, .iconst 1, 1, 26, 1, 0), (26, .isub, 1, 27, 0, 0), (27, .if_icmp .ne 7, 3, 30, 0, 34), (30, .iconst 1, 1, 31, 1, 0), (31, .goto 4, 3, 34, 0, 35), (34, .iconst 0, 1, 35, 0, 0), (35, .iadd, 1, 36, 0, 0), (36, .istore_n 2, 1, 37, 0, 0), (37, .iinc 3 1, 3, 40, 1, 0), (40, .goto (-31), 3, 43, 0, 9), (43, .iload_n 1, 1, 44, 0, 0), (44, .tableswitch 70 0 7 #[48, 53, 53, 53, 53, 55, 60, 65], 48, 92, 0, 0), (92, .aload_n 0, 1, 93, 0, 0), (93, .getfield 39, 3, 96, 0, 0), (96, .ireturn, 1, 97, 0, 0), (97, .iload_n 2, 1, 98, 0, 0), (98, .ireturn, 1, 99, 0, 0), (99, .aload_n 0, 1, 100, 0, 0), (100, .getfield 94, 3, 103, 0, 0), (103, .ireturn, 1, 104, 0, 0), (104, .aload_n 0, 1, 105, 0, 0), (105, .getfield 88, 3, 108, 0, 0), (108, .ireturn, 1, 109, 0, 0), (109, .aload_n 0, 1, 110, 0, 0), (110, .getfield 69, 3, 113, 0, 0), (113, .ireturn, 1, 114, 0, 0), (114, .iconst (-1), 1, 115, (-1), 0), (115, .ireturn, 1, 116, 0, 0)]
def r_count : aq_M := (⟨"LockDeskModel", "count", "(I)I"⟩, prog_3_method_28_code, 4, (some .int), r_count_t, [(13, 1, 3), (35, 1, 0), (39, 1, 1), (69, 1, 12), (88, 1, 11), (94, 1, 10)], [])
def r_astray_t : List aq_I := [(0, .aload_n 0, 1, 1, 0, 0), (1, .iconst 0, 1, 2, 0, 0), (2, .putfield 35, 3, 5, 0, 0), (5, .iconst 0, 1, 6, 0, 0), (6, .ireturn, 1, 7, 0, 0)]
def r_astray : aq_M := (⟨"LockDeskModel", "astray", "()I"⟩, prog_3_method_29_code, 1, (some .int), r_astray_t, [(35, 1, 0)], [])
end
section
/-! the tables are the methods, by program -/
theorem aq_okK0 : aq_okK (RX0, TX0, 12) := ⟨by decide +kernel, by decide +kernel, by decide +kernel⟩
theorem aq_okK1 : aq_okK (RX1, TX1, 13) := ⟨by decide +kernel, by decide +kernel, by decide +kernel⟩
theorem aq_cls : ∀ (ci : Nat) (r : vw_C), vwCl[ci]? = some r → aq_okK r := by
  intro ci r h
  match ci, h with
  | 0, h => cases h; exact aq_okK0
  | 1, h => cases h; exact aq_okK1
  | k + 2, h => simp [vwCl] at h
theorem ok_m_init : aq_okM m_init = true := by decide +kernel
theorem pl_m_count : plainFor (aq_y m_count) = true := by decide +kernel
theorem ok_m_count : aq_okM m_count = true := by decide +kernel
theorem pl_m_inState : plainFor (aq_y m_inState) = true := by decide +kernel
theorem ok_m_inState : aq_okM m_inState = true := by decide +kernel
theorem pl_m_astray : plainFor (aq_y m_astray) = true := by decide +kernel
theorem ok_m_astray : aq_okM m_astray = true := by decide +kernel
theorem pl_m_holdersClash : plainFor (aq_y m_holdersClash) = true := by decide +kernel
theorem ok_m_holdersClash : aq_okM m_holdersClash = true := by decide +kernel
theorem pl_j_numberOfTrailingZeros : plainFor (aq_y j_numberOfTrailingZeros) = true := by decide +kernel
theorem ok_j_numberOfTrailingZeros : aq_okM j_numberOfTrailingZeros = true := by decide +kernel
theorem pl_i_numberOfTrailingZeros : plainFor (aq_y i_numberOfTrailingZeros) = true := by decide +kernel
theorem ok_i_numberOfTrailingZeros : aq_okM i_numberOfTrailingZeros = true := by decide +kernel
theorem pl_m_othersInTheWay : plainFor (aq_y m_othersInTheWay) = true := by decide +kernel
theorem ok_m_othersInTheWay : aq_okM m_othersInTheWay = true := by decide +kernel
theorem pl_m_goTogether : plainFor (aq_y m_goTogether) = true := by decide +kernel
theorem ok_m_goTogether : aq_okM m_goTogether = true := by decide +kernel
theorem pl_m_bit : plainFor (aq_y m_bit) = true := by decide +kernel
theorem ok_m_bit : aq_okM m_bit = true := by decide +kernel
theorem pl_m_firstToGrant : plainFor (aq_y m_firstToGrant) = true := by decide +kernel
theorem ok_m_firstToGrant : aq_okM m_firstToGrant = true := by decide +kernel
theorem pl_m_inQueue : plainFor (aq_y m_inQueue) = true := by decide +kernel
theorem ok_m_inQueue : aq_okM m_inQueue = true := by decide +kernel
theorem pl_m_begin : plainFor (aq_y m_begin) = true := by decide +kernel
theorem ok_m_begin : aq_okM m_begin = true := by decide +kernel
theorem pl_m_lock : plainFor (aq_y m_lock) = true := by decide +kernel
theorem ok_m_lock : aq_okM m_lock = true := by decide +kernel
theorem pl_m_checkTransaction : plainFor (aq_y m_checkTransaction) = true := by decide +kernel
theorem ok_m_checkTransaction : aq_okM m_checkTransaction = true := by decide +kernel
theorem pl_m_checkObject : plainFor (aq_y m_checkObject) = true := by decide +kernel
theorem ok_m_checkObject : aq_okM m_checkObject = true := by decide +kernel
theorem pl_m_checkActive : plainFor (aq_y m_checkActive) = true := by decide +kernel
theorem ok_m_checkActive : aq_okM m_checkActive = true := by decide +kernel
theorem pl_m_mayAsk : plainFor (aq_y m_mayAsk) = true := by decide +kernel
theorem ok_m_mayAsk : aq_okM m_mayAsk = true := by decide +kernel
theorem pl_m_above : plainFor (aq_y m_above) = true := by decide +kernel
theorem ok_m_above : aq_okM m_above = true := by decide +kernel
theorem pl_j_floorDiv : plainFor (aq_y j_floorDiv) = true := by decide +kernel
theorem ok_j_floorDiv : aq_okM j_floorDiv = true := by decide +kernel
theorem pl_m_heldMode : plainFor (aq_y m_heldMode) = true := by decide +kernel
theorem ok_m_heldMode : aq_okM m_heldMode = true := by decide +kernel
theorem pl_m_isWriting : plainFor (aq_y m_isWriting) = true := by decide +kernel
theorem ok_m_isWriting : aq_okM m_isWriting = true := by decide +kernel
theorem pl_m_leastAbove : plainFor (aq_y m_leastAbove) = true := by decide +kernel
theorem ok_m_leastAbove : aq_okM m_leastAbove = true := by decide +kernel
theorem pl_j_max : plainFor (aq_y j_max) = true := by decide +kernel
theorem ok_j_max : aq_okM j_max = true := by decide +kernel
theorem pl_m_joinQueue : plainFor (aq_y m_joinQueue) = true := by decide +kernel
theorem ok_m_joinQueue : aq_okM m_joinQueue = true := by decide +kernel
theorem pl_m_placeOfNewcomers : plainFor (aq_y m_placeOfNewcomers) = true := by decide +kernel
theorem ok_m_placeOfNewcomers : aq_okM m_placeOfNewcomers = true := by decide +kernel
theorem pl_m_serve : plainFor (aq_y m_serve) = true := by decide +kernel
theorem ok_m_serve : aq_okM m_serve = true := by decide +kernel
theorem pl_m_grant : plainFor (aq_y m_grant) = true := by decide +kernel
theorem ok_m_grant : aq_okM m_grant = true := by decide +kernel
theorem pl_m_hold : plainFor (aq_y m_hold) = true := by decide +kernel
theorem ok_m_hold : aq_okM m_hold = true := by decide +kernel
theorem pl_m_leaveQueue : plainFor (aq_y m_leaveQueue) = true := by decide +kernel
theorem ok_m_leaveQueue : aq_okM m_leaveQueue = true := by decide +kernel
theorem pl_m_breakCircles : plainFor (aq_y m_breakCircles) = true := by decide +kernel
theorem ok_m_breakCircles : aq_okM m_breakCircles = true := by decide +kernel
theorem pl_m_circleOf : plainFor (aq_y m_circleOf) = true := by decide +kernel
theorem ok_m_circleOf : aq_okM m_circleOf = true := by decide +kernel
theorem pl_m_waitRow : plainFor (aq_y m_waitRow) = true := by decide +kernel
theorem ok_m_waitRow : aq_okM m_waitRow = true := by decide +kernel
theorem pl_m_standingBefore : plainFor (aq_y m_standingBefore) = true := by decide +kernel
theorem ok_m_standingBefore : aq_okM m_standingBefore = true := by decide +kernel
theorem pl_m_reachedFrom : plainFor (aq_y m_reachedFrom) = true := by decide +kernel
theorem ok_m_reachedFrom : aq_okM m_reachedFrom = true := by decide +kernel
theorem pl_m_reaching : plainFor (aq_y m_reaching) = true := by decide +kernel
theorem ok_m_reaching : aq_okM m_reaching = true := by decide +kernel
theorem pl_m_weakestOf : plainFor (aq_y m_weakestOf) = true := by decide +kernel
theorem ok_m_weakestOf : aq_okM m_weakestOf = true := by decide +kernel
theorem pl_m_end : plainFor (aq_y m_end) = true := by decide +kernel
theorem ok_m_end : aq_okM m_end = true := by decide +kernel
theorem pl_m_letGo : plainFor (aq_y m_letGo) = true := by decide +kernel
theorem ok_m_letGo : aq_okM m_letGo = true := by decide +kernel
theorem pl_m_answerFor : plainFor (aq_y m_answerFor) = true := by decide +kernel
theorem ok_m_answerFor : aq_okM m_answerFor = true := by decide +kernel
theorem pl_m_commit : plainFor (aq_y m_commit) = true := by decide +kernel
theorem ok_m_commit : aq_okM m_commit = true := by decide +kernel
theorem pl_m_abort : plainFor (aq_y m_abort) = true := by decide +kernel
theorem ok_m_abort : aq_okM m_abort = true := by decide +kernel
theorem pl_m_escalate : plainFor (aq_y m_escalate) = true := by decide +kernel
theorem ok_m_escalate : aq_okM m_escalate = true := by decide +kernel
theorem pl_m_writesBelow : plainFor (aq_y m_writesBelow) = true := by decide +kernel
theorem ok_m_writesBelow : aq_okM m_writesBelow = true := by decide +kernel
theorem pl_m_isBelow : plainFor (aq_y m_isBelow) = true := by decide +kernel
theorem ok_m_isBelow : aq_okM m_isBelow = true := by decide +kernel
theorem pl_m_dropBelow : plainFor (aq_y m_dropBelow) = true := by decide +kernel
theorem ok_m_dropBelow : aq_okM m_dropBelow = true := by decide +kernel
theorem pl_m_mode : plainFor (aq_y m_mode) = true := by decide +kernel
theorem ok_m_mode : aq_okM m_mode = true := by decide +kernel
theorem pl_m_told : plainFor (aq_y m_told) = true := by decide +kernel
theorem ok_m_told : aq_okM m_told = true := by decide +kernel
theorem pl_m_heldObjects : plainFor (aq_y m_heldObjects) = true := by decide +kernel
theorem ok_m_heldObjects : aq_okM m_heldObjects = true := by decide +kernel
theorem pl_m_many : plainFor (aq_y m_many) = true := by decide +kernel
theorem ok_m_many : aq_okM m_many = true := by decide +kernel
theorem pl_m_queueLength : plainFor (aq_y m_queueLength) = true := by decide +kernel
theorem ok_m_queueLength : aq_okM m_queueLength = true := by decide +kernel
theorem pl_m_allHolders : plainFor (aq_y m_allHolders) = true := by decide +kernel
theorem ok_m_allHolders : aq_okM m_allHolders = true := by decide +kernel
theorem pl_j_bitCount : plainFor (aq_y j_bitCount) = true := by decide +kernel
theorem ok_j_bitCount : aq_okM j_bitCount = true := by decide +kernel
theorem pl_m_at : plainFor (aq_y m_at) = true := by decide +kernel
theorem ok_m_at : aq_okM m_at = true := by decide +kernel
theorem pl_m_amongHolders : plainFor (aq_y m_amongHolders) = true := by decide +kernel
theorem ok_m_amongHolders : aq_okM m_amongHolders = true := by decide +kernel
theorem pl_m_waitsFor : plainFor (aq_y m_waitsFor) = true := by decide +kernel
theorem ok_m_waitsFor : aq_okM m_waitsFor = true := by decide +kernel
theorem ok_r_init : aq_okM r_init = true := by decide +kernel
theorem pl_r_thrown : plainFor (aq_y r_thrown) = true := by decide +kernel
theorem ok_r_thrown : aq_okM r_thrown = true := by decide +kernel
theorem pl_r_begin : plainFor (aq_y r_begin) = true := by decide +kernel
theorem ok_r_begin : aq_okM r_begin = true := by decide +kernel
theorem pl_r_lock : plainFor (aq_y r_lock) = true := by decide +kernel
theorem ok_r_lock : aq_okM r_lock = true := by decide +kernel
theorem pl_r_isTransaction : plainFor (aq_y r_isTransaction) = true := by decide +kernel
theorem ok_r_isTransaction : aq_okM r_isTransaction = true := by decide +kernel
theorem pl_r_isObject : plainFor (aq_y r_isObject) = true := by decide +kernel
theorem ok_r_isObject : aq_okM r_isObject = true := by decide +kernel
theorem pl_r_modeOf : plainFor (aq_y r_modeOf) = true := by decide +kernel
theorem ok_r_modeOf : aq_okM r_modeOf = true := by decide +kernel
theorem pl_r_isWriting : plainFor (aq_y r_isWriting) = true := by decide +kernel
theorem ok_r_isWriting : aq_okM r_isWriting = true := by decide +kernel
theorem pl_r_leastAbove : plainFor (aq_y r_leastAbove) = true := by decide +kernel
theorem ok_r_leastAbove : aq_okM r_leastAbove = true := by decide +kernel
theorem pl_r_enqueue : plainFor (aq_y r_enqueue) = true := by decide +kernel
theorem ok_r_enqueue : aq_okM r_enqueue = true := by decide +kernel
theorem pl_r_serve : plainFor (aq_y r_serve) = true := by decide +kernel
theorem ok_r_serve : aq_okM r_serve = true := by decide +kernel
theorem pl_r_fits : plainFor (aq_y r_fits) = true := by decide +kernel
theorem ok_r_fits : aq_okM r_fits = true := by decide +kernel
theorem pl_r_together : plainFor (aq_y r_together) = true := by decide +kernel
theorem ok_r_together : aq_okM r_together = true := by decide +kernel
theorem pl_r_dequeue : plainFor (aq_y r_dequeue) = true := by decide +kernel
theorem ok_r_dequeue : aq_okM r_dequeue = true := by decide +kernel
theorem pl_r_victimOf : plainFor (aq_y r_victimOf) = true := by decide +kernel
theorem ok_r_victimOf : aq_okM r_victimOf = true := by decide +kernel
theorem pl_r_reach : plainFor (aq_y r_reach) = true := by decide +kernel
theorem ok_r_reach : aq_okM r_reach = true := by decide +kernel
theorem pl_r_waitBits : plainFor (aq_y r_waitBits) = true := by decide +kernel
theorem ok_r_waitBits : aq_okM r_waitBits = true := by decide +kernel
theorem pl_r_endIt : plainFor (aq_y r_endIt) = true := by decide +kernel
theorem ok_r_endIt : aq_okM r_endIt = true := by decide +kernel
theorem pl_r_commit : plainFor (aq_y r_commit) = true := by decide +kernel
theorem ok_r_commit : aq_okM r_commit = true := by decide +kernel
theorem pl_r_abort : plainFor (aq_y r_abort) = true := by decide +kernel
theorem ok_r_abort : aq_okM r_abort = true := by decide +kernel
theorem pl_r_escalate : plainFor (aq_y r_escalate) = true := by decide +kernel
theorem ok_r_escalate : aq_okM r_escalate = true := by decide +kernel
theorem pl_r_isBelow : plainFor (aq_y r_isBelow) = true := by decide +kernel
theorem ok_r_isBelow : aq_okM r_isBelow = true := by decide +kernel
theorem pl_r_mode : plainFor (aq_y r_mode) = true := by decide +kernel
theorem ok_r_mode : aq_okM r_mode = true := by decide +kernel
theorem pl_r_told : plainFor (aq_y r_told) = true := by decide +kernel
theorem ok_r_told : aq_okM r_told = true := by decide +kernel
theorem pl_r_many : plainFor (aq_y r_many) = true := by decide +kernel
theorem ok_r_many : aq_okM r_many = true := by decide +kernel
theorem pl_r_at : plainFor (aq_y r_at) = true := by decide +kernel
theorem ok_r_at : aq_okM r_at = true := by decide +kernel
theorem pl_r_waitsFor : plainFor (aq_y r_waitsFor) = true := by decide +kernel
theorem ok_r_waitsFor : aq_okM r_waitsFor = true := by decide +kernel
theorem pl_r_count : plainFor (aq_y r_count) = true := by decide +kernel
theorem ok_r_count : aq_okM r_count = true := by decide +kernel
theorem pl_r_astray : plainFor (aq_y r_astray) = true := by decide +kernel
theorem ok_r_astray : aq_okM r_astray = true := by decide +kernel
end
section
/-! the words of each call, by program -/
theorem c0_m_inState : aq_cv "LockDesk" 152 m_inState 1 = true := by decide +kernel
theorem c0_m_holdersClash : aq_cv "LockDesk" 155 m_holdersClash 1 = true := by decide +kernel
theorem c0_m_firstToGrant : aq_cv "LockDesk" 159 m_firstToGrant 1 = true := by decide +kernel
theorem c0_j_numberOfTrailingZeros : aq_cs "LockDesk" 190 j_numberOfTrailingZeros 1 = true := by decide +kernel
theorem c0_m_othersInTheWay : aq_cv "LockDesk" 110 m_othersInTheWay 3 = true := by decide +kernel
theorem c2_i_numberOfTrailingZeros : aq_cs "java/lang/Long" 311 i_numberOfTrailingZeros 1 = true := by decide +kernel
theorem c0_m_goTogether : aq_cs "LockDesk" 187 m_goTogether 2 = true := by decide +kernel
theorem c0_m_bit : aq_cs "LockDesk" 182 m_bit 1 = true := by decide +kernel
theorem c0_m_inQueue : aq_cv "LockDesk" 138 m_inQueue 2 = true := by decide +kernel
theorem c0_m_checkTransaction : aq_cv "LockDesk" 60 m_checkTransaction 1 = true := by decide +kernel
theorem c0_m_checkObject : aq_cs "LockDesk" 64 m_checkObject 1 = true := by decide +kernel
theorem c0_m_checkActive : aq_cv "LockDesk" 69 m_checkActive 1 = true := by decide +kernel
theorem c0_m_mayAsk : aq_cv "LockDesk" 72 m_mayAsk 3 = true := by decide +kernel
theorem c0_m_heldMode : aq_cv "LockDesk" 78 m_heldMode 2 = true := by decide +kernel
theorem c0_m_leastAbove : aq_cs "LockDesk" 82 m_leastAbove 2 = true := by decide +kernel
theorem c0_m_joinQueue : aq_cv "LockDesk" 85 m_joinQueue 3 = true := by decide +kernel
theorem c0_m_serve : aq_cv "LockDesk" 89 m_serve 1 = true := by decide +kernel
theorem c0_m_breakCircles : aq_cv "LockDesk" 93 m_breakCircles 1 = true := by decide +kernel
theorem c0_m_answerFor : aq_cv "LockDesk" 96 m_answerFor 1 = true := by decide +kernel
theorem c0_m_above : aq_cs "LockDesk" 168 m_above 1 = true := by decide +kernel
theorem c0_m_isWriting : aq_cs "LockDesk" 171 m_isWriting 1 = true := by decide +kernel
theorem c0_j_floorDiv : aq_cs "LockDesk" 174 j_floorDiv 2 = true := by decide +kernel
theorem c0_j_max : aq_cs "LockDesk" 179 j_max 2 = true := by decide +kernel
theorem c0_m_placeOfNewcomers : aq_cv "LockDesk" 199 m_placeOfNewcomers 1 = true := by decide +kernel
theorem c0_m_grant : aq_cv "LockDesk" 202 m_grant 1 = true := by decide +kernel
theorem c0_m_hold : aq_cv "LockDesk" 114 m_hold 3 = true := by decide +kernel
theorem c0_m_leaveQueue : aq_cv "LockDesk" 205 m_leaveQueue 1 = true := by decide +kernel
theorem c0_m_circleOf : aq_cv "LockDesk" 212 m_circleOf 1 = true := by decide +kernel
theorem c0_m_weakestOf : aq_cv "LockDesk" 215 m_weakestOf 1 = true := by decide +kernel
theorem c0_m_end : aq_cv "LockDesk" 99 m_end 2 = true := by decide +kernel
theorem c0_m_waitRow : aq_cv "LockDesk" 149 m_waitRow 1 = true := by decide +kernel
theorem c0_m_reachedFrom : aq_cv "LockDesk" 218 m_reachedFrom 1 = true := by decide +kernel
theorem c0_m_reaching : aq_cv "LockDesk" 221 m_reaching 1 = true := by decide +kernel
theorem c0_m_standingBefore : aq_cv "LockDesk" 208 m_standingBefore 2 = true := by decide +kernel
theorem c0_m_letGo : aq_cv "LockDesk" 196 m_letGo 2 = true := by decide +kernel
theorem c0_m_writesBelow : aq_cv "LockDesk" 106 m_writesBelow 2 = true := by decide +kernel
theorem c0_m_dropBelow : aq_cv "LockDesk" 117 m_dropBelow 2 = true := by decide +kernel
theorem c0_m_isBelow : aq_cs "LockDesk" 193 m_isBelow 2 = true := by decide +kernel
theorem c0_m_heldObjects : aq_cv "LockDesk" 120 m_heldObjects 1 = true := by decide +kernel
theorem c0_m_queueLength : aq_cv "LockDesk" 125 m_queueLength 1 = true := by decide +kernel
theorem c0_m_allHolders : aq_cv "LockDesk" 128 m_allHolders 1 = true := by decide +kernel
theorem c0_j_bitCount : aq_cs "LockDesk" 132 j_bitCount 1 = true := by decide +kernel
theorem c0_m_amongHolders : aq_cv "LockDesk" 141 m_amongHolders 2 = true := by decide +kernel
theorem c1_r_isTransaction : aq_cv "LockDeskModel" 72 r_isTransaction 1 = true := by decide +kernel
theorem c1_r_isObject : aq_cs "LockDeskModel" 76 r_isObject 1 = true := by decide +kernel
theorem c1_r_modeOf : aq_cv "LockDeskModel" 42 r_modeOf 2 = true := by decide +kernel
theorem c1_r_isWriting : aq_cs "LockDeskModel" 79 r_isWriting 1 = true := by decide +kernel
theorem c1_r_leastAbove : aq_cs "LockDeskModel" 82 r_leastAbove 2 = true := by decide +kernel
theorem c1_r_enqueue : aq_cv "LockDeskModel" 85 r_enqueue 2 = true := by decide +kernel
theorem c1_r_serve : aq_cv "LockDeskModel" 65 r_serve 1 = true := by decide +kernel
theorem c1_r_victimOf : aq_cv "LockDeskModel" 91 r_victimOf 1 = true := by decide +kernel
theorem c1_r_endIt : aq_cv "LockDeskModel" 97 r_endIt 2 = true := by decide +kernel
theorem c1_r_fits : aq_cv "LockDeskModel" 50 r_fits 3 = true := by decide +kernel
theorem c1_r_dequeue : aq_cv "LockDeskModel" 54 r_dequeue 2 = true := by decide +kernel
theorem c1_r_together : aq_cs "LockDeskModel" 46 r_together 2 = true := by decide +kernel
theorem c1_r_reach : aq_cv "LockDeskModel" 62 r_reach 1 = true := by decide +kernel
theorem c1_r_waitBits : aq_cv "LockDeskModel" 58 r_waitBits 1 = true := by decide +kernel
theorem c1_r_isBelow : aq_cs "LockDeskModel" 100 r_isBelow 2 = true := by decide +kernel
end
section
/-! a run, in one row; ends with an equation -/
theorem aq_go {mi : aq_M} {d : Nat} {O : aq_O} {w' : List va_E} {n : Nat} {c0 c1 : aq_C} {P : Prop} (hok : aq_okM mi = true) (h : aq_run mi n c0 = some (c1, some P)) (hp : P) (k : AW mi d O w' c1) : AW mi d O w' c0 := aq_run_sound hok aq_cls n h hp k
theorem aq_gn {mi : aq_M} {d : Nat} {O : aq_O} {w' : List va_E} {n : Nat} {c0 c1 : aq_C} (hok : aq_okM mi = true) (h : aq_run mi n c0 = some (c1, none)) (k : AW mi d O w' c1) : AW mi d O w' c0 := aq_run_sound hok aq_cls n h trivial k
section AQE
variable {mi : aq_M} {d : Nat} {w w' : List va_E} {pc nx tg len : Nat} {kc : Int32} {al : List (Option Value)}
theorem aq_ei {x v : Int32} (hok : aq_okM mi = true) (hat : aq_at (aq_t mi) pc = some (.ireturn, len, nx, kc, tg)) (hr : aq_r mi = some .int) (hv : v = x) (hw : w' = w) : AW mi d (.inl (some (.int v))) w' (pc, al, [.int x], w) := by
  subst hv; subst hw
  exact aq_iret hok hat hr
theorem aq_el {x v : Int64} (hok : aq_okM mi = true) (hat : aq_at (aq_t mi) pc = some (.lreturn, len, nx, kc, tg)) (hr : aq_r mi = some .long) (hv : v = x) (hw : w' = w) : AW mi d (.inl (some (.long v))) w' (pc, al, [.long x], w) := by
  subst hv; subst hw
  exact aq_lret hok hat hr
theorem aq_ev (hok : aq_okM mi = true) (hat : aq_at (aq_t mi) pc = some (.return_, len, nx, kc, tg)) (hr : aq_r mi = none) (hw : w' = w) : AW mi d (.inl none) w' (pc, al, [], w) := by
  subst hw
  exact aq_vret hok hat hr
/-- a boolean as the machine has it -/
def bI (b : Bool) : Int32 := if b then 1 else 0
theorem bI_n (b : Bool) : narrow .boolean (.int (bI b)) = .int (bI b) := by cases b <;> rfl
theorem bI_0 (b : Bool) : bI b = 0 ↔ b = false := by cases b <;> simp [bI]
theorem aq_ez {x : Int32} {b : Bool} (hok : aq_okM mi = true) (hat : aq_at (aq_t mi) pc = some (.ireturn, len, nx, kc, tg)) (hr : aq_r mi = some .boolean) (hv : bI b = x) (hw : w' = w) : AW mi d (.inl (some (.int (bI b)))) w' (pc, al, [.int x], w) := by
  subst hv; subst hw
  exact aq_zret hok hat hr (bI_n b)
end AQE
theorem am_bit {d : Nat} {w : List va_E} (t : Nat) : AM m_bit d (.inl (some (.long (lbit t)))) [.int (nI t)] w w := by
  refine aq_enter pl_m_bit (Nat.le_of_ble_eq_true rfl) ?_
  refine aq_gn (n := 3) (c1 := (3, [some (.int (nI t))], [.long (lbit t)], w)) ok_m_bit rfl ?_
  exact aq_lret ok_m_bit rfl rfl
end
section
/-! THE CLASS'S WORLD AND SMALL FACTS -/
def oI (x : Option Nat) : Int32 := match x with
  | none => -1
  | some n => nI n
/-- the object and its seven arrays, as they are, and by numbers -/
def wR (sa pa aa xa : Nat → Int32) (ha : Nat → Int64) (la : Nat → Int32) (wr : Nat → Int64) (n k c5 c6 c7 : Int32) : List va_E :=
  [.inr (0, [.ref 1, .ref 2, .ref 3, .ref 4, .int n, .ref 5, .ref 6, .int k, .ref 7, .int c5, .int c6, .int c7]),
   .inl (0, 60, .inl sa), .inl (0, 60, .inl pa), .inl (0, 60, .inl aa), .inl (0, 60, .inl xa), .inl (1, 425, .inr (.inl ha)), .inl (0, 60, .inl la), .inl (1, 60, .inr (.inl wr))]
def wL (st pr : Nat → Nat) (aw wa : Nat → Option Nat) (ha : Nat → Int64) (la : Nat → Nat) (wr : Nat → Int64) (n k c5 c6 c7 : Nat) : List va_E :=
  wR (fun i => nI (st i)) (fun i => nI (pr i)) (fun i => oI (aw i)) (fun i => oI (wa i)) ha (fun i => nI (la i)) wr (nI n) (nI k) (nI c5) (nI c6) (nI c7)
theorem upd_n (f : Nat → Nat) (t x : Nat) : upd (fun i => nI (f i)) t (nI x) = fun i => nI (va_up f t x i) := by
  funext i
  unfold upd va_up
  split <;> rfl
theorem upd_o (f : Nat → Option Nat) (t x : Nat) : upd (fun i => oI (f i)) t (nI x) = fun i => oI (va_up f t (some x) i) := by
  funext i
  unfold upd va_up
  split <;> rfl
theorem upd_m (f : Nat → Option Nat) (t : Nat) : upd (fun i => oI (f i)) t (-1) = fun i => oI (va_up f t none i) := by
  funext i
  unfold upd va_up
  split <;> rfl
theorem q_le {a b : Nat} (h : nI a ≤ nI b) (ha : a < 2 ^ 31) (hb : b < 2 ^ 31) : a ≤ b := (nI_leI ha hb).mp h
theorem q_nle {a b : Nat} (h : ¬ nI a ≤ nI b) (ha : a < 2 ^ 31) (hb : b < 2 ^ 31) : b < a := Nat.not_le.mp (fun q => h ((nI_leI ha hb).mpr q))
theorem q_lt {a b : Nat} (h : nI a < nI b) (ha : a < 2 ^ 31) (hb : b < 2 ^ 31) : a < b := (nI_ltI ha hb).mp h
theorem q_nlt {a b : Nat} (h : ¬ nI a < nI b) (ha : a < 2 ^ 31) (hb : b < 2 ^ 31) : b ≤ a := Nat.not_lt.mp (fun q => h ((nI_ltI ha hb).mpr q))
theorem q_eq {a b : Nat} (h : nI a = nI b) (ha : a < 2 ^ 31) (hb : b < 2 ^ 31) : a = b := (nI_eq ha hb).mp h
theorem q_ne {a b : Nat} (h : ¬ nI a = nI b) : ¬ a = b := fun q => h (by rw [q])
theorem oI_m1 {x : Option Nat} (h : oI x = -1) (hb : ∀ n, x = some n → n < 2 ^ 31) : x = none := by
  cases x with
  | none => rfl
  | some n =>
    have h1 : nI n = -1 := h
    have h2 := congrArg Int32.toInt h1
    rw [nI_toInt (hb n rfl)] at h2
    have h3 : (-1 : Int32).toInt = -1 := by decide
    rw [h3] at h2
    omega
theorem oI_nm1 {x : Option Nat} (h : ¬ oI x = -1) : ∃ n, x = some n := by
  cases x with
  | none => exact absurd rfl h
  | some n => exact ⟨n, rfl⟩
theorem oI_eq {x : Option Nat} {o : Nat} (h : oI x = nI o) (ho : o < 2 ^ 31) (hb : ∀ n, x = some n → n < 2 ^ 31) : x = some o := by
  cases x with
  | none =>
    have h1 : -1 = nI o := h
    have h2 := congrArg Int32.toInt h1
    rw [nI_toInt ho] at h2
    have h3 : (-1 : Int32).toInt = -1 := by decide
    rw [h3] at h2
    omega
  | some n => rw [q_eq h (hb n rfl) ho]
theorem oI_ne {x : Option Nat} {o : Nat} (h : ¬ oI x = nI o) : ¬ x = some o := fun q => h (by rw [q]; rfl)
theorem ix5 (o m : Nat) : nI o * nI 5 + nI m = nI (o * 5 + m) := by rw [pk_mul, nI_add]
theorem in5 {o m : Nat} (ho : o < 85) (hm : m < 5) : vp_in (nI o * nI 5 + nI m) 425 := by
  rw [ix5]; exact vp_in_nI (by omega) (by omega)
theorem cl5 {o m : Nat} (ho : o < 85) (hm : m < 5) : (nI o * nI 5 + nI m).toNatClampNeg = o * 5 + m := by
  rw [ix5]; exact nI_clamp (by omega)
theorem in60 {t : Nat} (ht : t < 60) : vp_in (nI t) 60 := vp_in_nI ht (by omega)
theorem cl60 {t : Nat} (ht : t < 60) : (nI t).toNatClampNeg = t := nI_clamp (by omega)
/-! modes, as the machine has them -/
def gTI (x y : Int32) : Bool := if x = 4 ∨ y = 4 then false else if x = 0 ∨ y = 0 then true else decide (x = y) && !decide (x = 3)
def mxI (x y : Int32) : Int32 := if x < y then y else x
def laI (x y : Int32) : Int32 := if (x = 1 ∧ y = 2) ∨ (x = 2 ∧ y = 1) then 3 else mxI x y
def wrI (x : Int32) : Bool := decide (x = 1) || (decide (x = 3) || decide (x = 4))
/-- the mode in which t holds o: the first with its bit -/
def hmF (ha : Nat → Int64) (t o : Nat) : Nat → Nat → Option Nat
  | 0, _ => none
  | f + 1, m => if lb (ha (o * 5 + m)) t then some m else hmF ha t o f (m + 1)
def hm (ha : Nat → Int64) (t o : Nat) : Option Nat := hmF ha t o 5 0
theorem hmF_lt {ha : Nat → Int64} {t o : Nat} : ∀ {f m x : Nat}, hmF ha t o f m = some x → m ≤ x ∧ x < m + f := by
  intro f
  induction f with
  | zero => intro m x h; cases h
  | succ f ih =>
    intro m x h
    unfold hmF at h
    split at h
    · cases h; omega
    · have := ih h; omega
theorem hm_lt {ha : Nat → Int64} {t o x : Nat} (h : hm ha t o = some x) : x < 5 := by have := hmF_lt h; omega
end
section
/-! THE CLASS: modes, who holds what -/
set_option maxHeartbeats 4000000 in
theorem am_max {d : Nat} {w : List va_E} (x y : Int32) : AM j_max d (.inl (some (.int (mxI x y)))) [.int x, .int y] w w := by
  refine aq_enter pl_j_max (Nat.le_of_ble_eq_true rfl) ?_
  refine aq_gn (n := 2) (c1 := (2, [some (.int x), some (.int y)], [.int y, .int x], w)) ok_j_max rfl ?_
  refine aq_icmp_lt ok_j_max rfl (fun h0 => ?_) (fun h0 => ?_)
  · refine aq_gn (n := 1) (c1 := (10, [some (.int x), some (.int y)], [.int y], w)) ok_j_max rfl ?_
    exact aq_ei ok_j_max rfl rfl (by unfold mxI; first | rw [if_pos h0] | rw [if_neg h0]) rfl
  · refine aq_gn (n := 2) (c1 := (10, [some (.int x), some (.int y)], [.int x], w)) ok_j_max rfl ?_
    exact aq_ei ok_j_max rfl rfl (by unfold mxI; first | rw [if_pos h0] | rw [if_neg h0]) rfl
set_option maxHeartbeats 4000000 in
theorem am_goTogether {d : Nat} {w : List va_E} (x y : Int32) : AM m_goTogether d (.inl (some (.int (bI (gTI x y))))) [.int x, .int y] w w := by
  refine aq_enter pl_m_goTogether (Nat.le_of_ble_eq_true rfl) ?_
  refine aq_gn (n := 2) (c1 := (2, [some (.int x), some (.int y)], [.int 4, .int x], w)) ok_m_goTogether rfl ?_
  refine aq_icmp_eq ok_m_goTogether rfl (fun h0 => ?_) (fun h0 => ?_)
  · refine aq_gn (n := 1) (c1 := (11, [some (.int x), some (.int y)], [.int 0], w)) ok_m_goTogether rfl ?_
    exact aq_ez ok_m_goTogether rfl rfl (by simp_all [gTI, bI]) rfl
  · refine aq_gn (n := 2) (c1 := (7, [some (.int x), some (.int y)], [.int 4, .int y], w)) ok_m_goTogether rfl ?_
    refine aq_icmp_ne ok_m_goTogether rfl (fun h1 => ?_) (fun h1 => ?_)
    · refine aq_gn (n := 1) (c1 := (13, [some (.int x), some (.int y)], [.int x], w)) ok_m_goTogether rfl ?_
      refine aq_if_eq ok_m_goTogether rfl (fun h2 => ?_) (fun h2 => ?_)
      · refine aq_gn (n := 1) (c1 := (21, [some (.int x), some (.int y)], [.int 1], w)) ok_m_goTogether rfl ?_
        exact aq_ez ok_m_goTogether rfl rfl (by simp_all [gTI, bI]) rfl
      · refine aq_gn (n := 1) (c1 := (17, [some (.int x), some (.int y)], [.int y], w)) ok_m_goTogether rfl ?_
        refine aq_if_ne ok_m_goTogether rfl (fun h3 => ?_) (fun h3 => ?_)
        · refine aq_gn (n := 2) (c1 := (24, [some (.int x), some (.int y)], [.int y, .int x], w)) ok_m_goTogether rfl ?_
          refine aq_icmp_ne ok_m_goTogether rfl (fun h4 => ?_) (fun h4 => ?_)
          · refine aq_gn (n := 1) (c1 := (37, [some (.int x), some (.int y)], [.int 0], w)) ok_m_goTogether rfl ?_
            exact aq_ez ok_m_goTogether rfl rfl (by simp_all [gTI, bI]) rfl
          · refine aq_gn (n := 2) (c1 := (29, [some (.int x), some (.int y)], [.int 3, .int x], w)) ok_m_goTogether rfl ?_
            refine aq_icmp_eq ok_m_goTogether rfl (fun h5 => ?_) (fun h5 => ?_)
            · refine aq_gn (n := 1) (c1 := (37, [some (.int x), some (.int y)], [.int 0], w)) ok_m_goTogether rfl ?_
              exact aq_ez ok_m_goTogether rfl rfl (by simp_all [gTI, bI]) rfl
            · refine aq_gn (n := 2) (c1 := (37, [some (.int x), some (.int y)], [.int 1], w)) ok_m_goTogether rfl ?_
              exact aq_ez ok_m_goTogether rfl rfl (by simp_all [gTI, bI]) rfl
        · refine aq_gn (n := 1) (c1 := (21, [some (.int x), some (.int y)], [.int 1], w)) ok_m_goTogether rfl ?_
          exact aq_ez ok_m_goTogether rfl rfl (by simp_all [gTI, bI]) rfl
    · refine aq_gn (n := 1) (c1 := (11, [some (.int x), some (.int y)], [.int 0], w)) ok_m_goTogether rfl ?_
      exact aq_ez ok_m_goTogether rfl rfl (by simp_all [gTI, bI]) rfl
set_option maxHeartbeats 4000000 in
theorem am_isWriting {d : Nat} {w : List va_E} (x : Int32) : AM m_isWriting d (.inl (some (.int (bI (wrI x))))) [.int x] w w := by
  refine aq_enter pl_m_isWriting (Nat.le_of_ble_eq_true rfl) ?_
  refine aq_gn (n := 2) (c1 := (2, [some (.int x)], [.int 1, .int x], w)) ok_m_isWriting rfl ?_
  refine aq_icmp_eq ok_m_isWriting rfl (fun h0 => ?_) (fun h0 => ?_)
  · refine aq_gn (n := 2) (c1 := (20, [some (.int x)], [.int 1], w)) ok_m_isWriting rfl ?_
    exact aq_ez ok_m_isWriting rfl rfl (by simp_all [wrI, bI]) rfl
  · refine aq_gn (n := 2) (c1 := (7, [some (.int x)], [.int 3, .int x], w)) ok_m_isWriting rfl ?_
    refine aq_icmp_eq ok_m_isWriting rfl (fun h1 => ?_) (fun h1 => ?_)
    · refine aq_gn (n := 2) (c1 := (20, [some (.int x)], [.int 1], w)) ok_m_isWriting rfl ?_
      exact aq_ez ok_m_isWriting rfl rfl (by simp_all [wrI, bI]) rfl
    · refine aq_gn (n := 2) (c1 := (12, [some (.int x)], [.int 4, .int x], w)) ok_m_isWriting rfl ?_
      refine aq_icmp_ne ok_m_isWriting rfl (fun h2 => ?_) (fun h2 => ?_)
      · refine aq_gn (n := 1) (c1 := (20, [some (.int x)], [.int 0], w)) ok_m_isWriting rfl ?_
        exact aq_ez ok_m_isWriting rfl rfl (by simp_all [wrI, bI]) rfl
      · refine aq_gn (n := 2) (c1 := (20, [some (.int x)], [.int 1], w)) ok_m_isWriting rfl ?_
        exact aq_ez ok_m_isWriting rfl rfl (by simp_all [wrI, bI]) rfl
set_option maxHeartbeats 4000000 in
theorem am_leastAbove {d : Nat} {w : List va_E} (x y : Int32) : AM m_leastAbove (d + 1) (.inl (some (.int (laI x y)))) [.int x, .int y] w w := by
  refine aq_enter pl_m_leastAbove (Nat.le_of_ble_eq_true rfl) ?_
  refine aq_gn (n := 2) (c1 := (2, [some (.int x), some (.int y), none], [.int 1, .int x], w)) ok_m_leastAbove rfl ?_
  refine aq_icmp_ne ok_m_leastAbove rfl (fun h0 => ?_) (fun h0 => ?_)
  · refine aq_gn (n := 2) (c1 := (12, [some (.int x), some (.int y), none], [.int 2, .int x], w)) ok_m_leastAbove rfl ?_
    refine aq_icmp_ne ok_m_leastAbove rfl (fun h1 => ?_) (fun h1 => ?_)
    · refine aq_gn (n := 3) (c1 := (27, [some (.int x), some (.int y), some (.int 0)], [.int 0], w)) ok_m_leastAbove rfl ?_
      refine aq_if_eq ok_m_leastAbove rfl (fun h2 => ?_) (fun h2 => ?_)
      · refine aq_gn (n := 2) (c1 := (36, [some (.int x), some (.int y), some (.int 0)], [.int y, .int x], w)) ok_m_leastAbove rfl ?_
        refine aq_callS (as := [.int x, .int y]) (st := []) ok_m_leastAbove rfl c0_j_max (am_max x y) rfl (Nat.le_of_ble_eq_true rfl) ?_
        exact aq_ei ok_m_leastAbove rfl rfl (by simp_all [laI]) rfl
      · refine aq_gn (n := 2) (c1 := (39, [some (.int x), some (.int y), some (.int 0)], [.int 3], w)) ok_m_leastAbove rfl ?_
        exact aq_ei ok_m_leastAbove rfl rfl (by simp_all [laI]) rfl
    · refine aq_gn (n := 2) (c1 := (17, [some (.int x), some (.int y), none], [.int 1, .int y], w)) ok_m_leastAbove rfl ?_
      refine aq_icmp_ne ok_m_leastAbove rfl (fun h2 => ?_) (fun h2 => ?_)
      · refine aq_gn (n := 3) (c1 := (27, [some (.int x), some (.int y), some (.int 0)], [.int 0], w)) ok_m_leastAbove rfl ?_
        refine aq_if_eq ok_m_leastAbove rfl (fun h3 => ?_) (fun h3 => ?_)
        · refine aq_gn (n := 2) (c1 := (36, [some (.int x), some (.int y), some (.int 0)], [.int y, .int x], w)) ok_m_leastAbove rfl ?_
          refine aq_callS (as := [.int x, .int y]) (st := []) ok_m_leastAbove rfl c0_j_max (am_max x y) rfl (Nat.le_of_ble_eq_true rfl) ?_
          exact aq_ei ok_m_leastAbove rfl rfl (by simp_all [laI]) rfl
        · refine aq_gn (n := 2) (c1 := (39, [some (.int x), some (.int y), some (.int 0)], [.int 3], w)) ok_m_leastAbove rfl ?_
          exact aq_ei ok_m_leastAbove rfl rfl (by simp_all [laI]) rfl
      · refine aq_gn (n := 4) (c1 := (27, [some (.int x), some (.int y), some (.int 1)], [.int 1], w)) ok_m_leastAbove rfl ?_
        refine aq_if_eq ok_m_leastAbove rfl (fun h3 => ?_) (fun h3 => ?_)
        · refine aq_gn (n := 2) (c1 := (36, [some (.int x), some (.int y), some (.int 1)], [.int y, .int x], w)) ok_m_leastAbove rfl ?_
          refine aq_callS (as := [.int x, .int y]) (st := []) ok_m_leastAbove rfl c0_j_max (am_max x y) rfl (Nat.le_of_ble_eq_true rfl) ?_
          exact aq_ei ok_m_leastAbove rfl rfl (by simp_all [laI]) rfl
        · refine aq_gn (n := 2) (c1 := (39, [some (.int x), some (.int y), some (.int 1)], [.int 3], w)) ok_m_leastAbove rfl ?_
          exact aq_ei ok_m_leastAbove rfl rfl (by simp_all [laI]) rfl
  · refine aq_gn (n := 2) (c1 := (7, [some (.int x), some (.int y), none], [.int 2, .int y], w)) ok_m_leastAbove rfl ?_
    refine aq_icmp_eq ok_m_leastAbove rfl (fun h1 => ?_) (fun h1 => ?_)
    · refine aq_gn (n := 4) (c1 := (27, [some (.int x), some (.int y), some (.int 1)], [.int 1], w)) ok_m_leastAbove rfl ?_
      refine aq_if_eq ok_m_leastAbove rfl (fun h2 => ?_) (fun h2 => ?_)
      · refine aq_gn (n := 2) (c1 := (36, [some (.int x), some (.int y), some (.int 1)], [.int y, .int x], w)) ok_m_leastAbove rfl ?_
        refine aq_callS (as := [.int x, .int y]) (st := []) ok_m_leastAbove rfl c0_j_max (am_max x y) rfl (Nat.le_of_ble_eq_true rfl) ?_
        exact aq_ei ok_m_leastAbove rfl rfl (by simp_all [laI]) rfl
      · refine aq_gn (n := 2) (c1 := (39, [some (.int x), some (.int y), some (.int 1)], [.int 3], w)) ok_m_leastAbove rfl ?_
        exact aq_ei ok_m_leastAbove rfl rfl (by simp_all [laI]) rfl
    · refine aq_gn (n := 2) (c1 := (12, [some (.int x), some (.int y), none], [.int 2, .int x], w)) ok_m_leastAbove rfl ?_
      refine aq_icmp_ne ok_m_leastAbove rfl (fun h2 => ?_) (fun h2 => ?_)
      · refine aq_gn (n := 3) (c1 := (27, [some (.int x), some (.int y), some (.int 0)], [.int 0], w)) ok_m_leastAbove rfl ?_
        refine aq_if_eq ok_m_leastAbove rfl (fun h3 => ?_) (fun h3 => ?_)
        · refine aq_gn (n := 2) (c1 := (36, [some (.int x), some (.int y), some (.int 0)], [.int y, .int x], w)) ok_m_leastAbove rfl ?_
          refine aq_callS (as := [.int x, .int y]) (st := []) ok_m_leastAbove rfl c0_j_max (am_max x y) rfl (Nat.le_of_ble_eq_true rfl) ?_
          exact aq_ei ok_m_leastAbove rfl rfl (by simp_all [laI]) rfl
        · refine aq_gn (n := 2) (c1 := (39, [some (.int x), some (.int y), some (.int 0)], [.int 3], w)) ok_m_leastAbove rfl ?_
          exact aq_ei ok_m_leastAbove rfl rfl (by simp_all [laI]) rfl
      · refine aq_gn (n := 2) (c1 := (17, [some (.int x), some (.int y), none], [.int 1, .int y], w)) ok_m_leastAbove rfl ?_
        refine aq_icmp_ne ok_m_leastAbove rfl (fun h3 => ?_) (fun h3 => ?_)
        · refine aq_gn (n := 3) (c1 := (27, [some (.int x), some (.int y), some (.int 0)], [.int 0], w)) ok_m_leastAbove rfl ?_
          refine aq_if_eq ok_m_leastAbove rfl (fun h4 => ?_) (fun h4 => ?_)
          · refine aq_gn (n := 2) (c1 := (36, [some (.int x), some (.int y), some (.int 0)], [.int y, .int x], w)) ok_m_leastAbove rfl ?_
            refine aq_callS (as := [.int x, .int y]) (st := []) ok_m_leastAbove rfl c0_j_max (am_max x y) rfl (Nat.le_of_ble_eq_true rfl) ?_
            exact aq_ei ok_m_leastAbove rfl rfl (by simp_all [laI]) rfl
          · refine aq_gn (n := 2) (c1 := (39, [some (.int x), some (.int y), some (.int 0)], [.int 3], w)) ok_m_leastAbove rfl ?_
            exact aq_ei ok_m_leastAbove rfl rfl (by simp_all [laI]) rfl
        · refine aq_gn (n := 4) (c1 := (27, [some (.int x), some (.int y), some (.int 1)], [.int 1], w)) ok_m_leastAbove rfl ?_
          refine aq_if_eq ok_m_leastAbove rfl (fun h4 => ?_) (fun h4 => ?_)
          · refine aq_gn (n := 2) (c1 := (36, [some (.int x), some (.int y), some (.int 1)], [.int y, .int x], w)) ok_m_leastAbove rfl ?_
            refine aq_callS (as := [.int x, .int y]) (st := []) ok_m_leastAbove rfl c0_j_max (am_max x y) rfl (Nat.le_of_ble_eq_true rfl) ?_
            exact aq_ei ok_m_leastAbove rfl rfl (by simp_all [laI]) rfl
          · refine aq_gn (n := 2) (c1 := (39, [some (.int x), some (.int y), some (.int 1)], [.int 3], w)) ok_m_leastAbove rfl ?_
            exact aq_ei ok_m_leastAbove rfl rfl (by simp_all [laI]) rfl
end
section
/-! THE CLASS: who holds what -/
set_option maxHeartbeats 4000000 in
theorem lp_heldMode {d : Nat} {st pr : Nat → Nat} {aw wa : Nat → Option Nat} {ha : Nat → Int64} {la : Nat → Nat} {wr : Nat → Int64} {n k c5 c6 c7 : Nat} {t o : Nat} (ht : t < 60) (ho : o < 85) : ∀ (f m : Nat), m + f = 5 → AW m_heldMode (d + 1) (.inl (some (.int (oI (hmF ha t o f m))))) (wL st pr aw wa ha la wr n k c5 c6 c7) (2, [some (.ref 0), some (.int (nI t)), some (.int (nI o)), some (.int (nI m))], [], wL st pr aw wa ha la wr n k c5 c6 c7) := by
  intro f
  induction f with
  | zero =>
    intro m hmf
    have e : m = 5 := by omega
    subst e
    refine aq_gn (n := 2) (c1 := (4, [some (.ref 0), some (.int (nI t)), some (.int (nI o)), some (.int (nI 5))], [.int (nI 5), .int (nI 5)], wL st pr aw wa ha la wr n k c5 c6 c7)) ok_m_heldMode rfl ?_
    refine aq_icmp_ge ok_m_heldMode rfl (fun h => ?_) (fun h => ?_)
    · refine aq_gn (n := 1) (c1 := (36, [some (.ref 0), some (.int (nI t)), some (.int (nI o)), some (.int (nI 5))], [.int (-1)], wL st pr aw wa ha la wr n k c5 c6 c7)) ok_m_heldMode rfl ?_
      exact aq_ei ok_m_heldMode rfl rfl rfl rfl
    · exact absurd (nI_le (Nat.le_refl 5) (by omega)) h
  | succ f ih =>
    intro m hmf
    refine aq_gn (n := 2) (c1 := (4, [some (.ref 0), some (.int (nI t)), some (.int (nI o)), some (.int (nI m))], [.int (nI 5), .int (nI m)], wL st pr aw wa ha la wr n k c5 c6 c7)) ok_m_heldMode rfl ?_
    refine aq_icmp_ge ok_m_heldMode rfl (fun h => ?_) (fun h => ?_)
    · exact absurd (q_le h (by omega) (by omega)) (by omega)
    · refine aq_go (n := 9) (c1 := (18, [some (.ref 0), some (.int (nI t)), some (.int (nI o)), some (.int (nI m))], [.int (nI t), .long (ha (((nI o) * (nI 5)) + (nI m)).toNatClampNeg)], wL st pr aw wa ha la wr n k c5 c6 c7)) (P := vp_in (((nI o) * (nI 5)) + (nI m)) 425) ok_m_heldMode rfl (in5 ho (by omega)) ?_
      rw [cl5 ho (show m < 5 by omega)]
      refine aq_callS (as := [.int (nI t)]) (st := [.long (ha (o * 5 + m))]) ok_m_heldMode rfl c0_m_bit (am_bit t) rfl (Nat.le_of_ble_eq_true rfl) ?_
      refine aq_gn (n := 3) (c1 := (24, [some (.ref 0), some (.int (nI t)), some (.int (nI o)), some (.int (nI m))], [.int (lg_cmp ((ha (o * 5 + m)) &&& (lbit t)) 0)], wL st pr aw wa ha la wr n k c5 c6 c7)) ok_m_heldMode rfl ?_
      refine aq_if_eq ok_m_heldMode rfl (fun h2 => ?_) (fun h2 => ?_)
      · have hb : lb (ha (o * 5 + m)) t = false := (lb_bit_and (by omega)).mp ((lg_cmp_0 _ _).mp h2)
        refine aq_gn (n := 2) (c1 := (2, [some (.ref 0), some (.int (nI t)), some (.int (nI o)), some (.int ((nI m) + 1))], [], wL st pr aw wa ha la wr n k c5 c6 c7)) ok_m_heldMode rfl ?_
        rw [nI_1]
        have e : hmF ha t o (f + 1) m = hmF ha t o f (m + 1) := by rw [hmF, hb]; rfl
        rw [e]
        exact ih (m + 1) (by omega)
      · have hb : lb (ha (o * 5 + m)) t = true := by
          cases hx : lb (ha (o * 5 + m)) t with
          | true => rfl
          | false => exact absurd ((lg_cmp_0 _ _).mpr ((lb_bit_and (by omega)).mpr hx)) h2
        refine aq_gn (n := 1) (c1 := (28, [some (.ref 0), some (.int (nI t)), some (.int (nI o)), some (.int (nI m))], [.int (nI m)], wL st pr aw wa ha la wr n k c5 c6 c7)) ok_m_heldMode rfl ?_
        exact aq_ei ok_m_heldMode rfl rfl (by rw [hmF, hb]; rfl) rfl
set_option maxHeartbeats 4000000 in
theorem am_heldMode {d : Nat} {st pr : Nat → Nat} {aw wa : Nat → Option Nat} {ha : Nat → Int64} {la : Nat → Nat} {wr : Nat → Int64} {n k c5 c6 c7 : Nat} {t o : Nat} (ht : t < 60) (ho : o < 85) : AM m_heldMode (d + 1) (.inl (some (.int (oI (hm ha t o))))) [.ref 0, .int (nI t), .int (nI o)] (wL st pr aw wa ha la wr n k c5 c6 c7) (wL st pr aw wa ha la wr n k c5 c6 c7) := by
  refine aq_enter pl_m_heldMode (Nat.le_of_ble_eq_true rfl) ?_
  refine aq_gn (n := 2) (c1 := (2, [some (.ref 0), some (.int (nI t)), some (.int (nI o)), some (.int (nI 0))], [], wL st pr aw wa ha la wr n k c5 c6 c7)) ok_m_heldMode rfl ?_
  exact lp_heldMode ht ho 5 0 rfl
end
section
/-! THE CLASS: holders -/
/-- t's bit is taken out of all five modes of o -/
def clF (t o : Nat) : Nat → Nat → (Nat → Int64) → (Nat → Int64)
  | 0, _, h => h
  | f + 1, i, h => clF t o f (i + 1) (vp_updL h (o * 5 + i) (h (o * 5 + i) &&& (lbit t ^^^ (-1))))
def hd (ha : Nat → Int64) (t o m : Nat) : Nat → Int64 := vp_updL (clF t o 5 0 ha) (o * 5 + m) (clF t o 5 0 ha (o * 5 + m) ||| lbit t)
def lg (ha : Nat → Int64) (t o : Nat) : Nat → Int64 := match hm ha t o with
  | none => ha
  | some m => vp_updL ha (o * 5 + m) (ha (o * 5 + m) &&& (lbit t ^^^ (-1)))
/-- how many of i, i + 1 .. (f of them) are so, beside a -/
def cnt (q : Nat → Bool) : Nat → Nat → Nat → Nat
  | 0, _, a => a
  | f + 1, i, a => cnt q f (i + 1) (if q i then a + 1 else a)
def aoF (ha : Nat → Int64) (o : Nat) : Nat → Nat → Int64 → Int64
  | 0, _, a => a
  | f + 1, m, a => aoF ha o f (m + 1) (a ||| ha (o * 5 + m))
def ao (ha : Nat → Int64) (o : Nat) : Int64 := aoF ha o 5 0 0
def owF (ha : Nat → Int64) (o : Nat) (x : Int32) : Nat → Nat → Int64 → Int64
  | 0, _, a => a
  | f + 1, h, a => owF ha o x f (h + 1) (if gTI (nI h) x then a else a ||| ha (o * 5 + h))
def ow (ha : Nat → Int64) (t o : Nat) (x : Int32) : Int64 := owF ha o x 5 0 0 &&& (lbit t ^^^ (-1))
def ahF (all : Int64) (x : Int32) : Nat → Nat → Nat → Option Nat
  | 0, _, _ => none
  | f + 1, t, q => if lb all t then (if nI q = x then some t else ahF all x f (t + 1) (q + 1)) else ahF all x f (t + 1) q
set_option maxHeartbeats 4000000 in
theorem lp_hold {d : Nat} {st pr : Nat → Nat} {aw wa : Nat → Option Nat} {la : Nat → Nat} {wr : Nat → Int64} {n k c5 c6 c7 : Nat} {t o m : Nat} (ho : o < 85) (hm : m < 5) : ∀ (f i : Nat), i + f = 5 → ∀ (hh : Nat → Int64), AW m_hold (d + 1) (.inl none) (wL st pr aw wa (vp_updL (clF t o f i hh) (o * 5 + m) (clF t o f i hh (o * 5 + m) ||| lbit t)) la wr n k c5 c6 c7) (3, [some (.ref 0), some (.int (nI t)), some (.int (nI o)), some (.int (nI m)), some (.int (nI i))], [], wL st pr aw wa hh la wr n k c5 c6 c7) := by
  intro f
  induction f with
  | zero =>
    intro i hif hh
    refine aq_gn (n := 2) (c1 := (6, [some (.ref 0), some (.int (nI t)), some (.int (nI o)), some (.int (nI m)), some (.int (nI i))], [.int (nI 5), .int (nI i)], wL st pr aw wa hh la wr n k c5 c6 c7)) ok_m_hold rfl ?_
    refine aq_icmp_ge ok_m_hold rfl (fun h => ?_) (fun h => ?_)
    · refine aq_go (n := 10) (c1 := (49, [some (.ref 0), some (.int (nI t)), some (.int (nI o)), some (.int (nI m)), some (.int (nI i))], [.int (nI t), .long (hh (((nI o) * (nI 5)) + (nI m)).toNatClampNeg), .int (((nI o) * (nI 5)) + (nI m)), .ref 5], wL st pr aw wa hh la wr n k c5 c6 c7)) (P := vp_in (((nI o) * (nI 5)) + (nI m)) 425) ok_m_hold rfl (in5 ho hm) ?_
      rw [cl5 ho hm]
      refine aq_callS (as := [.int (nI t)]) (st := [.long (hh (o * 5 + m)), .int (((nI o) * (nI 5)) + (nI m)), .ref 5]) ok_m_hold rfl c0_m_bit (am_bit t) rfl (Nat.le_of_ble_eq_true rfl) ?_
      refine aq_go (n := 2) (c1 := (54, [some (.ref 0), some (.int (nI t)), some (.int (nI o)), some (.int (nI m)), some (.int (nI i))], [], wR (fun i => nI (st i)) (fun i => nI (pr i)) (fun i => oI (aw i)) (fun i => oI (wa i)) (vp_updL (hh) (((nI o) * (nI 5)) + (nI m)).toNatClampNeg ((hh (o * 5 + m)) ||| (lbit t))) (fun i => nI (la i)) wr (nI n) (nI k) (nI c5) (nI c6) (nI c7))) (P := vp_in (((nI o) * (nI 5)) + (nI m)) 425) ok_m_hold rfl (in5 ho hm) ?_
      rw [cl5 ho hm]
      exact aq_ev ok_m_hold rfl rfl rfl
    · exact absurd (nI_le (show 5 ≤ i by omega) (by omega)) h
  | succ f ih =>
    intro i hif hh
    refine aq_gn (n := 2) (c1 := (6, [some (.ref 0), some (.int (nI t)), some (.int (nI o)), some (.int (nI m)), some (.int (nI i))], [.int (nI 5), .int (nI i)], wL st pr aw wa hh la wr n k c5 c6 c7)) ok_m_hold rfl ?_
    refine aq_icmp_ge ok_m_hold rfl (fun h => ?_) (fun h => ?_)
    · exact absurd (q_le h (by omega) (by omega)) (by omega)
    · refine aq_go (n := 10) (c1 := (22, [some (.ref 0), some (.int (nI t)), some (.int (nI o)), some (.int (nI m)), some (.int (nI i))], [.int (nI t), .long (hh (((nI o) * (nI 5)) + (nI i)).toNatClampNeg), .int (((nI o) * (nI 5)) + (nI i)), .ref 5], wL st pr aw wa hh la wr n k c5 c6 c7)) (P := vp_in (((nI o) * (nI 5)) + (nI i)) 425) ok_m_hold rfl (in5 ho (by omega)) ?_
      rw [cl5 ho (show i < 5 by omega)]
      refine aq_callS (as := [.int (nI t)]) (st := [.long (hh (o * 5 + i)), .int (((nI o) * (nI 5)) + (nI i)), .ref 5]) ok_m_hold rfl c0_m_bit (am_bit t) rfl (Nat.le_of_ble_eq_true rfl) ?_
      refine aq_go (n := 6) (c1 := (3, [some (.ref 0), some (.int (nI t)), some (.int (nI o)), some (.int (nI m)), some (.int ((nI i) + 1))], [], wR (fun i => nI (st i)) (fun i => nI (pr i)) (fun i => oI (aw i)) (fun i => oI (wa i)) (vp_updL (hh) (((nI o) * (nI 5)) + (nI i)).toNatClampNeg ((hh (o * 5 + i)) &&& ((lbit t) ^^^ (-1)))) (fun i => nI (la i)) wr (nI n) (nI k) (nI c5) (nI c6) (nI c7))) (P := vp_in (((nI o) * (nI 5)) + (nI i)) 425) ok_m_hold rfl (in5 ho (by omega)) ?_
      rw [cl5 ho (show i < 5 by omega), nI_1]
      exact ih (i + 1) (by omega) _
set_option maxHeartbeats 4000000 in
theorem am_hold {d : Nat} {st pr : Nat → Nat} {aw wa : Nat → Option Nat} {ha : Nat → Int64} {la : Nat → Nat} {wr : Nat → Int64} {n k c5 c6 c7 : Nat} {t o m : Nat} (ho : o < 85) (hm : m < 5) : AM m_hold (d + 1) (.inl none) [.ref 0, .int (nI t), .int (nI o), .int (nI m)] (wL st pr aw wa ha la wr n k c5 c6 c7) (wL st pr aw wa (hd ha t o m) la wr n k c5 c6 c7) := by
  refine aq_enter pl_m_hold (Nat.le_of_ble_eq_true rfl) ?_
  refine aq_gn (n := 2) (c1 := (3, [some (.ref 0), some (.int (nI t)), some (.int (nI o)), some (.int (nI m)), some (.int (nI 0))], [], wL st pr aw wa ha la wr n k c5 c6 c7)) ok_m_hold rfl ?_
  exact lp_hold ho hm 5 0 rfl ha
set_option maxHeartbeats 4000000 in
theorem am_letGo {d : Nat} {st pr : Nat → Nat} {aw wa : Nat → Option Nat} {ha : Nat → Int64} {la : Nat → Nat} {wr : Nat → Int64} {n k c5 c6 c7 : Nat} {t o : Nat} (ht : t < 60) (ho : o < 85) : AM m_letGo (d + 2) (.inl (some (.int (bI (hm ha t o).isSome)))) [.ref 0, .int (nI t), .int (nI o)] (wL st pr aw wa ha la wr n k c5 c6 c7) (wL st pr aw wa (lg ha t o) la wr n k c5 c6 c7) := by
  refine aq_enter pl_m_letGo (Nat.le_of_ble_eq_true rfl) ?_
  refine aq_gn (n := 3) (c1 := (3, [some (.ref 0), some (.int (nI t)), some (.int (nI o)), none], [.int (nI o), .int (nI t), .ref 0], wL st pr aw wa ha la wr n k c5 c6 c7)) ok_m_letGo rfl ?_
  refine aq_callV (as := [.int (nI t), .int (nI o)]) (st := []) ok_m_letGo rfl c0_m_heldMode (am_heldMode ht ho) rfl (Nat.le_of_ble_eq_true rfl) rfl rfl rfl ?_
  refine aq_gn (n := 3) (c1 := (9, [some (.ref 0), some (.int (nI t)), some (.int (nI o)), some (.int (oI (hm ha t o)))], [.int (-1), .int (oI (hm ha t o))], wL st pr aw wa ha la wr n k c5 c6 c7)) ok_m_letGo rfl ?_
  refine aq_icmp_ne ok_m_letGo rfl (fun h => ?_) (fun h => ?_)
  · obtain ⟨m, hx⟩ := oI_nm1 h
    have hm5 := hm_lt hx
    rw [hx]
    have e : lg ha t o = vp_updL ha (o * 5 + m) (ha (o * 5 + m) &&& (lbit t ^^^ (-1))) := by unfold lg; rw [hx]
    rw [e]
    show AW m_letGo (d + 2) (.inl (some (.int (bI true)))) _ (14, [some (.ref 0), some (.int (nI t)), some (.int (nI o)), some (.int (nI m))], [], wL st pr aw wa ha la wr n k c5 c6 c7)
    refine aq_go (n := 10) (c1 := (26, [some (.ref 0), some (.int (nI t)), some (.int (nI o)), some (.int (nI m))], [.int (nI t), .long (ha (((nI o) * (nI 5)) + (nI m)).toNatClampNeg), .int (((nI o) * (nI 5)) + (nI m)), .ref 5], wL st pr aw wa ha la wr n k c5 c6 c7)) (P := vp_in (((nI o) * (nI 5)) + (nI m)) 425) ok_m_letGo rfl (in5 ho hm5) ?_
    rw [cl5 ho hm5]
    refine aq_callS (as := [.int (nI t)]) (st := [.long (ha (o * 5 + m)), .int (((nI o) * (nI 5)) + (nI m)), .ref 5]) ok_m_letGo rfl c0_m_bit (am_bit t) rfl (Nat.le_of_ble_eq_true rfl) ?_
    refine aq_go (n := 5) (c1 := (36, [some (.ref 0), some (.int (nI t)), some (.int (nI o)), some (.int (nI m))], [.int (nI 1)], wR (fun i => nI (st i)) (fun i => nI (pr i)) (fun i => oI (aw i)) (fun i => oI (wa i)) (vp_updL (ha) (((nI o) * (nI 5)) + (nI m)).toNatClampNeg ((ha (o * 5 + m)) &&& ((lbit t) ^^^ (-1)))) (fun i => nI (la i)) wr (nI n) (nI k) (nI c5) (nI c6) (nI c7))) (P := vp_in (((nI o) * (nI 5)) + (nI m)) 425) ok_m_letGo rfl (in5 ho hm5) ?_
    rw [cl5 ho hm5]
    exact aq_ez ok_m_letGo rfl rfl rfl rfl
  · have hx := oI_m1 h (fun x q => by have := hm_lt q; omega)
    have e : lg ha t o = ha := by unfold lg; rw [hx]
    rw [e]
    refine aq_gn (n := 1) (c1 := (13, [some (.ref 0), some (.int (nI t)), some (.int (nI o)), some (.int (oI (hm ha t o)))], [.int (nI 0)], wL st pr aw wa ha la wr n k c5 c6 c7)) ok_m_letGo rfl ?_
    exact aq_ez ok_m_letGo rfl rfl (by rw [hx]; rfl) rfl
set_option maxHeartbeats 4000000 in
theorem lp_heldObjects {d : Nat} {st pr : Nat → Nat} {aw wa : Nat → Option Nat} {ha : Nat → Int64} {la : Nat → Nat} {wr : Nat → Int64} {n k c5 c6 c7 : Nat} {t : Nat} (ht : t < 60) : ∀ (f i : Nat), i + f = 85 → ∀ a : Nat, AW m_heldObjects (d + 2) (.inl (some (.int (nI (cnt (fun o => (hm ha t o).isSome) f i a))))) (wL st pr aw wa ha la wr n k c5 c6 c7) (4, [some (.ref 0), some (.int (nI t)), some (.int (nI a)), some (.int (nI i))], [], wL st pr aw wa ha la wr n k c5 c6 c7) := by
  intro f
  induction f with
  | zero =>
    intro i hif a
    refine aq_gn (n := 2) (c1 := (7, [some (.ref 0), some (.int (nI t)), some (.int (nI a)), some (.int (nI i))], [.int (nI 85), .int (nI i)], wL st pr aw wa ha la wr n k c5 c6 c7)) ok_m_heldObjects rfl ?_
    refine aq_icmp_ge ok_m_heldObjects rfl (fun h => ?_) (fun h => ?_)
    · refine aq_gn (n := 1) (c1 := (30, [some (.ref 0), some (.int (nI t)), some (.int (nI a)), some (.int (nI i))], [.int (nI a)], wL st pr aw wa ha la wr n k c5 c6 c7)) ok_m_heldObjects rfl ?_
      exact aq_ei ok_m_heldObjects rfl rfl rfl rfl
    · exact absurd (nI_le (show 85 ≤ i by omega) (by omega)) h
  | succ f ih =>
    intro i hif a
    refine aq_gn (n := 2) (c1 := (7, [some (.ref 0), some (.int (nI t)), some (.int (nI a)), some (.int (nI i))], [.int (nI 85), .int (nI i)], wL st pr aw wa ha la wr n k c5 c6 c7)) ok_m_heldObjects rfl ?_
    refine aq_icmp_ge ok_m_heldObjects rfl (fun h => ?_) (fun h => ?_)
    · exact absurd (q_le h (by omega) (by omega)) (by omega)
    · refine aq_gn (n := 3) (c1 := (13, [some (.ref 0), some (.int (nI t)), some (.int (nI a)), some (.int (nI i))], [.int (nI i), .int (nI t), .ref 0], wL st pr aw wa ha la wr n k c5 c6 c7)) ok_m_heldObjects rfl ?_
      refine aq_callV (as := [.int (nI t), .int (nI i)]) (st := []) ok_m_heldObjects rfl c0_m_heldMode (am_heldMode ht (show i < 85 by omega)) rfl (Nat.le_of_ble_eq_true rfl) rfl rfl rfl ?_
      refine aq_gn (n := 1) (c1 := (17, [some (.ref 0), some (.int (nI t)), some (.int (nI a)), some (.int (nI i))], [.int (-1), .int (oI (hm ha t i))], wL st pr aw wa ha la wr n k c5 c6 c7)) ok_m_heldObjects rfl ?_
      refine aq_icmp_eq ok_m_heldObjects rfl (fun h2 => ?_) (fun h2 => ?_)
      · have hx := oI_m1 h2 (fun x q => by have := hm_lt q; omega)
        refine aq_gn (n := 2) (c1 := (4, [some (.ref 0), some (.int (nI t)), some (.int (nI a)), some (.int ((nI i) + 1))], [], wL st pr aw wa ha la wr n k c5 c6 c7)) ok_m_heldObjects rfl ?_
        rw [nI_1]
        have e : cnt (fun o => (hm ha t o).isSome) (f + 1) i a = cnt (fun o => (hm ha t o).isSome) f (i + 1) a := by simp [cnt, hx]
        rw [e]
        exact ih (i + 1) (by omega) a
      · obtain ⟨x, hx⟩ := oI_nm1 h2
        refine aq_gn (n := 3) (c1 := (4, [some (.ref 0), some (.int (nI t)), some (.int ((nI a) + 1)), some (.int ((nI i) + 1))], [], wL st pr aw wa ha la wr n k c5 c6 c7)) ok_m_heldObjects rfl ?_
        rw [nI_1, nI_1]
        have e : cnt (fun o => (hm ha t o).isSome) (f + 1) i a = cnt (fun o => (hm ha t o).isSome) f (i + 1) (a + 1) := by simp [cnt, hx]
        rw [e]
        exact ih (i + 1) (by omega) (a + 1)
set_option maxHeartbeats 4000000 in
theorem am_heldObjects {d : Nat} {st pr : Nat → Nat} {aw wa : Nat → Option Nat} {ha : Nat → Int64} {la : Nat → Nat} {wr : Nat → Int64} {n k c5 c6 c7 : Nat} {t : Nat} (ht : t < 60) : AM m_heldObjects (d + 2) (.inl (some (.int (nI (cnt (fun o => (hm ha t o).isSome) 85 0 0))))) [.ref 0, .int (nI t)] (wL st pr aw wa ha la wr n k c5 c6 c7) (wL st pr aw wa ha la wr n k c5 c6 c7) := by
  refine aq_enter pl_m_heldObjects (Nat.le_of_ble_eq_true rfl) ?_
  refine aq_gn (n := 4) (c1 := (4, [some (.ref 0), some (.int (nI t)), some (.int (nI 0)), some (.int (nI 0))], [], wL st pr aw wa ha la wr n k c5 c6 c7)) ok_m_heldObjects rfl ?_
  exact lp_heldObjects ht 85 0 rfl 0
set_option maxHeartbeats 4000000 in
theorem lp_allHolders {d : Nat} {st pr : Nat → Nat} {aw wa : Nat → Option Nat} {ha : Nat → Int64} {la : Nat → Nat} {wr : Nat → Int64} {n k c5 c6 c7 : Nat} {o : Nat} (ho : o < 85) : ∀ (f i : Nat), i + f = 5 → ∀ a : Int64, AW m_allHolders (d) (.inl (some (.long (aoF ha o f i a)))) (wL st pr aw wa ha la wr n k c5 c6 c7) (5, [some (.ref 0), some (.int (nI o)), some (.long a), none, some (.int (nI i))], [], wL st pr aw wa ha la wr n k c5 c6 c7) := by
  intro f
  induction f with
  | zero =>
    intro i hif a
    refine aq_gn (n := 2) (c1 := (8, [some (.ref 0), some (.int (nI o)), some (.long a), none, some (.int (nI i))], [.int (nI 5), .int (nI i)], wL st pr aw wa ha la wr n k c5 c6 c7)) ok_m_allHolders rfl ?_
    refine aq_icmp_ge ok_m_allHolders rfl (fun h => ?_) (fun h => ?_)
    · refine aq_gn (n := 1) (c1 := (32, [some (.ref 0), some (.int (nI o)), some (.long a), none, some (.int (nI i))], [.long a], wL st pr aw wa ha la wr n k c5 c6 c7)) ok_m_allHolders rfl ?_
      exact aq_el ok_m_allHolders rfl rfl rfl rfl
    · exact absurd (nI_le (show 5 ≤ i by omega) (by omega)) h
  | succ f ih =>
    intro i hif a
    refine aq_gn (n := 2) (c1 := (8, [some (.ref 0), some (.int (nI o)), some (.long a), none, some (.int (nI i))], [.int (nI 5), .int (nI i)], wL st pr aw wa ha la wr n k c5 c6 c7)) ok_m_allHolders rfl ?_
    refine aq_icmp_ge ok_m_allHolders rfl (fun h => ?_) (fun h => ?_)
    · exact absurd (q_le h (by omega) (by omega)) (by omega)
    · refine aq_go (n := 13) (c1 := (5, [some (.ref 0), some (.int (nI o)), some (.long (a ||| (ha (((nI o) * (nI 5)) + (nI i)).toNatClampNeg))), none, some (.int ((nI i) + 1))], [], wL st pr aw wa ha la wr n k c5 c6 c7)) (P := vp_in (((nI o) * (nI 5)) + (nI i)) 425) ok_m_allHolders rfl (in5 ho (by omega)) ?_
      rw [cl5 ho (show i < 5 by omega), nI_1]
      exact ih (i + 1) (by omega) _
set_option maxHeartbeats 4000000 in
theorem am_allHolders {d : Nat} {st pr : Nat → Nat} {aw wa : Nat → Option Nat} {ha : Nat → Int64} {la : Nat → Nat} {wr : Nat → Int64} {n k c5 c6 c7 : Nat} {o : Nat} (ho : o < 85) : AM m_allHolders (d) (.inl (some (.long (ao ha o)))) [.ref 0, .int (nI o)] (wL st pr aw wa ha la wr n k c5 c6 c7) (wL st pr aw wa ha la wr n k c5 c6 c7) := by
  refine aq_enter pl_m_allHolders (Nat.le_of_ble_eq_true rfl) ?_
  refine aq_gn (n := 4) (c1 := (5, [some (.ref 0), some (.int (nI o)), some (.long 0), none, some (.int (nI 0))], [], wL st pr aw wa ha la wr n k c5 c6 c7)) ok_m_allHolders rfl ?_
  exact lp_allHolders ho 5 0 rfl 0
set_option maxHeartbeats 4000000 in
theorem lp_others {d : Nat} {st pr : Nat → Nat} {aw wa : Nat → Option Nat} {ha : Nat → Int64} {la : Nat → Nat} {wr : Nat → Int64} {n k c5 c6 c7 : Nat} {t o : Nat} {x : Int32} (ho : o < 85) : ∀ (f i : Nat), i + f = 5 → ∀ a : Int64, AW m_othersInTheWay (d + 1) (.inl (some (.long (owF ha o x f i a &&& (lbit t ^^^ (-1)))))) (wL st pr aw wa ha la wr n k c5 c6 c7) (6, [some (.ref 0), some (.int (nI t)), some (.int (nI o)), some (.int x), some (.long a), none, some (.int (nI i))], [], wL st pr aw wa ha la wr n k c5 c6 c7) := by
  intro f
  induction f with
  | zero =>
    intro i hif a
    refine aq_gn (n := 2) (c1 := (9, [some (.ref 0), some (.int (nI t)), some (.int (nI o)), some (.int x), some (.long a), none, some (.int (nI i))], [.int (nI 5), .int (nI i)], wL st pr aw wa ha la wr n k c5 c6 c7)) ok_m_othersInTheWay rfl ?_
    refine aq_icmp_ge ok_m_othersInTheWay rfl (fun h => ?_) (fun h => ?_)
    · refine aq_gn (n := 2) (c1 := (46, [some (.ref 0), some (.int (nI t)), some (.int (nI o)), some (.int x), some (.long a), none, some (.int (nI i))], [.int (nI t), .long a], wL st pr aw wa ha la wr n k c5 c6 c7)) ok_m_othersInTheWay rfl ?_
      refine aq_callS (as := [.int (nI t)]) (st := [.long a]) ok_m_othersInTheWay rfl c0_m_bit (am_bit t) rfl (Nat.le_of_ble_eq_true rfl) ?_
      refine aq_gn (n := 3) (c1 := (54, [some (.ref 0), some (.int (nI t)), some (.int (nI o)), some (.int x), some (.long a), none, some (.int (nI i))], [.long (a &&& ((lbit t) ^^^ (-1)))], wL st pr aw wa ha la wr n k c5 c6 c7)) ok_m_othersInTheWay rfl ?_
      exact aq_el ok_m_othersInTheWay rfl rfl rfl rfl
    · exact absurd (nI_le (show 5 ≤ i by omega) (by omega)) h
  | succ f ih =>
    intro i hif a
    refine aq_gn (n := 2) (c1 := (9, [some (.ref 0), some (.int (nI t)), some (.int (nI o)), some (.int x), some (.long a), none, some (.int (nI i))], [.int (nI 5), .int (nI i)], wL st pr aw wa ha la wr n k c5 c6 c7)) ok_m_othersInTheWay rfl ?_
    refine aq_icmp_ge ok_m_othersInTheWay rfl (fun h => ?_) (fun h => ?_)
    · exact absurd (q_le h (by omega) (by omega)) (by omega)
    · refine aq_gn (n := 2) (c1 := (15, [some (.ref 0), some (.int (nI t)), some (.int (nI o)), some (.int x), some (.long a), none, some (.int (nI i))], [.int x, .int (nI i)], wL st pr aw wa ha la wr n k c5 c6 c7)) ok_m_othersInTheWay rfl ?_
      refine aq_callS (as := [.int (nI i), .int x]) (st := []) ok_m_othersInTheWay rfl c0_m_goTogether (am_goTogether (nI i) x) rfl (Nat.le_of_ble_eq_true rfl) ?_
      refine aq_if_ne ok_m_othersInTheWay rfl (fun h2 => ?_) (fun h2 => ?_)
      · have hx : gTI (nI i) x = true := by cases hy : gTI (nI i) x with | true => rfl | false => exact absurd ((bI_0 _).mpr hy) h2
        refine aq_gn (n := 2) (c1 := (6, [some (.ref 0), some (.int (nI t)), some (.int (nI o)), some (.int x), some (.long a), none, some (.int ((nI i) + 1))], [], wL st pr aw wa ha la wr n k c5 c6 c7)) ok_m_othersInTheWay rfl ?_
        rw [nI_1]
        have e : owF ha o x (f + 1) i a = owF ha o x f (i + 1) a := by simp [owF, hx]
        rw [e]
        exact ih (i + 1) (by omega) a
      · have hx : gTI (nI i) x = false := (bI_0 _).mp h2
        refine aq_go (n := 13) (c1 := (6, [some (.ref 0), some (.int (nI t)), some (.int (nI o)), some (.int x), some (.long (a ||| (ha (((nI o) * (nI 5)) + (nI i)).toNatClampNeg))), none, some (.int ((nI i) + 1))], [], wL st pr aw wa ha la wr n k c5 c6 c7)) (P := vp_in (((nI o) * (nI 5)) + (nI i)) 425) ok_m_othersInTheWay rfl (in5 ho (by omega)) ?_
        rw [cl5 ho (show i < 5 by omega), nI_1]
        have e : owF ha o x (f + 1) i a = owF ha o x f (i + 1) (a ||| ha (o * 5 + i)) := by simp [owF, hx]
        rw [e]
        exact ih (i + 1) (by omega) _
set_option maxHeartbeats 4000000 in
theorem am_others {d : Nat} {st pr : Nat → Nat} {aw wa : Nat → Option Nat} {ha : Nat → Int64} {la : Nat → Nat} {wr : Nat → Int64} {n k c5 c6 c7 : Nat} {t o : Nat} {x : Int32} (ho : o < 85) : AM m_othersInTheWay (d + 1) (.inl (some (.long (ow ha t o x)))) [.ref 0, .int (nI t), .int (nI o), .int x] (wL st pr aw wa ha la wr n k c5 c6 c7) (wL st pr aw wa ha la wr n k c5 c6 c7) := by
  refine aq_enter pl_m_othersInTheWay (Nat.le_of_ble_eq_true rfl) ?_
  refine aq_gn (n := 4) (c1 := (6, [some (.ref 0), some (.int (nI t)), some (.int (nI o)), some (.int x), some (.long 0), none, some (.int (nI 0))], [], wL st pr aw wa ha la wr n k c5 c6 c7)) ok_m_othersInTheWay rfl ?_
  exact lp_others ho 5 0 rfl 0
end
section
/-! THE CLASS: the queue -/
theorem fi0_4 : aq_fi 0 4 = true := by decide +kernel
theorem fi0_7 : aq_fi 0 7 = true := by decide +kernel
theorem fi0_9 : aq_fi 0 9 = true := by decide +kernel
theorem fi0_10 : aq_fi 0 10 = true := by decide +kernel
theorem fi0_11 : aq_fi 0 11 = true := by decide +kernel
theorem fi1_0 : aq_fi 1 0 = true := by decide +kernel
theorem fi1_1 : aq_fi 1 1 = true := by decide +kernel
theorem fi1_10 : aq_fi 1 10 = true := by decide +kernel
theorem fi1_11 : aq_fi 1 11 = true := by decide +kernel
theorem fi1_12 : aq_fi 1 12 = true := by decide +kernel
def iqF (aw : Nat → Option Nat) (la : Nat → Nat) (o : Nat) (x : Int32) : Nat → Nat → Nat → Option Nat
  | 0, _, _ => none
  | f + 1, j, q => if aw (la j) = some o then (if nI q = x then some (la j) else iqF aw la o x f (j + 1) (q + 1)) else iqF aw la o x f (j + 1) q
def pnF (aw : Nat → Option Nat) (ha : Nat → Int64) (la : Nat → Nat) (o : Nat) : Nat → Nat → Nat
  | 0, i => i
  | f + 1, i => if aw (la i) = some o ∧ hm ha (la i) o = none then i else pnF aw ha la o f (i + 1)
def lqF (t : Nat) : Nat → Nat → Nat → (Nat → Nat) → (Nat → Nat) × Nat
  | 0, _, j, l => (l, j)
  | f + 1, i, j, l => if l i = t then lqF t f (i + 1) j l else lqF t f (i + 1) (j + 1) (va_up l j (l i))
def sbF (aw : Nat → Option Nat) (la : Nat → Nat) (t o : Nat) : Nat → Nat → Int64 → Int64
  | 0, _, a => a
  | f + 1, i, a => if la i = t then a else sbF aw la t o f (i + 1) (if aw (la i) = some o then a ||| lbit (la i) else a)
def wrw (aw wa : Nat → Option Nat) (ha : Nat → Int64) (la : Nat → Nat) (k t : Nat) : Int64 := match aw t with
  | none => 0
  | some o => ow ha t o (oI (wa t)) ||| sbF aw la t o k 0 0
def ftg (aw wa : Nat → Option Nat) (ha : Nat → Int64) (la : Nat → Nat) (k o : Nat) : Option Nat := match iqF aw la o 0 k 0 0 with
  | none => none
  | some t => if ow ha t o (oI (wa t)) = 0 then some t else none
/-- a step down: line[i] = line[i - 1], f times from i on -/
def shF : Nat → Nat → (Nat → Nat) → (Nat → Nat)
  | 0, _, l => l
  | f + 1, i, l => shF f (i - 1) (va_up l i (l (i - 1)))
theorem va_up_lt {l : Nat → Nat} {j x b : Nat} (hl : ∀ i, l i < b) (hx : x < b) : ∀ i, va_up l j x i < b := fun i => by
  unfold va_up
  split
  · exact hx
  · exact hl i
set_option maxHeartbeats 4000000 in
theorem lp_queueLength {d : Nat} {st pr : Nat → Nat} {aw wa : Nat → Option Nat} {ha : Nat → Int64} {la : Nat → Nat} {wr : Nat → Int64} {n k c5 c6 c7 : Nat} {o : Nat} (ho : o < 85) (hk : k ≤ 60) (hla : ∀ i, la i < 60) (haw : ∀ t x, aw t = some x → x < 85) : ∀ (f i : Nat), i + f = k → ∀ a : Nat,  AW m_queueLength (d) (.inl (some (.int (nI (cnt (fun i => decide (aw (la i) = some o)) f i a))))) (wL st pr aw wa ha la wr n k c5 c6 c7) (4, [some (.ref 0), some (.int (nI o)), some (.int (nI a)), some (.int (nI i))], [], wL st pr aw wa ha la wr n k c5 c6 c7) := by
  intro f
  induction f with
  | zero =>
    intro i hif a
    refine aq_gn (n := 3) (c1 := (9, [some (.ref 0), some (.int (nI o)), some (.int (nI a)), some (.int (nI i))], [.int (nI k), .int (nI i)], wL st pr aw wa ha la wr n k c5 c6 c7)) ok_m_queueLength rfl ?_
    refine aq_icmp_ge ok_m_queueLength rfl (fun h => ?_) (fun h => ?_)
    · refine aq_gn (n := 1) (c1 := (37, [some (.ref 0), some (.int (nI o)), some (.int (nI a)), some (.int (nI i))], [.int (nI a)], wL st pr aw wa ha la wr n k c5 c6 c7)) ok_m_queueLength rfl ?_
      exact aq_ei ok_m_queueLength rfl rfl rfl rfl
    · exact absurd (nI_le (show k ≤ i by omega) (by omega)) h
  | succ f ih =>
    intro i hif a
    refine aq_gn (n := 3) (c1 := (9, [some (.ref 0), some (.int (nI o)), some (.int (nI a)), some (.int (nI i))], [.int (nI k), .int (nI i)], wL st pr aw wa ha la wr n k c5 c6 c7)) ok_m_queueLength rfl ?_
    refine aq_icmp_ge ok_m_queueLength rfl (fun h => ?_) (fun h => ?_)
    · exact absurd (q_le h (by omega) (by omega)) (by omega)
    · refine aq_go (n := 8) (c1 := (24, [some (.ref 0), some (.int (nI o)), some (.int (nI a)), some (.int (nI i))], [.int (nI o), .int (oI (aw (nI (la (nI i).toNatClampNeg)).toNatClampNeg))], wL st pr aw wa ha la wr n k c5 c6 c7)) (P := vp_in (nI i) 60 ∧ vp_in (nI (la (nI i).toNatClampNeg)) 60) ok_m_queueLength rfl ⟨(in60 (by omega)), (by rw [cl60 (show i < 60 by omega)]; exact in60 (hla i))⟩ ?_
      rw [cl60 (show i < 60 by omega), cl60 (hla i)]
      refine aq_icmp_ne ok_m_queueLength rfl (fun h2 => ?_) (fun h2 => ?_)
      · have hx := oI_ne h2
        refine aq_gn (n := 2) (c1 := (4, [some (.ref 0), some (.int (nI o)), some (.int (nI a)), some (.int ((nI i) + 1))], [], wL st pr aw wa ha la wr n k c5 c6 c7)) ok_m_queueLength rfl ?_
        rw [nI_1]
        have e : cnt (fun i => decide (aw (la i) = some o)) (f + 1) i a = cnt (fun i => decide (aw (la i) = some o)) f (i + 1) a := by simp [cnt, hx]
        rw [e]
        exact ih (i + 1) (by omega) a
      · have hx := oI_eq h2 (by omega) (fun x q => by have := haw _ x q; omega)
        refine aq_gn (n := 3) (c1 := (4, [some (.ref 0), some (.int (nI o)), some (.int ((nI a) + 1)), some (.int ((nI i) + 1))], [], wL st pr aw wa ha la wr n k c5 c6 c7)) ok_m_queueLength rfl ?_
        rw [nI_1, nI_1]
        have e : cnt (fun i => decide (aw (la i) = some o)) (f + 1) i a = cnt (fun i => decide (aw (la i) = some o)) f (i + 1) (a + 1) := by simp [cnt, hx]
        rw [e]
        exact ih (i + 1) (by omega) (a + 1)
set_option maxHeartbeats 4000000 in
theorem am_queueLength {d : Nat} {st pr : Nat → Nat} {aw wa : Nat → Option Nat} {ha : Nat → Int64} {la : Nat → Nat} {wr : Nat → Int64} {n k c5 c6 c7 : Nat} {o : Nat} (ho : o < 85) (hk : k ≤ 60) (hla : ∀ i, la i < 60) (haw : ∀ t x, aw t = some x → x < 85) : AM m_queueLength (d) (.inl (some (.int (nI (cnt (fun i => decide (aw (la i) = some o)) k 0 0))))) [.ref 0, .int (nI o)] (wL st pr aw wa ha la wr n k c5 c6 c7) (wL st pr aw wa ha la wr n k c5 c6 c7) := by
  refine aq_enter pl_m_queueLength (Nat.le_of_ble_eq_true rfl) ?_
  refine aq_gn (n := 4) (c1 := (4, [some (.ref 0), some (.int (nI o)), some (.int (nI 0)), some (.int (nI 0))], [], wL st pr aw wa ha la wr n k c5 c6 c7)) ok_m_queueLength rfl ?_
  exact lp_queueLength ho hk hla haw k 0 (by omega) 0
set_option maxHeartbeats 4000000 in
theorem lp_inQueue {d : Nat} {st pr : Nat → Nat} {aw wa : Nat → Option Nat} {ha : Nat → Int64} {la : Nat → Nat} {wr : Nat → Int64} {n k c5 c6 c7 : Nat} {o : Nat} {x : Int32} (ho : o < 85) (hk : k ≤ 60) (hla : ∀ i, la i < 60) (haw : ∀ t x, aw t = some x → x < 85) : ∀ (f i : Nat), i + f = k → ∀ a : Nat,  AW m_inQueue (d) (.inl (some (.int (oI (iqF aw la o x f i a))))) (wL st pr aw wa ha la wr n k c5 c6 c7) (5, [some (.ref 0), some (.int (nI o)), some (.int x), some (.int (nI a)), some (.int (nI i))], [], wL st pr aw wa ha la wr n k c5 c6 c7) := by
  intro f
  induction f with
  | zero =>
    intro i hif a
    refine aq_gn (n := 3) (c1 := (11, [some (.ref 0), some (.int (nI o)), some (.int x), some (.int (nI a)), some (.int (nI i))], [.int (nI k), .int (nI i)], wL st pr aw wa ha la wr n k c5 c6 c7)) ok_m_inQueue rfl ?_
    refine aq_icmp_ge ok_m_inQueue rfl (fun h => ?_) (fun h => ?_)
    · refine aq_gn (n := 1) (c1 := (53, [some (.ref 0), some (.int (nI o)), some (.int x), some (.int (nI a)), some (.int (nI i))], [.int (-1)], wL st pr aw wa ha la wr n k c5 c6 c7)) ok_m_inQueue rfl ?_
      exact aq_ei ok_m_inQueue rfl rfl rfl rfl
    · exact absurd (nI_le (show k ≤ i by omega) (by omega)) h
  | succ f ih =>
    intro i hif a
    refine aq_gn (n := 3) (c1 := (11, [some (.ref 0), some (.int (nI o)), some (.int x), some (.int (nI a)), some (.int (nI i))], [.int (nI k), .int (nI i)], wL st pr aw wa ha la wr n k c5 c6 c7)) ok_m_inQueue rfl ?_
    refine aq_icmp_ge ok_m_inQueue rfl (fun h => ?_) (fun h => ?_)
    · exact absurd (q_le h (by omega) (by omega)) (by omega)
    · refine aq_go (n := 8) (c1 := (27, [some (.ref 0), some (.int (nI o)), some (.int x), some (.int (nI a)), some (.int (nI i))], [.int (nI o), .int (oI (aw (nI (la (nI i).toNatClampNeg)).toNatClampNeg))], wL st pr aw wa ha la wr n k c5 c6 c7)) (P := vp_in (nI i) 60 ∧ vp_in (nI (la (nI i).toNatClampNeg)) 60) ok_m_inQueue rfl ⟨(in60 (by omega)), (by rw [cl60 (show i < 60 by omega)]; exact in60 (hla i))⟩ ?_
      rw [cl60 (show i < 60 by omega), cl60 (hla i)]
      refine aq_icmp_ne ok_m_inQueue rfl (fun h2 => ?_) (fun h2 => ?_)
      · have hx := oI_ne h2
        refine aq_gn (n := 2) (c1 := (5, [some (.ref 0), some (.int (nI o)), some (.int x), some (.int (nI a)), some (.int ((nI i) + 1))], [], wL st pr aw wa ha la wr n k c5 c6 c7)) ok_m_inQueue rfl ?_
        rw [nI_1]
        have e : iqF aw la o x (f + 1) i a = iqF aw la o x f (i + 1) a := by simp [iqF, hx]
        rw [e]
        exact ih (i + 1) (by omega) a
      · have hx := oI_eq h2 (by omega) (fun x q => by have := haw _ x q; omega)
        refine aq_gn (n := 2) (c1 := (32, [some (.ref 0), some (.int (nI o)), some (.int x), some (.int (nI a)), some (.int (nI i))], [.int x, .int (nI a)], wL st pr aw wa ha la wr n k c5 c6 c7)) ok_m_inQueue rfl ?_
        refine aq_icmp_ne ok_m_inQueue rfl (fun h3 => ?_) (fun h3 => ?_)
        · refine aq_gn (n := 3) (c1 := (5, [some (.ref 0), some (.int (nI o)), some (.int x), some (.int ((nI a) + 1)), some (.int ((nI i) + 1))], [], wL st pr aw wa ha la wr n k c5 c6 c7)) ok_m_inQueue rfl ?_
          rw [nI_1, nI_1]
          have e : iqF aw la o x (f + 1) i a = iqF aw la o x f (i + 1) (a + 1) := by simp [iqF, hx, h3]
          rw [e]
          exact ih (i + 1) (by omega) (a + 1)
        · refine aq_go (n := 4) (c1 := (42, [some (.ref 0), some (.int (nI o)), some (.int x), some (.int (nI a)), some (.int (nI i))], [.int (nI (la (nI i).toNatClampNeg))], wL st pr aw wa ha la wr n k c5 c6 c7)) (P := vp_in (nI i) 60) ok_m_inQueue rfl (in60 (by omega)) ?_
          rw [cl60 (show i < 60 by omega)]
          exact aq_ei ok_m_inQueue rfl rfl (by simp [iqF, hx, h3, oI]) rfl
set_option maxHeartbeats 4000000 in
theorem am_inQueue {d : Nat} {st pr : Nat → Nat} {aw wa : Nat → Option Nat} {ha : Nat → Int64} {la : Nat → Nat} {wr : Nat → Int64} {n k c5 c6 c7 : Nat} {o : Nat} {x : Int32} (ho : o < 85) (hk : k ≤ 60) (hla : ∀ i, la i < 60) (haw : ∀ t x, aw t = some x → x < 85) : AM m_inQueue (d) (.inl (some (.int (oI (iqF aw la o x k 0 0))))) [.ref 0, .int (nI o), .int x] (wL st pr aw wa ha la wr n k c5 c6 c7) (wL st pr aw wa ha la wr n k c5 c6 c7) := by
  refine aq_enter pl_m_inQueue (Nat.le_of_ble_eq_true rfl) ?_
  refine aq_gn (n := 4) (c1 := (5, [some (.ref 0), some (.int (nI o)), some (.int x), some (.int (nI 0)), some (.int (nI 0))], [], wL st pr aw wa ha la wr n k c5 c6 c7)) ok_m_inQueue rfl ?_
  exact lp_inQueue ho hk hla haw k 0 (by omega) 0
set_option maxHeartbeats 4000000 in
theorem lp_place {d : Nat} {st pr : Nat → Nat} {aw wa : Nat → Option Nat} {ha : Nat → Int64} {la : Nat → Nat} {wr : Nat → Int64} {n k c5 c6 c7 : Nat} {o : Nat} (ho : o < 85) (hk : k ≤ 60) (hla : ∀ i, la i < 60) (haw : ∀ t x, aw t = some x → x < 85) : ∀ (f i : Nat), i + f = k → AW m_placeOfNewcomers (d + 2) (.inl (some (.int (nI (pnF aw ha la o f i))))) (wL st pr aw wa ha la wr n k c5 c6 c7) (2, [some (.ref 0), some (.int (nI o)), some (.int (nI i))], [], wL st pr aw wa ha la wr n k c5 c6 c7) := by
  intro f
  induction f with
  | zero =>
    intro i hif 
    refine aq_gn (n := 3) (c1 := (7, [some (.ref 0), some (.int (nI o)), some (.int (nI i))], [.int (nI k), .int (nI i)], wL st pr aw wa ha la wr n k c5 c6 c7)) ok_m_placeOfNewcomers rfl ?_
    refine aq_icmp_ge ok_m_placeOfNewcomers rfl (fun h => ?_) (fun h => ?_)
    · refine aq_gn (n := 2) (c1 := (52, [some (.ref 0), some (.int (nI o)), some (.int (nI i))], [.int (nI k)], wL st pr aw wa ha la wr n k c5 c6 c7)) ok_m_placeOfNewcomers rfl ?_
      have e : k = i := by omega
      exact aq_ei ok_m_placeOfNewcomers rfl rfl (by rw [e]; rfl) rfl
    · exact absurd (nI_le (show k ≤ i by omega) (by omega)) h
  | succ f ih =>
    intro i hif 
    refine aq_gn (n := 3) (c1 := (7, [some (.ref 0), some (.int (nI o)), some (.int (nI i))], [.int (nI k), .int (nI i)], wL st pr aw wa ha la wr n k c5 c6 c7)) ok_m_placeOfNewcomers rfl ?_
    refine aq_icmp_ge ok_m_placeOfNewcomers rfl (fun h => ?_) (fun h => ?_)
    · exact absurd (q_le h (by omega) (by omega)) (by omega)
    · refine aq_go (n := 8) (c1 := (22, [some (.ref 0), some (.int (nI o)), some (.int (nI i))], [.int (nI o), .int (oI (aw (nI (la (nI i).toNatClampNeg)).toNatClampNeg))], wL st pr aw wa ha la wr n k c5 c6 c7)) (P := vp_in (nI i) 60 ∧ vp_in (nI (la (nI i).toNatClampNeg)) 60) ok_m_placeOfNewcomers rfl ⟨(in60 (by omega)), (by rw [cl60 (show i < 60 by omega)]; exact in60 (hla i))⟩ ?_
      rw [cl60 (show i < 60 by omega), cl60 (hla i)]
      refine aq_icmp_ne ok_m_placeOfNewcomers rfl (fun h2 => ?_) (fun h2 => ?_)
      · have hx := oI_ne h2
        refine aq_gn (n := 2) (c1 := (2, [some (.ref 0), some (.int (nI o)), some (.int ((nI i) + 1))], [], wL st pr aw wa ha la wr n k c5 c6 c7)) ok_m_placeOfNewcomers rfl ?_
        rw [nI_1]
        have e : pnF aw ha la o (f + 1) i = pnF aw ha la o f (i + 1) := by simp [pnF, hx]
        rw [e]
        exact ih (i + 1) (by omega)
      · have hx := oI_eq h2 (by omega) (fun x q => by have := haw _ x q; omega)
        refine aq_go (n := 6) (c1 := (33, [some (.ref 0), some (.int (nI o)), some (.int (nI i))], [.int (nI o), .int (nI (la (nI i).toNatClampNeg)), .ref 0], wL st pr aw wa ha la wr n k c5 c6 c7)) (P := vp_in (nI i) 60) ok_m_placeOfNewcomers rfl (in60 (by omega)) ?_
        rw [cl60 (show i < 60 by omega)]
        refine aq_callV (as := [.int (nI (la i)), .int (nI o)]) (st := []) ok_m_placeOfNewcomers rfl c0_m_heldMode (am_heldMode (hla i) ho) rfl (Nat.le_of_ble_eq_true rfl) rfl rfl rfl ?_
        refine aq_gn (n := 1) (c1 := (37, [some (.ref 0), some (.int (nI o)), some (.int (nI i))], [.int (-1), .int (oI (hm ha (la i) o))], wL st pr aw wa ha la wr n k c5 c6 c7)) ok_m_placeOfNewcomers rfl ?_
        refine aq_icmp_ne ok_m_placeOfNewcomers rfl (fun h3 => ?_) (fun h3 => ?_)
        · obtain ⟨y, hy⟩ := oI_nm1 h3
          refine aq_gn (n := 2) (c1 := (2, [some (.ref 0), some (.int (nI o)), some (.int ((nI i) + 1))], [], wL st pr aw wa ha la wr n k c5 c6 c7)) ok_m_placeOfNewcomers rfl ?_
          rw [nI_1]
          have e : pnF aw ha la o (f + 1) i = pnF aw ha la o f (i + 1) := by simp [pnF, hy]
          rw [e]
          exact ih (i + 1) (by omega)
        · have hy := oI_m1 h3 (fun x q => by have := hm_lt q; omega)
          refine aq_gn (n := 1) (c1 := (41, [some (.ref 0), some (.int (nI o)), some (.int (nI i))], [.int (nI i)], wL st pr aw wa ha la wr n k c5 c6 c7)) ok_m_placeOfNewcomers rfl ?_
          exact aq_ei ok_m_placeOfNewcomers rfl rfl (by simp [pnF, hx, hy]) rfl
set_option maxHeartbeats 4000000 in
theorem am_place {d : Nat} {st pr : Nat → Nat} {aw wa : Nat → Option Nat} {ha : Nat → Int64} {la : Nat → Nat} {wr : Nat → Int64} {n k c5 c6 c7 : Nat} {o : Nat} (ho : o < 85) (hk : k ≤ 60) (hla : ∀ i, la i < 60) (haw : ∀ t x, aw t = some x → x < 85) : AM m_placeOfNewcomers (d + 2) (.inl (some (.int (nI (pnF aw ha la o k 0))))) [.ref 0, .int (nI o)] (wL st pr aw wa ha la wr n k c5 c6 c7) (wL st pr aw wa ha la wr n k c5 c6 c7) := by
  refine aq_enter pl_m_placeOfNewcomers (Nat.le_of_ble_eq_true rfl) ?_
  refine aq_gn (n := 2) (c1 := (2, [some (.ref 0), some (.int (nI o)), some (.int (nI 0))], [], wL st pr aw wa ha la wr n k c5 c6 c7)) ok_m_placeOfNewcomers rfl ?_
  exact lp_place ho hk hla haw k 0 (by omega)
set_option maxHeartbeats 4000000 in
theorem lp_leave {d : Nat} {st pr : Nat → Nat} {aw wa : Nat → Option Nat} {ha : Nat → Int64} {wr : Nat → Int64} {n k c5 c6 c7 : Nat} {t : Nat} (ht : t < 60) (hk : k ≤ 60) : ∀ (f i : Nat), i + f = k → ∀ (j : Nat) (l : Nat → Nat), j ≤ i → (∀ i, l i < 60) → AW m_leaveQueue (d) (.inl none) (wL st pr (va_up aw t none) (va_up wa t none) ha ((lqF t f i j l).1) wr n ((lqF t f i j l).2) c5 c6 c7) (4, [some (.ref 0), some (.int (nI t)), some (.int (nI j)), some (.int (nI i))], [], wL st pr aw wa ha l wr n k c5 c6 c7) := by
  intro f
  induction f with
  | zero =>
    intro i hif j l hj hl
    refine aq_gn (n := 3) (c1 := (9, [some (.ref 0), some (.int (nI t)), some (.int (nI j)), some (.int (nI i))], [.int (nI k), .int (nI i)], wL st pr aw wa ha l wr n k c5 c6 c7)) ok_m_leaveQueue rfl ?_
    refine aq_icmp_ge ok_m_leaveQueue rfl (fun h => ?_) (fun h => ?_)
    · refine aq_go (n := 13) (c1 := (62, [some (.ref 0), some (.int (nI t)), some (.int (nI j)), some (.int (nI i))], [], wR (fun i => nI (st i)) (fun i => nI (pr i)) (upd (fun i => oI (aw i)) (nI t).toNatClampNeg (-1)) (upd (fun i => oI (wa i)) (nI t).toNatClampNeg (-1)) ha (fun i => nI (l i)) wr (nI n) (nI j) (nI c5) (nI c6) (nI c7))) (P := aq_fi 0 7 = true ∧ vp_in (nI t) 60 ∧ vp_in (nI t) 60) ok_m_leaveQueue rfl ⟨fi0_7, (in60 ht), (in60 ht)⟩ ?_
      rw [cl60 ht, upd_m, upd_m]
      exact aq_ev ok_m_leaveQueue rfl rfl rfl
    · exact absurd (nI_le (show k ≤ i by omega) (by omega)) h
  | succ f ih =>
    intro i hif j l hj hl
    refine aq_gn (n := 3) (c1 := (9, [some (.ref 0), some (.int (nI t)), some (.int (nI j)), some (.int (nI i))], [.int (nI k), .int (nI i)], wL st pr aw wa ha l wr n k c5 c6 c7)) ok_m_leaveQueue rfl ?_
    refine aq_icmp_ge ok_m_leaveQueue rfl (fun h => ?_) (fun h => ?_)
    · exact absurd (q_le h (by omega) (by omega)) (by omega)
    · refine aq_go (n := 5) (c1 := (19, [some (.ref 0), some (.int (nI t)), some (.int (nI j)), some (.int (nI i))], [.int (nI t), .int (nI (l (nI i).toNatClampNeg))], wL st pr aw wa ha l wr n k c5 c6 c7)) (P := vp_in (nI i) 60) ok_m_leaveQueue rfl (in60 (by omega)) ?_
      rw [cl60 (show i < 60 by omega)]
      refine aq_icmp_eq ok_m_leaveQueue rfl (fun h2 => ?_) (fun h2 => ?_)
      · have hx := q_eq h2 (by have := hl i; omega) (by omega)
        refine aq_gn (n := 2) (c1 := (4, [some (.ref 0), some (.int (nI t)), some (.int (nI j)), some (.int ((nI i) + 1))], [], wL st pr aw wa ha l wr n k c5 c6 c7)) ok_m_leaveQueue rfl ?_
        rw [nI_1]
        have e : lqF t (f + 1) i j l = lqF t f (i + 1) j l := by simp [lqF, hx]
        rw [e]
        exact ih (i + 1) (by omega) j l (by omega) hl
      · have hx := q_ne h2
        refine aq_go (n := 11) (c1 := (4, [some (.ref 0), some (.int (nI t)), some (.int ((nI j) + 1)), some (.int ((nI i) + 1))], [], wR (fun i => nI (st i)) (fun i => nI (pr i)) (fun i => oI (aw i)) (fun i => oI (wa i)) ha (upd (fun i => nI (l i)) (nI j).toNatClampNeg (nI (l (nI i).toNatClampNeg))) wr (nI n) (nI k) (nI c5) (nI c6) (nI c7))) (P := vp_in (nI i) 60 ∧ vp_in (nI j) 60) ok_m_leaveQueue rfl ⟨(in60 (by omega)), (in60 (by omega))⟩ ?_
        rw [cl60 (show i < 60 by omega), cl60 (show j < 60 by omega), upd_n, nI_1, nI_1]
        have e : lqF t (f + 1) i j l = lqF t f (i + 1) (j + 1) (va_up l j (l i)) := by simp [lqF, hx]
        rw [e]
        exact ih (i + 1) (by omega) (j + 1) (va_up l j (l i)) (by omega) (va_up_lt hl (hl i))
set_option maxHeartbeats 4000000 in
theorem am_leaveQueue {d : Nat} {st pr : Nat → Nat} {aw wa : Nat → Option Nat} {ha : Nat → Int64} {la : Nat → Nat} {wr : Nat → Int64} {n k c5 c6 c7 : Nat} {t : Nat} (ht : t < 60) (hk : k ≤ 60) (hla : ∀ i, la i < 60) : AM m_leaveQueue (d) (.inl none) [.ref 0, .int (nI t)] (wL st pr aw wa ha la wr n k c5 c6 c7) (wL st pr (va_up aw t none) (va_up wa t none) ha ((lqF t k 0 0 la).1) wr n ((lqF t k 0 0 la).2) c5 c6 c7) := by
  refine aq_enter pl_m_leaveQueue (Nat.le_of_ble_eq_true rfl) ?_
  refine aq_gn (n := 4) (c1 := (4, [some (.ref 0), some (.int (nI t)), some (.int (nI 0)), some (.int (nI 0))], [], wL st pr aw wa ha la wr n k c5 c6 c7)) ok_m_leaveQueue rfl ?_
  exact lp_leave ht hk k 0 (by omega) 0 la (Nat.le_refl 0) hla
set_option maxHeartbeats 4000000 in
theorem lp_before {d : Nat} {st pr : Nat → Nat} {aw wa : Nat → Option Nat} {ha : Nat → Int64} {la : Nat → Nat} {wr : Nat → Int64} {n k c5 c6 c7 : Nat} {t o : Nat} (ht : t < 60) (ho : o < 85) (hk : k ≤ 60) (hla : ∀ i, la i < 60) (haw : ∀ t x, aw t = some x → x < 85) : ∀ (f i : Nat), i + f = k → ∀ a : Int64,  AW m_standingBefore (d + 1) (.inl (some (.long (sbF aw la t o f i a)))) (wL st pr aw wa ha la wr n k c5 c6 c7) (5, [some (.ref 0), some (.int (nI t)), some (.int (nI o)), some (.long a), none, some (.int (nI i))], [], wL st pr aw wa ha la wr n k c5 c6 c7) := by
  intro f
  induction f with
  | zero =>
    intro i hif a
    refine aq_gn (n := 3) (c1 := (11, [some (.ref 0), some (.int (nI t)), some (.int (nI o)), some (.long a), none, some (.int (nI i))], [.int (nI k), .int (nI i)], wL st pr aw wa ha la wr n k c5 c6 c7)) ok_m_standingBefore rfl ?_
    refine aq_icmp_ge ok_m_standingBefore rfl (fun h => ?_) (fun h => ?_)
    · refine aq_gn (n := 1) (c1 := (61, [some (.ref 0), some (.int (nI t)), some (.int (nI o)), some (.long a), none, some (.int (nI i))], [.long a], wL st pr aw wa ha la wr n k c5 c6 c7)) ok_m_standingBefore rfl ?_
      exact aq_el ok_m_standingBefore rfl rfl rfl rfl
    · exact absurd (nI_le (show k ≤ i by omega) (by omega)) h
  | succ f ih =>
    intro i hif a
    refine aq_gn (n := 3) (c1 := (11, [some (.ref 0), some (.int (nI t)), some (.int (nI o)), some (.long a), none, some (.int (nI i))], [.int (nI k), .int (nI i)], wL st pr aw wa ha la wr n k c5 c6 c7)) ok_m_standingBefore rfl ?_
    refine aq_icmp_ge ok_m_standingBefore rfl (fun h => ?_) (fun h => ?_)
    · exact absurd (q_le h (by omega) (by omega)) (by omega)
    · refine aq_go (n := 5) (c1 := (22, [some (.ref 0), some (.int (nI t)), some (.int (nI o)), some (.long a), none, some (.int (nI i))], [.int (nI t), .int (nI (la (nI i).toNatClampNeg))], wL st pr aw wa ha la wr n k c5 c6 c7)) (P := vp_in (nI i) 60) ok_m_standingBefore rfl (in60 (by omega)) ?_
      rw [cl60 (show i < 60 by omega)]
      refine aq_icmp_eq ok_m_standingBefore rfl (fun h2 => ?_) (fun h2 => ?_)
      · have hx := q_eq h2 (by have := hla i; omega) (by omega)
        refine aq_gn (n := 1) (c1 := (61, [some (.ref 0), some (.int (nI t)), some (.int (nI o)), some (.long a), none, some (.int (nI i))], [.long a], wL st pr aw wa ha la wr n k c5 c6 c7)) ok_m_standingBefore rfl ?_
        exact aq_el ok_m_standingBefore rfl rfl (by simp [sbF, hx]) rfl
      · have hx := q_ne h2
        refine aq_go (n := 8) (c1 := (38, [some (.ref 0), some (.int (nI t)), some (.int (nI o)), some (.long a), none, some (.int (nI i))], [.int (nI o), .int (oI (aw (nI (la (nI i).toNatClampNeg)).toNatClampNeg))], wL st pr aw wa ha la wr n k c5 c6 c7)) (P := vp_in (nI i) 60 ∧ vp_in (nI (la (nI i).toNatClampNeg)) 60) ok_m_standingBefore rfl ⟨(in60 (by omega)), (by rw [cl60 (show i < 60 by omega)]; exact in60 (hla i))⟩ ?_
        rw [cl60 (show i < 60 by omega), cl60 (hla i)]
        refine aq_icmp_ne ok_m_standingBefore rfl (fun h3 => ?_) (fun h3 => ?_)
        · have hy := oI_ne h3
          refine aq_gn (n := 2) (c1 := (5, [some (.ref 0), some (.int (nI t)), some (.int (nI o)), some (.long a), none, some (.int ((nI i) + 1))], [], wL st pr aw wa ha la wr n k c5 c6 c7)) ok_m_standingBefore rfl ?_
          rw [nI_1]
          have e : sbF aw la t o (f + 1) i a = sbF aw la t o f (i + 1) a := by simp [sbF, hx, hy]
          rw [e]
          exact ih (i + 1) (by omega) a
        · have hy := oI_eq h3 (by omega) (fun x q => by have := haw _ x q; omega)
          refine aq_go (n := 5) (c1 := (49, [some (.ref 0), some (.int (nI t)), some (.int (nI o)), some (.long a), none, some (.int (nI i))], [.int (nI (la (nI i).toNatClampNeg)), .long a], wL st pr aw wa ha la wr n k c5 c6 c7)) (P := vp_in (nI i) 60) ok_m_standingBefore rfl (in60 (by omega)) ?_
          rw [cl60 (show i < 60 by omega)]
          refine aq_callS (as := [.int (nI (la i))]) (st := [.long a]) ok_m_standingBefore rfl c0_m_bit (am_bit (la i)) rfl (Nat.le_of_ble_eq_true rfl) ?_
          refine aq_gn (n := 4) (c1 := (5, [some (.ref 0), some (.int (nI t)), some (.int (nI o)), some (.long (a ||| (lbit (la i)))), none, some (.int ((nI i) + 1))], [], wL st pr aw wa ha la wr n k c5 c6 c7)) ok_m_standingBefore rfl ?_
          rw [nI_1]
          have e : sbF aw la t o (f + 1) i a = sbF aw la t o f (i + 1) (a ||| lbit (la i)) := by simp [sbF, hx, hy]
          rw [e]
          exact ih (i + 1) (by omega) _
set_option maxHeartbeats 4000000 in
theorem am_before {d : Nat} {st pr : Nat → Nat} {aw wa : Nat → Option Nat} {ha : Nat → Int64} {la : Nat → Nat} {wr : Nat → Int64} {n k c5 c6 c7 : Nat} {t o : Nat} (ht : t < 60) (ho : o < 85) (hk : k ≤ 60) (hla : ∀ i, la i < 60) (haw : ∀ t x, aw t = some x → x < 85) : AM m_standingBefore (d + 1) (.inl (some (.long (sbF aw la t o k 0 0)))) [.ref 0, .int (nI t), .int (nI o)] (wL st pr aw wa ha la wr n k c5 c6 c7) (wL st pr aw wa ha la wr n k c5 c6 c7) := by
  refine aq_enter pl_m_standingBefore (Nat.le_of_ble_eq_true rfl) ?_
  refine aq_gn (n := 4) (c1 := (5, [some (.ref 0), some (.int (nI t)), some (.int (nI o)), some (.long 0), none, some (.int (nI 0))], [], wL st pr aw wa ha la wr n k c5 c6 c7)) ok_m_standingBefore rfl ?_
  exact lp_before ht ho hk hla haw k 0 (by omega) 0
set_option maxHeartbeats 4000000 in
theorem lp_inState {d : Nat} {st pr : Nat → Nat} {aw wa : Nat → Option Nat} {ha : Nat → Int64} {la : Nat → Nat} {wr : Nat → Int64} {n k c5 c6 c7 : Nat} {x : Int32} (hn : n ≤ 60) : ∀ (f i : Nat), i + f = n → ∀ a : Nat,  AW m_inState (d) (.inl (some (.int (nI (cnt (fun i => decide (nI (st i) = x)) f i a))))) (wL st pr aw wa ha la wr n k c5 c6 c7) (4, [some (.ref 0), some (.int x), some (.int (nI a)), some (.int (nI i))], [], wL st pr aw wa ha la wr n k c5 c6 c7) := by
  intro f
  induction f with
  | zero =>
    intro i hif a
    refine aq_gn (n := 3) (c1 := (9, [some (.ref 0), some (.int x), some (.int (nI a)), some (.int (nI i))], [.int (nI n), .int (nI i)], wL st pr aw wa ha la wr n k c5 c6 c7)) ok_m_inState rfl ?_
    refine aq_icmp_ge ok_m_inState rfl (fun h => ?_) (fun h => ?_)
    · refine aq_gn (n := 1) (c1 := (32, [some (.ref 0), some (.int x), some (.int (nI a)), some (.int (nI i))], [.int (nI a)], wL st pr aw wa ha la wr n k c5 c6 c7)) ok_m_inState rfl ?_
      exact aq_ei ok_m_inState rfl rfl rfl rfl
    · exact absurd (nI_le (show n ≤ i by omega) (by omega)) h
  | succ f ih =>
    intro i hif a
    refine aq_gn (n := 3) (c1 := (9, [some (.ref 0), some (.int x), some (.int (nI a)), some (.int (nI i))], [.int (nI n), .int (nI i)], wL st pr aw wa ha la wr n k c5 c6 c7)) ok_m_inState rfl ?_
    refine aq_icmp_ge ok_m_inState rfl (fun h => ?_) (fun h => ?_)
    · exact absurd (q_le h (by omega) (by omega)) (by omega)
    · refine aq_go (n := 5) (c1 := (19, [some (.ref 0), some (.int x), some (.int (nI a)), some (.int (nI i))], [.int x, .int (nI (st (nI i).toNatClampNeg))], wL st pr aw wa ha la wr n k c5 c6 c7)) (P := vp_in (nI i) 60) ok_m_inState rfl (in60 (by omega)) ?_
      rw [cl60 (show i < 60 by omega)]
      refine aq_icmp_ne ok_m_inState rfl (fun h2 => ?_) (fun h2 => ?_)
      · refine aq_gn (n := 2) (c1 := (4, [some (.ref 0), some (.int x), some (.int (nI a)), some (.int ((nI i) + 1))], [], wL st pr aw wa ha la wr n k c5 c6 c7)) ok_m_inState rfl ?_
        rw [nI_1]
        have e : cnt (fun i => decide (nI (st i) = x)) (f + 1) i a = cnt (fun i => decide (nI (st i) = x)) f (i + 1) a := by simp [cnt, h2]
        rw [e]
        exact ih (i + 1) (by omega) a
      · refine aq_gn (n := 3) (c1 := (4, [some (.ref 0), some (.int x), some (.int ((nI a) + 1)), some (.int ((nI i) + 1))], [], wL st pr aw wa ha la wr n k c5 c6 c7)) ok_m_inState rfl ?_
        rw [nI_1, nI_1]
        have e : cnt (fun i => decide (nI (st i) = x)) (f + 1) i a = cnt (fun i => decide (nI (st i) = x)) f (i + 1) (a + 1) := by simp [cnt, h2]
        rw [e]
        exact ih (i + 1) (by omega) (a + 1)
set_option maxHeartbeats 4000000 in
theorem am_inState {d : Nat} {st pr : Nat → Nat} {aw wa : Nat → Option Nat} {ha : Nat → Int64} {la : Nat → Nat} {wr : Nat → Int64} {n k c5 c6 c7 : Nat} {x : Int32} (hn : n ≤ 60) : AM m_inState (d) (.inl (some (.int (nI (cnt (fun i => decide (nI (st i) = x)) n 0 0))))) [.ref 0, .int x] (wL st pr aw wa ha la wr n k c5 c6 c7) (wL st pr aw wa ha la wr n k c5 c6 c7) := by
  refine aq_enter pl_m_inState (Nat.le_of_ble_eq_true rfl) ?_
  refine aq_gn (n := 4) (c1 := (4, [some (.ref 0), some (.int x), some (.int (nI 0)), some (.int (nI 0))], [], wL st pr aw wa ha la wr n k c5 c6 c7)) ok_m_inState rfl ?_
  exact lp_inState hn n 0 (by omega) 0
set_option maxHeartbeats 4000000 in
theorem am_waitRow {d : Nat} {st pr : Nat → Nat} {aw wa : Nat → Option Nat} {ha : Nat → Int64} {la : Nat → Nat} {wr : Nat → Int64} {n k c5 c6 c7 : Nat} {t : Nat} (ht : t < 60) (hk : k ≤ 60) (hla : ∀ i, la i < 60) (haw : ∀ t x, aw t = some x → x < 85) : AM m_waitRow (d + 2) (.inl (some (.long (wrw aw wa ha la k t)))) [.ref 0, .int (nI t)] (wL st pr aw wa ha la wr n k c5 c6 c7) (wL st pr aw wa ha la wr n k c5 c6 c7) := by
  refine aq_enter pl_m_waitRow (Nat.le_of_ble_eq_true rfl) ?_
  refine aq_go (n := 7) (c1 := (9, [some (.ref 0), some (.int (nI t)), some (.int (oI (aw (nI t).toNatClampNeg)))], [.int (-1), .int (oI (aw (nI t).toNatClampNeg))], wL st pr aw wa ha la wr n k c5 c6 c7)) (P := vp_in (nI t) 60) ok_m_waitRow rfl (in60 ht) ?_
  rw [cl60 ht]
  refine aq_icmp_ne ok_m_waitRow rfl (fun h => ?_) (fun h => ?_)
  · obtain ⟨o, hx⟩ := oI_nm1 h
    have ho := haw _ o hx
    rw [hx]
    have e : wrw aw wa ha la k t = ow ha t o (oI (wa t)) ||| sbF aw la t o k 0 0 := by unfold wrw; rw [hx]
    rw [e]
    show AW m_waitRow _ _ _ (14, [some (.ref 0), some (.int (nI t)), some (.int (nI o))], [], wL st pr aw wa ha la wr n k c5 c6 c7)
    refine aq_go (n := 7) (c1 := (23, [some (.ref 0), some (.int (nI t)), some (.int (nI o))], [.int (oI (wa (nI t).toNatClampNeg)), .int (nI o), .int (nI t), .ref 0], wL st pr aw wa ha la wr n k c5 c6 c7)) (P := vp_in (nI t) 60) ok_m_waitRow rfl (in60 ht) ?_
    rw [cl60 ht]
    refine aq_callV (as := [.int (nI t), .int (nI o), .int (oI (wa t))]) (st := []) ok_m_waitRow rfl c0_m_othersInTheWay (am_others ho) rfl (Nat.le_of_ble_eq_true rfl) rfl rfl rfl ?_
    refine aq_gn (n := 3) (c1 := (29, [some (.ref 0), some (.int (nI t)), some (.int (nI o))], [.int (nI o), .int (nI t), .ref 0, .long (ow ha t o (oI (wa t)))], wL st pr aw wa ha la wr n k c5 c6 c7)) ok_m_waitRow rfl ?_
    refine aq_callV (as := [.int (nI t), .int (nI o)]) (st := [.long (ow ha t o (oI (wa t)))]) ok_m_waitRow rfl c0_m_standingBefore (am_before ht ho hk hla haw) rfl (Nat.le_of_ble_eq_true rfl) rfl rfl rfl ?_
    refine aq_gn (n := 1) (c1 := (33, [some (.ref 0), some (.int (nI t)), some (.int (nI o))], [.long ((ow ha t o (oI (wa t))) ||| (sbF aw la t o k 0 0))], wL st pr aw wa ha la wr n k c5 c6 c7)) ok_m_waitRow rfl ?_
    exact aq_el ok_m_waitRow rfl rfl rfl rfl
  · have hx := oI_m1 h (fun x q => by have := haw _ x q; omega)
    refine aq_gn (n := 1) (c1 := (13, [some (.ref 0), some (.int (nI t)), some (.int (oI (aw t)))], [.long 0], wL st pr aw wa ha la wr n k c5 c6 c7)) ok_m_waitRow rfl ?_
    exact aq_el ok_m_waitRow rfl rfl (by unfold wrw; rw [hx]) rfl
theorem iqF_in {aw : Nat → Option Nat} {la : Nat → Nat} {o : Nat} {x : Int32} : ∀ {f j q t : Nat}, iqF aw la o x f j q = some t → aw t = some o ∧ ∃ i, j ≤ i ∧ i < j + f ∧ t = la i := by
  intro f
  induction f with
  | zero => intro j q t h; cases h
  | succ f ih =>
    intro j q t h
    unfold iqF at h
    split at h
    · rename_i h1
      split at h
      · cases h
        exact ⟨h1, j, Nat.le_refl _, by omega, rfl⟩
      · obtain ⟨h3, i, h4, h5, h6⟩ := ih h
        exact ⟨h3, i, by omega, by omega, h6⟩
    · obtain ⟨h3, i, h4, h5, h6⟩ := ih h
      exact ⟨h3, i, by omega, by omega, h6⟩
set_option maxHeartbeats 4000000 in
theorem am_first {d : Nat} {st pr : Nat → Nat} {aw wa : Nat → Option Nat} {ha : Nat → Int64} {la : Nat → Nat} {wr : Nat → Int64} {n k c5 c6 c7 : Nat} {o : Nat} (ho : o < 85) (hk : k ≤ 60) (hla : ∀ i, la i < 60) (haw : ∀ t x, aw t = some x → x < 85) : AM m_firstToGrant (d + 2) (.inl (some (.int (oI (ftg aw wa ha la k o))))) [.ref 0, .int (nI o)] (wL st pr aw wa ha la wr n k c5 c6 c7) (wL st pr aw wa ha la wr n k c5 c6 c7) := by
  refine aq_enter pl_m_firstToGrant (Nat.le_of_ble_eq_true rfl) ?_
  refine aq_gn (n := 3) (c1 := (3, [some (.ref 0), some (.int (nI o)), none], [.int (nI 0), .int (nI o), .ref 0], wL st pr aw wa ha la wr n k c5 c6 c7)) ok_m_firstToGrant rfl ?_
  refine aq_callV (as := [.int (nI o), .int (nI 0)]) (st := []) ok_m_firstToGrant rfl c0_m_inQueue (am_inQueue ho hk hla haw) rfl (Nat.le_of_ble_eq_true rfl) rfl rfl rfl ?_
  refine aq_gn (n := 3) (c1 := (9, [some (.ref 0), some (.int (nI o)), some (.int (oI (iqF aw la o 0 k 0 0)))], [.int (-1), .int (oI (iqF aw la o 0 k 0 0))], wL st pr aw wa ha la wr n k c5 c6 c7)) ok_m_firstToGrant rfl ?_
  refine aq_icmp_eq ok_m_firstToGrant rfl (fun h => ?_) (fun h => ?_)
  · have hx := oI_m1 h (fun x q => by obtain ⟨-, i, -, -, e⟩ := iqF_in q; have := hla i; omega)
    refine aq_gn (n := 1) (c1 := (30, [some (.ref 0), some (.int (nI o)), some (.int (oI (iqF aw la o 0 k 0 0)))], [.int (-1)], wL st pr aw wa ha la wr n k c5 c6 c7)) ok_m_firstToGrant rfl ?_
    exact aq_ei ok_m_firstToGrant rfl rfl (by unfold ftg; rw [hx]; rfl) rfl
  · obtain ⟨t, hx⟩ := oI_nm1 h
    have ht : t < 60 := by obtain ⟨-, i, -, -, e⟩ := iqF_in hx; have := hla i; omega
    rw [hx]
    have e : ftg aw wa ha la k o = if ow ha t o (oI (wa t)) = 0 then some t else none := by unfold ftg; rw [hx]
    rw [e]
    show AW m_firstToGrant _ _ _ (12, [some (.ref 0), some (.int (nI o)), some (.int (nI t))], [], wL st pr aw wa ha la wr n k c5 c6 c7)
    refine aq_go (n := 7) (c1 := (21, [some (.ref 0), some (.int (nI o)), some (.int (nI t))], [.int (oI (wa (nI t).toNatClampNeg)), .int (nI o), .int (nI t), .ref 0], wL st pr aw wa ha la wr n k c5 c6 c7)) (P := vp_in (nI t) 60) ok_m_firstToGrant rfl (in60 ht) ?_
    rw [cl60 ht]
    refine aq_callV (as := [.int (nI t), .int (nI o), .int (oI (wa t))]) (st := []) ok_m_firstToGrant rfl c0_m_othersInTheWay (am_others ho) rfl (Nat.le_of_ble_eq_true rfl) rfl rfl rfl ?_
    refine aq_gn (n := 2) (c1 := (26, [some (.ref 0), some (.int (nI o)), some (.int (nI t))], [.int (lg_cmp (ow ha t o (oI (wa t))) 0)], wL st pr aw wa ha la wr n k c5 c6 c7)) ok_m_firstToGrant rfl ?_
    refine aq_if_eq ok_m_firstToGrant rfl (fun h3 => ?_) (fun h3 => ?_)
    · have hy := (lg_cmp_0 _ _).mp h3
      refine aq_gn (n := 1) (c1 := (32, [some (.ref 0), some (.int (nI o)), some (.int (nI t))], [.int (nI t)], wL st pr aw wa ha la wr n k c5 c6 c7)) ok_m_firstToGrant rfl ?_
      exact aq_ei ok_m_firstToGrant rfl rfl (by rw [if_pos hy]; rfl) rfl
    · have hy := fun q => h3 ((lg_cmp_0 (ow ha t o (oI (wa t))) 0).mpr q)
      refine aq_gn (n := 1) (c1 := (30, [some (.ref 0), some (.int (nI o)), some (.int (nI t))], [.int (-1)], wL st pr aw wa ha la wr n k c5 c6 c7)) ok_m_firstToGrant rfl ?_
      exact aq_ei ok_m_firstToGrant rfl rfl (by rw [if_neg hy]; rfl) rfl
end
section
/-! a new exception, thrown -/
abbrev aq_up : List String := ["java/lang/RuntimeException", "java/lang/Exception"]
def aq_tw (ik ic z : Nat) : Bool := decide (Cond.classLink "LockDesk" ik (aq_ex z) ∈ aq_TB) && (decide (Cond.initialized (aq_ex z) ∈ aq_TB) && ((vx_atS "LockDesk" ic (aq_ex z) aq_up).all (fun w => decide (w ∈ aq_TB) || decide (w ∈ aq_ext)) && (Cond.classLink "LockDesk" ik (aq_ex z) :: Cond.initialized (aq_ex z) :: vx_atS "LockDesk" ic (aq_ex z) aq_up).all vx_ot))
set_option maxHeartbeats 4000000 in
theorem aq_throw {mi : aq_M} {d z : Nat} {w : List va_E} {pc ik is ic : Nat} {text : String} {al : List (Option Value)} {st : List Value} {n0 n3 n4 n6 n9 t0 t3 t4 t6 t9 : Nat} {k0 k3 k4 k6 k9 : Int32} (hok : aq_okM mi = true) (hown : (aq_y mi).cls = "LockDesk") (hw : aq_tw ik ic z = true) (hcls : Bundle.fit (aq_ex z) = true) (hup : ∀ n ∈ aq_up, Bundle.fit n = true) (hs : (is, text) ∈ aq_str)
    (h0 : aq_at (aq_t mi) pc = some (.new ik, 3, n0, k0, t0)) (h3 : aq_at (aq_t mi) (pc + 3) = some (.dup, 1, n3, k3, t3)) (h4 : aq_at (aq_t mi) (pc + 4) = some (.ldc is, 2, n4, k4, t4)) (h6 : aq_at (aq_t mi) (pc + 6) = some (.invokespecial ic, 3, n6, k6, t6)) (h9 : aq_at (aq_t mi) (pc + 9) = some (.athrow, 1, n9, k9, t9))
    (hst : (st.map fun v => v.category).sum ≤ 8) : AW mi d (.inr z) w (pc, al, st, w) := by
  unfold aq_tw at hw
  simp only [Bool.and_eq_true, decide_eq_true_eq] at hw
  obtain ⟨w1, w2, w3, w4⟩ := hw
  have w3 := List.all_eq_true.mp w3
  have w4 := List.all_eq_true.mp w4
  intro p l e s m args below meth c D kt ad A H locs ls hF hA hW hL
  obtain ⟨hx, hb, hml, hret, hlocks, hfc, hts, hl, hex⟩ := hF
  rw [hown] at hfc
  obtain ⟨sa, hsa⟩ := hA.2.2.2.1 _ hs
  refine vx_throwS (own := "LockDesk") (cls := aq_ex z) (text := text) (names := aq_up) (ik := ik) (is := is) (ic := ic) (sa := sa) (A := A) hx hb hl hfc hcls hup (hts _ w1) (hts _ w2) hsa (fun w hw => ?_) (fun w hw => w4 w hw) hA.2.1 hA.2.2.1 hW.2.2.2 (hL.2.1.trans hml.symm) (aq_ok_at hok h0).1 (aq_ok_at hok h3).1 (aq_ok_at hok h4).1 (aq_ok_at hok h6).1 (aq_ok_at hok h9).1 (fun x hx => (hex x hx).elim) ?_ ?_ ?_ ?_ hlocks (fun t ht hz hk => ⟨rfl, ⟨hW.2.1.kept (fun k q hk9 => hk _ ((hW.2.1 k q hk9).lt)), hW.2.2.1⟩, ?_⟩) hW.2.2.2.2.2 ?_ ?_
  · have h := w3 w hw
    simp only [Bool.or_eq_true, decide_eq_true_eq] at h
    rcases h with h | h
    · exact hts w h
    · exact aq_cd_any (List.mem_filter.mp h).2 (hA.2.2.2.2 w h)
  · show 2 + 3 < d + 6
    omega
  · show ((st.map (aq_v ad)).map fun v => v.category).sum + (13 * (2 + 1) + 43) ≤ 28 * d + 96
    rw [aq_v_cats]
    omega
  · show 0 + 1 ≤ 1
    omega
  · show 0 + 6 ≤ 6
    omega
  · exact ⟨Nat.le_trans hW.2.2.2.1 hz, fun q h1 h2 => by rw [hk q (Nat.lt_of_lt_of_le h1 hW.2.2.2.1)]; exact hW.2.2.2.2.1 q h1 h2⟩
  · show 0 + 1 ≤ 1
    omega
  · show 0 + 6 ≤ 6
    omega
theorem aq_fit : ∀ z, Bundle.fit (aq_ex z) = true := by
  intro z
  match z with
  | 0 => decide +kernel
  | 1 => decide +kernel
  | z + 2 => exact (by decide +kernel : Bundle.fit "java/lang/IllegalStateException" = true)
theorem aq_upf : ∀ n ∈ aq_up, Bundle.fit n = true := by decide +kernel
theorem tw0 : aq_tw 144 148 0 = true := by decide +kernel
theorem tw1 : aq_tw 48 52 1 = true := by decide +kernel
theorem tw2 : aq_tw 55 59 2 = true := by decide +kernel
end
section
/-! THE CLASS: checks, begin, the line, grants -/
set_option maxHeartbeats 4000000 in
theorem am_chkT {d : Nat} {st pr : Nat → Nat} {aw wa : Nat → Option Nat} {ha : Nat → Int64} {la : Nat → Nat} {wr : Nat → Int64} {n k c5 c6 c7 : Nat} {t : Nat} (ht : t < n) (hn : n ≤ 60) : AM m_checkTransaction (d) (.inl none) [.ref 0, .int (nI t)] (wL st pr aw wa ha la wr n k c5 c6 c7) (wL st pr aw wa ha la wr n k c5 c6 c7) := by
  refine aq_enter pl_m_checkTransaction (Nat.le_of_ble_eq_true rfl) ?_
  refine aq_gn (n := 1) (c1 := (1, [some (.ref 0), some (.int (nI t))], [.int (nI t)], wL st pr aw wa ha la wr n k c5 c6 c7)) ok_m_checkTransaction rfl ?_
  refine aq_if_lt ok_m_checkTransaction rfl (fun h => ?_) (fun h => ?_)
  · exact absurd h (nI_pos (by omega))
  · refine aq_gn (n := 3) (c1 := (9, [some (.ref 0), some (.int (nI t))], [.int (nI n), .int (nI t)], wL st pr aw wa ha la wr n k c5 c6 c7)) ok_m_checkTransaction rfl ?_
    refine aq_icmp_lt ok_m_checkTransaction rfl (fun h2 => ?_) (fun h2 => ?_)
    · exact aq_ev ok_m_checkTransaction rfl rfl rfl
    · exact absurd (nI_lt ht (by omega)) h2
set_option maxHeartbeats 4000000 in
theorem am_chkT_x {d : Nat} {st pr : Nat → Nat} {aw wa : Nat → Option Nat} {ha : Nat → Int64} {la : Nat → Nat} {wr : Nat → Int64} {n k c5 c6 c7 : Nat} {x : Int32} (hx : x < 0 ∨ nI n ≤ x) : AM m_checkTransaction (d) (.inr 0) [.ref 0, .int x] (wL st pr aw wa ha la wr n k c5 c6 c7) (wL st pr aw wa ha la wr n k c5 c6 c7) := by
  refine aq_enter pl_m_checkTransaction (Nat.le_of_ble_eq_true rfl) ?_
  refine aq_gn (n := 1) (c1 := (1, [some (.ref 0), some (.int x)], [.int x], wL st pr aw wa ha la wr n k c5 c6 c7)) ok_m_checkTransaction rfl ?_
  refine aq_if_lt ok_m_checkTransaction rfl (fun h => ?_) (fun h => ?_)
  · exact aq_throw (text := "there is no such transaction") ok_m_checkTransaction rfl tw0 (aq_fit _) aq_upf (by decide +kernel) rfl rfl rfl rfl rfl (Nat.le_of_ble_eq_true rfl)
  · refine aq_gn (n := 3) (c1 := (9, [some (.ref 0), some (.int x)], [.int (nI n), .int x], wL st pr aw wa ha la wr n k c5 c6 c7)) ok_m_checkTransaction rfl ?_
    refine aq_icmp_lt ok_m_checkTransaction rfl (fun h2 => ?_) (fun h2 => ?_)
    · rcases hx with q | q
      · exact absurd q h
      · exact absurd h2 (Int32.not_lt.mpr q)
    · exact aq_throw (text := "there is no such transaction") ok_m_checkTransaction rfl tw0 (aq_fit _) aq_upf (by decide +kernel) rfl rfl rfl rfl rfl (Nat.le_of_ble_eq_true rfl)
set_option maxHeartbeats 4000000 in
theorem am_chkO {d : Nat} {w : List va_E} {o : Nat} (ho : o < 85) : AM m_checkObject (d) (.inl none) [.int (nI o)] (w) (w) := by
  refine aq_enter pl_m_checkObject (Nat.le_of_ble_eq_true rfl) ?_
  refine aq_gn (n := 1) (c1 := (1, [some (.int (nI o))], [.int (nI o)], w)) ok_m_checkObject rfl ?_
  refine aq_if_lt ok_m_checkObject rfl (fun h => ?_) (fun h => ?_)
  · exact absurd h (nI_pos (by omega))
  · refine aq_gn (n := 2) (c1 := (7, [some (.int (nI o))], [.int (nI 85), .int (nI o)], w)) ok_m_checkObject rfl ?_
    refine aq_icmp_lt ok_m_checkObject rfl (fun h2 => ?_) (fun h2 => ?_)
    · exact aq_ev ok_m_checkObject rfl rfl rfl
    · exact absurd (nI_lt ho (by omega)) h2
set_option maxHeartbeats 4000000 in
theorem am_chkO_x {d : Nat} {w : List va_E} {x : Int32} (hx : x < 0 ∨ nI 85 ≤ x) : AM m_checkObject (d) (.inr 0) [.int x] (w) (w) := by
  refine aq_enter pl_m_checkObject (Nat.le_of_ble_eq_true rfl) ?_
  refine aq_gn (n := 1) (c1 := (1, [some (.int x)], [.int x], w)) ok_m_checkObject rfl ?_
  refine aq_if_lt ok_m_checkObject rfl (fun h => ?_) (fun h => ?_)
  · exact aq_throw (text := "there is no such object") ok_m_checkObject rfl tw0 (aq_fit _) aq_upf (by decide +kernel) rfl rfl rfl rfl rfl (Nat.le_of_ble_eq_true rfl)
  · refine aq_gn (n := 2) (c1 := (7, [some (.int x)], [.int (nI 85), .int x], w)) ok_m_checkObject rfl ?_
    refine aq_icmp_lt ok_m_checkObject rfl (fun h2 => ?_) (fun h2 => ?_)
    · rcases hx with q | q
      · exact absurd q h
      · exact absurd h2 (Int32.not_lt.mpr q)
    · exact aq_throw (text := "there is no such object") ok_m_checkObject rfl tw0 (aq_fit _) aq_upf (by decide +kernel) rfl rfl rfl rfl rfl (Nat.le_of_ble_eq_true rfl)
set_option maxHeartbeats 4000000 in
theorem am_chkA {d : Nat} {st pr : Nat → Nat} {aw wa : Nat → Option Nat} {ha : Nat → Int64} {la : Nat → Nat} {wr : Nat → Int64} {n k c5 c6 c7 : Nat} {t : Nat} (ht : t < 60) (hs : st t = 0) : AM m_checkActive (d) (.inl none) [.ref 0, .int (nI t)] (wL st pr aw wa ha la wr n k c5 c6 c7) (wL st pr aw wa ha la wr n k c5 c6 c7) := by
  refine aq_enter pl_m_checkActive (Nat.le_of_ble_eq_true rfl) ?_
  refine aq_go (n := 4) (c1 := (6, [some (.ref 0), some (.int (nI t))], [.int (nI (st (nI t).toNatClampNeg))], wL st pr aw wa ha la wr n k c5 c6 c7)) (P := vp_in (nI t) 60) ok_m_checkActive rfl (in60 ht) ?_
  rw [cl60 ht]
  refine aq_if_eq ok_m_checkActive rfl (fun h => ?_) (fun h => ?_)
  · exact aq_ev ok_m_checkActive rfl rfl rfl
  · exact absurd (by rw [hs]; rfl) h
set_option maxHeartbeats 4000000 in
theorem am_chkA_x {d : Nat} {st pr : Nat → Nat} {aw wa : Nat → Option Nat} {ha : Nat → Int64} {la : Nat → Nat} {wr : Nat → Int64} {n k c5 c6 c7 : Nat} {t : Nat} (ht : t < 60) (hst : ∀ t, st t < 4) (hs : ¬ st t = 0) : AM m_checkActive (d) (.inr 2) [.ref 0, .int (nI t)] (wL st pr aw wa ha la wr n k c5 c6 c7) (wL st pr aw wa ha la wr n k c5 c6 c7) := by
  refine aq_enter pl_m_checkActive (Nat.le_of_ble_eq_true rfl) ?_
  refine aq_go (n := 4) (c1 := (6, [some (.ref 0), some (.int (nI t))], [.int (nI (st (nI t).toNatClampNeg))], wL st pr aw wa ha la wr n k c5 c6 c7)) (P := vp_in (nI t) 60) ok_m_checkActive rfl (in60 ht) ?_
  rw [cl60 ht]
  refine aq_if_eq ok_m_checkActive rfl (fun h => ?_) (fun h => ?_)
  · exact absurd (q_eq (b := 0) h (by have := hst t; omega) (by omega)) hs
  · exact aq_throw (text := "the transaction is not active") ok_m_checkActive rfl tw2 (aq_fit _) aq_upf (by decide +kernel) rfl rfl rfl rfl rfl (Nat.le_of_ble_eq_true rfl)
set_option maxHeartbeats 4000000 in
theorem am_begin {d : Nat} {st pr : Nat → Nat} {aw wa : Nat → Option Nat} {ha : Nat → Int64} {la : Nat → Nat} {wr : Nat → Int64} {n k c5 c6 c7 : Nat} {x : Nat} (hx : x ≤ 99) (hn : n < 60) : AM m_begin (d) (.inl (some (.int (nI n)))) [.ref 0, .int (nI x)] (wL st pr aw wa ha la wr n k c5 c6 c7) (wL (va_up st n 0) (va_up pr n x) (va_up aw n none) (va_up wa n none) ha la wr (n + 1) k c5 c6 c7) := by
  refine aq_enter pl_m_begin (Nat.le_of_ble_eq_true rfl) ?_
  refine aq_gn (n := 1) (c1 := (1, [some (.ref 0), some (.int (nI x)), none], [.int (nI x)], wL st pr aw wa ha la wr n k c5 c6 c7)) ok_m_begin rfl ?_
  refine aq_if_lt ok_m_begin rfl (fun h => ?_) (fun h => ?_)
  · exact absurd h (nI_pos (by omega))
  · refine aq_gn (n := 2) (c1 := (7, [some (.ref 0), some (.int (nI x)), none], [.int (nI 99), .int (nI x)], wL st pr aw wa ha la wr n k c5 c6 c7)) ok_m_begin rfl ?_
    refine aq_icmp_le ok_m_begin rfl (fun h2 => ?_) (fun h2 => ?_)
    · refine aq_gn (n := 3) (c1 := (26, [some (.ref 0), some (.int (nI x)), none], [.int (nI 60), .int (nI n)], wL st pr aw wa ha la wr n k c5 c6 c7)) ok_m_begin rfl ?_
      refine aq_icmp_lt ok_m_begin rfl (fun h3 => ?_) (fun h3 => ?_)
      · refine aq_go (n := 30) (c1 := (83, [some (.ref 0), some (.int (nI x)), some (.int (nI n))], [.int (nI n)], wR (upd (fun i => nI (st i)) (nI n).toNatClampNeg (nI 0)) (upd (fun i => nI (pr i)) (nI n).toNatClampNeg (nI x)) (upd (fun i => oI (aw i)) (nI n).toNatClampNeg (-1)) (upd (fun i => oI (wa i)) (nI n).toNatClampNeg (-1)) ha (fun i => nI (la i)) wr ((nI n) + (nI 1)) (nI k) (nI c5) (nI c6) (nI c7))) (P := vp_in (nI n) 60 ∧ vp_in (nI n) 60 ∧ vp_in (nI n) 60 ∧ vp_in (nI n) 60 ∧ aq_fi 0 4 = true) ok_m_begin rfl ⟨(in60 hn), (in60 hn), (in60 hn), (in60 hn), fi0_4⟩ ?_
        rw [cl60 hn, upd_n, upd_n, upd_m, upd_m, nI_add]
        exact aq_ei ok_m_begin rfl rfl rfl rfl
      · exact absurd (nI_lt hn (by omega)) h3
    · exact absurd (nI_le (show x ≤ 99 by omega) (by omega)) h2
set_option maxHeartbeats 4000000 in
theorem am_begin_x {d : Nat} {st pr : Nat → Nat} {aw wa : Nat → Option Nat} {ha : Nat → Int64} {la : Nat → Nat} {wr : Nat → Int64} {n k c5 c6 c7 : Nat} {x : Int32} (hx : x < 0 ∨ nI 99 < x) : AM m_begin (d) (.inr 1) [.ref 0, .int x] (wL st pr aw wa ha la wr n k c5 c6 c7) (wL st pr aw wa ha la wr n k c5 c6 c7) := by
  refine aq_enter pl_m_begin (Nat.le_of_ble_eq_true rfl) ?_
  refine aq_gn (n := 1) (c1 := (1, [some (.ref 0), some (.int x), none], [.int x], wL st pr aw wa ha la wr n k c5 c6 c7)) ok_m_begin rfl ?_
  refine aq_if_lt ok_m_begin rfl (fun h => ?_) (fun h => ?_)
  · exact aq_throw (text := "the priority is not 0 .. 99") ok_m_begin rfl tw1 (aq_fit _) aq_upf (by decide +kernel) rfl rfl rfl rfl rfl (Nat.le_of_ble_eq_true rfl)
  · refine aq_gn (n := 2) (c1 := (7, [some (.ref 0), some (.int x), none], [.int (nI 99), .int x], wL st pr aw wa ha la wr n k c5 c6 c7)) ok_m_begin rfl ?_
    refine aq_icmp_le ok_m_begin rfl (fun h2 => ?_) (fun h2 => ?_)
    · rcases hx with q | q
      · exact absurd q h
      · exact absurd q (Int32.not_lt.mpr h2)
    · exact aq_throw (text := "the priority is not 0 .. 99") ok_m_begin rfl tw1 (aq_fit _) aq_upf (by decide +kernel) rfl rfl rfl rfl rfl (Nat.le_of_ble_eq_true rfl)
set_option maxHeartbeats 4000000 in
theorem am_begin_f {d : Nat} {st pr : Nat → Nat} {aw wa : Nat → Option Nat} {ha : Nat → Int64} {la : Nat → Nat} {wr : Nat → Int64} {n k c5 c6 c7 : Nat} {x : Nat} (hx : x ≤ 99) (hn : n = 60) : AM m_begin (d) (.inr 2) [.ref 0, .int (nI x)] (wL st pr aw wa ha la wr n k c5 c6 c7) (wL st pr aw wa ha la wr n k c5 c6 c7) := by
  refine aq_enter pl_m_begin (Nat.le_of_ble_eq_true rfl) ?_
  refine aq_gn (n := 1) (c1 := (1, [some (.ref 0), some (.int (nI x)), none], [.int (nI x)], wL st pr aw wa ha la wr n k c5 c6 c7)) ok_m_begin rfl ?_
  refine aq_if_lt ok_m_begin rfl (fun h => ?_) (fun h => ?_)
  · exact absurd h (nI_pos (by omega))
  · refine aq_gn (n := 2) (c1 := (7, [some (.ref 0), some (.int (nI x)), none], [.int (nI 99), .int (nI x)], wL st pr aw wa ha la wr n k c5 c6 c7)) ok_m_begin rfl ?_
    refine aq_icmp_le ok_m_begin rfl (fun h2 => ?_) (fun h2 => ?_)
    · refine aq_gn (n := 3) (c1 := (26, [some (.ref 0), some (.int (nI x)), none], [.int (nI 60), .int (nI n)], wL st pr aw wa ha la wr n k c5 c6 c7)) ok_m_begin rfl ?_
      refine aq_icmp_lt ok_m_begin rfl (fun h3 => ?_) (fun h3 => ?_)
      · exact absurd (q_lt h3 (by omega) (by omega)) (by omega)
      · exact aq_throw (text := "there are 60 transactions") ok_m_begin rfl tw2 (aq_fit _) aq_upf (by decide +kernel) rfl rfl rfl rfl rfl (Nat.le_of_ble_eq_true rfl)
    · exact absurd (nI_le (show x ≤ 99 by omega) (by omega)) h2
theorem pnF_le {aw : Nat → Option Nat} {ha : Nat → Int64} {la : Nat → Nat} {o : Nat} : ∀ f i : Nat, i ≤ pnF aw ha la o f i ∧ pnF aw ha la o f i ≤ i + f := by
  intro f
  induction f with
  | zero => intro i; simp [pnF]
  | succ f ih =>
    intro i
    unfold pnF
    split
    · omega
    · have := ih (i + 1); omega
/-- where a request comes to stand -/
def plc (aw : Nat → Option Nat) (ha : Nat → Int64) (la : Nat → Nat) (k t o : Nat) : Nat := if hm ha t o = none then k else pnF aw ha la o k 0
theorem plc_le {aw : Nat → Option Nat} {ha : Nat → Int64} {la : Nat → Nat} {k t o : Nat} : plc aw ha la k t o ≤ k := by
  unfold plc
  split
  · omega
  · have := pnF_le (aw := aw) (ha := ha) (la := la) (o := o) k 0; omega
set_option maxHeartbeats 4000000 in
theorem lp_join {d : Nat} {st pr : Nat → Nat} {aw wa : Nat → Option Nat} {ha : Nat → Int64} {wr : Nat → Int64} {n k c5 c6 c7 : Nat} {t o m q : Nat} (ht : t < 60) (hk : k < 60) : ∀ (f i : Nat), i = q + f → i ≤ k → ∀ l : Nat → Nat, AW m_joinQueue d (.inl none) (wL st pr (va_up aw t (some o)) (va_up wa t (some m)) ha (va_up (shF f i l) q t) wr n (k + 1) c5 c6 c7) (30, [some (.ref 0), some (.int (nI t)), some (.int (nI o)), some (.int (nI m)), some (.int (nI q)), some (.int (nI i))], [], wL st pr aw wa ha l wr n k c5 c6 c7) := by
  intro f
  induction f with
  | zero =>
    intro i hif hik l
    refine aq_gn (n := 2) (c1 := (34, [some (.ref 0), some (.int (nI t)), some (.int (nI o)), some (.int (nI m)), some (.int (nI q)), some (.int (nI i))], [.int (nI q), .int (nI i)], wL st pr aw wa ha l wr n k c5 c6 c7)) ok_m_joinQueue rfl ?_
    refine aq_icmp_le ok_m_joinQueue rfl (fun h => ?_) (fun h => ?_)
    · refine aq_go (n := 21) (c1 := (91, [some (.ref 0), some (.int (nI t)), some (.int (nI o)), some (.int (nI m)), some (.int (nI q)), some (.int (nI i))], [], wR (fun i => nI (st i)) (fun i => nI (pr i)) (upd (fun i => oI (aw i)) (nI t).toNatClampNeg (nI o)) (upd (fun i => oI (wa i)) (nI t).toNatClampNeg (nI m)) ha (upd (fun i => nI (l i)) (nI q).toNatClampNeg (nI t)) wr (nI n) ((nI k) + (nI 1)) (nI c5) (nI c6) (nI c7))) (P := vp_in (nI q) 60 ∧ aq_fi 0 7 = true ∧ vp_in (nI t) 60 ∧ vp_in (nI t) 60) ok_m_joinQueue rfl ⟨(in60 (by omega)), fi0_7, (in60 ht), (in60 ht)⟩ ?_
      rw [cl60 (show q < 60 by omega), cl60 ht, upd_n, nI_add, upd_o, upd_o]
      exact aq_ev ok_m_joinQueue rfl rfl rfl
    · exact absurd (nI_le (show i ≤ q by omega) (by omega)) h
  | succ f ih =>
    intro i hif hik l
    obtain ⟨j, rfl⟩ : ∃ j, i = j + 1 := ⟨i - 1, by omega⟩
    refine aq_gn (n := 2) (c1 := (34, [some (.ref 0), some (.int (nI t)), some (.int (nI o)), some (.int (nI m)), some (.int (nI q)), some (.int (nI (j + 1)))], [.int (nI q), .int (nI (j + 1))], wL st pr aw wa ha l wr n k c5 c6 c7)) ok_m_joinQueue rfl ?_
    refine aq_icmp_le ok_m_joinQueue rfl (fun h => ?_) (fun h => ?_)
    · exact absurd (q_le h (by omega) (by omega)) (by omega)
    · refine aq_go (n := 12) (c1 := (30, [some (.ref 0), some (.int (nI t)), some (.int (nI o)), some (.int (nI m)), some (.int (nI q)), some (.int ((nI (j + 1)) + (-1)))], [], wR (fun i => nI (st i)) (fun i => nI (pr i)) (fun i => oI (aw i)) (fun i => oI (wa i)) ha (upd (fun i => nI (l i)) (nI (j + 1)).toNatClampNeg (nI (l ((nI (j + 1)) - (nI 1)).toNatClampNeg))) wr (nI n) (nI k) (nI c5) (nI c6) (nI c7))) (P := vp_in ((nI (j + 1)) - (nI 1)) 60 ∧ vp_in (nI (j + 1)) 60) ok_m_joinQueue rfl ⟨(by rw [show nI (j + 1) - nI 1 = nI j from nI_pred j]; exact in60 (by omega)), (in60 (by omega))⟩ ?_
      rw [show nI (j + 1) - nI 1 = nI j from nI_pred j, pk_m1, cl60 (show j < 60 by omega), cl60 (show j + 1 < 60 by omega), upd_n]
      exact ih j (by omega) (by omega) (va_up l (j + 1) (l j))
set_option maxHeartbeats 4000000 in
theorem am_join {d : Nat} {st pr : Nat → Nat} {aw wa : Nat → Option Nat} {ha : Nat → Int64} {la : Nat → Nat} {wr : Nat → Int64} {n k c5 c6 c7 : Nat} {t o m : Nat} (ht : t < 60) (ho : o < 85) (hk : k < 60) (hla : ∀ i, la i < 60) (haw : ∀ t x, aw t = some x → x < 85) : AM m_joinQueue (d + 3) (.inl none) [.ref 0, .int (nI t), .int (nI o), .int (nI m)] (wL st pr aw wa ha la wr n k c5 c6 c7) (wL st pr (va_up aw t (some o)) (va_up wa t (some m)) ha (va_up (shF (k - plc aw ha la k t o) k la) (plc aw ha la k t o) t) wr n (k + 1) c5 c6 c7) := by
  refine aq_enter pl_m_joinQueue (Nat.le_of_ble_eq_true rfl) ?_
  refine aq_gn (n := 3) (c1 := (3, [some (.ref 0), some (.int (nI t)), some (.int (nI o)), some (.int (nI m)), none, none], [.int (nI o), .int (nI t), .ref 0], wL st pr aw wa ha la wr n k c5 c6 c7)) ok_m_joinQueue rfl ?_
  refine aq_callV (as := [.int (nI t), .int (nI o)]) (st := []) ok_m_joinQueue rfl c0_m_heldMode (am_heldMode ht ho) rfl (Nat.le_of_ble_eq_true rfl) rfl rfl rfl ?_
  refine aq_gn (n := 1) (c1 := (7, [some (.ref 0), some (.int (nI t)), some (.int (nI o)), some (.int (nI m)), none, none], [.int (-1), .int (oI (hm ha t o))], wL st pr aw wa ha la wr n k c5 c6 c7)) ok_m_joinQueue rfl ?_
  refine aq_icmp_ne ok_m_joinQueue rfl (fun h => ?_) (fun h => ?_)
  · obtain ⟨y, hy⟩ := oI_nm1 h
    have e : plc aw ha la k t o = pnF aw ha la o k 0 := by simp [plc, hy]
    have hq := plc_le (aw := aw) (ha := ha) (la := la) (k := k) (t := t) (o := o)
    rw [e] at hq ⊢
    refine aq_gn (n := 2) (c1 := (19, [some (.ref 0), some (.int (nI t)), some (.int (nI o)), some (.int (nI m)), none, none], [.int (nI o), .ref 0], wL st pr aw wa ha la wr n k c5 c6 c7)) ok_m_joinQueue rfl ?_
    refine aq_callV (as := [.int (nI o)]) (st := []) ok_m_joinQueue rfl c0_m_placeOfNewcomers (am_place ho (by omega) hla haw) rfl (Nat.le_of_ble_eq_true rfl) rfl rfl rfl ?_
    refine aq_gn (n := 4) (c1 := (30, [some (.ref 0), some (.int (nI t)), some (.int (nI o)), some (.int (nI m)), some (.int (nI (pnF aw ha la o k 0))), some (.int (nI k))], [], wL st pr aw wa ha la wr n k c5 c6 c7)) ok_m_joinQueue rfl ?_
    exact lp_join ht hk (k - pnF aw ha la o k 0) k (by omega) (Nat.le_refl k) la
  · have hy := oI_m1 h (fun x q => by have := hm_lt q; omega)
    have e : plc aw ha la k t o = k := by simp [plc, hy]
    rw [e]
    refine aq_gn (n := 7) (c1 := (30, [some (.ref 0), some (.int (nI t)), some (.int (nI o)), some (.int (nI m)), some (.int (nI k)), some (.int (nI k))], [], wL st pr aw wa ha la wr n k c5 c6 c7)) ok_m_joinQueue rfl ?_
    exact lp_join ht hk (k - k) k (by omega) (Nat.le_refl k) la
set_option maxHeartbeats 4000000 in
theorem am_grant {d : Nat} {st pr : Nat → Nat} {aw wa : Nat → Option Nat} {ha : Nat → Int64} {la : Nat → Nat} {wr : Nat → Int64} {n k c5 c6 c7 : Nat} {t o m : Nat} (ht : t < 60) (hx : aw t = some o) (hy : wa t = some m) (ho : o < 85) (hm : m < 5) (hst : ∀ t, st t < 4) (hk : k ≤ 60) (hla : ∀ i, la i < 60) : AM m_grant (d + 2) (.inl none) [.ref 0, .int (nI t)] (wL st pr aw wa ha la wr n k c5 c6 c7) (wL (va_up st t 0) pr (va_up aw t none) (va_up wa t none) (hd ha t o m) ((lqF t k 0 0 la).1) wr n ((lqF t k 0 0 la).2) c5 (if st t = 1 then c6 else c6 + 1) (if st t = 1 then c7 + 1 else c7)) := by
  refine aq_enter pl_m_grant (Nat.le_of_ble_eq_true rfl) ?_
  refine aq_go (n := 10) (c1 := (14, [some (.ref 0), some (.int (nI t))], [.int (oI (wa (nI t).toNatClampNeg)), .int (oI (aw (nI t).toNatClampNeg)), .int (nI t), .ref 0], wL st pr aw wa ha la wr n k c5 c6 c7)) (P := vp_in (nI t) 60 ∧ vp_in (nI t) 60) ok_m_grant rfl ⟨(in60 ht), (in60 ht)⟩ ?_
  rw [cl60 ht, hx, hy]
  show AW m_grant _ _ _ (14, [some (.ref 0), some (.int (nI t))], [.int (nI m), .int (nI o), .int (nI t), .ref 0], wL st pr aw wa ha la wr n k c5 c6 c7)
  refine aq_callV (as := [.int (nI t), .int (nI o), .int (nI m)]) (st := []) ok_m_grant rfl c0_m_hold (am_hold ho hm) rfl (Nat.le_of_ble_eq_true rfl) rfl rfl rfl ?_
  refine aq_gn (n := 2) (c1 := (19, [some (.ref 0), some (.int (nI t))], [.int (nI t), .ref 0], wL st pr aw wa (hd ha t o m) la wr n k c5 c6 c7)) ok_m_grant rfl ?_
  refine aq_callV (as := [.int (nI t)]) (st := []) ok_m_grant rfl c0_m_leaveQueue (am_leaveQueue ht hk hla) rfl (Nat.le_of_ble_eq_true rfl) rfl rfl rfl ?_
  refine aq_go (n := 5) (c1 := (29, [some (.ref 0), some (.int (nI t))], [.int (nI 1), .int (nI (st (nI t).toNatClampNeg))], wL st pr (va_up aw t none) (va_up wa t none) (hd ha t o m) ((lqF t k 0 0 la).1) wr n ((lqF t k 0 0 la).2) c5 c6 c7)) (P := vp_in (nI t) 60) ok_m_grant rfl (in60 ht) ?_
  rw [cl60 ht]
  refine aq_icmp_ne ok_m_grant rfl (fun h => ?_) (fun h => ?_)
  · have hz := q_ne h
    rw [if_neg hz, if_neg hz]
    refine aq_go (n := 11) (c1 := (62, [some (.ref 0), some (.int (nI t))], [], wR (upd (fun i => nI (st i)) (nI t).toNatClampNeg (nI 0)) (fun i => nI (pr i)) (fun i => oI ((va_up aw t none) i)) (fun i => oI ((va_up wa t none) i)) (hd ha t o m) (fun i => nI (((lqF t k 0 0 la).1) i)) wr (nI n) (nI ((lqF t k 0 0 la).2)) (nI c5) ((nI c6) + (nI 1)) (nI c7))) (P := aq_fi 0 10 = true ∧ vp_in (nI t) 60) ok_m_grant rfl ⟨fi0_10, (in60 ht)⟩ ?_
    rw [cl60 ht, upd_n, nI_add]
    exact aq_ev ok_m_grant rfl rfl rfl
  · have hz := q_eq h (by have := hst t; omega) (by omega)
    rw [if_pos hz, if_pos hz]
    refine aq_go (n := 12) (c1 := (62, [some (.ref 0), some (.int (nI t))], [], wR (upd (fun i => nI (st i)) (nI t).toNatClampNeg (nI 0)) (fun i => nI (pr i)) (fun i => oI ((va_up aw t none) i)) (fun i => oI ((va_up wa t none) i)) (hd ha t o m) (fun i => nI (((lqF t k 0 0 la).1) i)) wr (nI n) (nI ((lqF t k 0 0 la).2)) (nI c5) (nI c6) ((nI c7) + (nI 1)))) (P := aq_fi 0 11 = true ∧ vp_in (nI t) 60) ok_m_grant rfl ⟨fi0_11, (in60 ht)⟩ ?_
    rw [cl60 ht, upd_n, nI_add]
    exact aq_ev ok_m_grant rfl rfl rfl
end
section
/-! THE CLASS'S STATE AS ONE VALUE -/
abbrev LSt : Type := (Nat → Nat) × (Nat → Nat) × (Nat → Option Nat) × (Nat → Option Nat) × (Nat → Int64) × (Nat → Nat) × (Nat → Int64) × Nat × Nat × Nat × Nat × Nat
abbrev s_st (S : LSt) : Nat → Nat := S.1
abbrev s_pr (S : LSt) : Nat → Nat := S.2.1
abbrev s_aw (S : LSt) : Nat → Option Nat := S.2.2.1
abbrev s_wa (S : LSt) : Nat → Option Nat := S.2.2.2.1
abbrev s_ha (S : LSt) : Nat → Int64 := S.2.2.2.2.1
abbrev s_la (S : LSt) : Nat → Nat := S.2.2.2.2.2.1
abbrev s_wr (S : LSt) : Nat → Int64 := S.2.2.2.2.2.2.1
abbrev s_n (S : LSt) : Nat := S.2.2.2.2.2.2.2.1
abbrev s_k (S : LSt) : Nat := S.2.2.2.2.2.2.2.2.1
abbrev s_c5 (S : LSt) : Nat := S.2.2.2.2.2.2.2.2.2.1
abbrev s_c6 (S : LSt) : Nat := S.2.2.2.2.2.2.2.2.2.2.1
abbrev s_c7 (S : LSt) : Nat := S.2.2.2.2.2.2.2.2.2.2.2
def wS (S : LSt) : List va_E := wL (s_st S) (s_pr S) (s_aw S) (s_wa S) (s_ha S) (s_la S) (s_wr S) (s_n S) (s_k S) (s_c5 S) (s_c6 S) (s_c7 S)
def WF (S : LSt) : Prop := (∀ i, s_la S i < 60) ∧ s_k S ≤ 60 ∧ s_n S ≤ 60 ∧ (∀ t x, s_aw S t = some x → x < 85) ∧ (∀ t x, s_wa S t = some x → x < 5) ∧ (∀ t x, s_aw S t = some x → ∃ m, s_wa S t = some m) ∧ (∀ t, s_st S t < 4) ∧ (∀ t, s_pr S t < 100)
def s_ftg (S : LSt) (o : Nat) : Option Nat := ftg (s_aw S) (s_wa S) (s_ha S) (s_la S) (s_k S) o
def gr (S : LSt) (t : Nat) : LSt := (va_up (s_st S) t 0, s_pr S, va_up (s_aw S) t none, va_up (s_wa S) t none, hd (s_ha S) t ((s_aw S t).getD 0) ((s_wa S t).getD 0), (lqF t (s_k S) 0 0 (s_la S)).1, s_wr S, s_n S, (lqF t (s_k S) 0 0 (s_la S)).2, s_c5 S, (if s_st S t = 1 then s_c6 S else s_c6 S + 1), (if s_st S t = 1 then s_c7 S + 1 else s_c7 S))
def svF (o : Nat) : Nat → Nat → LSt → LSt × Nat
  | 0, g, S => (S, g)
  | f + 1, g, S => match s_ftg S o with
    | none => (S, g)
    | some t => svF o f (g + 1) (gr S t)
def sv (S : LSt) (o : Nat) : LSt × Nat := svF o 60 0 S
theorem lqF_lt {t : Nat} : ∀ (f i j : Nat) (l : Nat → Nat), (∀ x, l x < 60) → ∀ x, (lqF t f i j l).1 x < 60 := by
  intro f
  induction f with
  | zero => intro i j l h x; exact h x
  | succ f ih =>
    intro i j l h x
    unfold lqF
    split
    · exact ih _ _ _ h x
    · exact ih _ _ _ (va_up_lt h (h i)) x
theorem lqF_le {t : Nat} : ∀ (f i j : Nat) (l : Nat → Nat), (lqF t f i j l).2 ≤ j + f := by
  intro f
  induction f with
  | zero => intro i j l; simp [lqF]
  | succ f ih =>
    intro i j l
    unfold lqF
    split
    · have := ih (i + 1) j l; omega
    · have := ih (i + 1) (j + 1) (va_up l j (l i)); omega
theorem va_up_some {l : Nat → Option Nat} {j t x : Nat} (h : va_up l j none t = some x) : t ≠ j ∧ l t = some x := by
  unfold va_up at h
  split at h
  · cases h
  · rename_i hne
    exact ⟨hne, h⟩
theorem ftg_in {aw wa : Nat → Option Nat} {ha : Nat → Int64} {la : Nat → Nat} {k o t : Nat} (h : ftg aw wa ha la k o = some t) : aw t = some o ∧ (∃ i, i < k ∧ t = la i) ∧ ow ha t o (oI (wa t)) = 0 := by
  unfold ftg at h
  split at h
  · cases h
  · rename_i u hu
    split at h
    · rename_i h0
      cases h
      obtain ⟨h1, i, -, h3, h4⟩ := iqF_in hu
      exact ⟨h1, ⟨i, by omega, h4⟩, h0⟩
    · cases h
theorem WF_leave {S : LSt} (h : WF S) (t : Nat) (x : Nat) (hx : x < 4) (ha : Nat → Int64) (c6 c7 : Nat) : WF (va_up (s_st S) t x, s_pr S, va_up (s_aw S) t none, va_up (s_wa S) t none, ha, (lqF t (s_k S) 0 0 (s_la S)).1, s_wr S, s_n S, (lqF t (s_k S) 0 0 (s_la S)).2, s_c5 S, c6, c7) := by
  obtain ⟨h1, h2, h3, h4, h5, h6, h7, h8⟩ := h
  refine ⟨lqF_lt _ _ _ _ h1, ?_, h3, fun u y q => h4 u y (va_up_some q).2, fun u y q => h5 u y (va_up_some q).2, fun u y q => ?_, fun u => va_up_lt h7 hx u, h8⟩
  · have := lqF_le (t := t) (s_k S) 0 0 (s_la S)
    show (lqF t (s_k S) 0 0 (s_la S)).2 ≤ 60
    omega
  · obtain ⟨q1, q2⟩ := va_up_some q
    obtain ⟨m, hm⟩ := h6 u y q2
    refine ⟨m, ?_⟩
    show va_up (s_wa S) t none u = some m
    unfold va_up
    rw [if_neg q1]
    exact hm
theorem WF_gr {S : LSt} (h : WF S) (t : Nat) : WF (gr S t) := WF_leave h t 0 (by omega) _ _ _
theorem WF_svF {o : Nat} : ∀ (f g : Nat) (S : LSt), WF S → WF (svF o f g S).1 := by
  intro f
  induction f with
  | zero => intro g S h; exact h
  | succ f ih =>
    intro g S h
    unfold svF
    split
    · exact h
    · exact ih _ _ (WF_gr h _)
theorem WF_sv {S : LSt} (h : WF S) (o : Nat) : WF (sv S o).1 := WF_svF _ _ _ h
set_option maxHeartbeats 4000000 in
theorem am_firstS {d : Nat} {S : LSt} {o : Nat} (h : WF S) (ho : o < 85) : AM m_firstToGrant (d + 2) (.inl (some (.int (oI (s_ftg S o))))) [.ref 0, .int (nI o)] (wS S) (wS S) := am_first ho h.2.1 h.1 h.2.2.2.1
set_option maxHeartbeats 4000000 in
theorem am_grantS {d : Nat} {S : LSt} {o t : Nat} (h : WF S) (ht : s_ftg S o = some t) : AM m_grant (d + 2) (.inl none) [.ref 0, .int (nI t)] (wS S) (wS (gr S t)) := by
  obtain ⟨h1, ⟨i, hi, e⟩, -⟩ := ftg_in ht
  obtain ⟨m, hm⟩ := h.2.2.2.2.2.1 t o h1
  have ht6 : t < 60 := by rw [e]; exact h.1 i
  have K := am_grant (d := d) (st := s_st S) (pr := s_pr S) (aw := s_aw S) (wa := s_wa S) (ha := s_ha S) (la := s_la S) (wr := s_wr S) (n := s_n S) (k := s_k S) (c5 := s_c5 S) (c6 := s_c6 S) (c7 := s_c7 S) ht6 h1 hm (h.2.2.2.1 t o h1) (h.2.2.2.2.1 t m hm) h.2.2.2.2.2.2.1 h.2.1 h.1
  unfold gr wS
  rw [h1, hm]
  exact K
end
section
/-! THE CLASS: serve, end -/
set_option maxHeartbeats 4000000 in
theorem lp_serve {d o : Nat} (ho : o < 85) : ∀ (f g : Nat) (S : LSt), g + f = 60 → WF S → AW m_serve (d + 3) (.inl (some (.int (nI (svF o f g S).2)))) (wS (svF o f g S).1) (8, [some (.ref 0), some (.int (nI o)), some (.int (nI g)), some (.int (oI (s_ftg S o)))], [], wS S) := by
  intro f
  induction f with
  | zero =>
    intro g S hg hS
    refine aq_gn (n := 2) (c1 := (10, [some (.ref 0), some (.int (nI o)), some (.int (nI g)), some (.int (oI (s_ftg S o)))], [.int (-1), .int (oI (s_ftg S o))], wS S)) ok_m_serve rfl ?_
    refine aq_icmp_eq ok_m_serve rfl (fun h => ?_) (fun h => ?_)
    · refine aq_gn (n := 1) (c1 := (37, [some (.ref 0), some (.int (nI o)), some (.int (nI g)), some (.int (oI (s_ftg S o)))], [.int (nI g)], wS S)) ok_m_serve rfl ?_
      exact aq_ei ok_m_serve rfl rfl rfl rfl
    · refine aq_gn (n := 2) (c1 := (16, [some (.ref 0), some (.int (nI o)), some (.int (nI g)), some (.int (oI (s_ftg S o)))], [.int (nI 60), .int (nI g)], wS S)) ok_m_serve rfl ?_
      refine aq_icmp_ge ok_m_serve rfl (fun h2 => ?_) (fun h2 => ?_)
      · refine aq_gn (n := 1) (c1 := (37, [some (.ref 0), some (.int (nI o)), some (.int (nI g)), some (.int (oI (s_ftg S o)))], [.int (nI g)], wS S)) ok_m_serve rfl ?_
        exact aq_ei ok_m_serve rfl rfl rfl rfl
      · exact absurd (nI_le (show 60 ≤ g by omega) (by omega)) h2
  | succ f ih =>
    intro g S hg hS
    have hlt : ∀ x, s_ftg S o = some x → x < 60 := fun x q => by obtain ⟨-, ⟨i, -, e⟩, -⟩ := ftg_in q; rw [e]; exact hS.1 i
    refine aq_gn (n := 2) (c1 := (10, [some (.ref 0), some (.int (nI o)), some (.int (nI g)), some (.int (oI (s_ftg S o)))], [.int (-1), .int (oI (s_ftg S o))], wS S)) ok_m_serve rfl ?_
    refine aq_icmp_eq ok_m_serve rfl (fun h => ?_) (fun h => ?_)
    · have hx := oI_m1 h (fun x q => by have := hlt x q; omega)
      have e : svF o (f + 1) g S = (S, g) := by rw [svF, hx]
      rw [e]
      refine aq_gn (n := 1) (c1 := (37, [some (.ref 0), some (.int (nI o)), some (.int (nI g)), some (.int (oI (s_ftg S o)))], [.int (nI g)], wS S)) ok_m_serve rfl ?_
      exact aq_ei ok_m_serve rfl rfl rfl rfl
    · obtain ⟨t, hx⟩ := oI_nm1 h
      have e : svF o (f + 1) g S = svF o f (g + 1) (gr S t) := by rw [svF, hx]
      rw [e, hx]
      show AW m_serve _ _ _ (13, [some (.ref 0), some (.int (nI o)), some (.int (nI g)), some (.int (nI t))], [], wS S)
      refine aq_gn (n := 2) (c1 := (16, [some (.ref 0), some (.int (nI o)), some (.int (nI g)), some (.int (nI t))], [.int (nI 60), .int (nI g)], wS S)) ok_m_serve rfl ?_
      refine aq_icmp_ge ok_m_serve rfl (fun h2 => ?_) (fun h2 => ?_)
      · exact absurd (q_le h2 (by omega) (by omega)) (by omega)
      · refine aq_gn (n := 2) (c1 := (21, [some (.ref 0), some (.int (nI o)), some (.int (nI g)), some (.int (nI t))], [.int (nI t), .ref 0], wS S)) ok_m_serve rfl ?_
        refine aq_callV (as := [.int (nI t)]) (st := []) ok_m_serve rfl c0_m_grant (am_grantS hS hx) rfl (Nat.le_of_ble_eq_true rfl) rfl rfl rfl ?_
        refine aq_gn (n := 3) (c1 := (29, [some (.ref 0), some (.int (nI o)), some (.int ((nI g) + 1)), some (.int (nI t))], [.int (nI o), .ref 0], wS (gr S t))) ok_m_serve rfl ?_
        rw [nI_1]
        refine aq_callV (as := [.int (nI o)]) (st := []) ok_m_serve rfl c0_m_firstToGrant (am_firstS (WF_gr hS t) ho) rfl (Nat.le_of_ble_eq_true rfl) rfl rfl rfl ?_
        refine aq_gn (n := 2) (c1 := (8, [some (.ref 0), some (.int (nI o)), some (.int (nI (g + 1))), some (.int (oI (s_ftg (gr S t) o)))], [], wS (gr S t))) ok_m_serve rfl ?_
        exact ih (g + 1) (gr S t) (by omega) (WF_gr hS t)
set_option maxHeartbeats 4000000 in
theorem am_serve {d o : Nat} {S : LSt} (hS : WF S) (ho : o < 85) : AM m_serve (d + 3) (.inl (some (.int (nI (sv S o).2)))) [.ref 0, .int (nI o)] (wS S) (wS (sv S o).1) := by
  refine aq_enter pl_m_serve (Nat.le_of_ble_eq_true rfl) ?_
  refine aq_gn (n := 4) (c1 := (4, [some (.ref 0), some (.int (nI o)), some (.int (nI 0)), none], [.int (nI o), .ref 0], wS S)) ok_m_serve rfl ?_
  refine aq_callV (as := [.int (nI o)]) (st := []) ok_m_serve rfl c0_m_firstToGrant (am_firstS hS ho) rfl (Nat.le_of_ble_eq_true rfl) rfl rfl rfl ?_
  refine aq_gn (n := 1) (c1 := (8, [some (.ref 0), some (.int (nI o)), some (.int (nI 0)), some (.int (oI (s_ftg S o)))], [], wS S)) ok_m_serve rfl ?_
  exact lp_serve ho 60 0 S rfl hS
def s_hl (S : LSt) (ha : Nat → Int64) : LSt := (s_st S, s_pr S, s_aw S, s_wa S, ha, s_la S, s_wr S, s_n S, s_k S, s_c5 S, s_c6 S, s_c7 S)
theorem WF_hl {S : LSt} (h : WF S) (ha : Nat → Int64) : WF (s_hl S ha) := h
def enF (t : Nat) (a : Option Nat) : Nat → Nat → Nat → LSt → LSt × Nat
  | 0, _, g, S => (S, g)
  | f + 1, o, g, S => if (hm (s_ha S) t o).isSome = true ∨ a = some o then enF t a f (o + 1) (g + (sv (s_hl S (lg (s_ha S) t o)) o).2) (sv (s_hl S (lg (s_ha S) t o)) o).1 else enF t a f (o + 1) g (s_hl S (lg (s_ha S) t o))
/-- out of the line, in its last state -/
def lv (S : LSt) (t x : Nat) : LSt := (va_up (s_st S) t x, s_pr S, va_up (s_aw S) t none, va_up (s_wa S) t none, s_ha S, (lqF t (s_k S) 0 0 (s_la S)).1, s_wr S, s_n S, (lqF t (s_k S) 0 0 (s_la S)).2, s_c5 S, s_c6 S, s_c7 S)
theorem WF_lv {S : LSt} (h : WF S) (t x : Nat) (hx : x < 4) : WF (lv S t x) := WF_leave h t x hx _ _ _
def en (S : LSt) (t x : Nat) : LSt × Nat := enF t (s_aw S t) 85 0 0 (lv S t x)
theorem WF_enF {t : Nat} {a : Option Nat} : ∀ (f o g : Nat) (S : LSt), WF S → WF (enF t a f o g S).1 := by
  intro f
  induction f with
  | zero => intro o g S h; exact h
  | succ f ih =>
    intro o g S h
    unfold enF
    split
    · exact ih _ _ _ (WF_sv (WF_hl h _) o)
    · exact ih _ _ _ (WF_hl h _)
theorem WF_en {S : LSt} (h : WF S) (t x : Nat) (hx : x < 4) : WF (en S t x).1 := WF_enF _ _ _ _ (WF_lv h t x hx)
set_option maxHeartbeats 4000000 in
theorem am_letGoS {d : Nat} {S : LSt} {t o : Nat} (ht : t < 60) (ho : o < 85) : AM m_letGo (d + 2) (.inl (some (.int (bI (hm (s_ha S) t o).isSome)))) [.ref 0, .int (nI t), .int (nI o)] (wS S) (wS (s_hl S (lg (s_ha S) t o))) := am_letGo ht ho
set_option maxHeartbeats 4000000 in
theorem lp_end {d : Nat} {t x : Nat} {a : Option Nat} (ht : t < 60) (hab : ∀ y, a = some y → y < 2 ^ 31) : ∀ (f i : Nat), i + f = 85 → ∀ (g : Nat) (S : LSt), WF S → AW m_end (d + 4) (.inl (some (.int (nI (enF t a f i g S).2)))) (wS (enF t a f i g S).1) (25, [some (.ref 0), some (.int (nI t)), some (.int (nI x)), some (.int (oI a)), some (.int (nI g)), some (.int (nI i))], [], wS S) := by
  intro f
  induction f with
  | zero =>
    intro i hif g S hS
    refine aq_gn (n := 2) (c1 := (29, [some (.ref 0), some (.int (nI t)), some (.int (nI x)), some (.int (oI a)), some (.int (nI g)), some (.int (nI i))], [.int (nI 85), .int (nI i)], wS S)) ok_m_end rfl ?_
    refine aq_icmp_ge ok_m_end rfl (fun h => ?_) (fun h => ?_)
    · refine aq_gn (n := 1) (c1 := (67, [some (.ref 0), some (.int (nI t)), some (.int (nI x)), some (.int (oI a)), some (.int (nI g)), some (.int (nI i))], [.int (nI g)], wS S)) ok_m_end rfl ?_
      exact aq_ei ok_m_end rfl rfl rfl rfl
    · exact absurd (nI_le (show 85 ≤ i by omega) (by omega)) h
  | succ f ih =>
    intro i hif g S hS
    refine aq_gn (n := 2) (c1 := (29, [some (.ref 0), some (.int (nI t)), some (.int (nI x)), some (.int (oI a)), some (.int (nI g)), some (.int (nI i))], [.int (nI 85), .int (nI i)], wS S)) ok_m_end rfl ?_
    refine aq_icmp_ge ok_m_end rfl (fun h => ?_) (fun h => ?_)
    · exact absurd (q_le h (by omega) (by omega)) (by omega)
    · refine aq_gn (n := 3) (c1 := (36, [some (.ref 0), some (.int (nI t)), some (.int (nI x)), some (.int (oI a)), some (.int (nI g)), some (.int (nI i))], [.int (nI i), .int (nI t), .ref 0], wS S)) ok_m_end rfl ?_
      refine aq_callV (as := [.int (nI t), .int (nI i)]) (st := []) ok_m_end rfl c0_m_letGo (am_letGoS (d := d + 1) ht (show i < 85 by omega)) rfl (Nat.le_of_ble_eq_true rfl) rfl rfl rfl ?_
      refine aq_if_ne ok_m_end rfl (fun h2 => ?_) (fun h2 => ?_)
      · have hc : (hm (s_ha S) t i).isSome = true ∨ a = some i := Or.inl (by cases hy : (hm (s_ha S) t i).isSome with | true => rfl | false => exact absurd ((bI_0 _).mpr hy) h2)
        refine aq_gn (n := 3) (c1 := (53, [some (.ref 0), some (.int (nI t)), some (.int (nI x)), some (.int (oI a)), some (.int (nI g)), some (.int (nI i))], [.int (nI i), .ref 0, .int (nI g)], wS (s_hl S (lg (s_ha S) t i)))) ok_m_end rfl ?_
        refine aq_callV (as := [.int (nI i)]) (st := [.int (nI g)]) ok_m_end rfl c0_m_serve (am_serve (WF_hl hS _) (show i < 85 by omega)) rfl (Nat.le_of_ble_eq_true rfl) rfl rfl rfl ?_
        refine aq_gn (n := 4) (c1 := (25, [some (.ref 0), some (.int (nI t)), some (.int (nI x)), some (.int (oI a)), some (.int ((nI g) + (nI (sv (s_hl S (lg (s_ha S) t i)) i).2))), some (.int ((nI i) + 1))], [], wS (sv (s_hl S (lg (s_ha S) t i)) i).1)) ok_m_end rfl ?_
        rw [nI_add, nI_1]
        have e : enF t a (f + 1) i g S = enF t a f (i + 1) (g + (sv (s_hl S (lg (s_ha S) t i)) i).2) (sv (s_hl S (lg (s_ha S) t i)) i).1 := by rw [enF, if_pos hc]
        rw [e]
        exact ih (i + 1) (by omega) _ _ (WF_sv (WF_hl hS _) i)
      · have hb := (bI_0 _).mp h2
        refine aq_gn (n := 2) (c1 := (45, [some (.ref 0), some (.int (nI t)), some (.int (nI x)), some (.int (oI a)), some (.int (nI g)), some (.int (nI i))], [.int (oI a), .int (nI i)], wS (s_hl S (lg (s_ha S) t i)))) ok_m_end rfl ?_
        refine aq_icmp_ne ok_m_end rfl (fun h3 => ?_) (fun h3 => ?_)
        · have hd : ¬ ((hm (s_ha S) t i).isSome = true ∨ a = some i) := by
            rintro (q | q)
            · rw [hb] at q; cases q
            · exact h3 (by rw [q]; rfl)
          refine aq_gn (n := 2) (c1 := (25, [some (.ref 0), some (.int (nI t)), some (.int (nI x)), some (.int (oI a)), some (.int (nI g)), some (.int ((nI i) + 1))], [], wS (s_hl S (lg (s_ha S) t i)))) ok_m_end rfl ?_
          rw [nI_1]
          have e : enF t a (f + 1) i g S = enF t a f (i + 1) g (s_hl S (lg (s_ha S) t i)) := by rw [enF, if_neg hd]
          rw [e]
          exact ih (i + 1) (by omega) _ _ (WF_hl hS _)
        · have hc : (hm (s_ha S) t i).isSome = true ∨ a = some i := Or.inr (oI_eq h3.symm (by omega) hab)
          refine aq_gn (n := 3) (c1 := (53, [some (.ref 0), some (.int (nI t)), some (.int (nI x)), some (.int (oI a)), some (.int (nI g)), some (.int (nI i))], [.int (nI i), .ref 0, .int (nI g)], wS (s_hl S (lg (s_ha S) t i)))) ok_m_end rfl ?_
          refine aq_callV (as := [.int (nI i)]) (st := [.int (nI g)]) ok_m_end rfl c0_m_serve (am_serve (WF_hl hS _) (show i < 85 by omega)) rfl (Nat.le_of_ble_eq_true rfl) rfl rfl rfl ?_
          refine aq_gn (n := 4) (c1 := (25, [some (.ref 0), some (.int (nI t)), some (.int (nI x)), some (.int (oI a)), some (.int ((nI g) + (nI (sv (s_hl S (lg (s_ha S) t i)) i).2))), some (.int ((nI i) + 1))], [], wS (sv (s_hl S (lg (s_ha S) t i)) i).1)) ok_m_end rfl ?_
          rw [nI_add, nI_1]
          have e : enF t a (f + 1) i g S = enF t a f (i + 1) (g + (sv (s_hl S (lg (s_ha S) t i)) i).2) (sv (s_hl S (lg (s_ha S) t i)) i).1 := by rw [enF, if_pos hc]
          rw [e]
          exact ih (i + 1) (by omega) _ _ (WF_sv (WF_hl hS _) i)
set_option maxHeartbeats 4000000 in
theorem am_end {d : Nat} {t x : Nat} {S : LSt} (hS : WF S) (ht : t < 60) (hx : x < 4) : AM m_end (d + 4) (.inl (some (.int (nI (en S t x).2)))) [.ref 0, .int (nI t), .int (nI x)] (wS S) (wS (en S t x).1) := by
  refine aq_enter pl_m_end (Nat.le_of_ble_eq_true rfl) ?_
  obtain ⟨st, pr, aw, wa, ha, la, wr, n, k, c5, c6, c7⟩ := S
  show AW m_end _ _ _ (0, [some (.ref 0), some (.int (nI t)), some (.int (nI x)), none, none, none], [], wL st pr aw wa ha la wr n k c5 c6 c7)
  refine aq_go (n := 12) (c1 := (16, [some (.ref 0), some (.int (nI t)), some (.int (nI x)), some (.int (oI (aw (nI t).toNatClampNeg))), none, none], [.int (nI t), .ref 0], wR (upd (fun i => nI (st i)) (nI t).toNatClampNeg (nI x)) (fun i => nI (pr i)) (fun i => oI (aw i)) (fun i => oI (wa i)) ha (fun i => nI (la i)) wr (nI n) (nI k) (nI c5) (nI c6) (nI c7))) (P := vp_in (nI t) 60 ∧ vp_in (nI t) 60) ok_m_end rfl ⟨(in60 ht), (in60 ht)⟩ ?_
  rw [cl60 ht, upd_n]
  refine aq_callV (as := [.int (nI t)]) (st := []) ok_m_end rfl c0_m_leaveQueue (am_leaveQueue (d := d + 3) (st := va_up st t x) ht hS.2.1 hS.1) rfl (Nat.le_of_ble_eq_true rfl) rfl rfl rfl ?_
  refine aq_gn (n := 4) (c1 := (25, [some (.ref 0), some (.int (nI t)), some (.int (nI x)), some (.int (oI (aw t))), some (.int (nI 0)), some (.int (nI 0))], [], wS (lv (st, pr, aw, wa, ha, la, wr, n, k, c5, c6, c7) t x))) ok_m_end rfl ?_
  exact lp_end (x := x) ht (fun y q => by have := hS.2.2.2.1 t y q; omega) 85 0 rfl 0 _ (WF_lv hS t x hx)
end
section
/-! THE CLASS: circles -/
def rfI (wr : Nat → Int64) : Nat → Nat → Int64 → Int64
  | 0, _, a => a
  | f + 1, i, a => rfI wr f (i + 1) (if lb a i then a ||| wr i else a)
def rfO (wr : Nat → Int64) (n : Nat) : Nat → Int64 → Int64
  | 0, a => a
  | f + 1, a => if rfI wr n 0 a = a then rfI wr n 0 a else rfO wr n f (rfI wr n 0 a)
def rgI (wr : Nat → Int64) : Nat → Nat → Int64 → Int64
  | 0, _, a => a
  | f + 1, i, a => rgI wr f (i + 1) (if wr i &&& a = 0 then a else a ||| lbit i)
def rgO (wr : Nat → Int64) (n : Nat) : Nat → Int64 → Int64
  | 0, a => a
  | f + 1, a => if rgI wr n 0 a = a then rgI wr n 0 a else rgO wr n f (rgI wr n 0 a)
def wkF (pr : Nat → Nat) (c : Int64) : Nat → Nat → Option Nat → Option Nat
  | 0, _, w => w
  | f + 1, t, w => wkF pr c f (t + 1) (if lb c t = true ∧ (∀ u, w = some u → pr t ≤ pr u) then some t else w)
def crF (q : Nat → Int64) : Nat → Nat → (Nat → Int64) → (Nat → Int64)
  | 0, _, r => r
  | f + 1, i, r => crF q f (i + 1) (vp_updL r i (q i))
set_option maxHeartbeats 4000000 in
theorem lp_rf1 {d : Nat} {st pr : Nat → Nat} {aw wa : Nat → Option Nat} {ha : Nat → Int64} {la : Nat → Nat} {wr : Nat → Int64} {n k c5 c6 c7 : Nat} {t r : Nat} {z : Int64} {O : aq_O} {w9 : List va_E} (hn : n ≤ 60) : ∀ (f i : Nat), i + f = n → ∀ a : Int64, AW m_reachedFrom (d + 1) O w9 (60, [some (.ref 0), some (.int (nI t)), some (.long (rfI wr f i a)), none, some (.int (nI r)), some (.long z), none, some (.int (nI n))], [], wL st pr aw wa ha la wr n k c5 c6 c7) → AW m_reachedFrom (d + 1) O w9 (23, [some (.ref 0), some (.int (nI t)), some (.long a), none, some (.int (nI r)), some (.long z), none, some (.int (nI i))], [], wL st pr aw wa ha la wr n k c5 c6 c7) := by
  intro f
  induction f with
  | zero =>
    intro i hif a K
    have e : i = n := by omega
    subst e
    refine aq_gn (n := 3) (c1 := (29, [some (.ref 0), some (.int (nI t)), some (.long a), none, some (.int (nI r)), some (.long z), none, some (.int (nI i))], [.int (nI i), .int (nI i)], wL st pr aw wa ha la wr i k c5 c6 c7)) ok_m_reachedFrom rfl ?_
    refine aq_icmp_ge ok_m_reachedFrom rfl (fun h => ?_) (fun h => ?_)
    · exact K
    · exact absurd (nI_le (Nat.le_refl i) (by omega)) h
  | succ f ih =>
    intro i hif a K
    refine aq_gn (n := 3) (c1 := (29, [some (.ref 0), some (.int (nI t)), some (.long a), none, some (.int (nI r)), some (.long z), none, some (.int (nI i))], [.int (nI n), .int (nI i)], wL st pr aw wa ha la wr n k c5 c6 c7)) ok_m_reachedFrom rfl ?_
    refine aq_icmp_ge ok_m_reachedFrom rfl (fun h => ?_) (fun h => ?_)
    · exact absurd (q_le h (by omega) (by omega)) (by omega)
    · refine aq_gn (n := 2) (c1 := (35, [some (.ref 0), some (.int (nI t)), some (.long a), none, some (.int (nI r)), some (.long z), none, some (.int (nI i))], [.int (nI i), .long a], wL st pr aw wa ha la wr n k c5 c6 c7)) ok_m_reachedFrom rfl ?_
      refine aq_callS (as := [.int (nI i)]) (st := [.long a]) ok_m_reachedFrom rfl c0_m_bit (am_bit i) rfl (Nat.le_of_ble_eq_true rfl) ?_
      refine aq_gn (n := 3) (c1 := (41, [some (.ref 0), some (.int (nI t)), some (.long a), none, some (.int (nI r)), some (.long z), none, some (.int (nI i))], [.int (lg_cmp (a &&& (lbit i)) 0)], wL st pr aw wa ha la wr n k c5 c6 c7)) ok_m_reachedFrom rfl ?_
      refine aq_if_eq ok_m_reachedFrom rfl (fun h2 => ?_) (fun h2 => ?_)
      · have hb : lb a i = false := (lb_bit_and (by omega)).mp ((lg_cmp_0 _ _).mp h2)
        refine aq_gn (n := 2) (c1 := (23, [some (.ref 0), some (.int (nI t)), some (.long a), none, some (.int (nI r)), some (.long z), none, some (.int ((nI i) + 1))], [], wL st pr aw wa ha la wr n k c5 c6 c7)) ok_m_reachedFrom rfl ?_
        rw [nI_1]
        exact ih (i + 1) (by omega) a (by rw [show rfI wr (f + 1) i a = rfI wr f (i + 1) a by simp [rfI, hb]] at K; exact K)
      · have hb : lb a i = true := by cases hx : lb a i with | true => rfl | false => exact absurd ((lg_cmp_0 _ _).mpr ((lb_bit_and (by omega)).mpr hx)) h2
        refine aq_go (n := 9) (c1 := (23, [some (.ref 0), some (.int (nI t)), some (.long (a ||| (wr (nI i).toNatClampNeg))), none, some (.int (nI r)), some (.long z), none, some (.int ((nI i) + 1))], [], wL st pr aw wa ha la wr n k c5 c6 c7)) (P := vp_in (nI i) 60) ok_m_reachedFrom rfl (in60 (by omega)) ?_
        rw [cl60 (show i < 60 by omega), nI_1]
        exact ih (i + 1) (by omega) _ (by rw [show rfI wr (f + 1) i a = rfI wr f (i + 1) (a ||| wr i) by simp [rfI, hb]] at K; exact K)
set_option maxHeartbeats 4000000 in
theorem lp_rg1 {d : Nat} {st pr : Nat → Nat} {aw wa : Nat → Option Nat} {ha : Nat → Int64} {la : Nat → Nat} {wr : Nat → Int64} {n k c5 c6 c7 : Nat} {t r : Nat} {z : Int64} {O : aq_O} {w9 : List va_E} (hn : n ≤ 60) : ∀ (f i : Nat), i + f = n → ∀ a : Int64, AW m_reaching (d + 1) O w9 (58, [some (.ref 0), some (.int (nI t)), some (.long (rgI wr f i a)), none, some (.int (nI r)), some (.long z), none, some (.int (nI n))], [], wL st pr aw wa ha la wr n k c5 c6 c7) → AW m_reaching (d + 1) O w9 (21, [some (.ref 0), some (.int (nI t)), some (.long a), none, some (.int (nI r)), some (.long z), none, some (.int (nI i))], [], wL st pr aw wa ha la wr n k c5 c6 c7) := by
  intro f
  induction f with
  | zero =>
    intro i hif a K
    have e : i = n := by omega
    subst e
    refine aq_gn (n := 3) (c1 := (27, [some (.ref 0), some (.int (nI t)), some (.long a), none, some (.int (nI r)), some (.long z), none, some (.int (nI i))], [.int (nI i), .int (nI i)], wL st pr aw wa ha la wr i k c5 c6 c7)) ok_m_reaching rfl ?_
    refine aq_icmp_ge ok_m_reaching rfl (fun h => ?_) (fun h => ?_)
    · exact K
    · exact absurd (nI_le (Nat.le_refl i) (by omega)) h
  | succ f ih =>
    intro i hif a K
    refine aq_gn (n := 3) (c1 := (27, [some (.ref 0), some (.int (nI t)), some (.long a), none, some (.int (nI r)), some (.long z), none, some (.int (nI i))], [.int (nI n), .int (nI i)], wL st pr aw wa ha la wr n k c5 c6 c7)) ok_m_reaching rfl ?_
    refine aq_icmp_ge ok_m_reaching rfl (fun h => ?_) (fun h => ?_)
    · exact absurd (q_le h (by omega) (by omega)) (by omega)
    · refine aq_go (n := 8) (c1 := (41, [some (.ref 0), some (.int (nI t)), some (.long a), none, some (.int (nI r)), some (.long z), none, some (.int (nI i))], [.int (lg_cmp ((wr (nI i).toNatClampNeg) &&& a) 0)], wL st pr aw wa ha la wr n k c5 c6 c7)) (P := vp_in (nI i) 60) ok_m_reaching rfl (in60 (by omega)) ?_
      rw [cl60 (show i < 60 by omega)]
      refine aq_if_eq ok_m_reaching rfl (fun h2 => ?_) (fun h2 => ?_)
      · have hb := (lg_cmp_0 _ _).mp h2
        refine aq_gn (n := 2) (c1 := (21, [some (.ref 0), some (.int (nI t)), some (.long a), none, some (.int (nI r)), some (.long z), none, some (.int ((nI i) + 1))], [], wL st pr aw wa ha la wr n k c5 c6 c7)) ok_m_reaching rfl ?_
        rw [nI_1]
        exact ih (i + 1) (by omega) a (by rw [show rgI wr (f + 1) i a = rgI wr f (i + 1) a by simp [rgI, hb]] at K; exact K)
      · have hb : ¬ wr i &&& a = 0 := fun q => h2 ((lg_cmp_0 _ _).mpr q)
        refine aq_gn (n := 2) (c1 := (47, [some (.ref 0), some (.int (nI t)), some (.long a), none, some (.int (nI r)), some (.long z), none, some (.int (nI i))], [.int (nI i), .long a], wL st pr aw wa ha la wr n k c5 c6 c7)) ok_m_reaching rfl ?_
        refine aq_callS (as := [.int (nI i)]) (st := [.long a]) ok_m_reaching rfl c0_m_bit (am_bit i) rfl (Nat.le_of_ble_eq_true rfl) ?_
        refine aq_gn (n := 4) (c1 := (21, [some (.ref 0), some (.int (nI t)), some (.long (a ||| (lbit i))), none, some (.int (nI r)), some (.long z), none, some (.int ((nI i) + 1))], [], wL st pr aw wa ha la wr n k c5 c6 c7)) ok_m_reaching rfl ?_
        rw [nI_1]
        exact ih (i + 1) (by omega) _ (by rw [show rgI wr (f + 1) i a = rgI wr f (i + 1) (a ||| lbit i) by simp [rgI, hb]] at K; exact K)
set_option maxHeartbeats 4000000 in
theorem lp_rf {d : Nat} {st pr : Nat → Nat} {aw wa : Nat → Option Nat} {ha : Nat → Int64} {la : Nat → Nat} {wr : Nat → Int64} {n k c5 c6 c7 : Nat} {t : Nat} (hn : n ≤ 60) : ∀ (f i : Nat), i + f = 60 → ∀ a : Int64,  AW m_reachedFrom (d + 1) (.inl (some (.long (rfO wr n f a)))) (wL st pr aw wa ha la wr n k c5 c6 c7) (10, [some (.ref 0), some (.int (nI t)), some (.long a), none, some (.int (nI i)), none, none, none], [], wL st pr aw wa ha la wr n k c5 c6 c7) := by
  intro f
  induction f with
  | zero =>
    intro i hif a
    refine aq_gn (n := 2) (c1 := (14, [some (.ref 0), some (.int (nI t)), some (.long a), none, some (.int (nI i)), none, none, none], [.int (nI 60), .int (nI i)], wL st pr aw wa ha la wr n k c5 c6 c7)) ok_m_reachedFrom rfl ?_
    refine aq_icmp_ge ok_m_reachedFrom rfl (fun h => ?_) (fun h => ?_)
    · refine aq_gn (n := 1) (c1 := (77, [some (.ref 0), some (.int (nI t)), some (.long a), none, some (.int (nI i)), none, none, none], [.long a], wL st pr aw wa ha la wr n k c5 c6 c7)) ok_m_reachedFrom rfl ?_
      exact aq_el ok_m_reachedFrom rfl rfl rfl rfl
    · exact absurd (nI_le (show 60 ≤ i by omega) (by omega)) h
  | succ f ih =>
    intro i hif a
    refine aq_gn (n := 2) (c1 := (14, [some (.ref 0), some (.int (nI t)), some (.long a), none, some (.int (nI i)), none, none, none], [.int (nI 60), .int (nI i)], wL st pr aw wa ha la wr n k c5 c6 c7)) ok_m_reachedFrom rfl ?_
    refine aq_icmp_ge ok_m_reachedFrom rfl (fun h => ?_) (fun h => ?_)
    · exact absurd (q_le h (by omega) (by omega)) (by omega)
    · refine aq_gn (n := 4) (c1 := (23, [some (.ref 0), some (.int (nI t)), some (.long a), none, some (.int (nI i)), some (.long a), none, some (.int (nI 0))], [], wL st pr aw wa ha la wr n k c5 c6 c7)) ok_m_reachedFrom rfl ?_
      refine lp_rf1 (t := t) (r := i) (z := a) hn n 0 (by omega) a ?_
      refine aq_gn (n := 3) (c1 := (64, [some (.ref 0), some (.int (nI t)), some (.long (rfI wr n 0 a)), none, some (.int (nI i)), some (.long a), none, some (.int (nI n))], [.int (lg_cmp (rfI wr n 0 a) a)], wL st pr aw wa ha la wr n k c5 c6 c7)) ok_m_reachedFrom rfl ?_
      refine aq_if_ne ok_m_reachedFrom rfl (fun h2 => ?_) (fun h2 => ?_)
      · have hb : ¬ rfI wr n 0 a = a := fun q => h2 ((lg_cmp_0 _ _).mpr q)
        refine aq_gn (n := 2) (c1 := (10, [some (.ref 0), some (.int (nI t)), some (.long (rfI wr n 0 a)), none, some (.int ((nI i) + 1)), some (.long a), none, some (.int (nI n))], [], wL st pr aw wa ha la wr n k c5 c6 c7)) ok_m_reachedFrom rfl ?_
        rw [nI_1]
        have e : rfO wr n (f + 1) a = rfO wr n f (rfI wr n 0 a) := by rw [rfO, if_neg hb]
        rw [e]
        refine aq_drop 5 (aq_drop 7 ?_)
        exact ih (i + 1) (by omega) _
      · have hb := (lg_cmp_0 _ _).mp h2
        refine aq_gn (n := 2) (c1 := (77, [some (.ref 0), some (.int (nI t)), some (.long (rfI wr n 0 a)), none, some (.int (nI i)), some (.long a), none, some (.int (nI n))], [.long (rfI wr n 0 a)], wL st pr aw wa ha la wr n k c5 c6 c7)) ok_m_reachedFrom rfl ?_
        exact aq_el ok_m_reachedFrom rfl rfl (by rw [rfO, if_pos hb]) rfl
set_option maxHeartbeats 4000000 in
theorem lp_rg {d : Nat} {st pr : Nat → Nat} {aw wa : Nat → Option Nat} {ha : Nat → Int64} {la : Nat → Nat} {wr : Nat → Int64} {n k c5 c6 c7 : Nat} {t : Nat} (hn : n ≤ 60) : ∀ (f i : Nat), i + f = 60 → ∀ a : Int64,  AW m_reaching (d + 1) (.inl (some (.long (rgO wr n f a)))) (wL st pr aw wa ha la wr n k c5 c6 c7) (8, [some (.ref 0), some (.int (nI t)), some (.long a), none, some (.int (nI i)), none, none, none], [], wL st pr aw wa ha la wr n k c5 c6 c7) := by
  intro f
  induction f with
  | zero =>
    intro i hif a
    refine aq_gn (n := 2) (c1 := (12, [some (.ref 0), some (.int (nI t)), some (.long a), none, some (.int (nI i)), none, none, none], [.int (nI 60), .int (nI i)], wL st pr aw wa ha la wr n k c5 c6 c7)) ok_m_reaching rfl ?_
    refine aq_icmp_ge ok_m_reaching rfl (fun h => ?_) (fun h => ?_)
    · refine aq_gn (n := 1) (c1 := (75, [some (.ref 0), some (.int (nI t)), some (.long a), none, some (.int (nI i)), none, none, none], [.long a], wL st pr aw wa ha la wr n k c5 c6 c7)) ok_m_reaching rfl ?_
      exact aq_el ok_m_reaching rfl rfl rfl rfl
    · exact absurd (nI_le (show 60 ≤ i by omega) (by omega)) h
  | succ f ih =>
    intro i hif a
    refine aq_gn (n := 2) (c1 := (12, [some (.ref 0), some (.int (nI t)), some (.long a), none, some (.int (nI i)), none, none, none], [.int (nI 60), .int (nI i)], wL st pr aw wa ha la wr n k c5 c6 c7)) ok_m_reaching rfl ?_
    refine aq_icmp_ge ok_m_reaching rfl (fun h => ?_) (fun h => ?_)
    · exact absurd (q_le h (by omega) (by omega)) (by omega)
    · refine aq_gn (n := 4) (c1 := (21, [some (.ref 0), some (.int (nI t)), some (.long a), none, some (.int (nI i)), some (.long a), none, some (.int (nI 0))], [], wL st pr aw wa ha la wr n k c5 c6 c7)) ok_m_reaching rfl ?_
      refine lp_rg1 (t := t) (r := i) (z := a) hn n 0 (by omega) a ?_
      refine aq_gn (n := 3) (c1 := (62, [some (.ref 0), some (.int (nI t)), some (.long (rgI wr n 0 a)), none, some (.int (nI i)), some (.long a), none, some (.int (nI n))], [.int (lg_cmp (rgI wr n 0 a) a)], wL st pr aw wa ha la wr n k c5 c6 c7)) ok_m_reaching rfl ?_
      refine aq_if_ne ok_m_reaching rfl (fun h2 => ?_) (fun h2 => ?_)
      · have hb : ¬ rgI wr n 0 a = a := fun q => h2 ((lg_cmp_0 _ _).mpr q)
        refine aq_gn (n := 2) (c1 := (8, [some (.ref 0), some (.int (nI t)), some (.long (rgI wr n 0 a)), none, some (.int ((nI i) + 1)), some (.long a), none, some (.int (nI n))], [], wL st pr aw wa ha la wr n k c5 c6 c7)) ok_m_reaching rfl ?_
        rw [nI_1]
        have e : rgO wr n (f + 1) a = rgO wr n f (rgI wr n 0 a) := by rw [rgO, if_neg hb]
        rw [e]
        refine aq_drop 5 (aq_drop 7 ?_)
        exact ih (i + 1) (by omega) _
      · have hb := (lg_cmp_0 _ _).mp h2
        refine aq_gn (n := 2) (c1 := (75, [some (.ref 0), some (.int (nI t)), some (.long (rgI wr n 0 a)), none, some (.int (nI i)), some (.long a), none, some (.int (nI n))], [.long (rgI wr n 0 a)], wL st pr aw wa ha la wr n k c5 c6 c7)) ok_m_reaching rfl ?_
        exact aq_el ok_m_reaching rfl rfl (by rw [rgO, if_pos hb]) rfl
set_option maxHeartbeats 4000000 in
theorem am_reachedFrom {d : Nat} {st pr : Nat → Nat} {aw wa : Nat → Option Nat} {ha : Nat → Int64} {la : Nat → Nat} {wr : Nat → Int64} {n k c5 c6 c7 : Nat} {t : Nat} (ht : t < 60) (hn : n ≤ 60) : AM m_reachedFrom (d + 1) (.inl (some (.long (rfO wr n 60 (wr t))))) [.ref 0, .int (nI t)] (wL st pr aw wa ha la wr n k c5 c6 c7) (wL st pr aw wa ha la wr n k c5 c6 c7) := by
  refine aq_enter pl_m_reachedFrom (Nat.le_of_ble_eq_true rfl) ?_
  refine aq_go (n := 7) (c1 := (10, [some (.ref 0), some (.int (nI t)), some (.long (wr (nI t).toNatClampNeg)), none, some (.int (nI 0)), none, none, none], [], wL st pr aw wa ha la wr n k c5 c6 c7)) (P := vp_in (nI t) 60) ok_m_reachedFrom rfl (in60 ht) ?_
  rw [cl60 ht]
  exact lp_rf hn 60 0 rfl _
set_option maxHeartbeats 4000000 in
theorem am_reaching {d : Nat} {st pr : Nat → Nat} {aw wa : Nat → Option Nat} {ha : Nat → Int64} {la : Nat → Nat} {wr : Nat → Int64} {n k c5 c6 c7 : Nat} {t : Nat} (hn : n ≤ 60) : AM m_reaching (d + 1) (.inl (some (.long (rgO wr n 60 (lbit t))))) [.ref 0, .int (nI t)] (wL st pr aw wa ha la wr n k c5 c6 c7) (wL st pr aw wa ha la wr n k c5 c6 c7) := by
  refine aq_enter pl_m_reaching (Nat.le_of_ble_eq_true rfl) ?_
  refine aq_gn (n := 1) (c1 := (1, [some (.ref 0), some (.int (nI t)), none, none, none, none, none, none], [.int (nI t)], wL st pr aw wa ha la wr n k c5 c6 c7)) ok_m_reaching rfl ?_
  refine aq_callS (as := [.int (nI t)]) (st := []) ok_m_reaching rfl c0_m_bit (am_bit t) rfl (Nat.le_of_ble_eq_true rfl) ?_
  refine aq_gn (n := 3) (c1 := (8, [some (.ref 0), some (.int (nI t)), some (.long (lbit t)), none, some (.int (nI 0)), none, none, none], [], wL st pr aw wa ha la wr n k c5 c6 c7)) ok_m_reaching rfl ?_
  exact lp_rg hn 60 0 rfl _
set_option maxHeartbeats 4000000 in
theorem lp_weakest {d : Nat} {st pr : Nat → Nat} {aw wa : Nat → Option Nat} {ha : Nat → Int64} {la : Nat → Nat} {wr : Nat → Int64} {n k c5 c6 c7 : Nat} {c : Int64} (hn : n ≤ 60) (hpr : ∀ t, pr t < 100) : ∀ (f i : Nat), i + f = n → ∀ w : Option Nat, (∀ u, w = some u → u < i) → AW m_weakestOf (d + 1) (.inl (some (.int (oI (wkF pr c f i w))))) (wL st pr aw wa ha la wr n k c5 c6 c7) (5, [some (.ref 0), some (.long c), none, some (.int (oI w)), some (.int (nI i))], [], wL st pr aw wa ha la wr n k c5 c6 c7) := by
  intro f
  induction f with
  | zero =>
    intro i hif w hw
    refine aq_gn (n := 3) (c1 := (11, [some (.ref 0), some (.long c), none, some (.int (oI w)), some (.int (nI i))], [.int (nI n), .int (nI i)], wL st pr aw wa ha la wr n k c5 c6 c7)) ok_m_weakestOf rfl ?_
    refine aq_icmp_ge ok_m_weakestOf rfl (fun h => ?_) (fun h => ?_)
    · refine aq_gn (n := 1) (c1 := (57, [some (.ref 0), some (.long c), none, some (.int (oI w)), some (.int (nI i))], [.int (oI w)], wL st pr aw wa ha la wr n k c5 c6 c7)) ok_m_weakestOf rfl ?_
      exact aq_ei ok_m_weakestOf rfl rfl rfl rfl
    · exact absurd (nI_le (show n ≤ i by omega) (by omega)) h
  | succ f ih =>
    intro i hif w hw
    refine aq_gn (n := 3) (c1 := (11, [some (.ref 0), some (.long c), none, some (.int (oI w)), some (.int (nI i))], [.int (nI n), .int (nI i)], wL st pr aw wa ha la wr n k c5 c6 c7)) ok_m_weakestOf rfl ?_
    refine aq_icmp_ge ok_m_weakestOf rfl (fun h => ?_) (fun h => ?_)
    · exact absurd (q_le h (by omega) (by omega)) (by omega)
    · refine aq_gn (n := 2) (c1 := (17, [some (.ref 0), some (.long c), none, some (.int (oI w)), some (.int (nI i))], [.int (nI i), .long c], wL st pr aw wa ha la wr n k c5 c6 c7)) ok_m_weakestOf rfl ?_
      refine aq_callS (as := [.int (nI i)]) (st := [.long c]) ok_m_weakestOf rfl c0_m_bit (am_bit i) rfl (Nat.le_of_ble_eq_true rfl) ?_
      refine aq_gn (n := 3) (c1 := (23, [some (.ref 0), some (.long c), none, some (.int (oI w)), some (.int (nI i))], [.int (lg_cmp (c &&& (lbit i)) 0)], wL st pr aw wa ha la wr n k c5 c6 c7)) ok_m_weakestOf rfl ?_
      refine aq_if_eq ok_m_weakestOf rfl (fun h2 => ?_) (fun h2 => ?_)
      · have hb : lb c i = false := (lb_bit_and (by omega)).mp ((lg_cmp_0 _ _).mp h2)
        refine aq_gn (n := 2) (c1 := (5, [some (.ref 0), some (.long c), none, some (.int (oI w)), some (.int ((nI i) + 1))], [], wL st pr aw wa ha la wr n k c5 c6 c7)) ok_m_weakestOf rfl ?_
        rw [nI_1]
        have e : wkF pr c (f + 1) i w = wkF pr c f (i + 1) w := by simp [wkF, hb]
        rw [e]
        exact ih (i + 1) (by omega) w (fun u q => Nat.lt_succ_of_lt (hw u q))
      · have hb : lb c i = true := by cases hx : lb c i with | true => rfl | false => exact absurd ((lg_cmp_0 _ _).mpr ((lb_bit_and (by omega)).mpr hx)) h2
        refine aq_gn (n := 2) (c1 := (28, [some (.ref 0), some (.long c), none, some (.int (oI w)), some (.int (nI i))], [.int (-1), .int (oI w)], wL st pr aw wa ha la wr n k c5 c6 c7)) ok_m_weakestOf rfl ?_
        refine aq_icmp_eq ok_m_weakestOf rfl (fun h3 => ?_) (fun h3 => ?_)
        · have hx := oI_m1 h3 (fun x q => by have := hw x q; omega)
          refine aq_gn (n := 4) (c1 := (5, [some (.ref 0), some (.long c), none, some (.int (nI i)), some (.int ((nI i) + 1))], [], wL st pr aw wa ha la wr n k c5 c6 c7)) ok_m_weakestOf rfl ?_
          rw [nI_1]
          have e : wkF pr c (f + 1) i w = wkF pr c f (i + 1) (some i) := by rw [wkF, if_pos ⟨hb, fun u q => by rw [hx] at q; cases q⟩]
          rw [e]
          exact ih (i + 1) (by omega) (some i) (fun u q => by cases q; omega)
        · obtain ⟨u, hx⟩ := oI_nm1 h3
          have hu := hw u hx
          subst hx
          show AW m_weakestOf _ _ _ (31, [some (.ref 0), some (.long c), none, some (.int (nI u)), some (.int (nI i))], [], wL st pr aw wa ha la wr n k c5 c6 c7)
          refine aq_go (n := 8) (c1 := (44, [some (.ref 0), some (.long c), none, some (.int (nI u)), some (.int (nI i))], [.int (nI (pr (nI u).toNatClampNeg)), .int (nI (pr (nI i).toNatClampNeg))], wL st pr aw wa ha la wr n k c5 c6 c7)) (P := vp_in (nI i) 60 ∧ vp_in (nI u) 60) ok_m_weakestOf rfl ⟨(in60 (by omega)), (in60 (by omega))⟩ ?_
          rw [cl60 (show i < 60 by omega), cl60 (show u < 60 by omega)]
          refine aq_icmp_gt ok_m_weakestOf rfl (fun h4 => ?_) (fun h4 => ?_)
          · have hy := q_lt h4 (by have := hpr u; omega) (by have := hpr i; omega)
            refine aq_gn (n := 2) (c1 := (5, [some (.ref 0), some (.long c), none, some (.int (nI u)), some (.int ((nI i) + 1))], [], wL st pr aw wa ha la wr n k c5 c6 c7)) ok_m_weakestOf rfl ?_
            rw [nI_1]
            have e : wkF pr c (f + 1) i (some u) = wkF pr c f (i + 1) (some u) := by rw [wkF, if_neg (fun q => by have := q.2 u rfl; omega)]
            rw [e]
            exact ih (i + 1) (by omega) (some u) (fun v q => by cases q; omega)
          · have hy := q_nlt h4 (by have := hpr u; omega) (by have := hpr i; omega)
            refine aq_gn (n := 4) (c1 := (5, [some (.ref 0), some (.long c), none, some (.int (nI i)), some (.int ((nI i) + 1))], [], wL st pr aw wa ha la wr n k c5 c6 c7)) ok_m_weakestOf rfl ?_
            rw [nI_1]
            have e : wkF pr c (f + 1) i (some u) = wkF pr c f (i + 1) (some i) := by rw [wkF, if_pos ⟨hb, fun v q => by cases q; exact hy⟩]
            rw [e]
            exact ih (i + 1) (by omega) (some i) (fun v q => by cases q; omega)
set_option maxHeartbeats 4000000 in
theorem am_weakest {d : Nat} {st pr : Nat → Nat} {aw wa : Nat → Option Nat} {ha : Nat → Int64} {la : Nat → Nat} {wr : Nat → Int64} {n k c5 c6 c7 : Nat} {c : Int64} (hn : n ≤ 60) (hpr : ∀ t, pr t < 100) : AM m_weakestOf (d + 1) (.inl (some (.int (oI (wkF pr c n 0 none))))) [.ref 0, .long c] (wL st pr aw wa ha la wr n k c5 c6 c7) (wL st pr aw wa ha la wr n k c5 c6 c7) := by
  refine aq_enter pl_m_weakestOf (Nat.le_of_ble_eq_true rfl) ?_
  refine aq_gn (n := 4) (c1 := (5, [some (.ref 0), some (.long c), none, some (.int (-1)), some (.int (nI 0))], [], wL st pr aw wa ha la wr n k c5 c6 c7)) ok_m_weakestOf rfl ?_
  exact lp_weakest hn hpr n 0 (by omega) none (fun u q => by cases q)
set_option maxHeartbeats 4000000 in
theorem lp_circle {d : Nat} {st pr : Nat → Nat} {aw wa : Nat → Option Nat} {ha : Nat → Int64} {la : Nat → Nat} {n k c5 c6 c7 : Nat} {t : Nat} (ht : t < 60) (hn : n ≤ 60) (hk : k ≤ 60) (hla : ∀ i, la i < 60) (haw : ∀ t x, aw t = some x → x < 85) : ∀ (f i : Nat), i + f = n → ∀ r : Nat → Int64,  AW m_circleOf (d + 3) (.inl (some (.long (rfO (crF (wrw aw wa ha la k) f i r) n 60 (crF (wrw aw wa ha la k) f i r t) &&& rgO (crF (wrw aw wa ha la k) f i r) n 60 (lbit t))))) (wL st pr aw wa ha la (crF (wrw aw wa ha la k) f i r) n k c5 c6 c7) (2, [some (.ref 0), some (.int (nI t)), some (.int (nI i))], [], wL st pr aw wa ha la r n k c5 c6 c7) := by
  intro f
  induction f with
  | zero =>
    intro i hif r
    refine aq_gn (n := 3) (c1 := (7, [some (.ref 0), some (.int (nI t)), some (.int (nI i))], [.int (nI n), .int (nI i)], wL st pr aw wa ha la r n k c5 c6 c7)) ok_m_circleOf rfl ?_
    refine aq_icmp_ge ok_m_circleOf rfl (fun h => ?_) (fun h => ?_)
    · refine aq_gn (n := 2) (c1 := (29, [some (.ref 0), some (.int (nI t)), some (.int (nI i))], [.int (nI t), .ref 0], wL st pr aw wa ha la r n k c5 c6 c7)) ok_m_circleOf rfl ?_
      refine aq_callV (as := [.int (nI t)]) (st := []) ok_m_circleOf rfl c0_m_reachedFrom (am_reachedFrom ht hn) rfl (Nat.le_of_ble_eq_true rfl) rfl rfl rfl ?_
      refine aq_gn (n := 2) (c1 := (34, [some (.ref 0), some (.int (nI t)), some (.int (nI i))], [.int (nI t), .ref 0, .long (rfO r n 60 (r t))], wL st pr aw wa ha la r n k c5 c6 c7)) ok_m_circleOf rfl ?_
      refine aq_callV (as := [.int (nI t)]) (st := [.long (rfO r n 60 (r t))]) ok_m_circleOf rfl c0_m_reaching (am_reaching hn) rfl (Nat.le_of_ble_eq_true rfl) rfl rfl rfl ?_
      refine aq_gn (n := 1) (c1 := (38, [some (.ref 0), some (.int (nI t)), some (.int (nI i))], [.long ((rfO r n 60 (r t)) &&& (rgO r n 60 (lbit t)))], wL st pr aw wa ha la r n k c5 c6 c7)) ok_m_circleOf rfl ?_
      exact aq_el ok_m_circleOf rfl rfl rfl rfl
    · exact absurd (nI_le (show n ≤ i by omega) (by omega)) h
  | succ f ih =>
    intro i hif r
    refine aq_gn (n := 3) (c1 := (7, [some (.ref 0), some (.int (nI t)), some (.int (nI i))], [.int (nI n), .int (nI i)], wL st pr aw wa ha la r n k c5 c6 c7)) ok_m_circleOf rfl ?_
    refine aq_icmp_ge ok_m_circleOf rfl (fun h => ?_) (fun h => ?_)
    · exact absurd (q_le h (by omega) (by omega)) (by omega)
    · refine aq_gn (n := 5) (c1 := (17, [some (.ref 0), some (.int (nI t)), some (.int (nI i))], [.int (nI i), .ref 0, .int (nI i), .ref 7], wL st pr aw wa ha la r n k c5 c6 c7)) ok_m_circleOf rfl ?_
      refine aq_callV (as := [.int (nI i)]) (st := [.int (nI i), .ref 7]) ok_m_circleOf rfl c0_m_waitRow (am_waitRow (show i < 60 by omega) hk hla haw) rfl (Nat.le_of_ble_eq_true rfl) rfl rfl rfl ?_
      refine aq_go (n := 3) (c1 := (2, [some (.ref 0), some (.int (nI t)), some (.int ((nI i) + 1))], [], wR (fun i => nI (st i)) (fun i => nI (pr i)) (fun i => oI (aw i)) (fun i => oI (wa i)) ha (fun i => nI (la i)) (vp_updL (r) (nI i).toNatClampNeg (wrw aw wa ha la k i)) (nI n) (nI k) (nI c5) (nI c6) (nI c7))) (P := vp_in (nI i) 60) ok_m_circleOf rfl (in60 (by omega)) ?_
      rw [cl60 (show i < 60 by omega), nI_1]
      exact ih (i + 1) (by omega) _
set_option maxHeartbeats 4000000 in
theorem am_circle {d : Nat} {st pr : Nat → Nat} {aw wa : Nat → Option Nat} {ha : Nat → Int64} {la : Nat → Nat} {wr : Nat → Int64} {n k c5 c6 c7 : Nat} {t : Nat} (ht : t < 60) (hn : n ≤ 60) (hk : k ≤ 60) (hla : ∀ i, la i < 60) (haw : ∀ t x, aw t = some x → x < 85) : AM m_circleOf (d + 3) (.inl (some (.long (rfO (crF (wrw aw wa ha la k) n 0 wr) n 60 (crF (wrw aw wa ha la k) n 0 wr t) &&& rgO (crF (wrw aw wa ha la k) n 0 wr) n 60 (lbit t))))) [.ref 0, .int (nI t)] (wL st pr aw wa ha la wr n k c5 c6 c7) (wL st pr aw wa ha la (crF (wrw aw wa ha la k) n 0 wr) n k c5 c6 c7) := by
  refine aq_enter pl_m_circleOf (Nat.le_of_ble_eq_true rfl) ?_
  refine aq_gn (n := 2) (c1 := (2, [some (.ref 0), some (.int (nI t)), some (.int (nI 0))], [], wL st pr aw wa ha la wr n k c5 c6 c7)) ok_m_circleOf rfl ?_
  exact lp_circle ht hn hk hla haw n 0 (by omega) wr
end
section
/-! THE CLASS: breakCircles, the tree, lock, commit, abort -/
def s_wl (S : LSt) (r : Nat → Int64) : LSt := (s_st S, s_pr S, s_aw S, s_wa S, s_ha S, s_la S, r, s_n S, s_k S, s_c5 S, s_c6 S, s_c7 S)
def s_5 (S : LSt) : LSt := (s_st S, s_pr S, s_aw S, s_wa S, s_ha S, s_la S, s_wr S, s_n S, s_k S, s_c5 S + 1, s_c6 S, s_c7 S)
def s_sl (S : LSt) (t x : Nat) : LSt := (va_up (s_st S) t x, s_pr S, s_aw S, s_wa S, s_ha S, s_la S, s_wr S, s_n S, s_k S, s_c5 S, s_c6 S, s_c7 S)
theorem WF_wl {S : LSt} (h : WF S) (r : Nat → Int64) : WF (s_wl S r) := h
theorem WF_5 {S : LSt} (h : WF S) : WF (s_5 S) := h
theorem WF_sl {S : LSt} (h : WF S) (t x : Nat) (hx : x < 4) : WF (s_sl S t x) := ⟨h.1, h.2.1, h.2.2.1, h.2.2.2.1, h.2.2.2.2.1, h.2.2.2.2.2.1, fun u => va_up_lt h.2.2.2.2.2.2.1 hx u, h.2.2.2.2.2.2.2⟩
/-- the rows of the search, and the circle of t -/
def cirR (S : LSt) : Nat → Int64 := crF (wrw (s_aw S) (s_wa S) (s_ha S) (s_la S) (s_k S)) (s_n S) 0 (s_wr S)
def cirB (S : LSt) (t : Nat) : Int64 := rfO (cirR S) (s_n S) 60 (cirR S t) &&& rgO (cirR S) (s_n S) 60 (lbit t)
def vic (S : LSt) (t : Nat) : Option Nat := wkF (s_pr S) (cirB S t) (s_n S) 0 none
def bcF (t : Nat) : Nat → LSt → LSt
  | 0, S => S
  | f + 1, S => if s_st S t = 1 then (match vic S t with
    | none => s_wl S (cirR S)
    | some v => bcF t f (en (s_5 (s_wl S (cirR S))) v 3).1) else S
theorem wkF_lt {pr : Nat → Nat} {c : Int64} : ∀ (f i : Nat) (w : Option Nat), (∀ u, w = some u → u < i) → ∀ v, wkF pr c f i w = some v → v < i + f := by
  intro f
  induction f with
  | zero => intro i w hw v h; exact hw v h
  | succ f ih =>
    intro i w hw v h
    unfold wkF at h
    have := ih (i + 1) _ (by
      intro u q
      split at q
      · cases q; omega
      · have := hw u q; omega) v h
    omega
theorem vic_lt {S : LSt} {t v : Nat} (h : vic S t = some v) : v < s_n S := by have := wkF_lt _ _ _ (fun u q => by cases q) _ h; omega
theorem WF_bcF {t : Nat} : ∀ (f : Nat) (S : LSt), WF S → WF (bcF t f S) := by
  intro f
  induction f with
  | zero => intro S h; exact h
  | succ f ih =>
    intro S h
    unfold bcF
    split
    · split
      · exact WF_wl h _
      · exact ih _ (WF_en (WF_5 (WF_wl h _)) _ _ (by omega))
    · exact h
set_option maxHeartbeats 4000000 in
theorem am_circleS {d : Nat} {S : LSt} {t : Nat} (h : WF S) (ht : t < 60) : AM m_circleOf (d + 3) (.inl (some (.long (cirB S t)))) [.ref 0, .int (nI t)] (wS S) (wS (s_wl S (cirR S))) := am_circle ht h.2.2.1 h.2.1 h.1 h.2.2.2.1
set_option maxHeartbeats 4000000 in
theorem am_weakestS {d : Nat} {S : LSt} {c : Int64} (h : WF S) : AM m_weakestOf (d + 1) (.inl (some (.int (oI (wkF (s_pr S) c (s_n S) 0 none))))) [.ref 0, .long c] (wS S) (wS S) := am_weakest h.2.2.1 h.2.2.2.2.2.2.2
set_option maxHeartbeats 4000000 in
theorem lp_break {d : Nat} {t : Nat} (ht : t < 60) : ∀ (f i : Nat), i + f = 60 → ∀ S : LSt, WF S → AW m_breakCircles (d + 5) (.inl none) (wS (bcF t f S)) (2, [some (.ref 0), some (.int (nI t)), some (.int (nI i)), none], [], wL (s_st S) (s_pr S) (s_aw S) (s_wa S) (s_ha S) (s_la S) (s_wr S) (s_n S) (s_k S) (s_c5 S) (s_c6 S) (s_c7 S)) := by
  intro f
  induction f with
  | zero =>
    intro i hif S hS
    refine aq_gn (n := 2) (c1 := (5, [some (.ref 0), some (.int (nI t)), some (.int (nI i)), none], [.int (nI 60), .int (nI i)], wL (s_st S) (s_pr S) (s_aw S) (s_wa S) (s_ha S) (s_la S) (s_wr S) (s_n S) (s_k S) (s_c5 S) (s_c6 S) (s_c7 S))) ok_m_breakCircles rfl ?_
    refine aq_icmp_ge ok_m_breakCircles rfl (fun h => ?_) (fun h => ?_)
    · exact aq_ev ok_m_breakCircles rfl rfl rfl
    · exact absurd (nI_le (show 60 ≤ i by omega) (by omega)) h
  | succ f ih =>
    intro i hif S hS
    refine aq_gn (n := 2) (c1 := (5, [some (.ref 0), some (.int (nI t)), some (.int (nI i)), none], [.int (nI 60), .int (nI i)], wL (s_st S) (s_pr S) (s_aw S) (s_wa S) (s_ha S) (s_la S) (s_wr S) (s_n S) (s_k S) (s_c5 S) (s_c6 S) (s_c7 S))) ok_m_breakCircles rfl ?_
    refine aq_icmp_ge ok_m_breakCircles rfl (fun h => ?_) (fun h => ?_)
    · exact absurd (q_le h (by omega) (by omega)) (by omega)
    · refine aq_go (n := 5) (c1 := (15, [some (.ref 0), some (.int (nI t)), some (.int (nI i)), none], [.int (nI 1), .int (nI ((s_st S) (nI t).toNatClampNeg))], wL (s_st S) (s_pr S) (s_aw S) (s_wa S) (s_ha S) (s_la S) (s_wr S) (s_n S) (s_k S) (s_c5 S) (s_c6 S) (s_c7 S))) (P := vp_in (nI t) 60) ok_m_breakCircles rfl (in60 ht) ?_
      rw [cl60 ht]
      refine aq_icmp_ne ok_m_breakCircles rfl (fun h2 => ?_) (fun h2 => ?_)
      · have hb := q_ne h2
        have e : bcF t (f + 1) S = S := by rw [bcF, if_neg hb]
        rw [e]
        exact aq_ev ok_m_breakCircles rfl rfl rfl
      · have hb := q_eq h2 (by have := hS.2.2.2.2.2.2.1 t; omega) (by omega)
        refine aq_gn (n := 3) (c1 := (21, [some (.ref 0), some (.int (nI t)), some (.int (nI i)), none], [.int (nI t), .ref 0, .ref 0], wS S)) ok_m_breakCircles rfl ?_
        refine aq_callV (as := [.int (nI t)]) (st := [.ref 0]) ok_m_breakCircles rfl c0_m_circleOf (am_circleS (d := d + 1) hS ht) rfl (Nat.le_of_ble_eq_true rfl) rfl rfl rfl ?_
        refine aq_callV (as := [.long (cirB S t)]) (st := []) ok_m_breakCircles rfl c0_m_weakestOf (am_weakestS (d := d + 3) (S := (s_wl S (cirR S))) (WF_wl hS _)) rfl (Nat.le_of_ble_eq_true rfl) rfl rfl rfl ?_
        refine aq_gn (n := 3) (c1 := (30, [some (.ref 0), some (.int (nI t)), some (.int (nI i)), some (.int (oI (vic S t)))], [.int (-1), .int (oI (vic S t))], wS (s_wl S (cirR S)))) ok_m_breakCircles rfl ?_
        refine aq_icmp_ne ok_m_breakCircles rfl (fun h3 => ?_) (fun h3 => ?_)
        · obtain ⟨v, hv⟩ := oI_nm1 h3
          have hv6 : v < 60 := Nat.lt_of_lt_of_le (vic_lt hv) hS.2.2.1
          obtain ⟨Q, hQ⟩ : ∃ Q, Q = (s_wl S (cirR S)) := ⟨_, rfl⟩
          have hWQ : WF Q := by rw [hQ]; exact WF_wl hS _
          have e : bcF t (f + 1) S = bcF t f (en (s_5 Q) v 3).1 := by rw [bcF, if_pos hb, hv, hQ]
          rw [e, hv, ← hQ]
          clear e hQ hS
          show AW m_breakCircles _ _ _ (34, [some (.ref 0), some (.int (nI t)), some (.int (nI i)), some (.int (nI v))], [], wL (s_st Q) (s_pr Q) (s_aw Q) (s_wa Q) (s_ha Q) (s_la Q) (s_wr Q) (s_n Q) (s_k Q) (s_c5 Q) (s_c6 Q) (s_c7 Q))
          refine aq_go (n := 9) (c1 := (47, [some (.ref 0), some (.int (nI t)), some (.int (nI i)), some (.int (nI v))], [.int (nI 3), .int (nI v), .ref 0], wR (fun i => nI ((s_st Q) i)) (fun i => nI ((s_pr Q) i)) (fun i => oI ((s_aw Q) i)) (fun i => oI ((s_wa Q) i)) (s_ha Q) (fun i => nI ((s_la Q) i)) (s_wr Q) (nI (s_n Q)) (nI (s_k Q)) ((nI (s_c5 Q)) + (nI 1)) (nI (s_c6 Q)) (nI (s_c7 Q)))) (P := aq_fi 0 9 = true) ok_m_breakCircles rfl fi0_9 ?_
          rw [nI_add]
          show AW m_breakCircles _ _ _ (47, [some (.ref 0), some (.int (nI t)), some (.int (nI i)), some (.int (nI v))], [.int (nI 3), .int (nI v), .ref 0], wS (s_5 Q))
          refine aq_callV (as := [.int (nI v), .int (nI 3)]) (st := []) ok_m_breakCircles rfl c0_m_end (am_end (S := s_5 Q) (WF_5 hWQ) hv6 (by omega)) rfl (Nat.le_of_ble_eq_true rfl) rfl rfl rfl ?_
          refine aq_gn (n := 3) (c1 := (2, [some (.ref 0), some (.int (nI t)), some (.int ((nI i) + 1)), some (.int (nI v))], [], wS (en (s_5 Q) v 3).1)) ok_m_breakCircles rfl ?_
          rw [nI_1]
          refine aq_drop 3 ?_
          exact ih (i + 1) (by omega) _ (WF_en (WF_5 hWQ) _ _ (by omega))
        · have hv := oI_m1 h3 (fun x q => by have := vic_lt q; have := hS.2.2.1; omega)
          have e : bcF t (f + 1) S = (s_wl S (cirR S)) := by rw [bcF, if_pos hb, hv]
          rw [e]
          exact aq_ev ok_m_breakCircles rfl rfl rfl
set_option maxHeartbeats 4000000 in
theorem am_break {d : Nat} {t : Nat} {S : LSt} (hS : WF S) (ht : t < 60) : AM m_breakCircles (d + 5) (.inl none) [.ref 0, .int (nI t)] (wS S) (wS (bcF t 60 S)) := by
  refine aq_enter pl_m_breakCircles (Nat.le_of_ble_eq_true rfl) ?_
  refine aq_gn (n := 2) (c1 := (2, [some (.ref 0), some (.int (nI t)), some (.int (nI 0)), none], [], wS S)) ok_m_breakCircles rfl ?_
  exact lp_break ht 60 0 rfl S hS
set_option maxHeartbeats 4000000 in
theorem am_answer {d : Nat} {st pr : Nat → Nat} {aw wa : Nat → Option Nat} {ha : Nat → Int64} {la : Nat → Nat} {wr : Nat → Int64} {n k c5 c6 c7 : Nat} {t : Nat} (ht : t < 60) (hst : ∀ t, st t < 4) : AM m_answerFor (d) (.inl (some (.int (if st t = 0 then (1 : Int32) else if st t = 1 then 0 else -1)))) [.ref 0, .int (nI t)] (wL st pr aw wa ha la wr n k c5 c6 c7) (wL st pr aw wa ha la wr n k c5 c6 c7) := by
  refine aq_enter pl_m_answerFor (Nat.le_of_ble_eq_true rfl) ?_
  refine aq_go (n := 4) (c1 := (6, [some (.ref 0), some (.int (nI t))], [.int (nI (st (nI t).toNatClampNeg))], wL st pr aw wa ha la wr n k c5 c6 c7)) (P := vp_in (nI t) 60) ok_m_answerFor rfl (in60 ht) ?_
  rw [cl60 ht]
  refine aq_if_ne ok_m_answerFor rfl (fun h => ?_) (fun h => ?_)
  · have hb : ¬ st t = 0 := fun q => h (by rw [q]; rfl)
    refine aq_go (n := 5) (c1 := (18, [some (.ref 0), some (.int (nI t))], [.int (nI 1), .int (nI (st (nI t).toNatClampNeg))], wL st pr aw wa ha la wr n k c5 c6 c7)) (P := vp_in (nI t) 60) ok_m_answerFor rfl (in60 ht) ?_
    rw [cl60 ht]
    refine aq_icmp_ne ok_m_answerFor rfl (fun h2 => ?_) (fun h2 => ?_)
    · have hc := q_ne h2
      refine aq_gn (n := 1) (c1 := (26, [some (.ref 0), some (.int (nI t))], [.int (-1)], wL st pr aw wa ha la wr n k c5 c6 c7)) ok_m_answerFor rfl ?_
      exact aq_ei ok_m_answerFor rfl rfl (by rw [if_neg hb, if_neg hc]) rfl
    · have hc := q_eq h2 (by have := hst t; omega) (by omega)
      refine aq_gn (n := 2) (c1 := (26, [some (.ref 0), some (.int (nI t))], [.int (nI 0)], wL st pr aw wa ha la wr n k c5 c6 c7)) ok_m_answerFor rfl ?_
      exact aq_ei ok_m_answerFor rfl rfl (by rw [if_neg hb, if_pos hc]; rfl) rfl
  · have hb := q_eq (b := 0) h (by have := hst t; omega) (by omega)
    refine aq_gn (n := 1) (c1 := (10, [some (.ref 0), some (.int (nI t))], [.int (nI 1)], wL st pr aw wa ha la wr n k c5 c6 c7)) ok_m_answerFor rfl ?_
    exact aq_ei ok_m_answerFor rfl rfl (by rw [if_pos hb]; rfl) rfl
def fdI (x y : Int32) : Int32 := if 0 ≤ x ^^^ y then x / y else if x / y * y = x then x / y else x / y - 1
def avI (x : Int32) : Int32 := fdI (x - 1) 4
def abv (v : Option Nat) : Option Nat := match v with
  | none => none
  | some 0 => none
  | some (o + 1) => some (o / 4)
theorem avI_d : ∀ o, o < 85 → avI (nI o) = oI (abv (some o)) := by decide +kernel
theorem avI_o {v : Option Nat} (h : ∀ x, v = some x → x < 85) : avI (oI v) = oI (abv v) := by
  cases v with
  | none => decide +kernel
  | some o => exact avI_d o (h o rfl)
theorem abv_lt {v : Option Nat} (h : ∀ x, v = some x → x < 85) : ∀ x, abv v = some x → x < 85 := by
  intro x hx
  match v, hx, h with
  | none, hx, _ => cases hx
  | some 0, hx, _ => cases hx
  | some (o + 1), hx, h =>
    have := h (o + 1) rfl
    cases hx
    omega
def wrN (v : Option Nat) : Bool := wrI (oI v)
def lub (h : Option Nat) (m : Nat) : Nat := match h with
  | none => m
  | some a => if (a = 1 ∧ m = 2) ∨ (a = 2 ∧ m = 1) then 3 else if a < m then m else a
theorem lub_d : ∀ a, a < 5 → ∀ m, m < 5 → laI (nI a) (nI m) = nI (lub (some a) m) ∧ lub (some a) m < 5 := by decide +kernel
theorem lub_n : ∀ m, m < 5 → laI (-1) (nI m) = nI m := by decide +kernel
theorem lub_o {h : Option Nat} {m : Nat} (hh : ∀ x, h = some x → x < 5) (hm : m < 5) : laI (oI h) (nI m) = nI (lub h m) ∧ lub h m < 5 := by
  cases h with
  | none => exact ⟨lub_n m hm, hm⟩
  | some a => exact lub_d a (hh a rfl) m hm
set_option maxHeartbeats 4000000 in
theorem am_floorDiv {d : Nat} {w : List va_E} (x y : Int32) (hy : ¬ y = 0) : AM j_floorDiv d (.inl (some (.int (fdI x y)))) [.int x, .int y] w w := by
  refine aq_enter pl_j_floorDiv (Nat.le_of_ble_eq_true rfl) ?_
  refine aq_go (n := 7) (c1 := (7, [some (.int x), some (.int y), some (.int (x / y))], [.int (x ^^^ y)], w)) (P := ¬ y = 0) ok_j_floorDiv rfl hy ?_
  refine aq_if_ge ok_j_floorDiv rfl (fun h => ?_) (fun h => ?_)
  · refine aq_gn (n := 1) (c1 := (22, [some (.int x), some (.int y), some (.int (x / y))], [.int (x / y)], w)) ok_j_floorDiv rfl ?_
    exact aq_ei ok_j_floorDiv rfl rfl (by unfold fdI; rw [if_pos h]) rfl
  · refine aq_gn (n := 4) (c1 := (14, [some (.int x), some (.int y), some (.int (x / y))], [.int x, .int ((x / y) * y)], w)) ok_j_floorDiv rfl ?_
    refine aq_icmp_eq ok_j_floorDiv rfl (fun h2 => ?_) (fun h2 => ?_)
    · refine aq_gn (n := 1) (c1 := (22, [some (.int x), some (.int y), some (.int (x / y))], [.int (x / y)], w)) ok_j_floorDiv rfl ?_
      exact aq_ei ok_j_floorDiv rfl rfl (by unfold fdI; rw [if_neg h, if_pos h2]) rfl
    · refine aq_gn (n := 3) (c1 := (20, [some (.int x), some (.int y), some (.int (x / y))], [.int ((x / y) - 1)], w)) ok_j_floorDiv rfl ?_
      exact aq_ei ok_j_floorDiv rfl rfl (by unfold fdI; rw [if_neg h, if_neg h2]) rfl
set_option maxHeartbeats 4000000 in
theorem am_above {d : Nat} {w : List va_E} (x : Int32) : AM m_above (d + 1) (.inl (some (.int (avI x)))) [.int x] w w := by
  refine aq_enter pl_m_above (Nat.le_of_ble_eq_true rfl) ?_
  refine aq_gn (n := 4) (c1 := (4, [some (.int x)], [.int 4, .int (x - 1)], w)) ok_m_above rfl ?_
  refine aq_callS (as := [.int (x - 1), .int 4]) (st := []) ok_m_above rfl c0_j_floorDiv (am_floorDiv (x - 1) 4 (by decide)) rfl (Nat.le_of_ble_eq_true rfl) ?_
  exact aq_ei ok_m_above rfl rfl rfl rfl
def ma (ha : Nat → Int64) (t o m : Nat) : Bool := if o = 0 then true else if wrI (nI m) then wrI (oI (hm ha t ((o - 1) / 4))) else (hm ha t ((o - 1) / 4)).isSome
set_option maxHeartbeats 4000000 in
theorem am_mayAsk {d : Nat} {st pr : Nat → Nat} {aw wa : Nat → Option Nat} {ha : Nat → Int64} {la : Nat → Nat} {wr : Nat → Int64} {n k c5 c6 c7 : Nat} {t o m : Nat} (ht : t < 60) (ho : o < 85) : AM m_mayAsk (d + 2) (.inl (some (.int (bI (ma ha t o m))))) [.ref 0, .int (nI t), .int (nI o), .int (nI m)] (wL st pr aw wa ha la wr n k c5 c6 c7) (wL st pr aw wa ha la wr n k c5 c6 c7) := by
  refine aq_enter pl_m_mayAsk (Nat.le_of_ble_eq_true rfl) ?_
  refine aq_gn (n := 1) (c1 := (1, [some (.ref 0), some (.int (nI t)), some (.int (nI o)), some (.int (nI m)), none], [.int (nI o)], wL st pr aw wa ha la wr n k c5 c6 c7)) ok_m_mayAsk rfl ?_
  refine aq_if_ne ok_m_mayAsk rfl (fun h => ?_) (fun h => ?_)
  · have hz : ¬ o = 0 := fun q => h (by rw [q]; rfl)
    have e : avI (nI o) = nI ((o - 1) / 4) := by
      obtain ⟨j, rfl⟩ : ∃ j, o = j + 1 := ⟨o - 1, by omega⟩
      rw [avI_d _ ho]; rfl
    refine aq_gn (n := 3) (c1 := (9, [some (.ref 0), some (.int (nI t)), some (.int (nI o)), some (.int (nI m)), none], [.int (nI o), .int (nI t), .ref 0], wL st pr aw wa ha la wr n k c5 c6 c7)) ok_m_mayAsk rfl ?_
    refine aq_callS (as := [.int (nI o)]) (st := [.int (nI t), .ref 0]) ok_m_mayAsk rfl c0_m_above (am_above (nI o)) rfl (Nat.le_of_ble_eq_true rfl) ?_
    rw [e]
    refine aq_callV (as := [.int (nI t), .int (nI ((o - 1) / 4))]) (st := []) ok_m_mayAsk rfl c0_m_heldMode (am_heldMode ht (show (o - 1) / 4 < 85 by omega)) rfl (Nat.le_of_ble_eq_true rfl) rfl rfl rfl ?_
    refine aq_gn (n := 2) (c1 := (18, [some (.ref 0), some (.int (nI t)), some (.int (nI o)), some (.int (nI m)), some (.int (oI (hm ha t ((o - 1) / 4))))], [.int (nI m)], wL st pr aw wa ha la wr n k c5 c6 c7)) ok_m_mayAsk rfl ?_
    refine aq_callS (as := [.int (nI m)]) (st := []) ok_m_mayAsk rfl c0_m_isWriting (am_isWriting (nI m)) rfl (Nat.le_of_ble_eq_true rfl) ?_
    refine aq_if_eq ok_m_mayAsk rfl (fun h2 => ?_) (fun h2 => ?_)
    · have hw := (bI_0 _).mp h2
      refine aq_gn (n := 2) (c1 := (35, [some (.ref 0), some (.int (nI t)), some (.int (nI o)), some (.int (nI m)), some (.int (oI (hm ha t ((o - 1) / 4))))], [.int (-1), .int (oI (hm ha t ((o - 1) / 4)))], wL st pr aw wa ha la wr n k c5 c6 c7)) ok_m_mayAsk rfl ?_
      refine aq_icmp_eq ok_m_mayAsk rfl (fun h3 => ?_) (fun h3 => ?_)
      · have hx := oI_m1 h3 (fun x q => by have := hm_lt q; omega)
        refine aq_gn (n := 1) (c1 := (43, [some (.ref 0), some (.int (nI t)), some (.int (nI o)), some (.int (nI m)), some (.int (oI (hm ha t ((o - 1) / 4))))], [.int (nI 0)], wL st pr aw wa ha la wr n k c5 c6 c7)) ok_m_mayAsk rfl ?_
        exact aq_ez ok_m_mayAsk rfl rfl (by rw [ma, if_neg hz, hw, hx]; rfl) rfl
      · obtain ⟨y, hx⟩ := oI_nm1 h3
        refine aq_gn (n := 2) (c1 := (43, [some (.ref 0), some (.int (nI t)), some (.int (nI o)), some (.int (nI m)), some (.int (oI (hm ha t ((o - 1) / 4))))], [.int (nI 1)], wL st pr aw wa ha la wr n k c5 c6 c7)) ok_m_mayAsk rfl ?_
        exact aq_ez ok_m_mayAsk rfl rfl (by rw [ma, if_neg hz, hw, hx]; rfl) rfl
    · have hw : wrI (nI m) = true := by cases hy : wrI (nI m) with | true => rfl | false => exact absurd ((bI_0 _).mpr hy) h2
      refine aq_gn (n := 1) (c1 := (26, [some (.ref 0), some (.int (nI t)), some (.int (nI o)), some (.int (nI m)), some (.int (oI (hm ha t ((o - 1) / 4))))], [.int (oI (hm ha t ((o - 1) / 4)))], wL st pr aw wa ha la wr n k c5 c6 c7)) ok_m_mayAsk rfl ?_
      refine aq_callS (as := [.int (oI (hm ha t ((o - 1) / 4)))]) (st := []) ok_m_mayAsk rfl c0_m_isWriting (am_isWriting (oI (hm ha t ((o - 1) / 4)))) rfl (Nat.le_of_ble_eq_true rfl) ?_
      refine aq_gn (n := 1) (c1 := (43, [some (.ref 0), some (.int (nI t)), some (.int (nI o)), some (.int (nI m)), some (.int (oI (hm ha t ((o - 1) / 4))))], [.int (bI (wrI (oI (hm ha t ((o - 1) / 4)))))], wL st pr aw wa ha la wr n k c5 c6 c7)) ok_m_mayAsk rfl ?_
      exact aq_ez ok_m_mayAsk rfl rfl (by rw [ma, if_neg hz, hw]; rfl) rfl
  · have hz := q_eq (b := 0) h (by omega) (by omega)
    refine aq_gn (n := 1) (c1 := (5, [some (.ref 0), some (.int (nI t)), some (.int (nI o)), some (.int (nI m)), none], [.int (nI 1)], wL st pr aw wa ha la wr n k c5 c6 c7)) ok_m_mayAsk rfl ?_
    exact aq_ez ok_m_mayAsk rfl rfl (by rw [ma, if_pos hz]; rfl) rfl
end
section
/-! THE CLASS: lock, commit, abort -/
theorem shF_lt : ∀ (f i : Nat) (l : Nat → Nat), (∀ x, l x < 60) → ∀ x, shF f i l x < 60 := by
  intro f
  induction f with
  | zero => intro i l h x; exact h x
  | succ f ih => intro i l h x; exact ih _ _ (va_up_lt h (h _)) x
/-- a request comes to the line -/
def jn (S : LSt) (t o m : Nat) : LSt := (s_st S, s_pr S, va_up (s_aw S) t (some o), va_up (s_wa S) t (some m), s_ha S, va_up (shF (s_k S - plc (s_aw S) (s_ha S) (s_la S) (s_k S) t o) (s_k S) (s_la S)) (plc (s_aw S) (s_ha S) (s_la S) (s_k S) t o) t, s_wr S, s_n S, s_k S + 1, s_c5 S, s_c6 S, s_c7 S)
theorem va_up_or {l : Nat → Option Nat} {j t x y : Nat} (h : va_up l j (some y) t = some x) : x = y ∨ l t = some x := by
  unfold va_up at h
  split at h
  · cases h; exact Or.inl rfl
  · exact Or.inr h
theorem WF_jn {S : LSt} (h : WF S) {t o m : Nat} (ht : t < 60) (ho : o < 85) (hm : m < 5) (hk : s_k S < 60) : WF (jn S t o m) := by
  obtain ⟨h1, h2, h3, h4, h5, h6, h7, h8⟩ := h
  refine ⟨fun x => va_up_lt (shF_lt _ _ _ h1) ht x, hk, h3, fun u y q => ?_, fun u y q => ?_, fun u y q => ?_, h7, h8⟩
  · rcases va_up_or q with rfl | q
    · exact ho
    · exact h4 u y q
  · rcases va_up_or q with rfl | q
    · exact hm
    · exact h5 u y q
  · show ∃ m', va_up (s_wa S) t (some m) u = some m'
    have q : va_up (s_aw S) t (some o) u = some y := q
    unfold va_up at q ⊢
    split
    · exact ⟨m, rfl⟩
    · rename_i hne
      rw [if_neg hne] at q
      exact h6 u y q
def lk3 (S : LSt) (t : Nat) : LSt := match s_aw S t with
  | none => S
  | some _ => bcF t 60 (s_sl S t 1)
theorem WF_lk3 {S : LSt} (h : WF S) (t : Nat) : WF (lk3 S t) := by
  unfold lk3
  split
  · exact h
  · exact WF_bcF _ _ (WF_sl h _ _ (by omega))
def ans (S : LSt) (t : Nat) : Int32 := if s_st S t = 0 then (1 : Int32) else if s_st S t = 1 then 0 else -1
def lkS (S : LSt) (t o m : Nat) : LSt := lk3 (sv (jn S t o (lub (hm (s_ha S) t o) m)) o).1 t
def lk (S : LSt) (t o m : Nat) : LSt × Int32 := if hm (s_ha S) t o = some (lub (hm (s_ha S) t o) m) then (S, 1) else (lkS S t o m, ans (lkS S t o m) t)
set_option maxHeartbeats 4000000 in
theorem am_chkTS {d : Nat} {S : LSt} {t : Nat} (h : WF S) (ht : t < s_n S) : AM m_checkTransaction d (.inl none) [.ref 0, .int (nI t)] (wS S) (wS S) := am_chkT ht h.2.2.1
set_option maxHeartbeats 4000000 in
theorem am_chkTS_x {d : Nat} {S : LSt} {x : Int32} (hx : x < 0 ∨ nI (s_n S) ≤ x) : AM m_checkTransaction d (.inr 0) [.ref 0, .int x] (wS S) (wS S) := am_chkT_x hx
set_option maxHeartbeats 4000000 in
theorem am_chkAS {d : Nat} {S : LSt} {t : Nat} (ht : t < 60) (hs : s_st S t = 0) : AM m_checkActive d (.inl none) [.ref 0, .int (nI t)] (wS S) (wS S) := am_chkA ht hs
set_option maxHeartbeats 4000000 in
theorem am_chkAS_x {d : Nat} {S : LSt} {t : Nat} (h : WF S) (ht : t < 60) (hs : ¬ s_st S t = 0) : AM m_checkActive d (.inr 2) [.ref 0, .int (nI t)] (wS S) (wS S) := am_chkA_x ht h.2.2.2.2.2.2.1 hs
set_option maxHeartbeats 4000000 in
theorem am_mayAskS {d : Nat} {S : LSt} {t o m : Nat} (ht : t < 60) (ho : o < 85) : AM m_mayAsk (d + 2) (.inl (some (.int (bI (ma (s_ha S) t o m))))) [.ref 0, .int (nI t), .int (nI o), .int (nI m)] (wS S) (wS S) := am_mayAsk ht ho
set_option maxHeartbeats 4000000 in
theorem am_heldS {d : Nat} {S : LSt} {t o : Nat} (ht : t < 60) (ho : o < 85) : AM m_heldMode (d + 1) (.inl (some (.int (oI (hm (s_ha S) t o))))) [.ref 0, .int (nI t), .int (nI o)] (wS S) (wS S) := am_heldMode ht ho
set_option maxHeartbeats 4000000 in
theorem am_joinS {d : Nat} {S : LSt} {t o m : Nat} (h : WF S) (ht : t < 60) (ho : o < 85) (hk : s_k S < 60) : AM m_joinQueue (d + 3) (.inl none) [.ref 0, .int (nI t), .int (nI o), .int (nI m)] (wS S) (wS (jn S t o m)) := am_join ht ho hk h.1 h.2.2.2.1
set_option maxHeartbeats 4000000 in
theorem am_answerS {d : Nat} {S : LSt} {t : Nat} (h : WF S) (ht : t < 60) : AM m_answerFor d (.inl (some (.int (ans S t)))) [.ref 0, .int (nI t)] (wS S) (wS S) := am_answer ht h.2.2.2.2.2.2.1
set_option maxHeartbeats 4000000 in
theorem am_waitRowS {d : Nat} {S : LSt} {t : Nat} (h : WF S) (ht : t < 60) : AM m_waitRow (d + 2) (.inl (some (.long (wrw (s_aw S) (s_wa S) (s_ha S) (s_la S) (s_k S) t)))) [.ref 0, .int (nI t)] (wS S) (wS S) := am_waitRow ht h.2.1 h.1 h.2.2.2.1
set_option maxHeartbeats 4000000 in
theorem am_lock {d : Nat} {S : LSt} {t o m : Nat} (hS : WF S) (ht : t < s_n S) (ho : o < 85) (hm5 : m < 5) (hs : s_st S t = 0) (hma : ma (s_ha S) t o m = true) (hk : s_k S < 60) : AM m_lock (d + 6) (.inl (some (.int ((lk S t o m).2)))) [.ref 0, .int (nI t), .int (nI o), .int (nI m)] (wS S) (wS (lk S t o m).1) := by
  refine aq_enter pl_m_lock (Nat.le_of_ble_eq_true rfl) ?_
  have ht6 : t < 60 := Nat.lt_of_lt_of_le ht hS.2.2.1
  refine aq_gn (n := 2) (c1 := (2, [some (.ref 0), some (.int (nI t)), some (.int (nI o)), some (.int (nI m)), none, none], [.int (nI t), .ref 0], wS S)) ok_m_lock rfl ?_
  refine aq_callV (as := [.int (nI t)]) (st := []) ok_m_lock rfl c0_m_checkTransaction (am_chkTS hS ht) rfl (Nat.le_of_ble_eq_true rfl) rfl rfl rfl ?_
  refine aq_gn (n := 1) (c1 := (6, [some (.ref 0), some (.int (nI t)), some (.int (nI o)), some (.int (nI m)), none, none], [.int (nI o)], wS S)) ok_m_lock rfl ?_
  refine aq_callS (as := [.int (nI o)]) (st := []) ok_m_lock rfl c0_m_checkObject (am_chkO ho) rfl (Nat.le_of_ble_eq_true rfl) ?_
  refine aq_gn (n := 1) (c1 := (10, [some (.ref 0), some (.int (nI t)), some (.int (nI o)), some (.int (nI m)), none, none], [.int (nI m)], wS S)) ok_m_lock rfl ?_
  refine aq_if_lt ok_m_lock rfl (fun h => ?_) (fun h => ?_)
  · exact absurd h (nI_pos (by omega))
  · refine aq_gn (n := 2) (c1 := (15, [some (.ref 0), some (.int (nI t)), some (.int (nI o)), some (.int (nI m)), none, none], [.int (nI 5), .int (nI m)], wS S)) ok_m_lock rfl ?_
    refine aq_icmp_lt ok_m_lock rfl (fun h2 => ?_) (fun h2 => ?_)
    · refine aq_gn (n := 2) (c1 := (30, [some (.ref 0), some (.int (nI t)), some (.int (nI o)), some (.int (nI m)), none, none], [.int (nI t), .ref 0], wS S)) ok_m_lock rfl ?_
      refine aq_callV (as := [.int (nI t)]) (st := []) ok_m_lock rfl c0_m_checkActive (am_chkAS ht6 hs) rfl (Nat.le_of_ble_eq_true rfl) rfl rfl rfl ?_
      refine aq_gn (n := 4) (c1 := (37, [some (.ref 0), some (.int (nI t)), some (.int (nI o)), some (.int (nI m)), none, none], [.int (nI m), .int (nI o), .int (nI t), .ref 0], wS S)) ok_m_lock rfl ?_
      refine aq_callV (as := [.int (nI t), .int (nI o), .int (nI m)]) (st := []) ok_m_lock rfl c0_m_mayAsk (am_mayAskS (d := d + 3) ht6 ho) rfl (Nat.le_of_ble_eq_true rfl) rfl rfl rfl ?_
      rw [hma]
      refine aq_if_ne ok_m_lock rfl (fun h3 => ?_) (fun h3 => ?_)
      · refine aq_gn (n := 3) (c1 := (56, [some (.ref 0), some (.int (nI t)), some (.int (nI o)), some (.int (nI m)), none, none], [.int (nI o), .int (nI t), .ref 0], wS S)) ok_m_lock rfl ?_
        refine aq_callV (as := [.int (nI t), .int (nI o)]) (st := []) ok_m_lock rfl c0_m_heldMode (am_heldS (d := d + 4) ht6 ho) rfl (Nat.le_of_ble_eq_true rfl) rfl rfl rfl ?_
        refine aq_gn (n := 3) (c1 := (64, [some (.ref 0), some (.int (nI t)), some (.int (nI o)), some (.int (nI m)), some (.int (oI (hm (s_ha S) t o))), none], [.int (nI m), .int (oI (hm (s_ha S) t o))], wS S)) ok_m_lock rfl ?_
        refine aq_callS (as := [.int (oI (hm (s_ha S) t o)), .int (nI m)]) (st := []) ok_m_lock rfl c0_m_leastAbove (am_leastAbove (oI (hm (s_ha S) t o)) (nI m)) rfl (Nat.le_of_ble_eq_true rfl) ?_
        have hlub := lub_o (fun x q => hm_lt q) hm5 (h := hm (s_ha S) t o)
        rw [hlub.1]
        refine aq_gn (n := 3) (c1 := (73, [some (.ref 0), some (.int (nI t)), some (.int (nI o)), some (.int (nI m)), some (.int (oI (hm (s_ha S) t o))), some (.int (nI (lub (hm (s_ha S) t o) m)))], [.int (oI (hm (s_ha S) t o)), .int (nI (lub (hm (s_ha S) t o) m))], wS S)) ok_m_lock rfl ?_
        refine aq_icmp_ne ok_m_lock rfl (fun h4 => ?_) (fun h4 => ?_)
        · have hne : ¬ hm (s_ha S) t o = some (lub (hm (s_ha S) t o) m) := fun q => h4 (show nI (lub (hm (s_ha S) t o) m) = oI (hm (s_ha S) t o) from (congrArg oI q).symm)
          have e1 : lk S t o m = (lkS S t o m, ans (lkS S t o m) t) := by rw [lk, if_neg hne]
          rw [e1]
          show AW m_lock _ (.inl (some (.int (ans (lkS S t o m) t)))) (wS (lkS S t o m)) (78, [some (.ref 0), some (.int (nI t)), some (.int (nI o)), some (.int (nI m)), some (.int (oI (hm (s_ha S) t o))), some (.int (nI (lub (hm (s_ha S) t o) m)))], [], wS S)
          unfold lkS
          refine aq_gn (n := 4) (c1 := (83, [some (.ref 0), some (.int (nI t)), some (.int (nI o)), some (.int (nI m)), some (.int (oI (hm (s_ha S) t o))), some (.int (nI (lub (hm (s_ha S) t o) m)))], [.int (nI (lub (hm (s_ha S) t o) m)), .int (nI o), .int (nI t), .ref 0], wS S)) ok_m_lock rfl ?_
          refine aq_callV (as := [.int (nI t), .int (nI o), .int (nI (lub (hm (s_ha S) t o) m))]) (st := []) ok_m_lock rfl c0_m_joinQueue (am_joinS (d := d + 2) hS ht6 ho hk) rfl (Nat.le_of_ble_eq_true rfl) rfl rfl rfl ?_
          obtain ⟨Q, hQ⟩ : ∃ Q, Q = jn S t o (lub (hm (s_ha S) t o) m) := ⟨_, rfl⟩
          have hWQ : WF Q := by rw [hQ]; exact WF_jn hS ht6 ho hlub.2 hk
          rw [← hQ]
          refine aq_gn (n := 2) (c1 := (88, [some (.ref 0), some (.int (nI t)), some (.int (nI o)), some (.int (nI m)), some (.int (oI (hm (s_ha S) t o))), some (.int (nI (lub (hm (s_ha S) t o) m)))], [.int (nI o), .ref 0], wS Q)) ok_m_lock rfl ?_
          refine aq_callV (as := [.int (nI o)]) (st := []) ok_m_lock rfl c0_m_serve (am_serve (d := d + 2) hWQ ho) rfl (Nat.le_of_ble_eq_true rfl) rfl rfl rfl ?_
          obtain ⟨U, hU⟩ : ∃ U, U = (sv Q o).1 := ⟨_, rfl⟩
          have hWU : WF U := by rw [hU]; exact WF_sv hWQ o
          rw [← hU]
          show AW m_lock _ _ _ (91, [some (.ref 0), some (.int (nI t)), some (.int (nI o)), some (.int (nI m)), some (.int (oI (hm (s_ha S) t o))), some (.int (nI (lub (hm (s_ha S) t o) m)))], [.int (nI (sv Q o).2)], wL (s_st U) (s_pr U) (s_aw U) (s_wa U) (s_ha U) (s_la U) (s_wr U) (s_n U) (s_k U) (s_c5 U) (s_c6 U) (s_c7 U))
          refine aq_go (n := 6) (c1 := (99, [some (.ref 0), some (.int (nI t)), some (.int (nI o)), some (.int (nI m)), some (.int (oI (hm (s_ha S) t o))), some (.int (nI (lub (hm (s_ha S) t o) m)))], [.int (-1), .int (oI ((s_aw U) (nI t).toNatClampNeg))], wL (s_st U) (s_pr U) (s_aw U) (s_wa U) (s_ha U) (s_la U) (s_wr U) (s_n U) (s_k U) (s_c5 U) (s_c6 U) (s_c7 U))) (P := vp_in (nI t) 60) ok_m_lock rfl (in60 ht6) ?_
          rw [cl60 ht6]
          refine aq_icmp_eq ok_m_lock rfl (fun h5 => ?_) (fun h5 => ?_)
          · have hx := oI_m1 h5 (fun x q => by have := hWU.2.2.2.1 t x q; omega)
            have e2 : lk3 U t = U := by rw [lk3, hx]
            rw [e2]
            refine aq_gn (n := 2) (c1 := (116, [some (.ref 0), some (.int (nI t)), some (.int (nI o)), some (.int (nI m)), some (.int (oI (hm (s_ha S) t o))), some (.int (nI (lub (hm (s_ha S) t o) m)))], [.int (nI t), .ref 0], wS U)) ok_m_lock rfl ?_
            refine aq_callV (as := [.int (nI t)]) (st := []) ok_m_lock rfl c0_m_answerFor (am_answerS hWU ht6) rfl (Nat.le_of_ble_eq_true rfl) rfl rfl rfl ?_
            exact aq_ei ok_m_lock rfl rfl rfl rfl
          · obtain ⟨y, hx⟩ := oI_nm1 h5
            have e2 : lk3 U t = bcF t 60 (s_sl U t 1) := by rw [lk3, hx]
            rw [e2]
            refine aq_go (n := 7) (c1 := (111, [some (.ref 0), some (.int (nI t)), some (.int (nI o)), some (.int (nI m)), some (.int (oI (hm (s_ha S) t o))), some (.int (nI (lub (hm (s_ha S) t o) m)))], [.int (nI t), .ref 0], wR (upd (fun i => nI ((s_st U) i)) (nI t).toNatClampNeg (nI 1)) (fun i => nI ((s_pr U) i)) (fun i => oI ((s_aw U) i)) (fun i => oI ((s_wa U) i)) (s_ha U) (fun i => nI ((s_la U) i)) (s_wr U) (nI (s_n U)) (nI (s_k U)) (nI (s_c5 U)) (nI (s_c6 U)) (nI (s_c7 U)))) (P := vp_in (nI t) 60) ok_m_lock rfl (in60 ht6) ?_
            rw [cl60 ht6, upd_n]
            show AW m_lock _ _ _ (111, [some (.ref 0), some (.int (nI t)), some (.int (nI o)), some (.int (nI m)), some (.int (oI (hm (s_ha S) t o))), some (.int (nI (lub (hm (s_ha S) t o) m)))], [.int (nI t), .ref 0], wS (s_sl U t 1))
            refine aq_callV (as := [.int (nI t)]) (st := []) ok_m_lock rfl c0_m_breakCircles (am_break (S := s_sl U t 1) (WF_sl hWU t 1 (by omega)) ht6) rfl (Nat.le_of_ble_eq_true rfl) rfl rfl rfl ?_
            refine aq_gn (n := 2) (c1 := (116, [some (.ref 0), some (.int (nI t)), some (.int (nI o)), some (.int (nI m)), some (.int (oI (hm (s_ha S) t o))), some (.int (nI (lub (hm (s_ha S) t o) m)))], [.int (nI t), .ref 0], wS (bcF t 60 (s_sl U t 1)))) ok_m_lock rfl ?_
            refine aq_callV (as := [.int (nI t)]) (st := []) ok_m_lock rfl c0_m_answerFor (am_answerS (WF_bcF _ _ (WF_sl hWU t 1 (by omega))) ht6) rfl (Nat.le_of_ble_eq_true rfl) rfl rfl rfl ?_
            exact aq_ei ok_m_lock rfl rfl rfl rfl
        · have hy : hm (s_ha S) t o = some (lub (hm (s_ha S) t o) m) := oI_eq h4.symm (by have := hlub.2; omega) (fun x q => by have := hm_lt q; omega)
          have e1 : lk S t o m = (S, 1) := by rw [lk, if_pos hy]
          rw [e1]
          refine aq_gn (n := 1) (c1 := (77, [some (.ref 0), some (.int (nI t)), some (.int (nI o)), some (.int (nI m)), some (.int (oI (hm (s_ha S) t o))), some (.int (nI (lub (hm (s_ha S) t o) m)))], [.int (nI 1)], wS S)) ok_m_lock rfl ?_
          exact aq_ei ok_m_lock rfl rfl rfl rfl
      · exact absurd h3 (by decide)
    · exact absurd (nI_lt hm5 (by omega)) h2
set_option maxHeartbeats 4000000 in
theorem am_lock_t {d : Nat} {S : LSt} {x y z : Int32} (hx : x < 0 ∨ nI (s_n S) ≤ x) : AM m_lock (d + 1) (.inr 0) [.ref 0, .int x, .int y, .int z] (wS S) (wS S) := by
  refine aq_enter pl_m_lock (Nat.le_of_ble_eq_true rfl) ?_
  refine aq_gn (n := 2) (c1 := (2, [some (.ref 0), some (.int x), some (.int y), some (.int z), none, none], [.int x, .ref 0], wS S)) ok_m_lock rfl ?_
  exact aq_callVT (as := [.int x]) (st := []) ok_m_lock rfl c0_m_checkTransaction (am_chkTS_x hx) rfl (Nat.le_of_ble_eq_true rfl) rfl rfl rfl
set_option maxHeartbeats 4000000 in
theorem am_lock_o {d : Nat} {S : LSt} {t : Nat} {y z : Int32} (hS : WF S) (ht : t < s_n S) (hx : y < 0 ∨ nI 85 ≤ y) : AM m_lock (d + 1) (.inr 0) [.ref 0, .int (nI t), .int y, .int z] (wS S) (wS S) := by
  refine aq_enter pl_m_lock (Nat.le_of_ble_eq_true rfl) ?_
  refine aq_gn (n := 2) (c1 := (2, [some (.ref 0), some (.int (nI t)), some (.int y), some (.int z), none, none], [.int (nI t), .ref 0], wS S)) ok_m_lock rfl ?_
  refine aq_callV (as := [.int (nI t)]) (st := []) ok_m_lock rfl c0_m_checkTransaction (am_chkTS hS ht) rfl (Nat.le_of_ble_eq_true rfl) rfl rfl rfl ?_
  refine aq_gn (n := 1) (c1 := (6, [some (.ref 0), some (.int (nI t)), some (.int y), some (.int z), none, none], [.int y], wS S)) ok_m_lock rfl ?_
  exact aq_callST (as := [.int y]) (st := []) ok_m_lock rfl c0_m_checkObject (am_chkO_x hx) rfl (Nat.le_of_ble_eq_true rfl)
set_option maxHeartbeats 4000000 in
theorem am_lock_m {d : Nat} {S : LSt} {t o : Nat} {z : Int32} (hS : WF S) (ht : t < s_n S) (ho : o < 85) (hx : z < 0 ∨ nI 5 ≤ z) : AM m_lock (d + 1) (.inr 1) [.ref 0, .int (nI t), .int (nI o), .int z] (wS S) (wS S) := by
  refine aq_enter pl_m_lock (Nat.le_of_ble_eq_true rfl) ?_
  refine aq_gn (n := 2) (c1 := (2, [some (.ref 0), some (.int (nI t)), some (.int (nI o)), some (.int z), none, none], [.int (nI t), .ref 0], wS S)) ok_m_lock rfl ?_
  refine aq_callV (as := [.int (nI t)]) (st := []) ok_m_lock rfl c0_m_checkTransaction (am_chkTS hS ht) rfl (Nat.le_of_ble_eq_true rfl) rfl rfl rfl ?_
  refine aq_gn (n := 1) (c1 := (6, [some (.ref 0), some (.int (nI t)), some (.int (nI o)), some (.int z), none, none], [.int (nI o)], wS S)) ok_m_lock rfl ?_
  refine aq_callS (as := [.int (nI o)]) (st := []) ok_m_lock rfl c0_m_checkObject (am_chkO ho) rfl (Nat.le_of_ble_eq_true rfl) ?_
  refine aq_gn (n := 1) (c1 := (10, [some (.ref 0), some (.int (nI t)), some (.int (nI o)), some (.int z), none, none], [.int z], wS S)) ok_m_lock rfl ?_
  refine aq_if_lt ok_m_lock rfl (fun h => ?_) (fun h => ?_)
  · exact aq_throw (text := "there is no such mode") ok_m_lock rfl tw1 (aq_fit _) aq_upf (by decide +kernel) rfl rfl rfl rfl rfl (Nat.le_of_ble_eq_true rfl)
  · refine aq_gn (n := 2) (c1 := (15, [some (.ref 0), some (.int (nI t)), some (.int (nI o)), some (.int z), none, none], [.int (nI 5), .int z], wS S)) ok_m_lock rfl ?_
    refine aq_icmp_lt ok_m_lock rfl (fun h2 => ?_) (fun h2 => ?_)
    · rcases hx with q | q
      · exact absurd q h
      · exact absurd h2 (Int32.not_lt.mpr q)
    · exact aq_throw (text := "there is no such mode") ok_m_lock rfl tw1 (aq_fit _) aq_upf (by decide +kernel) rfl rfl rfl rfl rfl (Nat.le_of_ble_eq_true rfl)
set_option maxHeartbeats 4000000 in
theorem am_lock_a {d : Nat} {S : LSt} {t o m : Nat} (hS : WF S) (ht : t < s_n S) (ho : o < 85) (hm5 : m < 5) (hs : ¬ s_st S t = 0) : AM m_lock (d + 1) (.inr 2) [.ref 0, .int (nI t), .int (nI o), .int (nI m)] (wS S) (wS S) := by
  refine aq_enter pl_m_lock (Nat.le_of_ble_eq_true rfl) ?_
  have ht6 : t < 60 := Nat.lt_of_lt_of_le ht hS.2.2.1
  refine aq_gn (n := 2) (c1 := (2, [some (.ref 0), some (.int (nI t)), some (.int (nI o)), some (.int (nI m)), none, none], [.int (nI t), .ref 0], wS S)) ok_m_lock rfl ?_
  refine aq_callV (as := [.int (nI t)]) (st := []) ok_m_lock rfl c0_m_checkTransaction (am_chkTS hS ht) rfl (Nat.le_of_ble_eq_true rfl) rfl rfl rfl ?_
  refine aq_gn (n := 1) (c1 := (6, [some (.ref 0), some (.int (nI t)), some (.int (nI o)), some (.int (nI m)), none, none], [.int (nI o)], wS S)) ok_m_lock rfl ?_
  refine aq_callS (as := [.int (nI o)]) (st := []) ok_m_lock rfl c0_m_checkObject (am_chkO ho) rfl (Nat.le_of_ble_eq_true rfl) ?_
  refine aq_gn (n := 1) (c1 := (10, [some (.ref 0), some (.int (nI t)), some (.int (nI o)), some (.int (nI m)), none, none], [.int (nI m)], wS S)) ok_m_lock rfl ?_
  refine aq_if_lt ok_m_lock rfl (fun h => ?_) (fun h => ?_)
  · exact absurd h (nI_pos (by omega))
  · refine aq_gn (n := 2) (c1 := (15, [some (.ref 0), some (.int (nI t)), some (.int (nI o)), some (.int (nI m)), none, none], [.int (nI 5), .int (nI m)], wS S)) ok_m_lock rfl ?_
    refine aq_icmp_lt ok_m_lock rfl (fun h2 => ?_) (fun h2 => ?_)
    · refine aq_gn (n := 2) (c1 := (30, [some (.ref 0), some (.int (nI t)), some (.int (nI o)), some (.int (nI m)), none, none], [.int (nI t), .ref 0], wS S)) ok_m_lock rfl ?_
      exact aq_callVT (as := [.int (nI t)]) (st := []) ok_m_lock rfl c0_m_checkActive (am_chkAS_x hS ht6 hs) rfl (Nat.le_of_ble_eq_true rfl) rfl rfl rfl
    · exact absurd (nI_lt hm5 (by omega)) h2
set_option maxHeartbeats 4000000 in
theorem am_lock_n {d : Nat} {S : LSt} {t o m : Nat} (hS : WF S) (ht : t < s_n S) (ho : o < 85) (hm5 : m < 5) (hs : s_st S t = 0) (hma : ma (s_ha S) t o m = false) : AM m_lock (d + 3) (.inr 2) [.ref 0, .int (nI t), .int (nI o), .int (nI m)] (wS S) (wS S) := by
  refine aq_enter pl_m_lock (Nat.le_of_ble_eq_true rfl) ?_
  have ht6 : t < 60 := Nat.lt_of_lt_of_le ht hS.2.2.1
  refine aq_gn (n := 2) (c1 := (2, [some (.ref 0), some (.int (nI t)), some (.int (nI o)), some (.int (nI m)), none, none], [.int (nI t), .ref 0], wS S)) ok_m_lock rfl ?_
  refine aq_callV (as := [.int (nI t)]) (st := []) ok_m_lock rfl c0_m_checkTransaction (am_chkTS hS ht) rfl (Nat.le_of_ble_eq_true rfl) rfl rfl rfl ?_
  refine aq_gn (n := 1) (c1 := (6, [some (.ref 0), some (.int (nI t)), some (.int (nI o)), some (.int (nI m)), none, none], [.int (nI o)], wS S)) ok_m_lock rfl ?_
  refine aq_callS (as := [.int (nI o)]) (st := []) ok_m_lock rfl c0_m_checkObject (am_chkO ho) rfl (Nat.le_of_ble_eq_true rfl) ?_
  refine aq_gn (n := 1) (c1 := (10, [some (.ref 0), some (.int (nI t)), some (.int (nI o)), some (.int (nI m)), none, none], [.int (nI m)], wS S)) ok_m_lock rfl ?_
  refine aq_if_lt ok_m_lock rfl (fun h => ?_) (fun h => ?_)
  · exact absurd h (nI_pos (by omega))
  · refine aq_gn (n := 2) (c1 := (15, [some (.ref 0), some (.int (nI t)), some (.int (nI o)), some (.int (nI m)), none, none], [.int (nI 5), .int (nI m)], wS S)) ok_m_lock rfl ?_
    refine aq_icmp_lt ok_m_lock rfl (fun h2 => ?_) (fun h2 => ?_)
    · refine aq_gn (n := 2) (c1 := (30, [some (.ref 0), some (.int (nI t)), some (.int (nI o)), some (.int (nI m)), none, none], [.int (nI t), .ref 0], wS S)) ok_m_lock rfl ?_
      refine aq_callV (as := [.int (nI t)]) (st := []) ok_m_lock rfl c0_m_checkActive (am_chkAS ht6 hs) rfl (Nat.le_of_ble_eq_true rfl) rfl rfl rfl ?_
      refine aq_gn (n := 4) (c1 := (37, [some (.ref 0), some (.int (nI t)), some (.int (nI o)), some (.int (nI m)), none, none], [.int (nI m), .int (nI o), .int (nI t), .ref 0], wS S)) ok_m_lock rfl ?_
      refine aq_callV (as := [.int (nI t), .int (nI o), .int (nI m)]) (st := []) ok_m_lock rfl c0_m_mayAsk (am_mayAskS (d := d) ht6 ho) rfl (Nat.le_of_ble_eq_true rfl) rfl rfl rfl ?_
      rw [hma]
      refine aq_if_ne ok_m_lock rfl (fun h3 => ?_) (fun h3 => ?_)
      · exact absurd rfl h3
      · exact aq_throw (text := "the object above is not held as it must be") ok_m_lock rfl tw2 (aq_fit _) aq_upf (by decide +kernel) rfl rfl rfl rfl rfl (Nat.le_of_ble_eq_true rfl)
    · exact absurd (nI_lt hm5 (by omega)) h2
set_option maxHeartbeats 4000000 in
theorem am_commit {d : Nat} {S : LSt} {t : Nat} (hS : WF S) (ht : t < s_n S) (hs : s_st S t = 0) : AM m_commit (d + 5) (.inl (some (.int (nI (en S t 2).2)))) [.ref 0, .int (nI t)] (wS S) (wS (en S t 2).1) := by
  refine aq_enter pl_m_commit (Nat.le_of_ble_eq_true rfl) ?_
  have ht6 : t < 60 := Nat.lt_of_lt_of_le ht hS.2.2.1
  refine aq_gn (n := 2) (c1 := (2, [some (.ref 0), some (.int (nI t))], [.int (nI t), .ref 0], wS S)) ok_m_commit rfl ?_
  refine aq_callV (as := [.int (nI t)]) (st := []) ok_m_commit rfl c0_m_checkTransaction (am_chkTS hS ht) rfl (Nat.le_of_ble_eq_true rfl) rfl rfl rfl ?_
  refine aq_gn (n := 2) (c1 := (7, [some (.ref 0), some (.int (nI t))], [.int (nI t), .ref 0], wS S)) ok_m_commit rfl ?_
  refine aq_callV (as := [.int (nI t)]) (st := []) ok_m_commit rfl c0_m_checkActive (am_chkAS ht6 hs) rfl (Nat.le_of_ble_eq_true rfl) rfl rfl rfl ?_
  refine aq_gn (n := 3) (c1 := (13, [some (.ref 0), some (.int (nI t))], [.int (nI 2), .int (nI t), .ref 0], wS S)) ok_m_commit rfl ?_
  refine aq_callV (as := [.int (nI t), .int (nI 2)]) (st := []) ok_m_commit rfl c0_m_end (am_end hS ht6 (by omega)) rfl (Nat.le_of_ble_eq_true rfl) rfl rfl rfl ?_
  exact aq_ei ok_m_commit rfl rfl rfl rfl
set_option maxHeartbeats 4000000 in
theorem am_commit_t {d : Nat} {S : LSt} {x : Int32} (hx : x < 0 ∨ nI (s_n S) ≤ x) : AM m_commit (d + 1) (.inr 0) [.ref 0, .int x] (wS S) (wS S) := by
  refine aq_enter pl_m_commit (Nat.le_of_ble_eq_true rfl) ?_
  refine aq_gn (n := 2) (c1 := (2, [some (.ref 0), some (.int x)], [.int x, .ref 0], wS S)) ok_m_commit rfl ?_
  exact aq_callVT (as := [.int x]) (st := []) ok_m_commit rfl c0_m_checkTransaction (am_chkTS_x hx) rfl (Nat.le_of_ble_eq_true rfl) rfl rfl rfl
set_option maxHeartbeats 4000000 in
theorem am_commit_a {d : Nat} {S : LSt} {t : Nat} (hS : WF S) (ht : t < s_n S) (hs : ¬ s_st S t = 0) : AM m_commit (d + 1) (.inr 2) [.ref 0, .int (nI t)] (wS S) (wS S) := by
  refine aq_enter pl_m_commit (Nat.le_of_ble_eq_true rfl) ?_
  refine aq_gn (n := 2) (c1 := (2, [some (.ref 0), some (.int (nI t))], [.int (nI t), .ref 0], wS S)) ok_m_commit rfl ?_
  refine aq_callV (as := [.int (nI t)]) (st := []) ok_m_commit rfl c0_m_checkTransaction (am_chkTS hS ht) rfl (Nat.le_of_ble_eq_true rfl) rfl rfl rfl ?_
  refine aq_gn (n := 2) (c1 := (7, [some (.ref 0), some (.int (nI t))], [.int (nI t), .ref 0], wS S)) ok_m_commit rfl ?_
  exact aq_callVT (as := [.int (nI t)]) (st := []) ok_m_commit rfl c0_m_checkActive (am_chkAS_x hS (Nat.lt_of_lt_of_le ht hS.2.2.1) hs) rfl (Nat.le_of_ble_eq_true rfl) rfl rfl rfl
set_option maxHeartbeats 4000000 in
theorem am_abort {d : Nat} {S : LSt} {t : Nat} (hS : WF S) (ht : t < s_n S) (hs : s_st S t < 2) : AM m_abort (d + 5) (.inl (some (.int (nI (en S t 3).2)))) [.ref 0, .int (nI t)] (wS S) (wS (en S t 3).1) := by
  refine aq_enter pl_m_abort (Nat.le_of_ble_eq_true rfl) ?_
  have ht6 : t < 60 := Nat.lt_of_lt_of_le ht hS.2.2.1
  refine aq_gn (n := 2) (c1 := (2, [some (.ref 0), some (.int (nI t))], [.int (nI t), .ref 0], wS S)) ok_m_abort rfl ?_
  refine aq_callV (as := [.int (nI t)]) (st := []) ok_m_abort rfl c0_m_checkTransaction (am_chkTS hS ht) rfl (Nat.le_of_ble_eq_true rfl) rfl rfl rfl ?_
  refine aq_go (n := 4) (c1 := (11, [some (.ref 0), some (.int (nI t))], [.int (nI ((s_st S) (nI t).toNatClampNeg))], wL (s_st S) (s_pr S) (s_aw S) (s_wa S) (s_ha S) (s_la S) (s_wr S) (s_n S) (s_k S) (s_c5 S) (s_c6 S) (s_c7 S))) (P := vp_in (nI t) 60) ok_m_abort rfl (in60 ht6) ?_
  rw [cl60 ht6]
  refine aq_if_eq ok_m_abort rfl (fun h => ?_) (fun h => ?_)
  · refine aq_gn (n := 3) (c1 := (37, [some (.ref 0), some (.int (nI t))], [.int (nI 3), .int (nI t), .ref 0], wS S)) ok_m_abort rfl ?_
    refine aq_callV (as := [.int (nI t), .int (nI 3)]) (st := []) ok_m_abort rfl c0_m_end (am_end hS ht6 (by omega)) rfl (Nat.le_of_ble_eq_true rfl) rfl rfl rfl ?_
    exact aq_ei ok_m_abort rfl rfl rfl rfl
  · have h0 : ¬ s_st S t = 0 := fun q => h (by rw [q]; rfl)
    refine aq_go (n := 5) (c1 := (21, [some (.ref 0), some (.int (nI t))], [.int (nI 1), .int (nI ((s_st S) (nI t).toNatClampNeg))], wL (s_st S) (s_pr S) (s_aw S) (s_wa S) (s_ha S) (s_la S) (s_wr S) (s_n S) (s_k S) (s_c5 S) (s_c6 S) (s_c7 S))) (P := vp_in (nI t) 60) ok_m_abort rfl (in60 ht6) ?_
    rw [cl60 ht6]
    refine aq_icmp_eq ok_m_abort rfl (fun h2 => ?_) (fun h2 => ?_)
    · refine aq_gn (n := 3) (c1 := (37, [some (.ref 0), some (.int (nI t))], [.int (nI 3), .int (nI t), .ref 0], wS S)) ok_m_abort rfl ?_
      refine aq_callV (as := [.int (nI t), .int (nI 3)]) (st := []) ok_m_abort rfl c0_m_end (am_end hS ht6 (by omega)) rfl (Nat.le_of_ble_eq_true rfl) rfl rfl rfl ?_
      exact aq_ei ok_m_abort rfl rfl rfl rfl
    · exact absurd (by rw [show s_st S t = 1 by omega]) h2
set_option maxHeartbeats 4000000 in
theorem am_abort_t {d : Nat} {S : LSt} {x : Int32} (hx : x < 0 ∨ nI (s_n S) ≤ x) : AM m_abort (d + 1) (.inr 0) [.ref 0, .int x] (wS S) (wS S) := by
  refine aq_enter pl_m_abort (Nat.le_of_ble_eq_true rfl) ?_
  refine aq_gn (n := 2) (c1 := (2, [some (.ref 0), some (.int x)], [.int x, .ref 0], wS S)) ok_m_abort rfl ?_
  exact aq_callVT (as := [.int x]) (st := []) ok_m_abort rfl c0_m_checkTransaction (am_chkTS_x hx) rfl (Nat.le_of_ble_eq_true rfl) rfl rfl rfl
set_option maxHeartbeats 4000000 in
theorem am_abort_a {d : Nat} {S : LSt} {t : Nat} (hS : WF S) (ht : t < s_n S) (hs : ¬ s_st S t < 2) : AM m_abort (d + 1) (.inr 2) [.ref 0, .int (nI t)] (wS S) (wS S) := by
  refine aq_enter pl_m_abort (Nat.le_of_ble_eq_true rfl) ?_
  have ht6 : t < 60 := Nat.lt_of_lt_of_le ht hS.2.2.1
  have hs4 := hS.2.2.2.2.2.2.1 t
  refine aq_gn (n := 2) (c1 := (2, [some (.ref 0), some (.int (nI t))], [.int (nI t), .ref 0], wS S)) ok_m_abort rfl ?_
  refine aq_callV (as := [.int (nI t)]) (st := []) ok_m_abort rfl c0_m_checkTransaction (am_chkTS hS ht) rfl (Nat.le_of_ble_eq_true rfl) rfl rfl rfl ?_
  refine aq_go (n := 4) (c1 := (11, [some (.ref 0), some (.int (nI t))], [.int (nI ((s_st S) (nI t).toNatClampNeg))], wL (s_st S) (s_pr S) (s_aw S) (s_wa S) (s_ha S) (s_la S) (s_wr S) (s_n S) (s_k S) (s_c5 S) (s_c6 S) (s_c7 S))) (P := vp_in (nI t) 60) ok_m_abort rfl (in60 ht6) ?_
  rw [cl60 ht6]
  refine aq_if_eq ok_m_abort rfl (fun h => ?_) (fun h => ?_)
  · exact absurd (q_eq (b := 0) h (by omega) (by omega)) (by omega)
  · refine aq_go (n := 5) (c1 := (21, [some (.ref 0), some (.int (nI t))], [.int (nI 1), .int (nI ((s_st S) (nI t).toNatClampNeg))], wL (s_st S) (s_pr S) (s_aw S) (s_wa S) (s_ha S) (s_la S) (s_wr S) (s_n S) (s_k S) (s_c5 S) (s_c6 S) (s_c7 S))) (P := vp_in (nI t) 60) ok_m_abort rfl (in60 ht6) ?_
    rw [cl60 ht6]
    refine aq_icmp_eq ok_m_abort rfl (fun h2 => ?_) (fun h2 => ?_)
    · exact absurd (q_eq h2 (by omega) (by omega)) (by omega)
    · show AW m_abort _ _ _ (24, [some (.ref 0), some (.int (nI t))], [], wS S)
      exact aq_throw (text := "the transaction has ended") ok_m_abort rfl tw2 (aq_fit _) aq_upf (by decide +kernel) rfl rfl rfl rfl rfl (Nat.le_of_ble_eq_true rfl)
end
section
/-! THE CLASS: escalate, and what is told -/
section AQT
variable {mi : aq_M} {d : Nat} {O : aq_O} {w w' : List va_E} {pc nx tg len tgt : Nat} {kc x : Int32} {al : List (Option Value)} {st : List Value} {dflt lo hi off : Int} {offs : Array Int}
theorem aq_tabI (hok : aq_okM mi = true) (hat : aq_at (aq_t mi) pc = some (.tableswitch dflt lo hi offs, len, nx, kc, tg)) (h1 : ¬ x.toInt < lo) (h2 : ¬ hi < x.toInt) (ho : offs[(x.toInt - lo).toNat]? = some off) (ht : (pc : Int) + off = (tgt : Int)) (k : AW mi d O w' (tgt, al, st, w)) : AW mi d O w' (pc, al, .int x :: st, w) :=
  aq_read (fun hF _ _ kk => lv_tableIn hF.1 hF.2.1 (aq_ok_at hok hat).1 h1 h2 ho ht kk) k
theorem aq_tabO (hok : aq_okM mi = true) (hat : aq_at (aq_t mi) pc = some (.tableswitch dflt lo hi offs, len, nx, kc, tg)) (h : x.toInt < lo ∨ hi < x.toInt) (ht : (pc : Int) + dflt = (tgt : Int)) (k : AW mi d O w' (tgt, al, st, w)) : AW mi d O w' (pc, al, .int x :: st, w) :=
  aq_read (fun hF _ _ kk => lv_tableOut hF.1 hF.2.1 (aq_ok_at hok hat).1 h ht kk) k
end AQT
/-- is the object u among the first f above x -/
def ibF (u : Nat) : Nat → Option Nat → Bool
  | 0, _ => false
  | f + 1, x => if abv x = some u then true else ibF u f (abv x)
def blw (l u : Nat) : Bool := ibF u 3 (some l)
def wbF (ha : Nat → Int64) (t o : Nat) : Nat → Nat → Bool
  | 0, _ => false
  | f + 1, i => if blw i o = true ∧ wrI (oI (hm ha t i)) = true then true else wbF ha t o f (i + 1)
def wb (ha : Nat → Int64) (t o : Nat) : Bool := wbF ha t o (84 - o) (o + 1)
def dbF (t o : Nat) : Nat → Nat → Nat → LSt → LSt × Nat
  | 0, _, c, S => (S, c)
  | f + 1, i, c, S => if blw i o = true then (if (hm (s_ha S) t i).isSome = true then dbF t o f (i + 1) (c + 1) (sv (s_hl S (lg (s_ha S) t i)) i).1 else dbF t o f (i + 1) c (s_hl S (lg (s_ha S) t i))) else dbF t o f (i + 1) c S
def db (S : LSt) (t o : Nat) : LSt × Nat := dbF t o (84 - o) (o + 1) 0 S
theorem WF_dbF {t o : Nat} : ∀ (f i c : Nat) (S : LSt), WF S → WF (dbF t o f i c S).1 := by
  intro f
  induction f with
  | zero => intro i c S h; exact h
  | succ f ih =>
    intro i c S h
    unfold dbF
    split
    · split
      · exact ih _ _ _ (WF_sv (WF_hl h _) i)
      · exact ih _ _ _ (WF_hl h _)
    · exact ih _ _ _ h
theorem WF_db {S : LSt} (h : WF S) (t o : Nat) : WF (db S t o).1 := WF_dbF _ _ _ _ h
def eww (S : LSt) (t o : Nat) : Nat := lub (hm (s_ha S) t o) (if wb (s_ha S) t o then 4 else 2)
def esc (S : LSt) (t o : Nat) : LSt × Int32 := if ow (s_ha S) t o (nI (eww S t o)) = 0 then ((sv (db (s_hl S (hd (s_ha S) t o (eww S t o))) t o).1 o).1, nI (db (s_hl S (hd (s_ha S) t o (eww S t o))) t o).2) else (S, -1)
set_option maxHeartbeats 4000000 in
theorem lp_isBelow {d : Nat} {w : List va_E} {l u : Nat} (hu : u < 85) : ∀ (f i : Nat), i + f = 4 → ∀ x : Option Nat, (∀ y, x = some y → y < 85) → AW m_isBelow (d + 2) (.inl (some (.int (bI (ibF u f x))))) (w) (4, [some (.int (nI l)), some (.int (nI u)), some (.int (oI x)), some (.int (nI i))], [], w) := by
  intro f
  induction f with
  | zero =>
    intro i hif x hx
    refine aq_gn (n := 2) (c1 := (6, [some (.int (nI l)), some (.int (nI u)), some (.int (oI x)), some (.int (nI i))], [.int (nI 4), .int (nI i)], w)) ok_m_isBelow rfl ?_
    refine aq_icmp_ge ok_m_isBelow rfl (fun h => ?_) (fun h => ?_)
    · refine aq_gn (n := 1) (c1 := (28, [some (.int (nI l)), some (.int (nI u)), some (.int (oI x)), some (.int (nI i))], [.int (nI 0)], w)) ok_m_isBelow rfl ?_
      exact aq_ez ok_m_isBelow rfl rfl rfl rfl
    · exact absurd (nI_le (show 4 ≤ i by omega) (by omega)) h
  | succ f ih =>
    intro i hif x hx
    refine aq_gn (n := 2) (c1 := (6, [some (.int (nI l)), some (.int (nI u)), some (.int (oI x)), some (.int (nI i))], [.int (nI 4), .int (nI i)], w)) ok_m_isBelow rfl ?_
    refine aq_icmp_ge ok_m_isBelow rfl (fun h => ?_) (fun h => ?_)
    · exact absurd (q_le h (by omega) (by omega)) (by omega)
    · refine aq_gn (n := 1) (c1 := (10, [some (.int (nI l)), some (.int (nI u)), some (.int (oI x)), some (.int (nI i))], [.int (oI x)], w)) ok_m_isBelow rfl ?_
      refine aq_callS (as := [.int (oI x)]) (st := []) ok_m_isBelow rfl c0_m_above (am_above (oI x)) rfl (Nat.le_of_ble_eq_true rfl) ?_
      rw [avI_o hx]
      refine aq_gn (n := 3) (c1 := (16, [some (.int (nI l)), some (.int (nI u)), some (.int (oI (abv x))), some (.int (nI i))], [.int (nI u), .int (oI (abv x))], w)) ok_m_isBelow rfl ?_
      refine aq_icmp_ne ok_m_isBelow rfl (fun h2 => ?_) (fun h2 => ?_)
      · have hne := oI_ne h2
        refine aq_gn (n := 2) (c1 := (4, [some (.int (nI l)), some (.int (nI u)), some (.int (oI (abv x))), some (.int ((nI i) + 1))], [], w)) ok_m_isBelow rfl ?_
        rw [nI_1]
        have e : ibF u (f + 1) x = ibF u f (abv x) := by rw [ibF, if_neg hne]
        rw [e]
        exact ih (i + 1) (by omega) (abv x) (abv_lt hx)
      · have hy := oI_eq h2 (by omega) (fun y q => by have := abv_lt hx y q; omega)
        refine aq_gn (n := 1) (c1 := (20, [some (.int (nI l)), some (.int (nI u)), some (.int (oI (abv x))), some (.int (nI i))], [.int (nI 1)], w)) ok_m_isBelow rfl ?_
        exact aq_ez ok_m_isBelow rfl rfl (by rw [ibF, if_pos hy]; rfl) rfl
set_option maxHeartbeats 4000000 in
theorem am_isBelow {d : Nat} {w : List va_E} {l u : Nat} (hl : l < 85) (hu : u < 85) : AM m_isBelow (d + 2) (.inl (some (.int (bI (blw l u))))) [.int (nI l), .int (nI u)] (w) (w) := by
  refine aq_enter pl_m_isBelow (Nat.le_of_ble_eq_true rfl) ?_
  refine aq_gn (n := 4) (c1 := (4, [some (.int (nI l)), some (.int (nI u)), some (.int (nI l)), some (.int (nI 1))], [], w)) ok_m_isBelow rfl ?_
  exact lp_isBelow hu 3 1 rfl (some l) (fun y q => by cases q; exact hl)
set_option maxHeartbeats 4000000 in
theorem lp_wb {d : Nat} {st pr : Nat → Nat} {aw wa : Nat → Option Nat} {ha : Nat → Int64} {la : Nat → Nat} {wr : Nat → Int64} {n k c5 c6 c7 : Nat} {t o : Nat} (ht : t < 60) (ho : o < 85) : ∀ (f i : Nat), i + f = 85 → AW m_writesBelow (d + 3) (.inl (some (.int (bI (wbF ha t o f i))))) (wL st pr aw wa ha la wr n k c5 c6 c7) (4, [some (.ref 0), some (.int (nI t)), some (.int (nI o)), some (.int (nI i))], [], wL st pr aw wa ha la wr n k c5 c6 c7) := by
  intro f
  induction f with
  | zero =>
    intro i hif 
    refine aq_gn (n := 2) (c1 := (7, [some (.ref 0), some (.int (nI t)), some (.int (nI o)), some (.int (nI i))], [.int (nI 85), .int (nI i)], wL st pr aw wa ha la wr n k c5 c6 c7)) ok_m_writesBelow rfl ?_
    refine aq_icmp_ge ok_m_writesBelow rfl (fun h => ?_) (fun h => ?_)
    · refine aq_gn (n := 1) (c1 := (39, [some (.ref 0), some (.int (nI t)), some (.int (nI o)), some (.int (nI i))], [.int (nI 0)], wL st pr aw wa ha la wr n k c5 c6 c7)) ok_m_writesBelow rfl ?_
      exact aq_ez ok_m_writesBelow rfl rfl rfl rfl
    · exact absurd (nI_le (show 85 ≤ i by omega) (by omega)) h
  | succ f ih =>
    intro i hif 
    refine aq_gn (n := 2) (c1 := (7, [some (.ref 0), some (.int (nI t)), some (.int (nI o)), some (.int (nI i))], [.int (nI 85), .int (nI i)], wL st pr aw wa ha la wr n k c5 c6 c7)) ok_m_writesBelow rfl ?_
    refine aq_icmp_ge ok_m_writesBelow rfl (fun h => ?_) (fun h => ?_)
    · exact absurd (q_le h (by omega) (by omega)) (by omega)
    · refine aq_gn (n := 2) (c1 := (12, [some (.ref 0), some (.int (nI t)), some (.int (nI o)), some (.int (nI i))], [.int (nI o), .int (nI i)], wL st pr aw wa ha la wr n k c5 c6 c7)) ok_m_writesBelow rfl ?_
      refine aq_callS (as := [.int (nI i), .int (nI o)]) (st := []) ok_m_writesBelow rfl c0_m_isBelow (am_isBelow (d := d) (show i < 85 by omega) ho) rfl (Nat.le_of_ble_eq_true rfl) ?_
      refine aq_if_eq ok_m_writesBelow rfl (fun h2 => ?_) (fun h2 => ?_)
      · have hb := (bI_0 _).mp h2
        refine aq_gn (n := 2) (c1 := (4, [some (.ref 0), some (.int (nI t)), some (.int (nI o)), some (.int ((nI i) + 1))], [], wL st pr aw wa ha la wr n k c5 c6 c7)) ok_m_writesBelow rfl ?_
        rw [nI_1]
        have e : wbF ha t o (f + 1) i = wbF ha t o f (i + 1) := by rw [wbF, if_neg (by simp [hb])]
        rw [e]
        exact ih (i + 1) (by omega)
      · have hc : blw i o = true := by cases hy : blw i o with | true => rfl | false => exact absurd ((bI_0 _).mpr hy) h2
        refine aq_gn (n := 3) (c1 := (21, [some (.ref 0), some (.int (nI t)), some (.int (nI o)), some (.int (nI i))], [.int (nI i), .int (nI t), .ref 0], wL st pr aw wa ha la wr n k c5 c6 c7)) ok_m_writesBelow rfl ?_
        refine aq_callV (as := [.int (nI t), .int (nI i)]) (st := []) ok_m_writesBelow rfl c0_m_heldMode (am_heldMode (d := d + 1) ht (show i < 85 by omega)) rfl (Nat.le_of_ble_eq_true rfl) rfl rfl rfl ?_
        refine aq_callS (as := [.int (oI (hm ha t i))]) (st := []) ok_m_writesBelow rfl c0_m_isWriting (am_isWriting (oI (hm ha t i))) rfl (Nat.le_of_ble_eq_true rfl) ?_
        refine aq_if_eq ok_m_writesBelow rfl (fun h3 => ?_) (fun h3 => ?_)
        · have hb := (bI_0 _).mp h3
          refine aq_gn (n := 2) (c1 := (4, [some (.ref 0), some (.int (nI t)), some (.int (nI o)), some (.int ((nI i) + 1))], [], wL st pr aw wa ha la wr n k c5 c6 c7)) ok_m_writesBelow rfl ?_
          rw [nI_1]
          have e : wbF ha t o (f + 1) i = wbF ha t o f (i + 1) := by rw [wbF, if_neg (by simp [hb])]
          rw [e]
          exact ih (i + 1) (by omega)
        · have hd : wrI (oI (hm ha t i)) = true := by cases hy : wrI (oI (hm ha t i)) with | true => rfl | false => exact absurd ((bI_0 _).mpr hy) h3
          refine aq_gn (n := 1) (c1 := (31, [some (.ref 0), some (.int (nI t)), some (.int (nI o)), some (.int (nI i))], [.int (nI 1)], wL st pr aw wa ha la wr n k c5 c6 c7)) ok_m_writesBelow rfl ?_
          exact aq_ez ok_m_writesBelow rfl rfl (by rw [wbF, if_pos ⟨hc, hd⟩]; rfl) rfl
set_option maxHeartbeats 4000000 in
theorem am_wb {d : Nat} {st pr : Nat → Nat} {aw wa : Nat → Option Nat} {ha : Nat → Int64} {la : Nat → Nat} {wr : Nat → Int64} {n k c5 c6 c7 : Nat} {t o : Nat} (ht : t < 60) (ho : o < 85) : AM m_writesBelow (d + 3) (.inl (some (.int (bI (wb ha t o))))) [.ref 0, .int (nI t), .int (nI o)] (wL st pr aw wa ha la wr n k c5 c6 c7) (wL st pr aw wa ha la wr n k c5 c6 c7) := by
  refine aq_enter pl_m_writesBelow (Nat.le_of_ble_eq_true rfl) ?_
  refine aq_gn (n := 4) (c1 := (4, [some (.ref 0), some (.int (nI t)), some (.int (nI o)), some (.int ((nI o) + (nI 1)))], [], wL st pr aw wa ha la wr n k c5 c6 c7)) ok_m_writesBelow rfl ?_
  rw [nI_add]
  exact lp_wb ht ho (84 - o) (o + 1) (by omega)
set_option maxHeartbeats 4000000 in
theorem lp_db {d : Nat} {t o : Nat} (ht : t < 60) (ho : o < 85) : ∀ (f i : Nat), i + f = 85 → ∀ (c : Nat) (S : LSt), WF S → AW m_dropBelow (d + 4) (.inl (some (.int (nI (dbF t o f i c S).2)))) (wS (dbF t o f i c S).1) (7, [some (.ref 0), some (.int (nI t)), some (.int (nI o)), some (.int (nI c)), some (.int (nI i))], [], wS S) := by
  intro f
  induction f with
  | zero =>
    intro i hif c S hS
    refine aq_gn (n := 2) (c1 := (11, [some (.ref 0), some (.int (nI t)), some (.int (nI o)), some (.int (nI c)), some (.int (nI i))], [.int (nI 85), .int (nI i)], wS S)) ok_m_dropBelow rfl ?_
    refine aq_icmp_ge ok_m_dropBelow rfl (fun h => ?_) (fun h => ?_)
    · refine aq_gn (n := 1) (c1 := (50, [some (.ref 0), some (.int (nI t)), some (.int (nI o)), some (.int (nI c)), some (.int (nI i))], [.int (nI c)], wS S)) ok_m_dropBelow rfl ?_
      exact aq_ei ok_m_dropBelow rfl rfl rfl rfl
    · exact absurd (nI_le (show 85 ≤ i by omega) (by omega)) h
  | succ f ih =>
    intro i hif c S hS
    refine aq_gn (n := 2) (c1 := (11, [some (.ref 0), some (.int (nI t)), some (.int (nI o)), some (.int (nI c)), some (.int (nI i))], [.int (nI 85), .int (nI i)], wS S)) ok_m_dropBelow rfl ?_
    refine aq_icmp_ge ok_m_dropBelow rfl (fun h => ?_) (fun h => ?_)
    · exact absurd (q_le h (by omega) (by omega)) (by omega)
    · refine aq_gn (n := 2) (c1 := (17, [some (.ref 0), some (.int (nI t)), some (.int (nI o)), some (.int (nI c)), some (.int (nI i))], [.int (nI o), .int (nI i)], wS S)) ok_m_dropBelow rfl ?_
      refine aq_callS (as := [.int (nI i), .int (nI o)]) (st := []) ok_m_dropBelow rfl c0_m_isBelow (am_isBelow (d := d + 1) (show i < 85 by omega) ho) rfl (Nat.le_of_ble_eq_true rfl) ?_
      refine aq_if_eq ok_m_dropBelow rfl (fun h2 => ?_) (fun h2 => ?_)
      · have hb := (bI_0 _).mp h2
        refine aq_gn (n := 2) (c1 := (7, [some (.ref 0), some (.int (nI t)), some (.int (nI o)), some (.int (nI c)), some (.int ((nI i) + 1))], [], wS S)) ok_m_dropBelow rfl ?_
        rw [nI_1]
        have e : dbF t o (f + 1) i c S = dbF t o f (i + 1) c S := by rw [dbF, if_neg (by simp [hb])]
        rw [e]
        exact ih (i + 1) (by omega) c S hS
      · have hc : blw i o = true := by cases hy : blw i o with | true => rfl | false => exact absurd ((bI_0 _).mpr hy) h2
        refine aq_gn (n := 3) (c1 := (27, [some (.ref 0), some (.int (nI t)), some (.int (nI o)), some (.int (nI c)), some (.int (nI i))], [.int (nI i), .int (nI t), .ref 0], wS S)) ok_m_dropBelow rfl ?_
        refine aq_callV (as := [.int (nI t), .int (nI i)]) (st := []) ok_m_dropBelow rfl c0_m_letGo (am_letGoS (d := d + 1) ht (show i < 85 by omega)) rfl (Nat.le_of_ble_eq_true rfl) rfl rfl rfl ?_
        refine aq_if_eq ok_m_dropBelow rfl (fun h3 => ?_) (fun h3 => ?_)
        · have hb := (bI_0 _).mp h3
          refine aq_gn (n := 2) (c1 := (7, [some (.ref 0), some (.int (nI t)), some (.int (nI o)), some (.int (nI c)), some (.int ((nI i) + 1))], [], wS (s_hl S (lg (s_ha S) t i)))) ok_m_dropBelow rfl ?_
          rw [nI_1]
          have e : dbF t o (f + 1) i c S = dbF t o f (i + 1) c (s_hl S (lg (s_ha S) t i)) := by rw [dbF, if_pos hc, if_neg (by simp [hb])]
          rw [e]
          exact ih (i + 1) (by omega) c _ (WF_hl hS _)
        · have hd : (hm (s_ha S) t i).isSome = true := by cases hy : (hm (s_ha S) t i).isSome with | true => rfl | false => exact absurd ((bI_0 _).mpr hy) h3
          refine aq_gn (n := 2) (c1 := (36, [some (.ref 0), some (.int (nI t)), some (.int (nI o)), some (.int (nI c)), some (.int (nI i))], [.int (nI i), .ref 0], wS (s_hl S (lg (s_ha S) t i)))) ok_m_dropBelow rfl ?_
          refine aq_callV (as := [.int (nI i)]) (st := []) ok_m_dropBelow rfl c0_m_serve (am_serve (WF_hl hS _) (show i < 85 by omega)) rfl (Nat.le_of_ble_eq_true rfl) rfl rfl rfl ?_
          refine aq_gn (n := 4) (c1 := (7, [some (.ref 0), some (.int (nI t)), some (.int (nI o)), some (.int ((nI c) + 1)), some (.int ((nI i) + 1))], [], wS (sv (s_hl S (lg (s_ha S) t i)) i).1)) ok_m_dropBelow rfl ?_
          rw [nI_1, nI_1]
          have e : dbF t o (f + 1) i c S = dbF t o f (i + 1) (c + 1) (sv (s_hl S (lg (s_ha S) t i)) i).1 := by rw [dbF, if_pos hc, if_pos hd]
          rw [e]
          exact ih (i + 1) (by omega) (c + 1) _ (WF_sv (WF_hl hS _) i)
set_option maxHeartbeats 4000000 in
theorem am_db {d : Nat} {S : LSt} {t o : Nat} (hS : WF S) (ht : t < 60) (ho : o < 85) : AM m_dropBelow (d + 4) (.inl (some (.int (nI (db S t o).2)))) [.ref 0, .int (nI t), .int (nI o)] (wS S) (wS (db S t o).1) := by
  refine aq_enter pl_m_dropBelow (Nat.le_of_ble_eq_true rfl) ?_
  refine aq_gn (n := 6) (c1 := (7, [some (.ref 0), some (.int (nI t)), some (.int (nI o)), some (.int (nI 0)), some (.int ((nI o) + (nI 1)))], [], wS S)) ok_m_dropBelow rfl ?_
  rw [nI_add]
  exact lp_db ht ho (84 - o) (o + 1) (by omega) 0 S hS
set_option maxHeartbeats 4000000 in
theorem am_wbS {d : Nat} {S : LSt} {t o : Nat} (ht : t < 60) (ho : o < 85) : AM m_writesBelow (d + 3) (.inl (some (.int (bI (wb (s_ha S) t o))))) [.ref 0, .int (nI t), .int (nI o)] (wS S) (wS S) := am_wb ht ho
set_option maxHeartbeats 4000000 in
theorem am_othersS {d : Nat} {S : LSt} {t o : Nat} {x : Int32} (ho : o < 85) : AM m_othersInTheWay (d + 1) (.inl (some (.long (ow (s_ha S) t o x)))) [.ref 0, .int (nI t), .int (nI o), .int x] (wS S) (wS S) := am_others ho
set_option maxHeartbeats 4000000 in
theorem am_holdS {d : Nat} {S : LSt} {t o m : Nat} (ho : o < 85) (hm : m < 5) : AM m_hold (d + 1) (.inl none) [.ref 0, .int (nI t), .int (nI o), .int (nI m)] (wS S) (wS (s_hl S (hd (s_ha S) t o m))) := am_hold ho hm
set_option maxHeartbeats 4000000 in
theorem am_escalate {d : Nat} {S : LSt} {t o : Nat} (hS : WF S) (ht : t < s_n S) (ho : o < 85) (hs : s_st S t = 0) (hh : ¬ hm (s_ha S) t o = none) : AM m_escalate (d + 6) (.inl (some (.int ((esc S t o).2)))) [.ref 0, .int (nI t), .int (nI o)] (wS S) (wS (esc S t o).1) := by
  refine aq_enter pl_m_escalate (Nat.le_of_ble_eq_true rfl) ?_
  have ht6 : t < 60 := Nat.lt_of_lt_of_le ht hS.2.2.1
  refine aq_gn (n := 2) (c1 := (2, [some (.ref 0), some (.int (nI t)), some (.int (nI o)), none, none, none], [.int (nI t), .ref 0], wS S)) ok_m_escalate rfl ?_
  refine aq_callV (as := [.int (nI t)]) (st := []) ok_m_escalate rfl c0_m_checkTransaction (am_chkTS hS ht) rfl (Nat.le_of_ble_eq_true rfl) rfl rfl rfl ?_
  refine aq_gn (n := 1) (c1 := (6, [some (.ref 0), some (.int (nI t)), some (.int (nI o)), none, none, none], [.int (nI o)], wS S)) ok_m_escalate rfl ?_
  refine aq_callS (as := [.int (nI o)]) (st := []) ok_m_escalate rfl c0_m_checkObject (am_chkO ho) rfl (Nat.le_of_ble_eq_true rfl) ?_
  refine aq_gn (n := 2) (c1 := (11, [some (.ref 0), some (.int (nI t)), some (.int (nI o)), none, none, none], [.int (nI t), .ref 0], wS S)) ok_m_escalate rfl ?_
  refine aq_callV (as := [.int (nI t)]) (st := []) ok_m_escalate rfl c0_m_checkActive (am_chkAS (Nat.lt_of_lt_of_le ht hS.2.2.1) hs) rfl (Nat.le_of_ble_eq_true rfl) rfl rfl rfl ?_
  refine aq_gn (n := 3) (c1 := (17, [some (.ref 0), some (.int (nI t)), some (.int (nI o)), none, none, none], [.int (nI o), .int (nI t), .ref 0], wS S)) ok_m_escalate rfl ?_
  refine aq_callV (as := [.int (nI t), .int (nI o)]) (st := []) ok_m_escalate rfl c0_m_heldMode (am_heldS (d := d + 4) (Nat.lt_of_lt_of_le ht hS.2.2.1) ho) rfl (Nat.le_of_ble_eq_true rfl) rfl rfl rfl ?_
  refine aq_gn (n := 3) (c1 := (23, [some (.ref 0), some (.int (nI t)), some (.int (nI o)), some (.int (oI (hm (s_ha S) t o))), none, none], [.int (-1), .int (oI (hm (s_ha S) t o))], wS S)) ok_m_escalate rfl ?_
  refine aq_icmp_ne ok_m_escalate rfl (fun h => ?_) (fun h => ?_)
  · refine aq_gn (n := 4) (c1 := (40, [some (.ref 0), some (.int (nI t)), some (.int (nI o)), some (.int (oI (hm (s_ha S) t o))), none, none], [.int (nI o), .int (nI t), .ref 0, .int (oI (hm (s_ha S) t o))], wS S)) ok_m_escalate rfl ?_
    refine aq_callV (as := [.int (nI t), .int (nI o)]) (st := [.int (oI (hm (s_ha S) t o))]) ok_m_escalate rfl c0_m_writesBelow (am_wbS (d := d + 2) ht6 ho) rfl (Nat.le_of_ble_eq_true rfl) rfl rfl rfl ?_
    refine aq_if_eq ok_m_escalate rfl (fun h2 => ?_) (fun h2 => ?_)
    · have hb := (bI_0 _).mp h2
      refine aq_gn (n := 1) (c1 := (51, [some (.ref 0), some (.int (nI t)), some (.int (nI o)), some (.int (oI (hm (s_ha S) t o))), none, none], [.int (nI 2), .int (oI (hm (s_ha S) t o))], wS S)) ok_m_escalate rfl ?_
      have ew : eww S t o = lub (hm (s_ha S) t o) 2 := by rw [eww, hb]; rfl
      refine aq_callS (as := [.int (oI (hm (s_ha S) t o)), .int (nI 2)]) (st := []) ok_m_escalate rfl c0_m_leastAbove (am_leastAbove (oI (hm (s_ha S) t o)) (nI 2)) rfl (Nat.le_of_ble_eq_true rfl) ?_
      have hlub := lub_o (fun x q => hm_lt q) (show 2 < 5 by omega) (h := hm (s_ha S) t o)
      rw [← ew] at hlub
      rw [hlub.1]
      refine aq_gn (n := 5) (c1 := (61, [some (.ref 0), some (.int (nI t)), some (.int (nI o)), some (.int (oI (hm (s_ha S) t o))), some (.int (nI (eww S t o))), none], [.int (nI (eww S t o)), .int (nI o), .int (nI t), .ref 0], wS S)) ok_m_escalate rfl ?_
      refine aq_callV (as := [.int (nI t), .int (nI o), .int (nI (eww S t o))]) (st := []) ok_m_escalate rfl c0_m_othersInTheWay (am_othersS (d := d + 4) ho) rfl (Nat.le_of_ble_eq_true rfl) rfl rfl rfl ?_
      refine aq_gn (n := 2) (c1 := (66, [some (.ref 0), some (.int (nI t)), some (.int (nI o)), some (.int (oI (hm (s_ha S) t o))), some (.int (nI (eww S t o))), none], [.int (lg_cmp (ow (s_ha S) t o (nI (eww S t o))) 0)], wS S)) ok_m_escalate rfl ?_
      refine aq_if_eq ok_m_escalate rfl (fun h3 => ?_) (fun h3 => ?_)
      · have hz := (lg_cmp_0 _ _).mp h3
        rw [esc, if_pos hz]
        refine aq_gn (n := 4) (c1 := (76, [some (.ref 0), some (.int (nI t)), some (.int (nI o)), some (.int (oI (hm (s_ha S) t o))), some (.int (nI (eww S t o))), none], [.int (nI (eww S t o)), .int (nI o), .int (nI t), .ref 0], wS S)) ok_m_escalate rfl ?_
        refine aq_callV (as := [.int (nI t), .int (nI o), .int (nI (eww S t o))]) (st := []) ok_m_escalate rfl c0_m_hold (am_holdS (d := d + 4) ho hlub.2) rfl (Nat.le_of_ble_eq_true rfl) rfl rfl rfl ?_
        obtain ⟨Q, hQ⟩ : ∃ Q, Q = s_hl S (hd (s_ha S) t o (eww S t o)) := ⟨_, rfl⟩
        have hWQ : WF Q := by rw [hQ]; exact WF_hl hS _
        rw [← hQ]
        refine aq_gn (n := 3) (c1 := (82, [some (.ref 0), some (.int (nI t)), some (.int (nI o)), some (.int (oI (hm (s_ha S) t o))), some (.int (nI (eww S t o))), none], [.int (nI o), .int (nI t), .ref 0], wS Q)) ok_m_escalate rfl ?_
        refine aq_callV (as := [.int (nI t), .int (nI o)]) (st := []) ok_m_escalate rfl c0_m_dropBelow (am_db (d := d + 1) hWQ ht6 ho) rfl (Nat.le_of_ble_eq_true rfl) rfl rfl rfl ?_
        refine aq_gn (n := 3) (c1 := (89, [some (.ref 0), some (.int (nI t)), some (.int (nI o)), some (.int (oI (hm (s_ha S) t o))), some (.int (nI (eww S t o))), some (.int (nI (db Q t o).2))], [.int (nI o), .ref 0], wS (db Q t o).1)) ok_m_escalate rfl ?_
        refine aq_callV (as := [.int (nI o)]) (st := []) ok_m_escalate rfl c0_m_serve (am_serve (d := d + 2) (WF_db hWQ t o) ho) rfl (Nat.le_of_ble_eq_true rfl) rfl rfl rfl ?_
        refine aq_gn (n := 2) (c1 := (95, [some (.ref 0), some (.int (nI t)), some (.int (nI o)), some (.int (oI (hm (s_ha S) t o))), some (.int (nI (eww S t o))), some (.int (nI (db Q t o).2))], [.int (nI (db Q t o).2)], wS (sv (db Q t o).1 o).1)) ok_m_escalate rfl ?_
        exact aq_ei ok_m_escalate rfl rfl rfl rfl
      · have hz : ¬ ow (s_ha S) t o (nI (eww S t o)) = 0 := fun q => h3 ((lg_cmp_0 _ _).mpr q)
        rw [esc, if_neg hz]
        refine aq_gn (n := 1) (c1 := (70, [some (.ref 0), some (.int (nI t)), some (.int (nI o)), some (.int (oI (hm (s_ha S) t o))), some (.int (nI (eww S t o))), none], [.int (-1)], wS S)) ok_m_escalate rfl ?_
        exact aq_ei ok_m_escalate rfl rfl rfl rfl
    · have hb : wb (s_ha S) t o = true := by cases hy : wb (s_ha S) t o with | true => rfl | false => exact absurd ((bI_0 _).mpr hy) h2
      refine aq_gn (n := 2) (c1 := (51, [some (.ref 0), some (.int (nI t)), some (.int (nI o)), some (.int (oI (hm (s_ha S) t o))), none, none], [.int (nI 4), .int (oI (hm (s_ha S) t o))], wS S)) ok_m_escalate rfl ?_
      have ew : eww S t o = lub (hm (s_ha S) t o) 4 := by rw [eww, hb]; rfl
      refine aq_callS (as := [.int (oI (hm (s_ha S) t o)), .int (nI 4)]) (st := []) ok_m_escalate rfl c0_m_leastAbove (am_leastAbove (oI (hm (s_ha S) t o)) (nI 4)) rfl (Nat.le_of_ble_eq_true rfl) ?_
      have hlub := lub_o (fun x q => hm_lt q) (show 4 < 5 by omega) (h := hm (s_ha S) t o)
      rw [← ew] at hlub
      rw [hlub.1]
      refine aq_gn (n := 5) (c1 := (61, [some (.ref 0), some (.int (nI t)), some (.int (nI o)), some (.int (oI (hm (s_ha S) t o))), some (.int (nI (eww S t o))), none], [.int (nI (eww S t o)), .int (nI o), .int (nI t), .ref 0], wS S)) ok_m_escalate rfl ?_
      refine aq_callV (as := [.int (nI t), .int (nI o), .int (nI (eww S t o))]) (st := []) ok_m_escalate rfl c0_m_othersInTheWay (am_othersS (d := d + 4) ho) rfl (Nat.le_of_ble_eq_true rfl) rfl rfl rfl ?_
      refine aq_gn (n := 2) (c1 := (66, [some (.ref 0), some (.int (nI t)), some (.int (nI o)), some (.int (oI (hm (s_ha S) t o))), some (.int (nI (eww S t o))), none], [.int (lg_cmp (ow (s_ha S) t o (nI (eww S t o))) 0)], wS S)) ok_m_escalate rfl ?_
      refine aq_if_eq ok_m_escalate rfl (fun h3 => ?_) (fun h3 => ?_)
      · have hz := (lg_cmp_0 _ _).mp h3
        rw [esc, if_pos hz]
        refine aq_gn (n := 4) (c1 := (76, [some (.ref 0), some (.int (nI t)), some (.int (nI o)), some (.int (oI (hm (s_ha S) t o))), some (.int (nI (eww S t o))), none], [.int (nI (eww S t o)), .int (nI o), .int (nI t), .ref 0], wS S)) ok_m_escalate rfl ?_
        refine aq_callV (as := [.int (nI t), .int (nI o), .int (nI (eww S t o))]) (st := []) ok_m_escalate rfl c0_m_hold (am_holdS (d := d + 4) ho hlub.2) rfl (Nat.le_of_ble_eq_true rfl) rfl rfl rfl ?_
        obtain ⟨Q, hQ⟩ : ∃ Q, Q = s_hl S (hd (s_ha S) t o (eww S t o)) := ⟨_, rfl⟩
        have hWQ : WF Q := by rw [hQ]; exact WF_hl hS _
        rw [← hQ]
        refine aq_gn (n := 3) (c1 := (82, [some (.ref 0), some (.int (nI t)), some (.int (nI o)), some (.int (oI (hm (s_ha S) t o))), some (.int (nI (eww S t o))), none], [.int (nI o), .int (nI t), .ref 0], wS Q)) ok_m_escalate rfl ?_
        refine aq_callV (as := [.int (nI t), .int (nI o)]) (st := []) ok_m_escalate rfl c0_m_dropBelow (am_db (d := d + 1) hWQ ht6 ho) rfl (Nat.le_of_ble_eq_true rfl) rfl rfl rfl ?_
        refine aq_gn (n := 3) (c1 := (89, [some (.ref 0), some (.int (nI t)), some (.int (nI o)), some (.int (oI (hm (s_ha S) t o))), some (.int (nI (eww S t o))), some (.int (nI (db Q t o).2))], [.int (nI o), .ref 0], wS (db Q t o).1)) ok_m_escalate rfl ?_
        refine aq_callV (as := [.int (nI o)]) (st := []) ok_m_escalate rfl c0_m_serve (am_serve (d := d + 2) (WF_db hWQ t o) ho) rfl (Nat.le_of_ble_eq_true rfl) rfl rfl rfl ?_
        refine aq_gn (n := 2) (c1 := (95, [some (.ref 0), some (.int (nI t)), some (.int (nI o)), some (.int (oI (hm (s_ha S) t o))), some (.int (nI (eww S t o))), some (.int (nI (db Q t o).2))], [.int (nI (db Q t o).2)], wS (sv (db Q t o).1 o).1)) ok_m_escalate rfl ?_
        exact aq_ei ok_m_escalate rfl rfl rfl rfl
      · have hz : ¬ ow (s_ha S) t o (nI (eww S t o)) = 0 := fun q => h3 ((lg_cmp_0 _ _).mpr q)
        rw [esc, if_neg hz]
        refine aq_gn (n := 1) (c1 := (70, [some (.ref 0), some (.int (nI t)), some (.int (nI o)), some (.int (oI (hm (s_ha S) t o))), some (.int (nI (eww S t o))), none], [.int (-1)], wS S)) ok_m_escalate rfl ?_
        exact aq_ei ok_m_escalate rfl rfl rfl rfl
  · exact absurd (oI_m1 h (fun x q => by have := hm_lt q; omega)) hh
set_option maxHeartbeats 4000000 in
theorem am_escalate_t {d : Nat} {S : LSt} {x y : Int32} (hx : x < 0 ∨ nI (s_n S) ≤ x) : AM m_escalate (d + 1) (.inr 0) [.ref 0, .int x, .int y] (wS S) (wS S) := by
  refine aq_enter pl_m_escalate (Nat.le_of_ble_eq_true rfl) ?_
  refine aq_gn (n := 2) (c1 := (2, [some (.ref 0), some (.int x), some (.int y), none, none, none], [.int x, .ref 0], wS S)) ok_m_escalate rfl ?_
  exact aq_callVT (as := [.int x]) (st := []) ok_m_escalate rfl c0_m_checkTransaction (am_chkTS_x hx) rfl (Nat.le_of_ble_eq_true rfl) rfl rfl rfl
set_option maxHeartbeats 4000000 in
theorem am_escalate_o {d : Nat} {S : LSt} {t : Nat} {y : Int32} (hS : WF S) (ht : t < s_n S) (hx : y < 0 ∨ nI 85 ≤ y) : AM m_escalate (d + 1) (.inr 0) [.ref 0, .int (nI t), .int y] (wS S) (wS S) := by
  refine aq_enter pl_m_escalate (Nat.le_of_ble_eq_true rfl) ?_
  refine aq_gn (n := 2) (c1 := (2, [some (.ref 0), some (.int (nI t)), some (.int y), none, none, none], [.int (nI t), .ref 0], wS S)) ok_m_escalate rfl ?_
  refine aq_callV (as := [.int (nI t)]) (st := []) ok_m_escalate rfl c0_m_checkTransaction (am_chkTS hS ht) rfl (Nat.le_of_ble_eq_true rfl) rfl rfl rfl ?_
  refine aq_gn (n := 1) (c1 := (6, [some (.ref 0), some (.int (nI t)), some (.int y), none, none, none], [.int y], wS S)) ok_m_escalate rfl ?_
  exact aq_callST (as := [.int y]) (st := []) ok_m_escalate rfl c0_m_checkObject (am_chkO_x hx) rfl (Nat.le_of_ble_eq_true rfl)
set_option maxHeartbeats 4000000 in
theorem am_escalate_a {d : Nat} {S : LSt} {t o : Nat} (hS : WF S) (ht : t < s_n S) (ho : o < 85) (hs : ¬ s_st S t = 0) : AM m_escalate (d + 1) (.inr 2) [.ref 0, .int (nI t), .int (nI o)] (wS S) (wS S) := by
  refine aq_enter pl_m_escalate (Nat.le_of_ble_eq_true rfl) ?_
  refine aq_gn (n := 2) (c1 := (2, [some (.ref 0), some (.int (nI t)), some (.int (nI o)), none, none, none], [.int (nI t), .ref 0], wS S)) ok_m_escalate rfl ?_
  refine aq_callV (as := [.int (nI t)]) (st := []) ok_m_escalate rfl c0_m_checkTransaction (am_chkTS hS ht) rfl (Nat.le_of_ble_eq_true rfl) rfl rfl rfl ?_
  refine aq_gn (n := 1) (c1 := (6, [some (.ref 0), some (.int (nI t)), some (.int (nI o)), none, none, none], [.int (nI o)], wS S)) ok_m_escalate rfl ?_
  refine aq_callS (as := [.int (nI o)]) (st := []) ok_m_escalate rfl c0_m_checkObject (am_chkO ho) rfl (Nat.le_of_ble_eq_true rfl) ?_
  refine aq_gn (n := 2) (c1 := (11, [some (.ref 0), some (.int (nI t)), some (.int (nI o)), none, none, none], [.int (nI t), .ref 0], wS S)) ok_m_escalate rfl ?_
  exact aq_callVT (as := [.int (nI t)]) (st := []) ok_m_escalate rfl c0_m_checkActive (am_chkAS_x hS (Nat.lt_of_lt_of_le ht hS.2.2.1) hs) rfl (Nat.le_of_ble_eq_true rfl) rfl rfl rfl
set_option maxHeartbeats 4000000 in
theorem am_escalate_h {d : Nat} {S : LSt} {t o : Nat} (hS : WF S) (ht : t < s_n S) (ho : o < 85) (hs : s_st S t = 0) (hh : hm (s_ha S) t o = none) : AM m_escalate (d + 2) (.inr 2) [.ref 0, .int (nI t), .int (nI o)] (wS S) (wS S) := by
  refine aq_enter pl_m_escalate (Nat.le_of_ble_eq_true rfl) ?_
  refine aq_gn (n := 2) (c1 := (2, [some (.ref 0), some (.int (nI t)), some (.int (nI o)), none, none, none], [.int (nI t), .ref 0], wS S)) ok_m_escalate rfl ?_
  refine aq_callV (as := [.int (nI t)]) (st := []) ok_m_escalate rfl c0_m_checkTransaction (am_chkTS hS ht) rfl (Nat.le_of_ble_eq_true rfl) rfl rfl rfl ?_
  refine aq_gn (n := 1) (c1 := (6, [some (.ref 0), some (.int (nI t)), some (.int (nI o)), none, none, none], [.int (nI o)], wS S)) ok_m_escalate rfl ?_
  refine aq_callS (as := [.int (nI o)]) (st := []) ok_m_escalate rfl c0_m_checkObject (am_chkO ho) rfl (Nat.le_of_ble_eq_true rfl) ?_
  refine aq_gn (n := 2) (c1 := (11, [some (.ref 0), some (.int (nI t)), some (.int (nI o)), none, none, none], [.int (nI t), .ref 0], wS S)) ok_m_escalate rfl ?_
  refine aq_callV (as := [.int (nI t)]) (st := []) ok_m_escalate rfl c0_m_checkActive (am_chkAS (Nat.lt_of_lt_of_le ht hS.2.2.1) hs) rfl (Nat.le_of_ble_eq_true rfl) rfl rfl rfl ?_
  refine aq_gn (n := 3) (c1 := (17, [some (.ref 0), some (.int (nI t)), some (.int (nI o)), none, none, none], [.int (nI o), .int (nI t), .ref 0], wS S)) ok_m_escalate rfl ?_
  refine aq_callV (as := [.int (nI t), .int (nI o)]) (st := []) ok_m_escalate rfl c0_m_heldMode (am_heldS (d := d) (Nat.lt_of_lt_of_le ht hS.2.2.1) ho) rfl (Nat.le_of_ble_eq_true rfl) rfl rfl rfl ?_
  refine aq_gn (n := 3) (c1 := (23, [some (.ref 0), some (.int (nI t)), some (.int (nI o)), some (.int (oI (hm (s_ha S) t o))), none, none], [.int (-1), .int (oI (hm (s_ha S) t o))], wS S)) ok_m_escalate rfl ?_
  refine aq_icmp_ne ok_m_escalate rfl (fun h => ?_) (fun h => ?_)
  · exact absurd (by rw [hh]; rfl) h
  · exact aq_throw (text := "the object is not held") ok_m_escalate rfl tw2 (aq_fit _) aq_upf (by decide +kernel) rfl rfl rfl rfl rfl (Nat.le_of_ble_eq_true rfl)
set_option maxHeartbeats 4000000 in
theorem am_mode {d : Nat} {S : LSt} {t o : Nat} (hS : WF S) (ht : t < s_n S) (ho : o < 85) : AM m_mode (d + 2) (.inl (some (.int (oI (hm (s_ha S) t o))))) [.ref 0, .int (nI t), .int (nI o)] (wS S) (wS S) := by
  refine aq_enter pl_m_mode (Nat.le_of_ble_eq_true rfl) ?_
  refine aq_gn (n := 2) (c1 := (2, [some (.ref 0), some (.int (nI t)), some (.int (nI o))], [.int (nI t), .ref 0], wS S)) ok_m_mode rfl ?_
  refine aq_callV (as := [.int (nI t)]) (st := []) ok_m_mode rfl c0_m_checkTransaction (am_chkTS hS ht) rfl (Nat.le_of_ble_eq_true rfl) rfl rfl rfl ?_
  refine aq_gn (n := 1) (c1 := (6, [some (.ref 0), some (.int (nI t)), some (.int (nI o))], [.int (nI o)], wS S)) ok_m_mode rfl ?_
  refine aq_callS (as := [.int (nI o)]) (st := []) ok_m_mode rfl c0_m_checkObject (am_chkO ho) rfl (Nat.le_of_ble_eq_true rfl) ?_
  refine aq_gn (n := 3) (c1 := (12, [some (.ref 0), some (.int (nI t)), some (.int (nI o))], [.int (nI o), .int (nI t), .ref 0], wS S)) ok_m_mode rfl ?_
  refine aq_callV (as := [.int (nI t), .int (nI o)]) (st := []) ok_m_mode rfl c0_m_heldMode (am_heldS (Nat.lt_of_lt_of_le ht hS.2.2.1) ho) rfl (Nat.le_of_ble_eq_true rfl) rfl rfl rfl ?_
  exact aq_ei ok_m_mode rfl rfl rfl rfl
set_option maxHeartbeats 4000000 in
theorem am_mode_t {d : Nat} {S : LSt} {x y : Int32} (hx : x < 0 ∨ nI (s_n S) ≤ x) : AM m_mode (d + 1) (.inr 0) [.ref 0, .int x, .int y] (wS S) (wS S) := by
  refine aq_enter pl_m_mode (Nat.le_of_ble_eq_true rfl) ?_
  refine aq_gn (n := 2) (c1 := (2, [some (.ref 0), some (.int x), some (.int y)], [.int x, .ref 0], wS S)) ok_m_mode rfl ?_
  exact aq_callVT (as := [.int x]) (st := []) ok_m_mode rfl c0_m_checkTransaction (am_chkTS_x hx) rfl (Nat.le_of_ble_eq_true rfl) rfl rfl rfl
set_option maxHeartbeats 4000000 in
theorem am_mode_o {d : Nat} {S : LSt} {t : Nat} {y : Int32} (hS : WF S) (ht : t < s_n S) (hx : y < 0 ∨ nI 85 ≤ y) : AM m_mode (d + 1) (.inr 0) [.ref 0, .int (nI t), .int y] (wS S) (wS S) := by
  refine aq_enter pl_m_mode (Nat.le_of_ble_eq_true rfl) ?_
  refine aq_gn (n := 2) (c1 := (2, [some (.ref 0), some (.int (nI t)), some (.int y)], [.int (nI t), .ref 0], wS S)) ok_m_mode rfl ?_
  refine aq_callV (as := [.int (nI t)]) (st := []) ok_m_mode rfl c0_m_checkTransaction (am_chkTS hS ht) rfl (Nat.le_of_ble_eq_true rfl) rfl rfl rfl ?_
  refine aq_gn (n := 1) (c1 := (6, [some (.ref 0), some (.int (nI t)), some (.int y)], [.int y], wS S)) ok_m_mode rfl ?_
  exact aq_callST (as := [.int y]) (st := []) ok_m_mode rfl c0_m_checkObject (am_chkO_x hx) rfl (Nat.le_of_ble_eq_true rfl)
set_option maxHeartbeats 4000000 in
theorem am_waitsFor {d : Nat} {S : LSt} {t : Nat} (hS : WF S) (ht : t < s_n S) : AM m_waitsFor (d + 3) (.inl (some (.long (wrw (s_aw S) (s_wa S) (s_ha S) (s_la S) (s_k S) t)))) [.ref 0, .int (nI t)] (wS S) (wS S) := by
  refine aq_enter pl_m_waitsFor (Nat.le_of_ble_eq_true rfl) ?_
  refine aq_gn (n := 2) (c1 := (2, [some (.ref 0), some (.int (nI t))], [.int (nI t), .ref 0], wS S)) ok_m_waitsFor rfl ?_
  refine aq_callV (as := [.int (nI t)]) (st := []) ok_m_waitsFor rfl c0_m_checkTransaction (am_chkTS hS ht) rfl (Nat.le_of_ble_eq_true rfl) rfl rfl rfl ?_
  refine aq_gn (n := 2) (c1 := (7, [some (.ref 0), some (.int (nI t))], [.int (nI t), .ref 0], wS S)) ok_m_waitsFor rfl ?_
  refine aq_callV (as := [.int (nI t)]) (st := []) ok_m_waitsFor rfl c0_m_waitRow (am_waitRowS hS (Nat.lt_of_lt_of_le ht hS.2.2.1)) rfl (Nat.le_of_ble_eq_true rfl) rfl rfl rfl ?_
  exact aq_el ok_m_waitsFor rfl rfl rfl rfl
set_option maxHeartbeats 4000000 in
theorem am_waitsFor_t {d : Nat} {S : LSt} {x : Int32} (hx : x < 0 ∨ nI (s_n S) ≤ x) : AM m_waitsFor (d + 1) (.inr 0) [.ref 0, .int x] (wS S) (wS S) := by
  refine aq_enter pl_m_waitsFor (Nat.le_of_ble_eq_true rfl) ?_
  refine aq_gn (n := 2) (c1 := (2, [some (.ref 0), some (.int x)], [.int x, .ref 0], wS S)) ok_m_waitsFor rfl ?_
  exact aq_callVT (as := [.int x]) (st := []) ok_m_waitsFor rfl c0_m_checkTransaction (am_chkTS_x hx) rfl (Nat.le_of_ble_eq_true rfl) rfl rfl rfl
set_option maxHeartbeats 4000000 in
theorem am_told0 {d : Nat} {S : LSt} {t : Nat} (hS : WF S) (ht : t < s_n S) : AM m_told (d + 3) (.inl (some (.int (nI (s_st S t))))) [.ref 0, .int (nI t), .int (nI 0)] (wS S) (wS S) := by
  refine aq_enter pl_m_told (Nat.le_of_ble_eq_true rfl) ?_
  have ht6 : t < 60 := Nat.lt_of_lt_of_le ht hS.2.2.1
  refine aq_gn (n := 2) (c1 := (2, [some (.ref 0), some (.int (nI t)), some (.int (nI 0))], [.int (nI t), .ref 0], wS S)) ok_m_told rfl ?_
  refine aq_callV (as := [.int (nI t)]) (st := []) ok_m_told rfl c0_m_checkTransaction (am_chkTS hS ht) rfl (Nat.le_of_ble_eq_true rfl) rfl rfl rfl ?_
  refine aq_gn (n := 1) (c1 := (6, [some (.ref 0), some (.int (nI t)), some (.int (nI 0))], [.int (nI 0)], wS S)) ok_m_told rfl ?_
  refine aq_tabI (tgt := 40) ok_m_told rfl (by decide) (by decide) rfl (by decide) ?_
  refine aq_go (n := 4) (c1 := (46, [some (.ref 0), some (.int (nI t)), some (.int (nI 0))], [.int (nI ((s_st S) (nI t).toNatClampNeg))], wL (s_st S) (s_pr S) (s_aw S) (s_wa S) (s_ha S) (s_la S) (s_wr S) (s_n S) (s_k S) (s_c5 S) (s_c6 S) (s_c7 S))) (P := vp_in (nI t) 60) ok_m_told rfl (in60 ht6) ?_
  rw [cl60 ht6]
  exact aq_ei ok_m_told rfl rfl rfl rfl
set_option maxHeartbeats 4000000 in
theorem am_told1 {d : Nat} {S : LSt} {t : Nat} (hS : WF S) (ht : t < s_n S) : AM m_told (d + 3) (.inl (some (.int (nI (s_pr S t))))) [.ref 0, .int (nI t), .int (nI 1)] (wS S) (wS S) := by
  refine aq_enter pl_m_told (Nat.le_of_ble_eq_true rfl) ?_
  have ht6 : t < 60 := Nat.lt_of_lt_of_le ht hS.2.2.1
  refine aq_gn (n := 2) (c1 := (2, [some (.ref 0), some (.int (nI t)), some (.int (nI 1))], [.int (nI t), .ref 0], wS S)) ok_m_told rfl ?_
  refine aq_callV (as := [.int (nI t)]) (st := []) ok_m_told rfl c0_m_checkTransaction (am_chkTS hS ht) rfl (Nat.le_of_ble_eq_true rfl) rfl rfl rfl ?_
  refine aq_gn (n := 1) (c1 := (6, [some (.ref 0), some (.int (nI t)), some (.int (nI 1))], [.int (nI 1)], wS S)) ok_m_told rfl ?_
  refine aq_tabI (tgt := 47) ok_m_told rfl (by decide) (by decide) rfl (by decide) ?_
  refine aq_go (n := 4) (c1 := (53, [some (.ref 0), some (.int (nI t)), some (.int (nI 1))], [.int (nI ((s_pr S) (nI t).toNatClampNeg))], wL (s_st S) (s_pr S) (s_aw S) (s_wa S) (s_ha S) (s_la S) (s_wr S) (s_n S) (s_k S) (s_c5 S) (s_c6 S) (s_c7 S))) (P := vp_in (nI t) 60) ok_m_told rfl (in60 ht6) ?_
  rw [cl60 ht6]
  exact aq_ei ok_m_told rfl rfl rfl rfl
set_option maxHeartbeats 4000000 in
theorem am_told2 {d : Nat} {S : LSt} {t : Nat} (hS : WF S) (ht : t < s_n S) : AM m_told (d + 3) (.inl (some (.int (nI (cnt (fun o => (hm (s_ha S) t o).isSome) 85 0 0))))) [.ref 0, .int (nI t), .int (nI 2)] (wS S) (wS S) := by
  refine aq_enter pl_m_told (Nat.le_of_ble_eq_true rfl) ?_
  have ht6 : t < 60 := Nat.lt_of_lt_of_le ht hS.2.2.1
  refine aq_gn (n := 2) (c1 := (2, [some (.ref 0), some (.int (nI t)), some (.int (nI 2))], [.int (nI t), .ref 0], wS S)) ok_m_told rfl ?_
  refine aq_callV (as := [.int (nI t)]) (st := []) ok_m_told rfl c0_m_checkTransaction (am_chkTS hS ht) rfl (Nat.le_of_ble_eq_true rfl) rfl rfl rfl ?_
  refine aq_gn (n := 1) (c1 := (6, [some (.ref 0), some (.int (nI t)), some (.int (nI 2))], [.int (nI 2)], wS S)) ok_m_told rfl ?_
  refine aq_tabI (tgt := 54) ok_m_told rfl (by decide) (by decide) rfl (by decide) ?_
  refine aq_gn (n := 2) (c1 := (56, [some (.ref 0), some (.int (nI t)), some (.int (nI 2))], [.int (nI t), .ref 0], wS S)) ok_m_told rfl ?_
  refine aq_callV (as := [.int (nI t)]) (st := []) ok_m_told rfl c0_m_heldObjects (am_heldObjects (d := d) ht6) rfl (Nat.le_of_ble_eq_true rfl) rfl rfl rfl ?_
  exact aq_ei ok_m_told rfl rfl rfl rfl
set_option maxHeartbeats 4000000 in
theorem am_told3 {d : Nat} {S : LSt} {t : Nat} (hS : WF S) (ht : t < s_n S) : AM m_told (d + 3) (.inl (some (.int (oI (s_aw S t))))) [.ref 0, .int (nI t), .int (nI 3)] (wS S) (wS S) := by
  refine aq_enter pl_m_told (Nat.le_of_ble_eq_true rfl) ?_
  have ht6 : t < 60 := Nat.lt_of_lt_of_le ht hS.2.2.1
  refine aq_gn (n := 2) (c1 := (2, [some (.ref 0), some (.int (nI t)), some (.int (nI 3))], [.int (nI t), .ref 0], wS S)) ok_m_told rfl ?_
  refine aq_callV (as := [.int (nI t)]) (st := []) ok_m_told rfl c0_m_checkTransaction (am_chkTS hS ht) rfl (Nat.le_of_ble_eq_true rfl) rfl rfl rfl ?_
  refine aq_gn (n := 1) (c1 := (6, [some (.ref 0), some (.int (nI t)), some (.int (nI 3))], [.int (nI 3)], wS S)) ok_m_told rfl ?_
  refine aq_tabI (tgt := 60) ok_m_told rfl (by decide) (by decide) rfl (by decide) ?_
  refine aq_go (n := 4) (c1 := (66, [some (.ref 0), some (.int (nI t)), some (.int (nI 3))], [.int (oI ((s_aw S) (nI t).toNatClampNeg))], wL (s_st S) (s_pr S) (s_aw S) (s_wa S) (s_ha S) (s_la S) (s_wr S) (s_n S) (s_k S) (s_c5 S) (s_c6 S) (s_c7 S))) (P := vp_in (nI t) 60) ok_m_told rfl (in60 ht6) ?_
  rw [cl60 ht6]
  exact aq_ei ok_m_told rfl rfl rfl rfl
set_option maxHeartbeats 4000000 in
theorem am_told4 {d : Nat} {S : LSt} {t : Nat} (hS : WF S) (ht : t < s_n S) : AM m_told (d + 3) (.inl (some (.int (oI (s_wa S t))))) [.ref 0, .int (nI t), .int (nI 4)] (wS S) (wS S) := by
  refine aq_enter pl_m_told (Nat.le_of_ble_eq_true rfl) ?_
  have ht6 : t < 60 := Nat.lt_of_lt_of_le ht hS.2.2.1
  refine aq_gn (n := 2) (c1 := (2, [some (.ref 0), some (.int (nI t)), some (.int (nI 4))], [.int (nI t), .ref 0], wS S)) ok_m_told rfl ?_
  refine aq_callV (as := [.int (nI t)]) (st := []) ok_m_told rfl c0_m_checkTransaction (am_chkTS hS ht) rfl (Nat.le_of_ble_eq_true rfl) rfl rfl rfl ?_
  refine aq_gn (n := 1) (c1 := (6, [some (.ref 0), some (.int (nI t)), some (.int (nI 4))], [.int (nI 4)], wS S)) ok_m_told rfl ?_
  refine aq_tabI (tgt := 67) ok_m_told rfl (by decide) (by decide) rfl (by decide) ?_
  refine aq_go (n := 4) (c1 := (73, [some (.ref 0), some (.int (nI t)), some (.int (nI 4))], [.int (oI ((s_wa S) (nI t).toNatClampNeg))], wL (s_st S) (s_pr S) (s_aw S) (s_wa S) (s_ha S) (s_la S) (s_wr S) (s_n S) (s_k S) (s_c5 S) (s_c6 S) (s_c7 S))) (P := vp_in (nI t) 60) ok_m_told rfl (in60 ht6) ?_
  rw [cl60 ht6]
  exact aq_ei ok_m_told rfl rfl rfl rfl
set_option maxHeartbeats 4000000 in
theorem am_told_t {d : Nat} {S : LSt} {x y : Int32} (hx : x < 0 ∨ nI (s_n S) ≤ x) : AM m_told (d + 1) (.inr 0) [.ref 0, .int x, .int y] (wS S) (wS S) := by
  refine aq_enter pl_m_told (Nat.le_of_ble_eq_true rfl) ?_
  refine aq_gn (n := 2) (c1 := (2, [some (.ref 0), some (.int x), some (.int y)], [.int x, .ref 0], wS S)) ok_m_told rfl ?_
  exact aq_callVT (as := [.int x]) (st := []) ok_m_told rfl c0_m_checkTransaction (am_chkTS_x hx) rfl (Nat.le_of_ble_eq_true rfl) rfl rfl rfl
set_option maxHeartbeats 4000000 in
theorem am_told_w {d : Nat} {S : LSt} {t : Nat} {y : Int32} (hS : WF S) (ht : t < s_n S) (hx : y.toInt < 0 ∨ 4 < y.toInt) : AM m_told (d + 1) (.inr 1) [.ref 0, .int (nI t), .int y] (wS S) (wS S) := by
  refine aq_enter pl_m_told (Nat.le_of_ble_eq_true rfl) ?_
  refine aq_gn (n := 2) (c1 := (2, [some (.ref 0), some (.int (nI t)), some (.int y)], [.int (nI t), .ref 0], wS S)) ok_m_told rfl ?_
  refine aq_callV (as := [.int (nI t)]) (st := []) ok_m_told rfl c0_m_checkTransaction (am_chkTS hS ht) rfl (Nat.le_of_ble_eq_true rfl) rfl rfl rfl ?_
  refine aq_gn (n := 1) (c1 := (6, [some (.ref 0), some (.int (nI t)), some (.int y)], [.int y], wS S)) ok_m_told rfl ?_
  refine aq_tabO (tgt := 74) ok_m_told rfl hx (by decide) ?_
  exact aq_throw (text := "what is none of 0 .. 4") ok_m_told rfl tw1 (aq_fit _) aq_upf (by decide +kernel) rfl rfl rfl rfl rfl (Nat.le_of_ble_eq_true rfl)
set_option maxHeartbeats 4000000 in
theorem am_count0 {d : Nat} {S : LSt} (hS : WF S) : AM m_count (d + 1) (.inl (some (.int (nI (s_n S))))) [.ref 0, .int (nI 0)] (wS S) (wS S) := by
  refine aq_enter pl_m_count (Nat.le_of_ble_eq_true rfl) ?_
  refine aq_gn (n := 1) (c1 := (1, [some (.ref 0), some (.int (nI 0))], [.int (nI 0)], wS S)) ok_m_count rfl ?_
  refine aq_tabI (tgt := 48) ok_m_count rfl (by decide) (by decide) rfl (by decide) ?_
  refine aq_gn (n := 2) (c1 := (52, [some (.ref 0), some (.int (nI 0))], [.int (nI (s_n S))], wL (s_st S) (s_pr S) (s_aw S) (s_wa S) (s_ha S) (s_la S) (s_wr S) (s_n S) (s_k S) (s_c5 S) (s_c6 S) (s_c7 S))) ok_m_count rfl ?_
  exact aq_ei ok_m_count rfl rfl rfl rfl
set_option maxHeartbeats 4000000 in
theorem am_count1 {d : Nat} {S : LSt} (hS : WF S) : AM m_count (d + 1) (.inl (some (.int (nI (cnt (fun i => decide (nI (s_st S i) = nI 0)) (s_n S) 0 0))))) [.ref 0, .int (nI 1)] (wS S) (wS S) := by
  refine aq_enter pl_m_count (Nat.le_of_ble_eq_true rfl) ?_
  refine aq_gn (n := 1) (c1 := (1, [some (.ref 0), some (.int (nI 1))], [.int (nI 1)], wS S)) ok_m_count rfl ?_
  refine aq_tabI (tgt := 53) ok_m_count rfl (by decide) (by decide) rfl (by decide) ?_
  refine aq_gn (n := 2) (c1 := (55, [some (.ref 0), some (.int (nI 1))], [.int (nI 0), .ref 0], wS S)) ok_m_count rfl ?_
  refine aq_callV (as := [.int (nI 0)]) (st := []) ok_m_count rfl c0_m_inState (am_inState hS.2.2.1) rfl (Nat.le_of_ble_eq_true rfl) rfl rfl rfl ?_
  exact aq_ei ok_m_count rfl rfl rfl rfl
set_option maxHeartbeats 4000000 in
theorem am_count2 {d : Nat} {S : LSt} (hS : WF S) : AM m_count (d + 1) (.inl (some (.int (nI (cnt (fun i => decide (nI (s_st S i) = nI 1)) (s_n S) 0 0))))) [.ref 0, .int (nI 2)] (wS S) (wS S) := by
  refine aq_enter pl_m_count (Nat.le_of_ble_eq_true rfl) ?_
  refine aq_gn (n := 1) (c1 := (1, [some (.ref 0), some (.int (nI 2))], [.int (nI 2)], wS S)) ok_m_count rfl ?_
  refine aq_tabI (tgt := 59) ok_m_count rfl (by decide) (by decide) rfl (by decide) ?_
  refine aq_gn (n := 2) (c1 := (61, [some (.ref 0), some (.int (nI 2))], [.int (nI 1), .ref 0], wS S)) ok_m_count rfl ?_
  refine aq_callV (as := [.int (nI 1)]) (st := []) ok_m_count rfl c0_m_inState (am_inState hS.2.2.1) rfl (Nat.le_of_ble_eq_true rfl) rfl rfl rfl ?_
  exact aq_ei ok_m_count rfl rfl rfl rfl
set_option maxHeartbeats 4000000 in
theorem am_count3 {d : Nat} {S : LSt} (hS : WF S) : AM m_count (d + 1) (.inl (some (.int (nI (cnt (fun i => decide (nI (s_st S i) = nI 2)) (s_n S) 0 0))))) [.ref 0, .int (nI 3)] (wS S) (wS S) := by
  refine aq_enter pl_m_count (Nat.le_of_ble_eq_true rfl) ?_
  refine aq_gn (n := 1) (c1 := (1, [some (.ref 0), some (.int (nI 3))], [.int (nI 3)], wS S)) ok_m_count rfl ?_
  refine aq_tabI (tgt := 65) ok_m_count rfl (by decide) (by decide) rfl (by decide) ?_
  refine aq_gn (n := 2) (c1 := (67, [some (.ref 0), some (.int (nI 3))], [.int (nI 2), .ref 0], wS S)) ok_m_count rfl ?_
  refine aq_callV (as := [.int (nI 2)]) (st := []) ok_m_count rfl c0_m_inState (am_inState hS.2.2.1) rfl (Nat.le_of_ble_eq_true rfl) rfl rfl rfl ?_
  exact aq_ei ok_m_count rfl rfl rfl rfl
set_option maxHeartbeats 4000000 in
theorem am_count4 {d : Nat} {S : LSt} (hS : WF S) : AM m_count (d + 1) (.inl (some (.int (nI (cnt (fun i => decide (nI (s_st S i) = nI 3)) (s_n S) 0 0))))) [.ref 0, .int (nI 4)] (wS S) (wS S) := by
  refine aq_enter pl_m_count (Nat.le_of_ble_eq_true rfl) ?_
  refine aq_gn (n := 1) (c1 := (1, [some (.ref 0), some (.int (nI 4))], [.int (nI 4)], wS S)) ok_m_count rfl ?_
  refine aq_tabI (tgt := 71) ok_m_count rfl (by decide) (by decide) rfl (by decide) ?_
  refine aq_gn (n := 2) (c1 := (73, [some (.ref 0), some (.int (nI 4))], [.int (nI 3), .ref 0], wS S)) ok_m_count rfl ?_
  refine aq_callV (as := [.int (nI 3)]) (st := []) ok_m_count rfl c0_m_inState (am_inState hS.2.2.1) rfl (Nat.le_of_ble_eq_true rfl) rfl rfl rfl ?_
  exact aq_ei ok_m_count rfl rfl rfl rfl
set_option maxHeartbeats 4000000 in
theorem am_count5 {d : Nat} {S : LSt} (hS : WF S) : AM m_count (d + 1) (.inl (some (.int (nI (s_c5 S))))) [.ref 0, .int (nI 5)] (wS S) (wS S) := by
  refine aq_enter pl_m_count (Nat.le_of_ble_eq_true rfl) ?_
  refine aq_gn (n := 1) (c1 := (1, [some (.ref 0), some (.int (nI 5))], [.int (nI 5)], wS S)) ok_m_count rfl ?_
  refine aq_tabI (tgt := 77) ok_m_count rfl (by decide) (by decide) rfl (by decide) ?_
  refine aq_gn (n := 2) (c1 := (81, [some (.ref 0), some (.int (nI 5))], [.int (nI (s_c5 S))], wL (s_st S) (s_pr S) (s_aw S) (s_wa S) (s_ha S) (s_la S) (s_wr S) (s_n S) (s_k S) (s_c5 S) (s_c6 S) (s_c7 S))) ok_m_count rfl ?_
  exact aq_ei ok_m_count rfl rfl rfl rfl
set_option maxHeartbeats 4000000 in
theorem am_count6 {d : Nat} {S : LSt} (hS : WF S) : AM m_count (d + 1) (.inl (some (.int (nI (s_c6 S))))) [.ref 0, .int (nI 6)] (wS S) (wS S) := by
  refine aq_enter pl_m_count (Nat.le_of_ble_eq_true rfl) ?_
  refine aq_gn (n := 1) (c1 := (1, [some (.ref 0), some (.int (nI 6))], [.int (nI 6)], wS S)) ok_m_count rfl ?_
  refine aq_tabI (tgt := 82) ok_m_count rfl (by decide) (by decide) rfl (by decide) ?_
  refine aq_gn (n := 2) (c1 := (86, [some (.ref 0), some (.int (nI 6))], [.int (nI (s_c6 S))], wL (s_st S) (s_pr S) (s_aw S) (s_wa S) (s_ha S) (s_la S) (s_wr S) (s_n S) (s_k S) (s_c5 S) (s_c6 S) (s_c7 S))) ok_m_count rfl ?_
  exact aq_ei ok_m_count rfl rfl rfl rfl
set_option maxHeartbeats 4000000 in
theorem am_count7 {d : Nat} {S : LSt} (hS : WF S) : AM m_count (d + 1) (.inl (some (.int (nI (s_c7 S))))) [.ref 0, .int (nI 7)] (wS S) (wS S) := by
  refine aq_enter pl_m_count (Nat.le_of_ble_eq_true rfl) ?_
  refine aq_gn (n := 1) (c1 := (1, [some (.ref 0), some (.int (nI 7))], [.int (nI 7)], wS S)) ok_m_count rfl ?_
  refine aq_tabI (tgt := 87) ok_m_count rfl (by decide) (by decide) rfl (by decide) ?_
  refine aq_gn (n := 2) (c1 := (91, [some (.ref 0), some (.int (nI 7))], [.int (nI (s_c7 S))], wL (s_st S) (s_pr S) (s_aw S) (s_wa S) (s_ha S) (s_la S) (s_wr S) (s_n S) (s_k S) (s_c5 S) (s_c6 S) (s_c7 S))) ok_m_count rfl ?_
  exact aq_ei ok_m_count rfl rfl rfl rfl
set_option maxHeartbeats 4000000 in
theorem am_count_w {d : Nat} {S : LSt} {y : Int32} (hx : y.toInt < 0 ∨ 7 < y.toInt) : AM m_count (d + 1) (.inl (some (.int (-1)))) [.ref 0, .int y] (wS S) (wS S) := by
  refine aq_enter pl_m_count (Nat.le_of_ble_eq_true rfl) ?_
  refine aq_gn (n := 1) (c1 := (1, [some (.ref 0), some (.int y)], [.int y], wS S)) ok_m_count rfl ?_
  refine aq_tabO (tgt := 92) ok_m_count rfl hx (by decide) ?_
  refine aq_gn (n := 1) (c1 := (93, [some (.ref 0), some (.int y)], [.int (-1)], wS S)) ok_m_count rfl ?_
  exact aq_ei ok_m_count rfl rfl rfl rfl
set_option maxHeartbeats 4000000 in
theorem lp_among {d : Nat} {st pr : Nat → Nat} {aw wa : Nat → Option Nat} {ha : Nat → Int64} {la : Nat → Nat} {wr : Nat → Int64} {n k c5 c6 c7 : Nat} {o : Nat} {x : Int32} {c : Int64} (hn : n ≤ 60) : ∀ (f i : Nat), i + f = n → ∀ a : Nat,  AW m_amongHolders (d + 1) (.inl (some (.int (oI (ahF c x f i a))))) (wL st pr aw wa ha la wr n k c5 c6 c7) (12, [some (.ref 0), some (.int (nI o)), some (.int x), some (.long c), none, some (.int (nI a)), some (.int (nI i))], [], wL st pr aw wa ha la wr n k c5 c6 c7) := by
  intro f
  induction f with
  | zero =>
    intro i hif a
    refine aq_gn (n := 3) (c1 := (18, [some (.ref 0), some (.int (nI o)), some (.int x), some (.long c), none, some (.int (nI a)), some (.int (nI i))], [.int (nI n), .int (nI i)], wL st pr aw wa ha la wr n k c5 c6 c7)) ok_m_amongHolders rfl ?_
    refine aq_icmp_ge ok_m_amongHolders rfl (fun h => ?_) (fun h => ?_)
    · refine aq_gn (n := 1) (c1 := (52, [some (.ref 0), some (.int (nI o)), some (.int x), some (.long c), none, some (.int (nI a)), some (.int (nI i))], [.int (-1)], wL st pr aw wa ha la wr n k c5 c6 c7)) ok_m_amongHolders rfl ?_
      exact aq_ei ok_m_amongHolders rfl rfl rfl rfl
    · exact absurd (nI_le (show n ≤ i by omega) (by omega)) h
  | succ f ih =>
    intro i hif a
    refine aq_gn (n := 3) (c1 := (18, [some (.ref 0), some (.int (nI o)), some (.int x), some (.long c), none, some (.int (nI a)), some (.int (nI i))], [.int (nI n), .int (nI i)], wL st pr aw wa ha la wr n k c5 c6 c7)) ok_m_amongHolders rfl ?_
    refine aq_icmp_ge ok_m_amongHolders rfl (fun h => ?_) (fun h => ?_)
    · exact absurd (q_le h (by omega) (by omega)) (by omega)
    · refine aq_gn (n := 2) (c1 := (24, [some (.ref 0), some (.int (nI o)), some (.int x), some (.long c), none, some (.int (nI a)), some (.int (nI i))], [.int (nI i), .long c], wL st pr aw wa ha la wr n k c5 c6 c7)) ok_m_amongHolders rfl ?_
      refine aq_callS (as := [.int (nI i)]) (st := [.long c]) ok_m_amongHolders rfl c0_m_bit (am_bit i) rfl (Nat.le_of_ble_eq_true rfl) ?_
      refine aq_gn (n := 3) (c1 := (30, [some (.ref 0), some (.int (nI o)), some (.int x), some (.long c), none, some (.int (nI a)), some (.int (nI i))], [.int (lg_cmp (c &&& (lbit i)) 0)], wL st pr aw wa ha la wr n k c5 c6 c7)) ok_m_amongHolders rfl ?_
      refine aq_if_eq ok_m_amongHolders rfl (fun h2 => ?_) (fun h2 => ?_)
      · have hb : lb c i = false := (lb_bit_and (by omega)).mp ((lg_cmp_0 _ _).mp h2)
        refine aq_gn (n := 2) (c1 := (12, [some (.ref 0), some (.int (nI o)), some (.int x), some (.long c), none, some (.int (nI a)), some (.int ((nI i) + 1))], [], wL st pr aw wa ha la wr n k c5 c6 c7)) ok_m_amongHolders rfl ?_
        rw [nI_1]
        have e : ahF c x (f + 1) i a = ahF c x f (i + 1) a := by simp [ahF, hb]
        rw [e]
        exact ih (i + 1) (by omega) a
      · have hb : lb c i = true := by cases hx : lb c i with | true => rfl | false => exact absurd ((lg_cmp_0 _ _).mpr ((lb_bit_and (by omega)).mpr hx)) h2
        refine aq_gn (n := 2) (c1 := (36, [some (.ref 0), some (.int (nI o)), some (.int x), some (.long c), none, some (.int (nI a)), some (.int (nI i))], [.int x, .int (nI a)], wL st pr aw wa ha la wr n k c5 c6 c7)) ok_m_amongHolders rfl ?_
        refine aq_icmp_ne ok_m_amongHolders rfl (fun h3 => ?_) (fun h3 => ?_)
        · refine aq_gn (n := 3) (c1 := (12, [some (.ref 0), some (.int (nI o)), some (.int x), some (.long c), none, some (.int ((nI a) + 1)), some (.int ((nI i) + 1))], [], wL st pr aw wa ha la wr n k c5 c6 c7)) ok_m_amongHolders rfl ?_
          rw [nI_1, nI_1]
          have e : ahF c x (f + 1) i a = ahF c x f (i + 1) (a + 1) := by simp [ahF, hb, h3]
          rw [e]
          exact ih (i + 1) (by omega) (a + 1)
        · refine aq_gn (n := 1) (c1 := (41, [some (.ref 0), some (.int (nI o)), some (.int x), some (.long c), none, some (.int (nI a)), some (.int (nI i))], [.int (nI i)], wL st pr aw wa ha la wr n k c5 c6 c7)) ok_m_amongHolders rfl ?_
          exact aq_ei ok_m_amongHolders rfl rfl (by simp [ahF, hb, h3, oI]) rfl
set_option maxHeartbeats 4000000 in
theorem am_among {d : Nat} {st pr : Nat → Nat} {aw wa : Nat → Option Nat} {ha : Nat → Int64} {la : Nat → Nat} {wr : Nat → Int64} {n k c5 c6 c7 : Nat} {o : Nat} {x : Int32} (ho : o < 85) (hn : n ≤ 60) : AM m_amongHolders (d + 1) (.inl (some (.int (oI (ahF (ao ha o) x n 0 0))))) [.ref 0, .int (nI o), .int x] (wL st pr aw wa ha la wr n k c5 c6 c7) (wL st pr aw wa ha la wr n k c5 c6 c7) := by
  refine aq_enter pl_m_amongHolders (Nat.le_of_ble_eq_true rfl) ?_
  refine aq_gn (n := 2) (c1 := (2, [some (.ref 0), some (.int (nI o)), some (.int x), none, none, none, none], [.int (nI o), .ref 0], wL st pr aw wa ha la wr n k c5 c6 c7)) ok_m_amongHolders rfl ?_
  refine aq_callV (as := [.int (nI o)]) (st := []) ok_m_amongHolders rfl c0_m_allHolders (am_allHolders ho) rfl (Nat.le_of_ble_eq_true rfl) rfl rfl rfl ?_
  refine aq_gn (n := 5) (c1 := (12, [some (.ref 0), some (.int (nI o)), some (.int x), some (.long (ao ha o)), none, some (.int (nI 0)), some (.int (nI 0))], [], wL st pr aw wa ha la wr n k c5 c6 c7)) ok_m_amongHolders rfl ?_
  exact lp_among hn n 0 (by omega) 0
theorem ahF_lt {c : Int64} {x : Int32} : ∀ {f i a t : Nat}, ahF c x f i a = some t → t < i + f := by
  intro f
  induction f with
  | zero => intro i a t h; cases h
  | succ f ih =>
    intro i a t h
    unfold ahF at h
    split at h
    · split at h
      · cases h; omega
      · have := ih h; omega
    · have := ih h; omega
def atq (S : LSt) (o : Nat) (x : Int32) (b : Bool) : Option Nat := if b then iqF (s_aw S) (s_la S) o x (s_k S) 0 0 else ahF (ao (s_ha S) o) x (s_n S) 0 0
theorem atq_lt {S : LSt} (h : WF S) {o : Nat} {x : Int32} {b : Bool} : ∀ t, atq S o x b = some t → t < 60 := by
  intro t q
  unfold atq at q
  split at q
  · obtain ⟨-, i, -, -, e⟩ := iqF_in q
    rw [e]; exact h.1 i
  · have := ahF_lt q
    have := h.2.2.1
    omega
set_option maxHeartbeats 4000000 in
theorem am_at {d : Nat} {S : LSt} {o t : Nat} {x : Int32} {b : Bool} (hS : WF S) (ho : o < 85) (hq : atq S o x b = some t) : AM m_at (d + 2) (.inl (some (.int (nI t)))) [.ref 0, .int (nI o), .int x, .int (bI b)] (wS S) (wS S) := by
  refine aq_enter pl_m_at (Nat.le_of_ble_eq_true rfl) ?_
  refine aq_gn (n := 1) (c1 := (1, [some (.ref 0), some (.int (nI o)), some (.int x), some (.int (bI b)), none], [.int (nI o)], wS S)) ok_m_at rfl ?_
  refine aq_callS (as := [.int (nI o)]) (st := []) ok_m_at rfl c0_m_checkObject (am_chkO ho) rfl (Nat.le_of_ble_eq_true rfl) ?_
  refine aq_gn (n := 1) (c1 := (5, [some (.ref 0), some (.int (nI o)), some (.int x), some (.int (bI b)), none], [.int (bI b)], wS S)) ok_m_at rfl ?_
  refine aq_if_eq ok_m_at rfl (fun h => ?_) (fun h => ?_)
  · have hb := (bI_0 _).mp h
    subst hb
    refine aq_gn (n := 3) (c1 := (20, [some (.ref 0), some (.int (nI o)), some (.int x), some (.int (bI false)), none], [.int x, .int (nI o), .ref 0], wS S)) ok_m_at rfl ?_
    refine aq_callV (as := [.int (nI o), .int x]) (st := []) ok_m_at rfl c0_m_amongHolders (am_among ho hS.2.2.1) rfl (Nat.le_of_ble_eq_true rfl) rfl rfl rfl ?_
    have e : atq S o x false = ahF (ao (s_ha S) o) x (s_n S) 0 0 := rfl
    rw [← e]
    refine aq_gn (n := 3) (c1 := (28, [some (.ref 0), some (.int (nI o)), some (.int x), some (.int (bI false)), some (.int (oI (atq S o x false)))], [.int (-1), .int (oI (atq S o x false))], wS S)) ok_m_at rfl ?_
    refine aq_icmp_ne ok_m_at rfl (fun h2 => ?_) (fun h2 => ?_)
    · refine aq_gn (n := 1) (c1 := (43, [some (.ref 0), some (.int (nI o)), some (.int x), some (.int (bI false)), some (.int (oI (atq S o x false)))], [.int (oI (atq S o x false))], wS S)) ok_m_at rfl ?_
      exact aq_ei ok_m_at rfl rfl (by rw [hq]; rfl) rfl
    · exact absurd (oI_m1 h2 (fun y q => by have := atq_lt hS y q; omega)) (by rw [hq]; exact fun z => by cases z)
  · have hb : b = true := by cases b with | true => rfl | false => exact absurd rfl h
    subst hb
    refine aq_gn (n := 3) (c1 := (11, [some (.ref 0), some (.int (nI o)), some (.int x), some (.int (bI true)), none], [.int x, .int (nI o), .ref 0], wS S)) ok_m_at rfl ?_
    refine aq_callV (as := [.int (nI o), .int x]) (st := []) ok_m_at rfl c0_m_inQueue (am_inQueue ho hS.2.1 hS.1 hS.2.2.2.1) rfl (Nat.le_of_ble_eq_true rfl) rfl rfl rfl ?_
    have e : atq S o x true = iqF (s_aw S) (s_la S) o x (s_k S) 0 0 := rfl
    rw [← e]
    refine aq_gn (n := 4) (c1 := (28, [some (.ref 0), some (.int (nI o)), some (.int x), some (.int (bI true)), some (.int (oI (atq S o x true)))], [.int (-1), .int (oI (atq S o x true))], wS S)) ok_m_at rfl ?_
    refine aq_icmp_ne ok_m_at rfl (fun h2 => ?_) (fun h2 => ?_)
    · refine aq_gn (n := 1) (c1 := (43, [some (.ref 0), some (.int (nI o)), some (.int x), some (.int (bI true)), some (.int (oI (atq S o x true)))], [.int (oI (atq S o x true))], wS S)) ok_m_at rfl ?_
      exact aq_ei ok_m_at rfl rfl (by rw [hq]; rfl) rfl
    · exact absurd (oI_m1 h2 (fun y q => by have := atq_lt hS y q; omega)) (by rw [hq]; exact fun z => by cases z)
set_option maxHeartbeats 4000000 in
theorem am_at_n {d : Nat} {S : LSt} {o : Nat} {x : Int32} {b : Bool} (hS : WF S) (ho : o < 85) (hq : atq S o x b = none) : AM m_at (d + 2) (.inr 0) [.ref 0, .int (nI o), .int x, .int (bI b)] (wS S) (wS S) := by
  refine aq_enter pl_m_at (Nat.le_of_ble_eq_true rfl) ?_
  refine aq_gn (n := 1) (c1 := (1, [some (.ref 0), some (.int (nI o)), some (.int x), some (.int (bI b)), none], [.int (nI o)], wS S)) ok_m_at rfl ?_
  refine aq_callS (as := [.int (nI o)]) (st := []) ok_m_at rfl c0_m_checkObject (am_chkO ho) rfl (Nat.le_of_ble_eq_true rfl) ?_
  refine aq_gn (n := 1) (c1 := (5, [some (.ref 0), some (.int (nI o)), some (.int x), some (.int (bI b)), none], [.int (bI b)], wS S)) ok_m_at rfl ?_
  refine aq_if_eq ok_m_at rfl (fun h => ?_) (fun h => ?_)
  · have hb := (bI_0 _).mp h
    subst hb
    refine aq_gn (n := 3) (c1 := (20, [some (.ref 0), some (.int (nI o)), some (.int x), some (.int (bI false)), none], [.int x, .int (nI o), .ref 0], wS S)) ok_m_at rfl ?_
    refine aq_callV (as := [.int (nI o), .int x]) (st := []) ok_m_at rfl c0_m_amongHolders (am_among ho hS.2.2.1) rfl (Nat.le_of_ble_eq_true rfl) rfl rfl rfl ?_
    have e : atq S o x false = ahF (ao (s_ha S) o) x (s_n S) 0 0 := rfl
    rw [← e]
    refine aq_gn (n := 3) (c1 := (28, [some (.ref 0), some (.int (nI o)), some (.int x), some (.int (bI false)), some (.int (oI (atq S o x false)))], [.int (-1), .int (oI (atq S o x false))], wS S)) ok_m_at rfl ?_
    refine aq_icmp_ne ok_m_at rfl (fun h2 => ?_) (fun h2 => ?_)
    · exact absurd (by rw [hq]; rfl) h2
    · exact aq_throw (text := "there is no such place") ok_m_at rfl tw0 (aq_fit _) aq_upf (by decide +kernel) rfl rfl rfl rfl rfl (Nat.le_of_ble_eq_true rfl)
  · have hb : b = true := by cases b with | true => rfl | false => exact absurd rfl h
    subst hb
    refine aq_gn (n := 3) (c1 := (11, [some (.ref 0), some (.int (nI o)), some (.int x), some (.int (bI true)), none], [.int x, .int (nI o), .ref 0], wS S)) ok_m_at rfl ?_
    refine aq_callV (as := [.int (nI o), .int x]) (st := []) ok_m_at rfl c0_m_inQueue (am_inQueue ho hS.2.1 hS.1 hS.2.2.2.1) rfl (Nat.le_of_ble_eq_true rfl) rfl rfl rfl ?_
    have e : atq S o x true = iqF (s_aw S) (s_la S) o x (s_k S) 0 0 := rfl
    rw [← e]
    refine aq_gn (n := 4) (c1 := (28, [some (.ref 0), some (.int (nI o)), some (.int x), some (.int (bI true)), some (.int (oI (atq S o x true)))], [.int (-1), .int (oI (atq S o x true))], wS S)) ok_m_at rfl ?_
    refine aq_icmp_ne ok_m_at rfl (fun h2 => ?_) (fun h2 => ?_)
    · exact absurd (by rw [hq]; rfl) h2
    · exact aq_throw (text := "there is no such place") ok_m_at rfl tw0 (aq_fit _) aq_upf (by decide +kernel) rfl rfl rfl rfl rfl (Nat.le_of_ble_eq_true rfl)
set_option maxHeartbeats 4000000 in
theorem am_at_o {d : Nat} {S : LSt} {x y z : Int32} (hx : y < 0 ∨ nI 85 ≤ y) : AM m_at (d + 1) (.inr 0) [.ref 0, .int y, .int x, .int z] (wS S) (wS S) := by
  refine aq_enter pl_m_at (Nat.le_of_ble_eq_true rfl) ?_
  refine aq_gn (n := 1) (c1 := (1, [some (.ref 0), some (.int y), some (.int x), some (.int z), none], [.int y], wS S)) ok_m_at rfl ?_
  exact aq_callST (as := [.int y]) (st := []) ok_m_at rfl c0_m_checkObject (am_chkO_x hx) rfl (Nat.le_of_ble_eq_true rfl)
end
section
/-! THE CLASS: many, astray -/
def bcI (x : Int64) : Int32 := (((((((((x - (((x.toUInt64 >>> ((1 : Int32).toInt64.toUInt64 &&& Int64.toUInt64 63)).toInt64) &&& 6148914691236517205)) &&& 3689348814741910323) + ((((x - (((x.toUInt64 >>> ((1 : Int32).toInt64.toUInt64 &&& Int64.toUInt64 63)).toInt64) &&& 6148914691236517205)).toUInt64 >>> ((2 : Int32).toInt64.toUInt64 &&& Int64.toUInt64 63)).toInt64) &&& 3689348814741910323)) + (((((x - (((x.toUInt64 >>> ((1 : Int32).toInt64.toUInt64 &&& Int64.toUInt64 63)).toInt64) &&& 6148914691236517205)) &&& 3689348814741910323) + ((((x - (((x.toUInt64 >>> ((1 : Int32).toInt64.toUInt64 &&& Int64.toUInt64 63)).toInt64) &&& 6148914691236517205)).toUInt64 >>> ((2 : Int32).toInt64.toUInt64 &&& Int64.toUInt64 63)).toInt64) &&& 3689348814741910323)).toUInt64 >>> ((4 : Int32).toInt64.toUInt64 &&& Int64.toUInt64 63)).toInt64)) &&& 1085102592571150095) + (((((((x - (((x.toUInt64 >>> ((1 : Int32).toInt64.toUInt64 &&& Int64.toUInt64 63)).toInt64) &&& 6148914691236517205)) &&& 3689348814741910323) + ((((x - (((x.toUInt64 >>> ((1 : Int32).toInt64.toUInt64 &&& Int64.toUInt64 63)).toInt64) &&& 6148914691236517205)).toUInt64 >>> ((2 : Int32).toInt64.toUInt64 &&& Int64.toUInt64 63)).toInt64) &&& 3689348814741910323)) + (((((x - (((x.toUInt64 >>> ((1 : Int32).toInt64.toUInt64 &&& Int64.toUInt64 63)).toInt64) &&& 6148914691236517205)) &&& 3689348814741910323) + ((((x - (((x.toUInt64 >>> ((1 : Int32).toInt64.toUInt64 &&& Int64.toUInt64 63)).toInt64) &&& 6148914691236517205)).toUInt64 >>> ((2 : Int32).toInt64.toUInt64 &&& Int64.toUInt64 63)).toInt64) &&& 3689348814741910323)).toUInt64 >>> ((4 : Int32).toInt64.toUInt64 &&& Int64.toUInt64 63)).toInt64)) &&& 1085102592571150095).toUInt64 >>> ((8 : Int32).toInt64.toUInt64 &&& Int64.toUInt64 63)).toInt64)) + ((((((((x - (((x.toUInt64 >>> ((1 : Int32).toInt64.toUInt64 &&& Int64.toUInt64 63)).toInt64) &&& 6148914691236517205)) &&& 3689348814741910323) + ((((x - (((x.toUInt64 >>> ((1 : Int32).toInt64.toUInt64 &&& Int64.toUInt64 63)).toInt64) &&& 6148914691236517205)).toUInt64 >>> ((2 : Int32).toInt64.toUInt64 &&& Int64.toUInt64 63)).toInt64) &&& 3689348814741910323)) + (((((x - (((x.toUInt64 >>> ((1 : Int32).toInt64.toUInt64 &&& Int64.toUInt64 63)).toInt64) &&& 6148914691236517205)) &&& 3689348814741910323) + ((((x - (((x.toUInt64 >>> ((1 : Int32).toInt64.toUInt64 &&& Int64.toUInt64 63)).toInt64) &&& 6148914691236517205)).toUInt64 >>> ((2 : Int32).toInt64.toUInt64 &&& Int64.toUInt64 63)).toInt64) &&& 3689348814741910323)).toUInt64 >>> ((4 : Int32).toInt64.toUInt64 &&& Int64.toUInt64 63)).toInt64)) &&& 1085102592571150095) + (((((((x - (((x.toUInt64 >>> ((1 : Int32).toInt64.toUInt64 &&& Int64.toUInt64 63)).toInt64) &&& 6148914691236517205)) &&& 3689348814741910323) + ((((x - (((x.toUInt64 >>> ((1 : Int32).toInt64.toUInt64 &&& Int64.toUInt64 63)).toInt64) &&& 6148914691236517205)).toUInt64 >>> ((2 : Int32).toInt64.toUInt64 &&& Int64.toUInt64 63)).toInt64) &&& 3689348814741910323)) + (((((x - (((x.toUInt64 >>> ((1 : Int32).toInt64.toUInt64 &&& Int64.toUInt64 63)).toInt64) &&& 6148914691236517205)) &&& 3689348814741910323) + ((((x - (((x.toUInt64 >>> ((1 : Int32).toInt64.toUInt64 &&& Int64.toUInt64 63)).toInt64) &&& 6148914691236517205)).toUInt64 >>> ((2 : Int32).toInt64.toUInt64 &&& Int64.toUInt64 63)).toInt64) &&& 3689348814741910323)).toUInt64 >>> ((4 : Int32).toInt64.toUInt64 &&& Int64.toUInt64 63)).toInt64)) &&& 1085102592571150095).toUInt64 >>> ((8 : Int32).toInt64.toUInt64 &&& Int64.toUInt64 63)).toInt64)).toUInt64 >>> ((16 : Int32).toInt64.toUInt64 &&& Int64.toUInt64 63)).toInt64)) + (((((((((x - (((x.toUInt64 >>> ((1 : Int32).toInt64.toUInt64 &&& Int64.toUInt64 63)).toInt64) &&& 6148914691236517205)) &&& 3689348814741910323) + ((((x - (((x.toUInt64 >>> ((1 : Int32).toInt64.toUInt64 &&& Int64.toUInt64 63)).toInt64) &&& 6148914691236517205)).toUInt64 >>> ((2 : Int32).toInt64.toUInt64 &&& Int64.toUInt64 63)).toInt64) &&& 3689348814741910323)) + (((((x - (((x.toUInt64 >>> ((1 : Int32).toInt64.toUInt64 &&& Int64.toUInt64 63)).toInt64) &&& 6148914691236517205)) &&& 3689348814741910323) + ((((x - (((x.toUInt64 >>> ((1 : Int32).toInt64.toUInt64 &&& Int64.toUInt64 63)).toInt64) &&& 6148914691236517205)).toUInt64 >>> ((2 : Int32).toInt64.toUInt64 &&& Int64.toUInt64 63)).toInt64) &&& 3689348814741910323)).toUInt64 >>> ((4 : Int32).toInt64.toUInt64 &&& Int64.toUInt64 63)).toInt64)) &&& 1085102592571150095) + (((((((x - (((x.toUInt64 >>> ((1 : Int32).toInt64.toUInt64 &&& Int64.toUInt64 63)).toInt64) &&& 6148914691236517205)) &&& 3689348814741910323) + ((((x - (((x.toUInt64 >>> ((1 : Int32).toInt64.toUInt64 &&& Int64.toUInt64 63)).toInt64) &&& 6148914691236517205)).toUInt64 >>> ((2 : Int32).toInt64.toUInt64 &&& Int64.toUInt64 63)).toInt64) &&& 3689348814741910323)) + (((((x - (((x.toUInt64 >>> ((1 : Int32).toInt64.toUInt64 &&& Int64.toUInt64 63)).toInt64) &&& 6148914691236517205)) &&& 3689348814741910323) + ((((x - (((x.toUInt64 >>> ((1 : Int32).toInt64.toUInt64 &&& Int64.toUInt64 63)).toInt64) &&& 6148914691236517205)).toUInt64 >>> ((2 : Int32).toInt64.toUInt64 &&& Int64.toUInt64 63)).toInt64) &&& 3689348814741910323)).toUInt64 >>> ((4 : Int32).toInt64.toUInt64 &&& Int64.toUInt64 63)).toInt64)) &&& 1085102592571150095).toUInt64 >>> ((8 : Int32).toInt64.toUInt64 &&& Int64.toUInt64 63)).toInt64)) + ((((((((x - (((x.toUInt64 >>> ((1 : Int32).toInt64.toUInt64 &&& Int64.toUInt64 63)).toInt64) &&& 6148914691236517205)) &&& 3689348814741910323) + ((((x - (((x.toUInt64 >>> ((1 : Int32).toInt64.toUInt64 &&& Int64.toUInt64 63)).toInt64) &&& 6148914691236517205)).toUInt64 >>> ((2 : Int32).toInt64.toUInt64 &&& Int64.toUInt64 63)).toInt64) &&& 3689348814741910323)) + (((((x - (((x.toUInt64 >>> ((1 : Int32).toInt64.toUInt64 &&& Int64.toUInt64 63)).toInt64) &&& 6148914691236517205)) &&& 3689348814741910323) + ((((x - (((x.toUInt64 >>> ((1 : Int32).toInt64.toUInt64 &&& Int64.toUInt64 63)).toInt64) &&& 6148914691236517205)).toUInt64 >>> ((2 : Int32).toInt64.toUInt64 &&& Int64.toUInt64 63)).toInt64) &&& 3689348814741910323)).toUInt64 >>> ((4 : Int32).toInt64.toUInt64 &&& Int64.toUInt64 63)).toInt64)) &&& 1085102592571150095) + (((((((x - (((x.toUInt64 >>> ((1 : Int32).toInt64.toUInt64 &&& Int64.toUInt64 63)).toInt64) &&& 6148914691236517205)) &&& 3689348814741910323) + ((((x - (((x.toUInt64 >>> ((1 : Int32).toInt64.toUInt64 &&& Int64.toUInt64 63)).toInt64) &&& 6148914691236517205)).toUInt64 >>> ((2 : Int32).toInt64.toUInt64 &&& Int64.toUInt64 63)).toInt64) &&& 3689348814741910323)) + (((((x - (((x.toUInt64 >>> ((1 : Int32).toInt64.toUInt64 &&& Int64.toUInt64 63)).toInt64) &&& 6148914691236517205)) &&& 3689348814741910323) + ((((x - (((x.toUInt64 >>> ((1 : Int32).toInt64.toUInt64 &&& Int64.toUInt64 63)).toInt64) &&& 6148914691236517205)).toUInt64 >>> ((2 : Int32).toInt64.toUInt64 &&& Int64.toUInt64 63)).toInt64) &&& 3689348814741910323)).toUInt64 >>> ((4 : Int32).toInt64.toUInt64 &&& Int64.toUInt64 63)).toInt64)) &&& 1085102592571150095).toUInt64 >>> ((8 : Int32).toInt64.toUInt64 &&& Int64.toUInt64 63)).toInt64)).toUInt64 >>> ((16 : Int32).toInt64.toUInt64 &&& Int64.toUInt64 63)).toInt64)).toUInt64 >>> ((32 : Int32).toInt64.toUInt64 &&& Int64.toUInt64 63)).toInt64)).toInt32) &&& 127
set_option maxHeartbeats 4000000 in
theorem am_bitCount {d : Nat} {w : List va_E} (x : Int64) : AM j_bitCount d (.inl (some (.int (bcI x)))) [.long x] w w := by
  refine aq_enter pl_j_bitCount (Nat.le_of_ble_eq_true rfl) ?_
  refine aq_gn (n := 48) (c1 := (60, [some (.long ((((((((x - (((x.toUInt64 >>> ((1 : Int32).toInt64.toUInt64 &&& Int64.toUInt64 63)).toInt64) &&& 6148914691236517205)) &&& 3689348814741910323) + ((((x - (((x.toUInt64 >>> ((1 : Int32).toInt64.toUInt64 &&& Int64.toUInt64 63)).toInt64) &&& 6148914691236517205)).toUInt64 >>> ((2 : Int32).toInt64.toUInt64 &&& Int64.toUInt64 63)).toInt64) &&& 3689348814741910323)) + (((((x - (((x.toUInt64 >>> ((1 : Int32).toInt64.toUInt64 &&& Int64.toUInt64 63)).toInt64) &&& 6148914691236517205)) &&& 3689348814741910323) + ((((x - (((x.toUInt64 >>> ((1 : Int32).toInt64.toUInt64 &&& Int64.toUInt64 63)).toInt64) &&& 6148914691236517205)).toUInt64 >>> ((2 : Int32).toInt64.toUInt64 &&& Int64.toUInt64 63)).toInt64) &&& 3689348814741910323)).toUInt64 >>> ((4 : Int32).toInt64.toUInt64 &&& Int64.toUInt64 63)).toInt64)) &&& 1085102592571150095) + (((((((x - (((x.toUInt64 >>> ((1 : Int32).toInt64.toUInt64 &&& Int64.toUInt64 63)).toInt64) &&& 6148914691236517205)) &&& 3689348814741910323) + ((((x - (((x.toUInt64 >>> ((1 : Int32).toInt64.toUInt64 &&& Int64.toUInt64 63)).toInt64) &&& 6148914691236517205)).toUInt64 >>> ((2 : Int32).toInt64.toUInt64 &&& Int64.toUInt64 63)).toInt64) &&& 3689348814741910323)) + (((((x - (((x.toUInt64 >>> ((1 : Int32).toInt64.toUInt64 &&& Int64.toUInt64 63)).toInt64) &&& 6148914691236517205)) &&& 3689348814741910323) + ((((x - (((x.toUInt64 >>> ((1 : Int32).toInt64.toUInt64 &&& Int64.toUInt64 63)).toInt64) &&& 6148914691236517205)).toUInt64 >>> ((2 : Int32).toInt64.toUInt64 &&& Int64.toUInt64 63)).toInt64) &&& 3689348814741910323)).toUInt64 >>> ((4 : Int32).toInt64.toUInt64 &&& Int64.toUInt64 63)).toInt64)) &&& 1085102592571150095).toUInt64 >>> ((8 : Int32).toInt64.toUInt64 &&& Int64.toUInt64 63)).toInt64)) + ((((((((x - (((x.toUInt64 >>> ((1 : Int32).toInt64.toUInt64 &&& Int64.toUInt64 63)).toInt64) &&& 6148914691236517205)) &&& 3689348814741910323) + ((((x - (((x.toUInt64 >>> ((1 : Int32).toInt64.toUInt64 &&& Int64.toUInt64 63)).toInt64) &&& 6148914691236517205)).toUInt64 >>> ((2 : Int32).toInt64.toUInt64 &&& Int64.toUInt64 63)).toInt64) &&& 3689348814741910323)) + (((((x - (((x.toUInt64 >>> ((1 : Int32).toInt64.toUInt64 &&& Int64.toUInt64 63)).toInt64) &&& 6148914691236517205)) &&& 3689348814741910323) + ((((x - (((x.toUInt64 >>> ((1 : Int32).toInt64.toUInt64 &&& Int64.toUInt64 63)).toInt64) &&& 6148914691236517205)).toUInt64 >>> ((2 : Int32).toInt64.toUInt64 &&& Int64.toUInt64 63)).toInt64) &&& 3689348814741910323)).toUInt64 >>> ((4 : Int32).toInt64.toUInt64 &&& Int64.toUInt64 63)).toInt64)) &&& 1085102592571150095) + (((((((x - (((x.toUInt64 >>> ((1 : Int32).toInt64.toUInt64 &&& Int64.toUInt64 63)).toInt64) &&& 6148914691236517205)) &&& 3689348814741910323) + ((((x - (((x.toUInt64 >>> ((1 : Int32).toInt64.toUInt64 &&& Int64.toUInt64 63)).toInt64) &&& 6148914691236517205)).toUInt64 >>> ((2 : Int32).toInt64.toUInt64 &&& Int64.toUInt64 63)).toInt64) &&& 3689348814741910323)) + (((((x - (((x.toUInt64 >>> ((1 : Int32).toInt64.toUInt64 &&& Int64.toUInt64 63)).toInt64) &&& 6148914691236517205)) &&& 3689348814741910323) + ((((x - (((x.toUInt64 >>> ((1 : Int32).toInt64.toUInt64 &&& Int64.toUInt64 63)).toInt64) &&& 6148914691236517205)).toUInt64 >>> ((2 : Int32).toInt64.toUInt64 &&& Int64.toUInt64 63)).toInt64) &&& 3689348814741910323)).toUInt64 >>> ((4 : Int32).toInt64.toUInt64 &&& Int64.toUInt64 63)).toInt64)) &&& 1085102592571150095).toUInt64 >>> ((8 : Int32).toInt64.toUInt64 &&& Int64.toUInt64 63)).toInt64)).toUInt64 >>> ((16 : Int32).toInt64.toUInt64 &&& Int64.toUInt64 63)).toInt64)) + (((((((((x - (((x.toUInt64 >>> ((1 : Int32).toInt64.toUInt64 &&& Int64.toUInt64 63)).toInt64) &&& 6148914691236517205)) &&& 3689348814741910323) + ((((x - (((x.toUInt64 >>> ((1 : Int32).toInt64.toUInt64 &&& Int64.toUInt64 63)).toInt64) &&& 6148914691236517205)).toUInt64 >>> ((2 : Int32).toInt64.toUInt64 &&& Int64.toUInt64 63)).toInt64) &&& 3689348814741910323)) + (((((x - (((x.toUInt64 >>> ((1 : Int32).toInt64.toUInt64 &&& Int64.toUInt64 63)).toInt64) &&& 6148914691236517205)) &&& 3689348814741910323) + ((((x - (((x.toUInt64 >>> ((1 : Int32).toInt64.toUInt64 &&& Int64.toUInt64 63)).toInt64) &&& 6148914691236517205)).toUInt64 >>> ((2 : Int32).toInt64.toUInt64 &&& Int64.toUInt64 63)).toInt64) &&& 3689348814741910323)).toUInt64 >>> ((4 : Int32).toInt64.toUInt64 &&& Int64.toUInt64 63)).toInt64)) &&& 1085102592571150095) + (((((((x - (((x.toUInt64 >>> ((1 : Int32).toInt64.toUInt64 &&& Int64.toUInt64 63)).toInt64) &&& 6148914691236517205)) &&& 3689348814741910323) + ((((x - (((x.toUInt64 >>> ((1 : Int32).toInt64.toUInt64 &&& Int64.toUInt64 63)).toInt64) &&& 6148914691236517205)).toUInt64 >>> ((2 : Int32).toInt64.toUInt64 &&& Int64.toUInt64 63)).toInt64) &&& 3689348814741910323)) + (((((x - (((x.toUInt64 >>> ((1 : Int32).toInt64.toUInt64 &&& Int64.toUInt64 63)).toInt64) &&& 6148914691236517205)) &&& 3689348814741910323) + ((((x - (((x.toUInt64 >>> ((1 : Int32).toInt64.toUInt64 &&& Int64.toUInt64 63)).toInt64) &&& 6148914691236517205)).toUInt64 >>> ((2 : Int32).toInt64.toUInt64 &&& Int64.toUInt64 63)).toInt64) &&& 3689348814741910323)).toUInt64 >>> ((4 : Int32).toInt64.toUInt64 &&& Int64.toUInt64 63)).toInt64)) &&& 1085102592571150095).toUInt64 >>> ((8 : Int32).toInt64.toUInt64 &&& Int64.toUInt64 63)).toInt64)) + ((((((((x - (((x.toUInt64 >>> ((1 : Int32).toInt64.toUInt64 &&& Int64.toUInt64 63)).toInt64) &&& 6148914691236517205)) &&& 3689348814741910323) + ((((x - (((x.toUInt64 >>> ((1 : Int32).toInt64.toUInt64 &&& Int64.toUInt64 63)).toInt64) &&& 6148914691236517205)).toUInt64 >>> ((2 : Int32).toInt64.toUInt64 &&& Int64.toUInt64 63)).toInt64) &&& 3689348814741910323)) + (((((x - (((x.toUInt64 >>> ((1 : Int32).toInt64.toUInt64 &&& Int64.toUInt64 63)).toInt64) &&& 6148914691236517205)) &&& 3689348814741910323) + ((((x - (((x.toUInt64 >>> ((1 : Int32).toInt64.toUInt64 &&& Int64.toUInt64 63)).toInt64) &&& 6148914691236517205)).toUInt64 >>> ((2 : Int32).toInt64.toUInt64 &&& Int64.toUInt64 63)).toInt64) &&& 3689348814741910323)).toUInt64 >>> ((4 : Int32).toInt64.toUInt64 &&& Int64.toUInt64 63)).toInt64)) &&& 1085102592571150095) + (((((((x - (((x.toUInt64 >>> ((1 : Int32).toInt64.toUInt64 &&& Int64.toUInt64 63)).toInt64) &&& 6148914691236517205)) &&& 3689348814741910323) + ((((x - (((x.toUInt64 >>> ((1 : Int32).toInt64.toUInt64 &&& Int64.toUInt64 63)).toInt64) &&& 6148914691236517205)).toUInt64 >>> ((2 : Int32).toInt64.toUInt64 &&& Int64.toUInt64 63)).toInt64) &&& 3689348814741910323)) + (((((x - (((x.toUInt64 >>> ((1 : Int32).toInt64.toUInt64 &&& Int64.toUInt64 63)).toInt64) &&& 6148914691236517205)) &&& 3689348814741910323) + ((((x - (((x.toUInt64 >>> ((1 : Int32).toInt64.toUInt64 &&& Int64.toUInt64 63)).toInt64) &&& 6148914691236517205)).toUInt64 >>> ((2 : Int32).toInt64.toUInt64 &&& Int64.toUInt64 63)).toInt64) &&& 3689348814741910323)).toUInt64 >>> ((4 : Int32).toInt64.toUInt64 &&& Int64.toUInt64 63)).toInt64)) &&& 1085102592571150095).toUInt64 >>> ((8 : Int32).toInt64.toUInt64 &&& Int64.toUInt64 63)).toInt64)).toUInt64 >>> ((16 : Int32).toInt64.toUInt64 &&& Int64.toUInt64 63)).toInt64)).toUInt64 >>> ((32 : Int32).toInt64.toUInt64 &&& Int64.toUInt64 63)).toInt64))), none], [.int ((((((((((x - (((x.toUInt64 >>> ((1 : Int32).toInt64.toUInt64 &&& Int64.toUInt64 63)).toInt64) &&& 6148914691236517205)) &&& 3689348814741910323) + ((((x - (((x.toUInt64 >>> ((1 : Int32).toInt64.toUInt64 &&& Int64.toUInt64 63)).toInt64) &&& 6148914691236517205)).toUInt64 >>> ((2 : Int32).toInt64.toUInt64 &&& Int64.toUInt64 63)).toInt64) &&& 3689348814741910323)) + (((((x - (((x.toUInt64 >>> ((1 : Int32).toInt64.toUInt64 &&& Int64.toUInt64 63)).toInt64) &&& 6148914691236517205)) &&& 3689348814741910323) + ((((x - (((x.toUInt64 >>> ((1 : Int32).toInt64.toUInt64 &&& Int64.toUInt64 63)).toInt64) &&& 6148914691236517205)).toUInt64 >>> ((2 : Int32).toInt64.toUInt64 &&& Int64.toUInt64 63)).toInt64) &&& 3689348814741910323)).toUInt64 >>> ((4 : Int32).toInt64.toUInt64 &&& Int64.toUInt64 63)).toInt64)) &&& 1085102592571150095) + (((((((x - (((x.toUInt64 >>> ((1 : Int32).toInt64.toUInt64 &&& Int64.toUInt64 63)).toInt64) &&& 6148914691236517205)) &&& 3689348814741910323) + ((((x - (((x.toUInt64 >>> ((1 : Int32).toInt64.toUInt64 &&& Int64.toUInt64 63)).toInt64) &&& 6148914691236517205)).toUInt64 >>> ((2 : Int32).toInt64.toUInt64 &&& Int64.toUInt64 63)).toInt64) &&& 3689348814741910323)) + (((((x - (((x.toUInt64 >>> ((1 : Int32).toInt64.toUInt64 &&& Int64.toUInt64 63)).toInt64) &&& 6148914691236517205)) &&& 3689348814741910323) + ((((x - (((x.toUInt64 >>> ((1 : Int32).toInt64.toUInt64 &&& Int64.toUInt64 63)).toInt64) &&& 6148914691236517205)).toUInt64 >>> ((2 : Int32).toInt64.toUInt64 &&& Int64.toUInt64 63)).toInt64) &&& 3689348814741910323)).toUInt64 >>> ((4 : Int32).toInt64.toUInt64 &&& Int64.toUInt64 63)).toInt64)) &&& 1085102592571150095).toUInt64 >>> ((8 : Int32).toInt64.toUInt64 &&& Int64.toUInt64 63)).toInt64)) + ((((((((x - (((x.toUInt64 >>> ((1 : Int32).toInt64.toUInt64 &&& Int64.toUInt64 63)).toInt64) &&& 6148914691236517205)) &&& 3689348814741910323) + ((((x - (((x.toUInt64 >>> ((1 : Int32).toInt64.toUInt64 &&& Int64.toUInt64 63)).toInt64) &&& 6148914691236517205)).toUInt64 >>> ((2 : Int32).toInt64.toUInt64 &&& Int64.toUInt64 63)).toInt64) &&& 3689348814741910323)) + (((((x - (((x.toUInt64 >>> ((1 : Int32).toInt64.toUInt64 &&& Int64.toUInt64 63)).toInt64) &&& 6148914691236517205)) &&& 3689348814741910323) + ((((x - (((x.toUInt64 >>> ((1 : Int32).toInt64.toUInt64 &&& Int64.toUInt64 63)).toInt64) &&& 6148914691236517205)).toUInt64 >>> ((2 : Int32).toInt64.toUInt64 &&& Int64.toUInt64 63)).toInt64) &&& 3689348814741910323)).toUInt64 >>> ((4 : Int32).toInt64.toUInt64 &&& Int64.toUInt64 63)).toInt64)) &&& 1085102592571150095) + (((((((x - (((x.toUInt64 >>> ((1 : Int32).toInt64.toUInt64 &&& Int64.toUInt64 63)).toInt64) &&& 6148914691236517205)) &&& 3689348814741910323) + ((((x - (((x.toUInt64 >>> ((1 : Int32).toInt64.toUInt64 &&& Int64.toUInt64 63)).toInt64) &&& 6148914691236517205)).toUInt64 >>> ((2 : Int32).toInt64.toUInt64 &&& Int64.toUInt64 63)).toInt64) &&& 3689348814741910323)) + (((((x - (((x.toUInt64 >>> ((1 : Int32).toInt64.toUInt64 &&& Int64.toUInt64 63)).toInt64) &&& 6148914691236517205)) &&& 3689348814741910323) + ((((x - (((x.toUInt64 >>> ((1 : Int32).toInt64.toUInt64 &&& Int64.toUInt64 63)).toInt64) &&& 6148914691236517205)).toUInt64 >>> ((2 : Int32).toInt64.toUInt64 &&& Int64.toUInt64 63)).toInt64) &&& 3689348814741910323)).toUInt64 >>> ((4 : Int32).toInt64.toUInt64 &&& Int64.toUInt64 63)).toInt64)) &&& 1085102592571150095).toUInt64 >>> ((8 : Int32).toInt64.toUInt64 &&& Int64.toUInt64 63)).toInt64)).toUInt64 >>> ((16 : Int32).toInt64.toUInt64 &&& Int64.toUInt64 63)).toInt64)) + (((((((((x - (((x.toUInt64 >>> ((1 : Int32).toInt64.toUInt64 &&& Int64.toUInt64 63)).toInt64) &&& 6148914691236517205)) &&& 3689348814741910323) + ((((x - (((x.toUInt64 >>> ((1 : Int32).toInt64.toUInt64 &&& Int64.toUInt64 63)).toInt64) &&& 6148914691236517205)).toUInt64 >>> ((2 : Int32).toInt64.toUInt64 &&& Int64.toUInt64 63)).toInt64) &&& 3689348814741910323)) + (((((x - (((x.toUInt64 >>> ((1 : Int32).toInt64.toUInt64 &&& Int64.toUInt64 63)).toInt64) &&& 6148914691236517205)) &&& 3689348814741910323) + ((((x - (((x.toUInt64 >>> ((1 : Int32).toInt64.toUInt64 &&& Int64.toUInt64 63)).toInt64) &&& 6148914691236517205)).toUInt64 >>> ((2 : Int32).toInt64.toUInt64 &&& Int64.toUInt64 63)).toInt64) &&& 3689348814741910323)).toUInt64 >>> ((4 : Int32).toInt64.toUInt64 &&& Int64.toUInt64 63)).toInt64)) &&& 1085102592571150095) + (((((((x - (((x.toUInt64 >>> ((1 : Int32).toInt64.toUInt64 &&& Int64.toUInt64 63)).toInt64) &&& 6148914691236517205)) &&& 3689348814741910323) + ((((x - (((x.toUInt64 >>> ((1 : Int32).toInt64.toUInt64 &&& Int64.toUInt64 63)).toInt64) &&& 6148914691236517205)).toUInt64 >>> ((2 : Int32).toInt64.toUInt64 &&& Int64.toUInt64 63)).toInt64) &&& 3689348814741910323)) + (((((x - (((x.toUInt64 >>> ((1 : Int32).toInt64.toUInt64 &&& Int64.toUInt64 63)).toInt64) &&& 6148914691236517205)) &&& 3689348814741910323) + ((((x - (((x.toUInt64 >>> ((1 : Int32).toInt64.toUInt64 &&& Int64.toUInt64 63)).toInt64) &&& 6148914691236517205)).toUInt64 >>> ((2 : Int32).toInt64.toUInt64 &&& Int64.toUInt64 63)).toInt64) &&& 3689348814741910323)).toUInt64 >>> ((4 : Int32).toInt64.toUInt64 &&& Int64.toUInt64 63)).toInt64)) &&& 1085102592571150095).toUInt64 >>> ((8 : Int32).toInt64.toUInt64 &&& Int64.toUInt64 63)).toInt64)) + ((((((((x - (((x.toUInt64 >>> ((1 : Int32).toInt64.toUInt64 &&& Int64.toUInt64 63)).toInt64) &&& 6148914691236517205)) &&& 3689348814741910323) + ((((x - (((x.toUInt64 >>> ((1 : Int32).toInt64.toUInt64 &&& Int64.toUInt64 63)).toInt64) &&& 6148914691236517205)).toUInt64 >>> ((2 : Int32).toInt64.toUInt64 &&& Int64.toUInt64 63)).toInt64) &&& 3689348814741910323)) + (((((x - (((x.toUInt64 >>> ((1 : Int32).toInt64.toUInt64 &&& Int64.toUInt64 63)).toInt64) &&& 6148914691236517205)) &&& 3689348814741910323) + ((((x - (((x.toUInt64 >>> ((1 : Int32).toInt64.toUInt64 &&& Int64.toUInt64 63)).toInt64) &&& 6148914691236517205)).toUInt64 >>> ((2 : Int32).toInt64.toUInt64 &&& Int64.toUInt64 63)).toInt64) &&& 3689348814741910323)).toUInt64 >>> ((4 : Int32).toInt64.toUInt64 &&& Int64.toUInt64 63)).toInt64)) &&& 1085102592571150095) + (((((((x - (((x.toUInt64 >>> ((1 : Int32).toInt64.toUInt64 &&& Int64.toUInt64 63)).toInt64) &&& 6148914691236517205)) &&& 3689348814741910323) + ((((x - (((x.toUInt64 >>> ((1 : Int32).toInt64.toUInt64 &&& Int64.toUInt64 63)).toInt64) &&& 6148914691236517205)).toUInt64 >>> ((2 : Int32).toInt64.toUInt64 &&& Int64.toUInt64 63)).toInt64) &&& 3689348814741910323)) + (((((x - (((x.toUInt64 >>> ((1 : Int32).toInt64.toUInt64 &&& Int64.toUInt64 63)).toInt64) &&& 6148914691236517205)) &&& 3689348814741910323) + ((((x - (((x.toUInt64 >>> ((1 : Int32).toInt64.toUInt64 &&& Int64.toUInt64 63)).toInt64) &&& 6148914691236517205)).toUInt64 >>> ((2 : Int32).toInt64.toUInt64 &&& Int64.toUInt64 63)).toInt64) &&& 3689348814741910323)).toUInt64 >>> ((4 : Int32).toInt64.toUInt64 &&& Int64.toUInt64 63)).toInt64)) &&& 1085102592571150095).toUInt64 >>> ((8 : Int32).toInt64.toUInt64 &&& Int64.toUInt64 63)).toInt64)).toUInt64 >>> ((16 : Int32).toInt64.toUInt64 &&& Int64.toUInt64 63)).toInt64)).toUInt64 >>> ((32 : Int32).toInt64.toUInt64 &&& Int64.toUInt64 63)).toInt64)).toInt32) &&& 127)], w)) ok_j_bitCount rfl ?_
  exact aq_ei ok_j_bitCount rfl rfl rfl rfl
def in1 (i n : Int32) : Int32 := n + (i.toUInt32 >>> ((1 : Int32).toUInt32 &&& Int32.toUInt32 31)).toInt32
def in2 (i n : Int32) : Int32 := if i ≤ 4 then in1 i n else in1 (i.toUInt32 >>> ((2 : Int32).toUInt32 &&& Int32.toUInt32 31)).toInt32 (n + 2)
def in4 (i n : Int32) : Int32 := if i ≤ 16 then in2 i n else in2 (i.toUInt32 >>> ((4 : Int32).toUInt32 &&& Int32.toUInt32 31)).toInt32 (n + 4)
def in8 (i n : Int32) : Int32 := if i ≤ 256 then in4 i n else in4 (i.toUInt32 >>> ((8 : Int32).toUInt32 &&& Int32.toUInt32 31)).toInt32 (n + 8)
def in16 (i n : Int32) : Int32 := if i ≤ 65536 then in8 i n else in8 (i.toUInt32 >>> ((16 : Int32).toUInt32 &&& Int32.toUInt32 31)).toInt32 (n + 16)
def inI (x : Int32) : Int32 := if 0 < (x ^^^ (-1)) &&& (x - 1) then in16 ((x ^^^ (-1)) &&& (x - 1)) 1 else ((x ^^^ (-1)) &&& (x - 1)) &&& 32
def lnI (x : Int64) : Int32 := if x.toInt32 = 0 then 32 + inI (x.toUInt64 >>> ((32 : Int32).toInt64.toUInt64 &&& Int64.toUInt64 63)).toInt64.toInt32 else inI x.toInt32
set_option maxHeartbeats 4000000 in
theorem lp_in1 {d : Nat} {w : List va_E} (i n : Int32) : AW i_numberOfTrailingZeros d (.inl (some (.int (in1 i n)))) w (74, [some (.int i), some (.int n)], [], w) := by
  refine aq_gn (n := 5) (c1 := (79, [some (.int i), some (.int n)], [.int (n + ((i.toUInt32 >>> ((1 : Int32).toUInt32 &&& Int32.toUInt32 31)).toInt32))], w)) ok_i_numberOfTrailingZeros rfl ?_
  exact aq_ei ok_i_numberOfTrailingZeros rfl rfl rfl rfl
set_option maxHeartbeats 4000000 in
theorem lp_in2 {d : Nat} {w : List va_E} (i n : Int32) : AW i_numberOfTrailingZeros d (.inl (some (.int (in2 i n)))) w (62, [some (.int i), some (.int n)], [], w) := by
  refine aq_gn (n := 2) (c1 := (64, [some (.int i), some (.int n)], [.int 4, .int i], w)) ok_i_numberOfTrailingZeros rfl ?_
  refine aq_icmp_le ok_i_numberOfTrailingZeros rfl (fun h => ?_) (fun h => ?_)
  · rw [in2, if_pos h]
    exact lp_in1 i n
  · refine aq_gn (n := 5) (c1 := (74, [some (.int ((i.toUInt32 >>> ((2 : Int32).toUInt32 &&& Int32.toUInt32 31)).toInt32)), some (.int (n + 2))], [], w)) ok_i_numberOfTrailingZeros rfl ?_
    rw [in2, if_neg h]
    exact lp_in1 _ _
set_option maxHeartbeats 4000000 in
theorem lp_in4 {d : Nat} {w : List va_E} (i n : Int32) : AW i_numberOfTrailingZeros d (.inl (some (.int (in4 i n)))) w (49, [some (.int i), some (.int n)], [], w) := by
  refine aq_gn (n := 2) (c1 := (52, [some (.int i), some (.int n)], [.int 16, .int i], w)) ok_i_numberOfTrailingZeros rfl ?_
  refine aq_icmp_le ok_i_numberOfTrailingZeros rfl (fun h => ?_) (fun h => ?_)
  · rw [in4, if_pos h]
    exact lp_in2 i n
  · refine aq_gn (n := 5) (c1 := (62, [some (.int ((i.toUInt32 >>> ((4 : Int32).toUInt32 &&& Int32.toUInt32 31)).toInt32)), some (.int (n + 4))], [], w)) ok_i_numberOfTrailingZeros rfl ?_
    rw [in4, if_neg h]
    exact lp_in2 _ _
set_option maxHeartbeats 4000000 in
theorem lp_in8 {d : Nat} {w : List va_E} (i n : Int32) : AW i_numberOfTrailingZeros d (.inl (some (.int (in8 i n)))) w (34, [some (.int i), some (.int n)], [], w) := by
  refine aq_gn (n := 2) (c1 := (38, [some (.int i), some (.int n)], [.int 256, .int i], w)) ok_i_numberOfTrailingZeros rfl ?_
  refine aq_icmp_le ok_i_numberOfTrailingZeros rfl (fun h => ?_) (fun h => ?_)
  · rw [in8, if_pos h]
    exact lp_in4 i n
  · refine aq_gn (n := 5) (c1 := (49, [some (.int ((i.toUInt32 >>> ((8 : Int32).toUInt32 &&& Int32.toUInt32 31)).toInt32)), some (.int (n + 8))], [], w)) ok_i_numberOfTrailingZeros rfl ?_
    rw [in8, if_neg h]
    exact lp_in4 _ _
set_option maxHeartbeats 4000000 in
theorem lp_in16 {d : Nat} {w : List va_E} (i n : Int32) : AW i_numberOfTrailingZeros d (.inl (some (.int (in16 i n)))) w (19, [some (.int i), some (.int n)], [], w) := by
  refine aq_gn (n := 2) (c1 := (23, [some (.int i), some (.int n)], [.int 65536, .int i], w)) ok_i_numberOfTrailingZeros rfl ?_
  refine aq_icmp_le ok_i_numberOfTrailingZeros rfl (fun h => ?_) (fun h => ?_)
  · rw [in16, if_pos h]
    exact lp_in8 i n
  · refine aq_gn (n := 5) (c1 := (34, [some (.int ((i.toUInt32 >>> ((16 : Int32).toUInt32 &&& Int32.toUInt32 31)).toInt32)), some (.int (n + 16))], [], w)) ok_i_numberOfTrailingZeros rfl ?_
    rw [in16, if_neg h]
    exact lp_in8 _ _
set_option maxHeartbeats 4000000 in
theorem am_intNtz {d : Nat} {w : List va_E} (x : Int32) : AM i_numberOfTrailingZeros d (.inl (some (.int (inI x)))) [.int x] w w := by
  refine aq_enter pl_i_numberOfTrailingZeros (Nat.le_of_ble_eq_true rfl) ?_
  refine aq_gn (n := 9) (c1 := (9, [some (.int ((x ^^^ (-1)) &&& (x - 1))), none], [.int ((x ^^^ (-1)) &&& (x - 1))], w)) ok_i_numberOfTrailingZeros rfl ?_
  refine aq_if_gt ok_i_numberOfTrailingZeros rfl (fun h => ?_) (fun h => ?_)
  · refine aq_gn (n := 2) (c1 := (19, [some (.int ((x ^^^ (-1)) &&& (x - 1))), some (.int 1)], [], w)) ok_i_numberOfTrailingZeros rfl ?_
    rw [inI, if_pos h]
    exact lp_in16 _ _
  · refine aq_gn (n := 3) (c1 := (16, [some (.int ((x ^^^ (-1)) &&& (x - 1))), none], [.int (((x ^^^ (-1)) &&& (x - 1)) &&& 32)], w)) ok_i_numberOfTrailingZeros rfl ?_
    exact aq_ei ok_i_numberOfTrailingZeros rfl rfl (by rw [inI, if_neg h]) rfl
set_option maxHeartbeats 4000000 in
theorem am_longNtz {d : Nat} {w : List va_E} (x : Int64) : AM j_numberOfTrailingZeros (d + 1) (.inl (some (.int (lnI x)))) [.long x] w w := by
  refine aq_enter pl_j_numberOfTrailingZeros (Nat.le_of_ble_eq_true rfl) ?_
  refine aq_gn (n := 4) (c1 := (4, [some (.long x), none, some (.int x.toInt32)], [.int x.toInt32], w)) ok_j_numberOfTrailingZeros rfl ?_
  refine aq_if_ne ok_j_numberOfTrailingZeros rfl (fun h => ?_) (fun h => ?_)
  · refine aq_gn (n := 1) (c1 := (22, [some (.long x), none, some (.int x.toInt32)], [.int x.toInt32], w)) ok_j_numberOfTrailingZeros rfl ?_
    refine aq_callS (as := [.int x.toInt32]) (st := []) ok_j_numberOfTrailingZeros rfl c2_i_numberOfTrailingZeros (am_intNtz _) rfl (Nat.le_of_ble_eq_true rfl) ?_
    exact aq_ei ok_j_numberOfTrailingZeros rfl rfl (by rw [lnI, if_neg h]) rfl
  · refine aq_gn (n := 5) (c1 := (14, [some (.long x), none, some (.int x.toInt32)], [.int (((x.toUInt64 >>> ((32 : Int32).toInt64.toUInt64 &&& Int64.toUInt64 63)).toInt64).toInt32), .int 32], w)) ok_j_numberOfTrailingZeros rfl ?_
    refine aq_callS (as := [.int (((x.toUInt64 >>> ((32 : Int32).toInt64.toUInt64 &&& Int64.toUInt64 63)).toInt64).toInt32)]) (st := [.int 32]) ok_j_numberOfTrailingZeros rfl c2_i_numberOfTrailingZeros (am_intNtz _) rfl (Nat.le_of_ble_eq_true rfl) ?_
    refine aq_gn (n := 2) (c1 := (25, [some (.long x), none, some (.int x.toInt32)], [.int (32 + (inI (x.toUInt64 >>> ((32 : Int32).toInt64.toUInt64 &&& Int64.toUInt64 63)).toInt64.toInt32))], w)) ok_j_numberOfTrailingZeros rfl ?_
    exact aq_ei ok_j_numberOfTrailingZeros rfl rfl (by rw [lnI, if_pos h]) rfl
set_option maxHeartbeats 4000000 in
theorem am_many {d : Nat} {S : LSt} {o : Nat} {b : Bool} (hS : WF S) (ho : o < 85) : AM m_many (d + 1) (.inl (some (.int (if b then nI (cnt (fun i => decide (s_aw S (s_la S i) = some o)) (s_k S) 0 0) else bcI (ao (s_ha S) o))))) [.ref 0, .int (nI o), .int (bI b)] (wS S) (wS S) := by
  refine aq_enter pl_m_many (Nat.le_of_ble_eq_true rfl) ?_
  refine aq_gn (n := 1) (c1 := (1, [some (.ref 0), some (.int (nI o)), some (.int (bI b))], [.int (nI o)], wS S)) ok_m_many rfl ?_
  refine aq_callS (as := [.int (nI o)]) (st := []) ok_m_many rfl c0_m_checkObject (am_chkO ho) rfl (Nat.le_of_ble_eq_true rfl) ?_
  refine aq_gn (n := 1) (c1 := (5, [some (.ref 0), some (.int (nI o)), some (.int (bI b))], [.int (bI b)], wS S)) ok_m_many rfl ?_
  refine aq_if_eq ok_m_many rfl (fun h => ?_) (fun h => ?_)
  · have hb := (bI_0 _).mp h
    subst hb
    refine aq_gn (n := 2) (c1 := (18, [some (.ref 0), some (.int (nI o)), some (.int (bI false))], [.int (nI o), .ref 0], wS S)) ok_m_many rfl ?_
    refine aq_callV (as := [.int (nI o)]) (st := []) ok_m_many rfl c0_m_allHolders (am_allHolders ho) rfl (Nat.le_of_ble_eq_true rfl) rfl rfl rfl ?_
    refine aq_callS (as := [.long (ao (s_ha S) o)]) (st := []) ok_m_many rfl c0_j_bitCount (am_bitCount (ao (s_ha S) o)) rfl (Nat.le_of_ble_eq_true rfl) ?_
    exact aq_ei ok_m_many rfl rfl rfl rfl
  · have hb : b = true := by cases b with | true => rfl | false => exact absurd rfl h
    subst hb
    refine aq_gn (n := 2) (c1 := (10, [some (.ref 0), some (.int (nI o)), some (.int (bI true))], [.int (nI o), .ref 0], wS S)) ok_m_many rfl ?_
    refine aq_callV (as := [.int (nI o)]) (st := []) ok_m_many rfl c0_m_queueLength (am_queueLength ho hS.2.1 hS.1 hS.2.2.2.1) rfl (Nat.le_of_ble_eq_true rfl) rfl rfl rfl ?_
    refine aq_gn (n := 1) (c1 := (24, [some (.ref 0), some (.int (nI o)), some (.int (bI true))], [.int (nI (cnt (fun i => decide (s_aw S (s_la S i) = some o)) (s_k S) 0 0))], wS S)) ok_m_many rfl ?_
    exact aq_ei ok_m_many rfl rfl rfl rfl
set_option maxHeartbeats 4000000 in
theorem am_many_o {d : Nat} {S : LSt} {y z : Int32} (hx : y < 0 ∨ nI 85 ≤ y) : AM m_many (d + 1) (.inr 0) [.ref 0, .int y, .int z] (wS S) (wS S) := by
  refine aq_enter pl_m_many (Nat.le_of_ble_eq_true rfl) ?_
  refine aq_gn (n := 1) (c1 := (1, [some (.ref 0), some (.int y), some (.int z)], [.int y], wS S)) ok_m_many rfl ?_
  exact aq_callST (as := [.int y]) (st := []) ok_m_many rfl c0_m_checkObject (am_chkO_x hx) rfl (Nat.le_of_ble_eq_true rfl)
theorem nI_tb (x : Int32) : nI x.toBitVec.toNat = x := by
  apply Int32.toBitVec_inj.mp
  unfold nI
  simp
def tz (x : Int64) : Nat := (lnI x).toBitVec.toNat
def hcF (ha : Nat → Int64) (o : Nat) : Nat → Nat → Bool
  | 0, _ => false
  | f + 1, m => if ¬ ha (o * 5 + m) = 0 ∧ ¬ ow ha (tz (ha (o * 5 + m))) o (nI m) = 0 then true else hcF ha o f (m + 1)
def ayF (S : LSt) : Nat → Nat → Nat → Nat
  | 0, _, a => a
  | f + 1, o, a => ayF S f (o + 1) (if hcF (s_ha S) o 5 0 = true ∨ ¬ s_ftg S o = none then a + 1 else a)
set_option maxHeartbeats 4000000 in
theorem lp_clash {d : Nat} {st pr : Nat → Nat} {aw wa : Nat → Option Nat} {ha : Nat → Int64} {la : Nat → Nat} {wr : Nat → Int64} {n k c5 c6 c7 : Nat} {o : Nat} (ho : o < 85) : ∀ (f i : Nat), i + f = 5 → AW m_holdersClash (d + 3) (.inl (some (.int (bI (hcF ha o f i))))) (wL st pr aw wa ha la wr n k c5 c6 c7) (2, [some (.ref 0), some (.int (nI o)), some (.int (nI i)), none, none], [], wL st pr aw wa ha la wr n k c5 c6 c7) := by
  intro f
  induction f with
  | zero =>
    intro i hif 
    refine aq_gn (n := 2) (c1 := (4, [some (.ref 0), some (.int (nI o)), some (.int (nI i)), none, none], [.int (nI 5), .int (nI i)], wL st pr aw wa ha la wr n k c5 c6 c7)) ok_m_holdersClash rfl ?_
    refine aq_icmp_ge ok_m_holdersClash rfl (fun h => ?_) (fun h => ?_)
    · refine aq_gn (n := 1) (c1 := (48, [some (.ref 0), some (.int (nI o)), some (.int (nI i)), none, none], [.int (nI 0)], wL st pr aw wa ha la wr n k c5 c6 c7)) ok_m_holdersClash rfl ?_
      exact aq_ez ok_m_holdersClash rfl rfl rfl rfl
    · exact absurd (nI_le (show 5 ≤ i by omega) (by omega)) h
  | succ f ih =>
    intro i hif 
    refine aq_gn (n := 2) (c1 := (4, [some (.ref 0), some (.int (nI o)), some (.int (nI i)), none, none], [.int (nI 5), .int (nI i)], wL st pr aw wa ha la wr n k c5 c6 c7)) ok_m_holdersClash rfl ?_
    refine aq_icmp_ge ok_m_holdersClash rfl (fun h => ?_) (fun h => ?_)
    · exact absurd (q_le h (by omega) (by omega)) (by omega)
    · refine aq_go (n := 12) (c1 := (21, [some (.ref 0), some (.int (nI o)), some (.int (nI i)), some (.long (ha (((nI o) * (nI 5)) + (nI i)).toNatClampNeg)), none], [.int (lg_cmp (ha (((nI o) * (nI 5)) + (nI i)).toNatClampNeg) 0)], wL st pr aw wa ha la wr n k c5 c6 c7)) (P := vp_in (((nI o) * (nI 5)) + (nI i)) 425) ok_m_holdersClash rfl (in5 ho (by omega)) ?_
      rw [cl5 ho (show i < 5 by omega)]
      refine aq_if_eq ok_m_holdersClash rfl (fun h2 => ?_) (fun h2 => ?_)
      · have hb := (lg_cmp_0 _ _).mp h2
        refine aq_gn (n := 2) (c1 := (2, [some (.ref 0), some (.int (nI o)), some (.int ((nI i) + 1)), some (.long (ha (o * 5 + i))), none], [], wL st pr aw wa ha la wr n k c5 c6 c7)) ok_m_holdersClash rfl ?_
        rw [nI_1]
        have e : hcF ha o (f + 1) i = hcF ha o f (i + 1) := by rw [hcF, if_neg (by simp [hb])]
        rw [e]
        refine aq_drop 3 ?_
        exact ih (i + 1) (by omega)
      · have hb : ¬ ha (o * 5 + i) = 0 := fun q => h2 ((lg_cmp_0 _ _).mpr q)
        refine aq_gn (n := 2) (c1 := (26, [some (.ref 0), some (.int (nI o)), some (.int (nI i)), some (.long (ha (o * 5 + i))), none], [.long (ha (o * 5 + i)), .ref 0], wL st pr aw wa ha la wr n k c5 c6 c7)) ok_m_holdersClash rfl ?_
        refine aq_callS (as := [.long (ha (o * 5 + i))]) (st := [.ref 0]) ok_m_holdersClash rfl c0_j_numberOfTrailingZeros (am_longNtz (ha (o * 5 + i))) rfl (Nat.le_of_ble_eq_true rfl) ?_
        rw [← nI_tb (lnI (ha (o * 5 + i)))]
        show AW m_holdersClash _ _ _ (29, [some (.ref 0), some (.int (nI o)), some (.int (nI i)), some (.long (ha (o * 5 + i))), none], [.int (nI (tz (ha (o * 5 + i)))), .ref 0], wL st pr aw wa ha la wr n k c5 c6 c7)
        refine aq_gn (n := 2) (c1 := (31, [some (.ref 0), some (.int (nI o)), some (.int (nI i)), some (.long (ha (o * 5 + i))), none], [.int (nI i), .int (nI o), .int (nI (tz (ha (o * 5 + i)))), .ref 0], wL st pr aw wa ha la wr n k c5 c6 c7)) ok_m_holdersClash rfl ?_
        refine aq_callV (as := [.int (nI (tz (ha (o * 5 + i)))), .int (nI o), .int (nI i)]) (st := []) ok_m_holdersClash rfl c0_m_othersInTheWay (am_others (d := d + 1) ho) rfl (Nat.le_of_ble_eq_true rfl) rfl rfl rfl ?_
        refine aq_gn (n := 2) (c1 := (36, [some (.ref 0), some (.int (nI o)), some (.int (nI i)), some (.long (ha (o * 5 + i))), none], [.int (lg_cmp (ow ha (tz (ha (o * 5 + i))) o (nI i)) 0)], wL st pr aw wa ha la wr n k c5 c6 c7)) ok_m_holdersClash rfl ?_
        refine aq_if_eq ok_m_holdersClash rfl (fun h3 => ?_) (fun h3 => ?_)
        · have hc := (lg_cmp_0 _ _).mp h3
          refine aq_gn (n := 2) (c1 := (2, [some (.ref 0), some (.int (nI o)), some (.int ((nI i) + 1)), some (.long (ha (o * 5 + i))), none], [], wL st pr aw wa ha la wr n k c5 c6 c7)) ok_m_holdersClash rfl ?_
          rw [nI_1]
          have e : hcF ha o (f + 1) i = hcF ha o f (i + 1) := by rw [hcF, if_neg (by simp [hc])]
          rw [e]
          refine aq_drop 3 ?_
          exact ih (i + 1) (by omega)
        · have hc : ¬ ow ha (tz (ha (o * 5 + i))) o (nI i) = 0 := fun q => h3 ((lg_cmp_0 _ _).mpr q)
          refine aq_gn (n := 1) (c1 := (40, [some (.ref 0), some (.int (nI o)), some (.int (nI i)), some (.long (ha (o * 5 + i))), none], [.int (nI 1)], wL st pr aw wa ha la wr n k c5 c6 c7)) ok_m_holdersClash rfl ?_
          exact aq_ez ok_m_holdersClash rfl rfl (by rw [hcF, if_pos ⟨hb, hc⟩]; rfl) rfl
set_option maxHeartbeats 4000000 in
theorem am_clash {d : Nat} {st pr : Nat → Nat} {aw wa : Nat → Option Nat} {ha : Nat → Int64} {la : Nat → Nat} {wr : Nat → Int64} {n k c5 c6 c7 : Nat} {o : Nat} (ho : o < 85) : AM m_holdersClash (d + 3) (.inl (some (.int (bI (hcF ha o 5 0))))) [.ref 0, .int (nI o)] (wL st pr aw wa ha la wr n k c5 c6 c7) (wL st pr aw wa ha la wr n k c5 c6 c7) := by
  refine aq_enter pl_m_holdersClash (Nat.le_of_ble_eq_true rfl) ?_
  refine aq_gn (n := 2) (c1 := (2, [some (.ref 0), some (.int (nI o)), some (.int (nI 0)), none, none], [], wL st pr aw wa ha la wr n k c5 c6 c7)) ok_m_holdersClash rfl ?_
  exact lp_clash ho 5 0 rfl
set_option maxHeartbeats 4000000 in
theorem am_clashS {d : Nat} {S : LSt} {o : Nat} (ho : o < 85) : AM m_holdersClash (d + 3) (.inl (some (.int (bI (hcF (s_ha S) o 5 0))))) [.ref 0, .int (nI o)] (wS S) (wS S) := am_clash ho
set_option maxHeartbeats 4000000 in
theorem lp_astray {d : Nat} {S : LSt} (hS : WF S) : ∀ (f i : Nat), i + f = 85 → ∀ a : Nat,  AW m_astray (d + 4) (.inl (some (.int (nI (ayF S f i a))))) (wS S) (4, [some (.ref 0), some (.int (nI a)), some (.int (nI i))], [], wS S) := by
  intro f
  induction f with
  | zero =>
    intro i hif a
    refine aq_gn (n := 2) (c1 := (7, [some (.ref 0), some (.int (nI a)), some (.int (nI i))], [.int (nI 85), .int (nI i)], wS S)) ok_m_astray rfl ?_
    refine aq_icmp_ge ok_m_astray rfl (fun h => ?_) (fun h => ?_)
    · refine aq_gn (n := 1) (c1 := (37, [some (.ref 0), some (.int (nI a)), some (.int (nI i))], [.int (nI a)], wS S)) ok_m_astray rfl ?_
      exact aq_ei ok_m_astray rfl rfl rfl rfl
    · exact absurd (nI_le (show 85 ≤ i by omega) (by omega)) h
  | succ f ih =>
    intro i hif a
    refine aq_gn (n := 2) (c1 := (7, [some (.ref 0), some (.int (nI a)), some (.int (nI i))], [.int (nI 85), .int (nI i)], wS S)) ok_m_astray rfl ?_
    refine aq_icmp_ge ok_m_astray rfl (fun h => ?_) (fun h => ?_)
    · exact absurd (q_le h (by omega) (by omega)) (by omega)
    · refine aq_gn (n := 2) (c1 := (12, [some (.ref 0), some (.int (nI a)), some (.int (nI i))], [.int (nI i), .ref 0], wS S)) ok_m_astray rfl ?_
      refine aq_callV (as := [.int (nI i)]) (st := []) ok_m_astray rfl c0_m_holdersClash (am_clashS (show i < 85 by omega)) rfl (Nat.le_of_ble_eq_true rfl) rfl rfl rfl ?_
      refine aq_if_ne ok_m_astray rfl (fun h2 => ?_) (fun h2 => ?_)
      · have hc : hcF (s_ha S) i 5 0 = true := by cases hy : hcF (s_ha S) i 5 0 with | true => rfl | false => exact absurd ((bI_0 _).mpr hy) h2
        refine aq_gn (n := 3) (c1 := (4, [some (.ref 0), some (.int ((nI a) + 1)), some (.int ((nI i) + 1))], [], wS S)) ok_m_astray rfl ?_
        rw [nI_1, nI_1]
        have e : ayF S (f + 1) i a = ayF S f (i + 1) (a + 1) := by rw [ayF, if_pos (Or.inl hc)]
        rw [e]
        exact ih (i + 1) (by omega) (a + 1)
      · have hb := (bI_0 _).mp h2
        refine aq_gn (n := 2) (c1 := (20, [some (.ref 0), some (.int (nI a)), some (.int (nI i))], [.int (nI i), .ref 0], wS S)) ok_m_astray rfl ?_
        refine aq_callV (as := [.int (nI i)]) (st := []) ok_m_astray rfl c0_m_firstToGrant (am_firstS (d := d + 1) hS (show i < 85 by omega)) rfl (Nat.le_of_ble_eq_true rfl) rfl rfl rfl ?_
        refine aq_gn (n := 1) (c1 := (24, [some (.ref 0), some (.int (nI a)), some (.int (nI i))], [.int (-1), .int (oI (s_ftg S i))], wS S)) ok_m_astray rfl ?_
        refine aq_icmp_eq ok_m_astray rfl (fun h3 => ?_) (fun h3 => ?_)
        · have hx := oI_m1 h3 (fun x q => by obtain ⟨-, ⟨j, -, e⟩, -⟩ := ftg_in q; have := hS.1 j; omega)
          refine aq_gn (n := 2) (c1 := (4, [some (.ref 0), some (.int (nI a)), some (.int ((nI i) + 1))], [], wS S)) ok_m_astray rfl ?_
          rw [nI_1]
          have e : ayF S (f + 1) i a = ayF S f (i + 1) a := by rw [ayF, if_neg (fun q => q.elim (fun q => by rw [hb] at q; cases q) (fun q => q hx))]
          rw [e]
          exact ih (i + 1) (by omega) a
        · obtain ⟨y, hx⟩ := oI_nm1 h3
          refine aq_gn (n := 3) (c1 := (4, [some (.ref 0), some (.int ((nI a) + 1)), some (.int ((nI i) + 1))], [], wS S)) ok_m_astray rfl ?_
          rw [nI_1, nI_1]
          have e : ayF S (f + 1) i a = ayF S f (i + 1) (a + 1) := by rw [ayF, if_pos (Or.inr (by rw [hx]; exact fun q => by cases q))]
          rw [e]
          exact ih (i + 1) (by omega) (a + 1)
set_option maxHeartbeats 4000000 in
theorem am_astray {d : Nat} {S : LSt} (hS : WF S) : AM m_astray (d + 4) (.inl (some (.int (nI (ayF S 85 0 0))))) [.ref 0] (wS S) (wS S) := by
  refine aq_enter pl_m_astray (Nat.le_of_ble_eq_true rfl) ?_
  refine aq_gn (n := 4) (c1 := (4, [some (.ref 0), some (.int (nI 0)), some (.int (nI 0))], [], wS S)) ok_m_astray rfl ?_
  exact lp_astray hS 85 0 rfl 0
end
section
/-! THE REFERENCE'S WORLD -/
def mR (cd n : Int32) (pr st he wt wn cv qs qu : Nat → Int32) (v5 v6 v7 : Int32) : List va_E :=
  [.inr (1, [.int cd, .int n, .ref 1, .ref 2, .ref 3, .ref 4, .ref 5, .ref 6, .ref 7, .ref 8, .int v5, .int v6, .int v7]),
   .inl (0, 60, .inl pr), .inl (0, 60, .inl st), .inl (0, 5100, .inl he), .inl (0, 60, .inl wt), .inl (0, 60, .inl wn), .inl (2, 60, .inl cv), .inl (0, 85, .inl qs), .inl (0, 5100, .inl qu)]
def mL (cd n : Nat) (pr st : Nat → Nat) (he wt : Nat → Option Nat) (wn : Nat → Nat) (cv : Nat → Bool) (qs qu : Nat → Nat) (v5 v6 v7 : Nat) : List va_E :=
  mR (nI cd) (nI n) (fun i => nI (pr i)) (fun i => nI (st i)) (fun i => oI (he i)) (fun i => oI (wt i)) (fun i => nI (wn i)) (fun i => bI (cv i)) (fun i => nI (qs i)) (fun i => nI (qu i)) (nI v5) (nI v6) (nI v7)
theorem upd_b (f : Nat → Bool) (t : Nat) (b : Bool) : upd (fun i => bI (f i)) t (vp_nar .boolean (bI b)) = fun i => bI (va_up f t b i) := by
  have e : vp_nar .boolean (bI b) = bI b := by cases b <;> rfl
  rw [e]
  funext i
  unfold upd va_up
  split <;> rfl
theorem ix6 (o t : Nat) : nI 60 * nI o + nI t = nI (60 * o + t) := by rw [pk_mul, nI_add]
theorem ix6z (o : Nat) : nI 60 * nI o = nI (60 * o) := by rw [pk_mul]
theorem in6 {o t : Nat} (ho : o < 85) (ht : t < 60) : vp_in (nI 60 * nI o + nI t) 5100 := by
  rw [ix6]; exact vp_in_nI (by omega) (by omega)
theorem cl6 {o t : Nat} (ho : o < 85) (ht : t < 60) : (nI 60 * nI o + nI t).toNatClampNeg = 60 * o + t := by
  rw [ix6]; exact nI_clamp (by omega)
theorem in6z {o : Nat} (ho : o < 85) : vp_in (nI 60 * nI o) 5100 := by
  rw [ix6z]; exact vp_in_nI (by omega) (by omega)
theorem cl6z {o : Nat} (ho : o < 85) : (nI 60 * nI o).toNatClampNeg = 60 * o := by
  rw [ix6z]; exact nI_clamp (by omega)
theorem inN {k N : Nat} (h : k < N) (hN : N < 2 ^ 31) : vp_in (nI k) N := vp_in_nI h hN
theorem clN {k : Nat} (h : k < 6000) : (nI k).toNatClampNeg = k := nI_clamp (by omega)
/-! modes, as the reference has them -/
def tg2 (a b : Int32) : Bool := if a = 0 then decide (b < 4) else decide (a = b) && (decide (a = 1) || decide (a = 2))
def tgI (x y : Int32) : Bool := if x < y then tg2 x y else tg2 y x
def rwI (x : Int32) : Bool := decide (x = 1) || decide (3 ≤ x)
def rlI (x y : Int32) : Int32 := if (x = 1 ∧ y = 2) ∨ (x = 2 ∧ y = 1) then 3 else if x ≤ y then y else x
def isT (n : Nat) (x : Int32) : Bool := !decide (x < 0) && !decide (nI n ≤ x)
def mdI (he : Nat → Option Nat) (t o : Nat) : Int32 := oI (he (60 * o + t)) - nI 1
def ftF (he : Nat → Option Nat) (t o : Nat) (x : Int32) : Nat → Nat → Bool → Bool
  | 0, _, b => b
  | f + 1, u, b => ftF he t o x f (u + 1) (b && (decide (u = t) || (decide (mdI he u o < 0) || tgI (mdI he u o) x)))
def eqF (cv : Nat → Bool) (t o : Nat) : Nat → (Nat → Nat) → (Nat → Nat)
  | 0, q => va_up q (60 * o) t
  | a + 1, q => if cv t = true ∧ cv (q (60 * o + a)) = false then eqF cv t o a (va_up q (60 * o + (a + 1)) (q (60 * o + a))) else va_up q (60 * o + (a + 1)) t
end
section
/-! THE REFERENCE: small methods -/
set_option maxHeartbeats 4000000 in
theorem rm_thrown {d cd n : Nat} {pr st : Nat → Nat} {he wt : Nat → Option Nat} {wn : Nat → Nat} {cv : Nat → Bool} {qs qu : Nat → Nat} {v5 v6 v7 : Nat}  : AM r_thrown (d) (.inl (some (.int (nI cd)))) [.ref 0] (mL cd n pr st he wt wn cv qs qu v5 v6 v7) (mL cd n pr st he wt wn cv qs qu v5 v6 v7) := by
  refine aq_enter pl_r_thrown (Nat.le_of_ble_eq_true rfl) ?_
  refine aq_gn (n := 2) (c1 := (4, [some (.ref 0)], [.int (nI cd)], mL cd n pr st he wt wn cv qs qu v5 v6 v7)) ok_r_thrown rfl ?_
  exact aq_ei ok_r_thrown rfl rfl rfl rfl
set_option maxHeartbeats 4000000 in
theorem rm_together {d : Nat} {w : List va_E} (x y : Int32) : AM r_together d (.inl (some (.int (bI (tgI x y))))) [.int x, .int y] w w := by
  refine aq_enter pl_r_together (Nat.le_of_ble_eq_true rfl) ?_
  refine aq_gn (n := 2) (c1 := (2, [some (.int x), some (.int y), none, none], [.int y, .int x], w)) ok_r_together rfl ?_
  refine aq_icmp_ge ok_r_together rfl (fun h0 => ?_) (fun h0 => ?_)
  · refine aq_gn (n := 4) (c1 := (13, [some (.int x), some (.int y), some (.int y), none], [.int y, .int x], w)) ok_r_together rfl ?_
    refine aq_icmp_ge ok_r_together rfl (fun h1 => ?_) (fun h1 => ?_)
    · refine aq_gn (n := 3) (c1 := (23, [some (.int x), some (.int y), some (.int y), some (.int x)], [.int y], w)) ok_r_together rfl ?_
      refine aq_if_ne ok_r_together rfl (fun h2 => ?_) (fun h2 => ?_)
      · refine aq_gn (n := 2) (c1 := (41, [some (.int x), some (.int y), some (.int y), some (.int x)], [.int x, .int y], w)) ok_r_together rfl ?_
        refine aq_icmp_ne ok_r_together rfl (fun h3 => ?_) (fun h3 => ?_)
        · refine aq_gn (n := 1) (c1 := (59, [some (.int x), some (.int y), some (.int y), some (.int x)], [.int 0], w)) ok_r_together rfl ?_
          exact aq_ez ok_r_together rfl rfl (by first | exact absurd h0 h1 | exact absurd h1 h0 | (rw [tgI, if_neg (Int32.not_lt.mpr h0)]; clear h0 h1; simp_all [tg2, bI]; done) | (rw [tgI, if_pos (Int32.not_le.mp h0)]; clear h0 h1; simp_all [tg2, bI]; done)) rfl
        · refine aq_gn (n := 2) (c1 := (46, [some (.int x), some (.int y), some (.int y), some (.int x)], [.int 1, .int y], w)) ok_r_together rfl ?_
          refine aq_icmp_eq ok_r_together rfl (fun h4 => ?_) (fun h4 => ?_)
          · refine aq_gn (n := 2) (c1 := (59, [some (.int x), some (.int y), some (.int y), some (.int x)], [.int 1], w)) ok_r_together rfl ?_
            exact aq_ez ok_r_together rfl rfl (by first | exact absurd h0 h1 | exact absurd h1 h0 | (rw [tgI, if_neg (Int32.not_lt.mpr h0)]; clear h0 h1; simp_all [tg2, bI]; done) | (rw [tgI, if_pos (Int32.not_le.mp h0)]; clear h0 h1; simp_all [tg2, bI]; done)) rfl
          · refine aq_gn (n := 2) (c1 := (51, [some (.int x), some (.int y), some (.int y), some (.int x)], [.int 2, .int y], w)) ok_r_together rfl ?_
            refine aq_icmp_ne ok_r_together rfl (fun h5 => ?_) (fun h5 => ?_)
            · refine aq_gn (n := 1) (c1 := (59, [some (.int x), some (.int y), some (.int y), some (.int x)], [.int 0], w)) ok_r_together rfl ?_
              exact aq_ez ok_r_together rfl rfl (by first | exact absurd h0 h1 | exact absurd h1 h0 | (rw [tgI, if_neg (Int32.not_lt.mpr h0)]; clear h0 h1; simp_all [tg2, bI]; done) | (rw [tgI, if_pos (Int32.not_le.mp h0)]; clear h0 h1; simp_all [tg2, bI]; done)) rfl
            · refine aq_gn (n := 2) (c1 := (59, [some (.int x), some (.int y), some (.int y), some (.int x)], [.int 1], w)) ok_r_together rfl ?_
              exact aq_ez ok_r_together rfl rfl (by first | exact absurd h0 h1 | exact absurd h1 h0 | (rw [tgI, if_neg (Int32.not_lt.mpr h0)]; clear h0 h1; simp_all [tg2, bI]; done) | (rw [tgI, if_pos (Int32.not_le.mp h0)]; clear h0 h1; simp_all [tg2, bI]; done)) rfl
      · refine aq_gn (n := 2) (c1 := (28, [some (.int x), some (.int y), some (.int y), some (.int x)], [.int 4, .int x], w)) ok_r_together rfl ?_
        refine aq_icmp_ge ok_r_together rfl (fun h3 => ?_) (fun h3 => ?_)
        · refine aq_gn (n := 2) (c1 := (59, [some (.int x), some (.int y), some (.int y), some (.int x)], [.int 0], w)) ok_r_together rfl ?_
          exact aq_ez ok_r_together rfl rfl (by first | exact absurd h0 h1 | exact absurd h1 h0 | (rw [tgI, if_neg (Int32.not_lt.mpr h0)]; clear h0 h1; simp_all [tg2, bI]; done) | (rw [tgI, if_pos (Int32.not_le.mp h0)]; clear h0 h1; simp_all [tg2, bI]; done)) rfl
        · refine aq_gn (n := 2) (c1 := (59, [some (.int x), some (.int y), some (.int y), some (.int x)], [.int 1], w)) ok_r_together rfl ?_
          exact aq_ez ok_r_together rfl rfl (by first | exact absurd h0 h1 | exact absurd h1 h0 | (rw [tgI, if_neg (Int32.not_lt.mpr h0)]; clear h0 h1; simp_all [tg2, bI]; done) | (rw [tgI, if_pos (Int32.not_le.mp h0)]; clear h0 h1; simp_all [tg2, bI]; done)) rfl
    · refine aq_gn (n := 4) (c1 := (23, [some (.int x), some (.int y), some (.int y), some (.int y)], [.int y], w)) ok_r_together rfl ?_
      refine aq_if_ne ok_r_together rfl (fun h2 => ?_) (fun h2 => ?_)
      · refine aq_gn (n := 2) (c1 := (41, [some (.int x), some (.int y), some (.int y), some (.int y)], [.int y, .int y], w)) ok_r_together rfl ?_
        refine aq_icmp_ne ok_r_together rfl (fun h3 => ?_) (fun h3 => ?_)
        · refine aq_gn (n := 1) (c1 := (59, [some (.int x), some (.int y), some (.int y), some (.int y)], [.int 0], w)) ok_r_together rfl ?_
          exact aq_ez ok_r_together rfl rfl (by first | exact absurd h0 h1 | exact absurd h1 h0 | (rw [tgI, if_neg (Int32.not_lt.mpr h0)]; clear h0 h1; simp_all [tg2, bI]; done) | (rw [tgI, if_pos (Int32.not_le.mp h0)]; clear h0 h1; simp_all [tg2, bI]; done)) rfl
        · refine aq_gn (n := 2) (c1 := (46, [some (.int x), some (.int y), some (.int y), some (.int y)], [.int 1, .int y], w)) ok_r_together rfl ?_
          refine aq_icmp_eq ok_r_together rfl (fun h4 => ?_) (fun h4 => ?_)
          · refine aq_gn (n := 2) (c1 := (59, [some (.int x), some (.int y), some (.int y), some (.int y)], [.int 1], w)) ok_r_together rfl ?_
            exact aq_ez ok_r_together rfl rfl (by first | exact absurd h0 h1 | exact absurd h1 h0 | (rw [tgI, if_neg (Int32.not_lt.mpr h0)]; clear h0 h1; simp_all [tg2, bI]; done) | (rw [tgI, if_pos (Int32.not_le.mp h0)]; clear h0 h1; simp_all [tg2, bI]; done)) rfl
          · refine aq_gn (n := 2) (c1 := (51, [some (.int x), some (.int y), some (.int y), some (.int y)], [.int 2, .int y], w)) ok_r_together rfl ?_
            refine aq_icmp_ne ok_r_together rfl (fun h5 => ?_) (fun h5 => ?_)
            · refine aq_gn (n := 1) (c1 := (59, [some (.int x), some (.int y), some (.int y), some (.int y)], [.int 0], w)) ok_r_together rfl ?_
              exact aq_ez ok_r_together rfl rfl (by first | exact absurd h0 h1 | exact absurd h1 h0 | (rw [tgI, if_neg (Int32.not_lt.mpr h0)]; clear h0 h1; simp_all [tg2, bI]; done) | (rw [tgI, if_pos (Int32.not_le.mp h0)]; clear h0 h1; simp_all [tg2, bI]; done)) rfl
            · refine aq_gn (n := 2) (c1 := (59, [some (.int x), some (.int y), some (.int y), some (.int y)], [.int 1], w)) ok_r_together rfl ?_
              exact aq_ez ok_r_together rfl rfl (by first | exact absurd h0 h1 | exact absurd h1 h0 | (rw [tgI, if_neg (Int32.not_lt.mpr h0)]; clear h0 h1; simp_all [tg2, bI]; done) | (rw [tgI, if_pos (Int32.not_le.mp h0)]; clear h0 h1; simp_all [tg2, bI]; done)) rfl
      · refine aq_gn (n := 2) (c1 := (28, [some (.int x), some (.int y), some (.int y), some (.int y)], [.int 4, .int y], w)) ok_r_together rfl ?_
        refine aq_icmp_ge ok_r_together rfl (fun h3 => ?_) (fun h3 => ?_)
        · refine aq_gn (n := 2) (c1 := (59, [some (.int x), some (.int y), some (.int y), some (.int y)], [.int 0], w)) ok_r_together rfl ?_
          exact aq_ez ok_r_together rfl rfl (by first | exact absurd h0 h1 | exact absurd h1 h0 | (rw [tgI, if_neg (Int32.not_lt.mpr h0)]; clear h0 h1; simp_all [tg2, bI]; done) | (rw [tgI, if_pos (Int32.not_le.mp h0)]; clear h0 h1; simp_all [tg2, bI]; done)) rfl
        · refine aq_gn (n := 2) (c1 := (59, [some (.int x), some (.int y), some (.int y), some (.int y)], [.int 1], w)) ok_r_together rfl ?_
          exact aq_ez ok_r_together rfl rfl (by first | exact absurd h0 h1 | exact absurd h1 h0 | (rw [tgI, if_neg (Int32.not_lt.mpr h0)]; clear h0 h1; simp_all [tg2, bI]; done) | (rw [tgI, if_pos (Int32.not_le.mp h0)]; clear h0 h1; simp_all [tg2, bI]; done)) rfl
  · refine aq_gn (n := 5) (c1 := (13, [some (.int x), some (.int y), some (.int x), none], [.int y, .int x], w)) ok_r_together rfl ?_
    refine aq_icmp_ge ok_r_together rfl (fun h1 => ?_) (fun h1 => ?_)
    · refine aq_gn (n := 3) (c1 := (23, [some (.int x), some (.int y), some (.int x), some (.int x)], [.int x], w)) ok_r_together rfl ?_
      refine aq_if_ne ok_r_together rfl (fun h2 => ?_) (fun h2 => ?_)
      · refine aq_gn (n := 2) (c1 := (41, [some (.int x), some (.int y), some (.int x), some (.int x)], [.int x, .int x], w)) ok_r_together rfl ?_
        refine aq_icmp_ne ok_r_together rfl (fun h3 => ?_) (fun h3 => ?_)
        · refine aq_gn (n := 1) (c1 := (59, [some (.int x), some (.int y), some (.int x), some (.int x)], [.int 0], w)) ok_r_together rfl ?_
          exact aq_ez ok_r_together rfl rfl (by first | exact absurd h0 h1 | exact absurd h1 h0 | (rw [tgI, if_neg (Int32.not_lt.mpr h0)]; clear h0 h1; simp_all [tg2, bI]; done) | (rw [tgI, if_pos (Int32.not_le.mp h0)]; clear h0 h1; simp_all [tg2, bI]; done)) rfl
        · refine aq_gn (n := 2) (c1 := (46, [some (.int x), some (.int y), some (.int x), some (.int x)], [.int 1, .int x], w)) ok_r_together rfl ?_
          refine aq_icmp_eq ok_r_together rfl (fun h4 => ?_) (fun h4 => ?_)
          · refine aq_gn (n := 2) (c1 := (59, [some (.int x), some (.int y), some (.int x), some (.int x)], [.int 1], w)) ok_r_together rfl ?_
            exact aq_ez ok_r_together rfl rfl (by first | exact absurd h0 h1 | exact absurd h1 h0 | (rw [tgI, if_neg (Int32.not_lt.mpr h0)]; clear h0 h1; simp_all [tg2, bI]; done) | (rw [tgI, if_pos (Int32.not_le.mp h0)]; clear h0 h1; simp_all [tg2, bI]; done)) rfl
          · refine aq_gn (n := 2) (c1 := (51, [some (.int x), some (.int y), some (.int x), some (.int x)], [.int 2, .int x], w)) ok_r_together rfl ?_
            refine aq_icmp_ne ok_r_together rfl (fun h5 => ?_) (fun h5 => ?_)
            · refine aq_gn (n := 1) (c1 := (59, [some (.int x), some (.int y), some (.int x), some (.int x)], [.int 0], w)) ok_r_together rfl ?_
              exact aq_ez ok_r_together rfl rfl (by first | exact absurd h0 h1 | exact absurd h1 h0 | (rw [tgI, if_neg (Int32.not_lt.mpr h0)]; clear h0 h1; simp_all [tg2, bI]; done) | (rw [tgI, if_pos (Int32.not_le.mp h0)]; clear h0 h1; simp_all [tg2, bI]; done)) rfl
            · refine aq_gn (n := 2) (c1 := (59, [some (.int x), some (.int y), some (.int x), some (.int x)], [.int 1], w)) ok_r_together rfl ?_
              exact aq_ez ok_r_together rfl rfl (by first | exact absurd h0 h1 | exact absurd h1 h0 | (rw [tgI, if_neg (Int32.not_lt.mpr h0)]; clear h0 h1; simp_all [tg2, bI]; done) | (rw [tgI, if_pos (Int32.not_le.mp h0)]; clear h0 h1; simp_all [tg2, bI]; done)) rfl
      · refine aq_gn (n := 2) (c1 := (28, [some (.int x), some (.int y), some (.int x), some (.int x)], [.int 4, .int x], w)) ok_r_together rfl ?_
        refine aq_icmp_ge ok_r_together rfl (fun h3 => ?_) (fun h3 => ?_)
        · refine aq_gn (n := 2) (c1 := (59, [some (.int x), some (.int y), some (.int x), some (.int x)], [.int 0], w)) ok_r_together rfl ?_
          exact aq_ez ok_r_together rfl rfl (by first | exact absurd h0 h1 | exact absurd h1 h0 | (rw [tgI, if_neg (Int32.not_lt.mpr h0)]; clear h0 h1; simp_all [tg2, bI]; done) | (rw [tgI, if_pos (Int32.not_le.mp h0)]; clear h0 h1; simp_all [tg2, bI]; done)) rfl
        · refine aq_gn (n := 2) (c1 := (59, [some (.int x), some (.int y), some (.int x), some (.int x)], [.int 1], w)) ok_r_together rfl ?_
          exact aq_ez ok_r_together rfl rfl (by first | exact absurd h0 h1 | exact absurd h1 h0 | (rw [tgI, if_neg (Int32.not_lt.mpr h0)]; clear h0 h1; simp_all [tg2, bI]; done) | (rw [tgI, if_pos (Int32.not_le.mp h0)]; clear h0 h1; simp_all [tg2, bI]; done)) rfl
    · refine aq_gn (n := 4) (c1 := (23, [some (.int x), some (.int y), some (.int x), some (.int y)], [.int x], w)) ok_r_together rfl ?_
      refine aq_if_ne ok_r_together rfl (fun h2 => ?_) (fun h2 => ?_)
      · refine aq_gn (n := 2) (c1 := (41, [some (.int x), some (.int y), some (.int x), some (.int y)], [.int y, .int x], w)) ok_r_together rfl ?_
        refine aq_icmp_ne ok_r_together rfl (fun h3 => ?_) (fun h3 => ?_)
        · refine aq_gn (n := 1) (c1 := (59, [some (.int x), some (.int y), some (.int x), some (.int y)], [.int 0], w)) ok_r_together rfl ?_
          exact aq_ez ok_r_together rfl rfl (by first | exact absurd h0 h1 | exact absurd h1 h0 | (rw [tgI, if_neg (Int32.not_lt.mpr h0)]; clear h0 h1; simp_all [tg2, bI]; done) | (rw [tgI, if_pos (Int32.not_le.mp h0)]; clear h0 h1; simp_all [tg2, bI]; done)) rfl
        · refine aq_gn (n := 2) (c1 := (46, [some (.int x), some (.int y), some (.int x), some (.int y)], [.int 1, .int x], w)) ok_r_together rfl ?_
          refine aq_icmp_eq ok_r_together rfl (fun h4 => ?_) (fun h4 => ?_)
          · refine aq_gn (n := 2) (c1 := (59, [some (.int x), some (.int y), some (.int x), some (.int y)], [.int 1], w)) ok_r_together rfl ?_
            exact aq_ez ok_r_together rfl rfl (by first | exact absurd h0 h1 | exact absurd h1 h0 | (rw [tgI, if_neg (Int32.not_lt.mpr h0)]; clear h0 h1; simp_all [tg2, bI]; done) | (rw [tgI, if_pos (Int32.not_le.mp h0)]; clear h0 h1; simp_all [tg2, bI]; done)) rfl
          · refine aq_gn (n := 2) (c1 := (51, [some (.int x), some (.int y), some (.int x), some (.int y)], [.int 2, .int x], w)) ok_r_together rfl ?_
            refine aq_icmp_ne ok_r_together rfl (fun h5 => ?_) (fun h5 => ?_)
            · refine aq_gn (n := 1) (c1 := (59, [some (.int x), some (.int y), some (.int x), some (.int y)], [.int 0], w)) ok_r_together rfl ?_
              exact aq_ez ok_r_together rfl rfl (by first | exact absurd h0 h1 | exact absurd h1 h0 | (rw [tgI, if_neg (Int32.not_lt.mpr h0)]; clear h0 h1; simp_all [tg2, bI]; done) | (rw [tgI, if_pos (Int32.not_le.mp h0)]; clear h0 h1; simp_all [tg2, bI]; done)) rfl
            · refine aq_gn (n := 2) (c1 := (59, [some (.int x), some (.int y), some (.int x), some (.int y)], [.int 1], w)) ok_r_together rfl ?_
              exact aq_ez ok_r_together rfl rfl (by first | exact absurd h0 h1 | exact absurd h1 h0 | (rw [tgI, if_neg (Int32.not_lt.mpr h0)]; clear h0 h1; simp_all [tg2, bI]; done) | (rw [tgI, if_pos (Int32.not_le.mp h0)]; clear h0 h1; simp_all [tg2, bI]; done)) rfl
      · refine aq_gn (n := 2) (c1 := (28, [some (.int x), some (.int y), some (.int x), some (.int y)], [.int 4, .int y], w)) ok_r_together rfl ?_
        refine aq_icmp_ge ok_r_together rfl (fun h3 => ?_) (fun h3 => ?_)
        · refine aq_gn (n := 2) (c1 := (59, [some (.int x), some (.int y), some (.int x), some (.int y)], [.int 0], w)) ok_r_together rfl ?_
          exact aq_ez ok_r_together rfl rfl (by first | exact absurd h0 h1 | exact absurd h1 h0 | (rw [tgI, if_neg (Int32.not_lt.mpr h0)]; clear h0 h1; simp_all [tg2, bI]; done) | (rw [tgI, if_pos (Int32.not_le.mp h0)]; clear h0 h1; simp_all [tg2, bI]; done)) rfl
        · refine aq_gn (n := 2) (c1 := (59, [some (.int x), some (.int y), some (.int x), some (.int y)], [.int 1], w)) ok_r_together rfl ?_
          exact aq_ez ok_r_together rfl rfl (by first | exact absurd h0 h1 | exact absurd h1 h0 | (rw [tgI, if_neg (Int32.not_lt.mpr h0)]; clear h0 h1; simp_all [tg2, bI]; done) | (rw [tgI, if_pos (Int32.not_le.mp h0)]; clear h0 h1; simp_all [tg2, bI]; done)) rfl
set_option maxHeartbeats 4000000 in
theorem rm_isWriting {d : Nat} {w : List va_E} (x : Int32) : AM r_isWriting d (.inl (some (.int (bI (rwI x))))) [.int x] w w := by
  refine aq_enter pl_r_isWriting (Nat.le_of_ble_eq_true rfl) ?_
  refine aq_gn (n := 2) (c1 := (2, [some (.int x)], [.int 1, .int x], w)) ok_r_isWriting rfl ?_
  refine aq_icmp_eq ok_r_isWriting rfl (fun h0 => ?_) (fun h0 => ?_)
  · refine aq_gn (n := 2) (c1 := (15, [some (.int x)], [.int 1], w)) ok_r_isWriting rfl ?_
    exact aq_ez ok_r_isWriting rfl rfl (by unfold rwI; simp_all [bI]) rfl
  · refine aq_gn (n := 2) (c1 := (7, [some (.int x)], [.int 3, .int x], w)) ok_r_isWriting rfl ?_
    refine aq_icmp_lt ok_r_isWriting rfl (fun h1 => ?_) (fun h1 => ?_)
    · refine aq_gn (n := 1) (c1 := (15, [some (.int x)], [.int 0], w)) ok_r_isWriting rfl ?_
      exact aq_ez ok_r_isWriting rfl rfl (by unfold rwI; simp_all [bI]) rfl
    · refine aq_gn (n := 2) (c1 := (15, [some (.int x)], [.int 1], w)) ok_r_isWriting rfl ?_
      exact aq_ez ok_r_isWriting rfl rfl (by unfold rwI; simp_all [bI]) rfl
set_option maxHeartbeats 4000000 in
theorem rm_leastAbove {d : Nat} {w : List va_E} (x y : Int32) : AM r_leastAbove d (.inl (some (.int (rlI x y)))) [.int x, .int y] w w := by
  refine aq_enter pl_r_leastAbove (Nat.le_of_ble_eq_true rfl) ?_
  refine aq_gn (n := 2) (c1 := (2, [some (.int x), some (.int y), none], [.int 1, .int x], w)) ok_r_leastAbove rfl ?_
  refine aq_icmp_ne ok_r_leastAbove rfl (fun h0 => ?_) (fun h0 => ?_)
  · refine aq_gn (n := 2) (c1 := (12, [some (.int x), some (.int y), none], [.int 2, .int x], w)) ok_r_leastAbove rfl ?_
    refine aq_icmp_ne ok_r_leastAbove rfl (fun h1 => ?_) (fun h1 => ?_)
    · refine aq_gn (n := 3) (c1 := (27, [some (.int x), some (.int y), some (.int 0)], [.int 0], w)) ok_r_leastAbove rfl ?_
      refine aq_if_eq ok_r_leastAbove rfl (fun h2 => ?_) (fun h2 => ?_)
      · refine aq_gn (n := 2) (c1 := (36, [some (.int x), some (.int y), some (.int 0)], [.int y, .int x], w)) ok_r_leastAbove rfl ?_
        refine aq_icmp_le ok_r_leastAbove rfl (fun h3 => ?_) (fun h3 => ?_)
        · refine aq_gn (n := 1) (c1 := (44, [some (.int x), some (.int y), some (.int 0)], [.int y], w)) ok_r_leastAbove rfl ?_
          exact aq_ei ok_r_leastAbove rfl rfl (by unfold rlI; first | (simp_all; done) | (simp_all; intro hq; exact absurd hq (Int32.not_le.mpr (by assumption)))) rfl
        · refine aq_gn (n := 2) (c1 := (44, [some (.int x), some (.int y), some (.int 0)], [.int x], w)) ok_r_leastAbove rfl ?_
          exact aq_ei ok_r_leastAbove rfl rfl (by unfold rlI; first | (simp_all; done) | (simp_all; intro hq; exact absurd hq (Int32.not_le.mpr (by assumption)))) rfl
      · refine aq_gn (n := 2) (c1 := (44, [some (.int x), some (.int y), some (.int 0)], [.int 3], w)) ok_r_leastAbove rfl ?_
        exact aq_ei ok_r_leastAbove rfl rfl (by unfold rlI; first | (simp_all; done) | (simp_all; intro hq; exact absurd hq (Int32.not_le.mpr (by assumption)))) rfl
    · refine aq_gn (n := 2) (c1 := (17, [some (.int x), some (.int y), none], [.int 1, .int y], w)) ok_r_leastAbove rfl ?_
      refine aq_icmp_ne ok_r_leastAbove rfl (fun h2 => ?_) (fun h2 => ?_)
      · refine aq_gn (n := 3) (c1 := (27, [some (.int x), some (.int y), some (.int 0)], [.int 0], w)) ok_r_leastAbove rfl ?_
        refine aq_if_eq ok_r_leastAbove rfl (fun h3 => ?_) (fun h3 => ?_)
        · refine aq_gn (n := 2) (c1 := (36, [some (.int x), some (.int y), some (.int 0)], [.int y, .int x], w)) ok_r_leastAbove rfl ?_
          refine aq_icmp_le ok_r_leastAbove rfl (fun h4 => ?_) (fun h4 => ?_)
          · refine aq_gn (n := 1) (c1 := (44, [some (.int x), some (.int y), some (.int 0)], [.int y], w)) ok_r_leastAbove rfl ?_
            exact aq_ei ok_r_leastAbove rfl rfl (by unfold rlI; first | (simp_all; done) | (simp_all; intro hq; exact absurd hq (Int32.not_le.mpr (by assumption)))) rfl
          · refine aq_gn (n := 2) (c1 := (44, [some (.int x), some (.int y), some (.int 0)], [.int x], w)) ok_r_leastAbove rfl ?_
            exact aq_ei ok_r_leastAbove rfl rfl (by unfold rlI; first | (simp_all; done) | (simp_all; intro hq; exact absurd hq (Int32.not_le.mpr (by assumption)))) rfl
        · refine aq_gn (n := 2) (c1 := (44, [some (.int x), some (.int y), some (.int 0)], [.int 3], w)) ok_r_leastAbove rfl ?_
          exact aq_ei ok_r_leastAbove rfl rfl (by unfold rlI; first | (simp_all; done) | (simp_all; intro hq; exact absurd hq (Int32.not_le.mpr (by assumption)))) rfl
      · refine aq_gn (n := 4) (c1 := (27, [some (.int x), some (.int y), some (.int 1)], [.int 1], w)) ok_r_leastAbove rfl ?_
        refine aq_if_eq ok_r_leastAbove rfl (fun h3 => ?_) (fun h3 => ?_)
        · refine aq_gn (n := 2) (c1 := (36, [some (.int x), some (.int y), some (.int 1)], [.int y, .int x], w)) ok_r_leastAbove rfl ?_
          refine aq_icmp_le ok_r_leastAbove rfl (fun h4 => ?_) (fun h4 => ?_)
          · refine aq_gn (n := 1) (c1 := (44, [some (.int x), some (.int y), some (.int 1)], [.int y], w)) ok_r_leastAbove rfl ?_
            exact aq_ei ok_r_leastAbove rfl rfl (by unfold rlI; first | (simp_all; done) | (simp_all; intro hq; exact absurd hq (Int32.not_le.mpr (by assumption)))) rfl
          · refine aq_gn (n := 2) (c1 := (44, [some (.int x), some (.int y), some (.int 1)], [.int x], w)) ok_r_leastAbove rfl ?_
            exact aq_ei ok_r_leastAbove rfl rfl (by unfold rlI; first | (simp_all; done) | (simp_all; intro hq; exact absurd hq (Int32.not_le.mpr (by assumption)))) rfl
        · refine aq_gn (n := 2) (c1 := (44, [some (.int x), some (.int y), some (.int 1)], [.int 3], w)) ok_r_leastAbove rfl ?_
          exact aq_ei ok_r_leastAbove rfl rfl (by unfold rlI; first | (simp_all; done) | (simp_all; intro hq; exact absurd hq (Int32.not_le.mpr (by assumption)))) rfl
  · refine aq_gn (n := 2) (c1 := (7, [some (.int x), some (.int y), none], [.int 2, .int y], w)) ok_r_leastAbove rfl ?_
    refine aq_icmp_eq ok_r_leastAbove rfl (fun h1 => ?_) (fun h1 => ?_)
    · refine aq_gn (n := 4) (c1 := (27, [some (.int x), some (.int y), some (.int 1)], [.int 1], w)) ok_r_leastAbove rfl ?_
      refine aq_if_eq ok_r_leastAbove rfl (fun h2 => ?_) (fun h2 => ?_)
      · refine aq_gn (n := 2) (c1 := (36, [some (.int x), some (.int y), some (.int 1)], [.int y, .int x], w)) ok_r_leastAbove rfl ?_
        refine aq_icmp_le ok_r_leastAbove rfl (fun h3 => ?_) (fun h3 => ?_)
        · refine aq_gn (n := 1) (c1 := (44, [some (.int x), some (.int y), some (.int 1)], [.int y], w)) ok_r_leastAbove rfl ?_
          exact aq_ei ok_r_leastAbove rfl rfl (by unfold rlI; first | (simp_all; done) | (simp_all; intro hq; exact absurd hq (Int32.not_le.mpr (by assumption)))) rfl
        · refine aq_gn (n := 2) (c1 := (44, [some (.int x), some (.int y), some (.int 1)], [.int x], w)) ok_r_leastAbove rfl ?_
          exact aq_ei ok_r_leastAbove rfl rfl (by unfold rlI; first | (simp_all; done) | (simp_all; intro hq; exact absurd hq (Int32.not_le.mpr (by assumption)))) rfl
      · refine aq_gn (n := 2) (c1 := (44, [some (.int x), some (.int y), some (.int 1)], [.int 3], w)) ok_r_leastAbove rfl ?_
        exact aq_ei ok_r_leastAbove rfl rfl (by unfold rlI; first | (simp_all; done) | (simp_all; intro hq; exact absurd hq (Int32.not_le.mpr (by assumption)))) rfl
    · refine aq_gn (n := 2) (c1 := (12, [some (.int x), some (.int y), none], [.int 2, .int x], w)) ok_r_leastAbove rfl ?_
      refine aq_icmp_ne ok_r_leastAbove rfl (fun h2 => ?_) (fun h2 => ?_)
      · refine aq_gn (n := 3) (c1 := (27, [some (.int x), some (.int y), some (.int 0)], [.int 0], w)) ok_r_leastAbove rfl ?_
        refine aq_if_eq ok_r_leastAbove rfl (fun h3 => ?_) (fun h3 => ?_)
        · refine aq_gn (n := 2) (c1 := (36, [some (.int x), some (.int y), some (.int 0)], [.int y, .int x], w)) ok_r_leastAbove rfl ?_
          refine aq_icmp_le ok_r_leastAbove rfl (fun h4 => ?_) (fun h4 => ?_)
          · refine aq_gn (n := 1) (c1 := (44, [some (.int x), some (.int y), some (.int 0)], [.int y], w)) ok_r_leastAbove rfl ?_
            exact aq_ei ok_r_leastAbove rfl rfl (by unfold rlI; first | (simp_all; done) | (simp_all; intro hq; exact absurd hq (Int32.not_le.mpr (by assumption)))) rfl
          · refine aq_gn (n := 2) (c1 := (44, [some (.int x), some (.int y), some (.int 0)], [.int x], w)) ok_r_leastAbove rfl ?_
            exact aq_ei ok_r_leastAbove rfl rfl (by unfold rlI; first | (simp_all; done) | (simp_all; intro hq; exact absurd hq (Int32.not_le.mpr (by assumption)))) rfl
        · refine aq_gn (n := 2) (c1 := (44, [some (.int x), some (.int y), some (.int 0)], [.int 3], w)) ok_r_leastAbove rfl ?_
          exact aq_ei ok_r_leastAbove rfl rfl (by unfold rlI; first | (simp_all; done) | (simp_all; intro hq; exact absurd hq (Int32.not_le.mpr (by assumption)))) rfl
      · refine aq_gn (n := 2) (c1 := (17, [some (.int x), some (.int y), none], [.int 1, .int y], w)) ok_r_leastAbove rfl ?_
        refine aq_icmp_ne ok_r_leastAbove rfl (fun h3 => ?_) (fun h3 => ?_)
        · refine aq_gn (n := 3) (c1 := (27, [some (.int x), some (.int y), some (.int 0)], [.int 0], w)) ok_r_leastAbove rfl ?_
          refine aq_if_eq ok_r_leastAbove rfl (fun h4 => ?_) (fun h4 => ?_)
          · refine aq_gn (n := 2) (c1 := (36, [some (.int x), some (.int y), some (.int 0)], [.int y, .int x], w)) ok_r_leastAbove rfl ?_
            refine aq_icmp_le ok_r_leastAbove rfl (fun h5 => ?_) (fun h5 => ?_)
            · refine aq_gn (n := 1) (c1 := (44, [some (.int x), some (.int y), some (.int 0)], [.int y], w)) ok_r_leastAbove rfl ?_
              exact aq_ei ok_r_leastAbove rfl rfl (by unfold rlI; first | (simp_all; done) | (simp_all; intro hq; exact absurd hq (Int32.not_le.mpr (by assumption)))) rfl
            · refine aq_gn (n := 2) (c1 := (44, [some (.int x), some (.int y), some (.int 0)], [.int x], w)) ok_r_leastAbove rfl ?_
              exact aq_ei ok_r_leastAbove rfl rfl (by unfold rlI; first | (simp_all; done) | (simp_all; intro hq; exact absurd hq (Int32.not_le.mpr (by assumption)))) rfl
          · refine aq_gn (n := 2) (c1 := (44, [some (.int x), some (.int y), some (.int 0)], [.int 3], w)) ok_r_leastAbove rfl ?_
            exact aq_ei ok_r_leastAbove rfl rfl (by unfold rlI; first | (simp_all; done) | (simp_all; intro hq; exact absurd hq (Int32.not_le.mpr (by assumption)))) rfl
        · refine aq_gn (n := 4) (c1 := (27, [some (.int x), some (.int y), some (.int 1)], [.int 1], w)) ok_r_leastAbove rfl ?_
          refine aq_if_eq ok_r_leastAbove rfl (fun h4 => ?_) (fun h4 => ?_)
          · refine aq_gn (n := 2) (c1 := (36, [some (.int x), some (.int y), some (.int 1)], [.int y, .int x], w)) ok_r_leastAbove rfl ?_
            refine aq_icmp_le ok_r_leastAbove rfl (fun h5 => ?_) (fun h5 => ?_)
            · refine aq_gn (n := 1) (c1 := (44, [some (.int x), some (.int y), some (.int 1)], [.int y], w)) ok_r_leastAbove rfl ?_
              exact aq_ei ok_r_leastAbove rfl rfl (by unfold rlI; first | (simp_all; done) | (simp_all; intro hq; exact absurd hq (Int32.not_le.mpr (by assumption)))) rfl
            · refine aq_gn (n := 2) (c1 := (44, [some (.int x), some (.int y), some (.int 1)], [.int x], w)) ok_r_leastAbove rfl ?_
              exact aq_ei ok_r_leastAbove rfl rfl (by unfold rlI; first | (simp_all; done) | (simp_all; intro hq; exact absurd hq (Int32.not_le.mpr (by assumption)))) rfl
          · refine aq_gn (n := 2) (c1 := (44, [some (.int x), some (.int y), some (.int 1)], [.int 3], w)) ok_r_leastAbove rfl ?_
            exact aq_ei ok_r_leastAbove rfl rfl (by unfold rlI; first | (simp_all; done) | (simp_all; intro hq; exact absurd hq (Int32.not_le.mpr (by assumption)))) rfl
set_option maxHeartbeats 4000000 in
theorem rm_isObject {d : Nat} {w : List va_E} (x : Int32) : AM r_isObject d (.inl (some (.int (bI (isT 85 x))))) [.int x] w w := by
  refine aq_enter pl_r_isObject (Nat.le_of_ble_eq_true rfl) ?_
  refine aq_gn (n := 1) (c1 := (1, [some (.int x)], [.int x], w)) ok_r_isObject rfl ?_
  refine aq_if_lt ok_r_isObject rfl (fun h0 => ?_) (fun h0 => ?_)
  · refine aq_gn (n := 1) (c1 := (15, [some (.int x)], [.int 0], w)) ok_r_isObject rfl ?_
    exact aq_ez ok_r_isObject rfl rfl (by unfold isT; simp_all [bI, show nI 85 = 85 from rfl]) rfl
  · refine aq_gn (n := 2) (c1 := (7, [some (.int x)], [.int 85, .int x], w)) ok_r_isObject rfl ?_
    refine aq_icmp_ge ok_r_isObject rfl (fun h1 => ?_) (fun h1 => ?_)
    · refine aq_gn (n := 1) (c1 := (15, [some (.int x)], [.int 0], w)) ok_r_isObject rfl ?_
      exact aq_ez ok_r_isObject rfl rfl (by unfold isT; simp_all [bI, show nI 85 = 85 from rfl]) rfl
    · refine aq_gn (n := 2) (c1 := (15, [some (.int x)], [.int 1], w)) ok_r_isObject rfl ?_
      exact aq_ez ok_r_isObject rfl rfl (by unfold isT; simp_all [bI, show nI 85 = 85 from rfl]) rfl
set_option maxHeartbeats 4000000 in
theorem rm_isTransaction {d cd n : Nat} {pr st : Nat → Nat} {he wt : Nat → Option Nat} {wn : Nat → Nat} {cv : Nat → Bool} {qs qu : Nat → Nat} {v5 v6 v7 : Nat} (x : Int32) : AM r_isTransaction d (.inl (some (.int (bI (isT n x))))) [.ref 0, .int x] (mL cd n pr st he wt wn cv qs qu v5 v6 v7) (mL cd n pr st he wt wn cv qs qu v5 v6 v7) := by
  refine aq_enter pl_r_isTransaction (Nat.le_of_ble_eq_true rfl) ?_
  refine aq_gn (n := 1) (c1 := (1, [some (.ref 0), some (.int x)], [.int x], mL cd n pr st he wt wn cv qs qu v5 v6 v7)) ok_r_isTransaction rfl ?_
  refine aq_if_lt ok_r_isTransaction rfl (fun h0 => ?_) (fun h0 => ?_)
  · refine aq_gn (n := 1) (c1 := (17, [some (.ref 0), some (.int x)], [.int 0], mL cd n pr st he wt wn cv qs qu v5 v6 v7)) ok_r_isTransaction rfl ?_
    exact aq_ez ok_r_isTransaction rfl rfl (by unfold isT; simp_all [bI]) rfl
  · refine aq_gn (n := 3) (c1 := (9, [some (.ref 0), some (.int x)], [.int (nI n), .int x], mL cd n pr st he wt wn cv qs qu v5 v6 v7)) ok_r_isTransaction rfl ?_
    refine aq_icmp_ge ok_r_isTransaction rfl (fun h1 => ?_) (fun h1 => ?_)
    · refine aq_gn (n := 1) (c1 := (17, [some (.ref 0), some (.int x)], [.int 0], mL cd n pr st he wt wn cv qs qu v5 v6 v7)) ok_r_isTransaction rfl ?_
      exact aq_ez ok_r_isTransaction rfl rfl (by unfold isT; simp_all [bI]) rfl
    · refine aq_gn (n := 2) (c1 := (17, [some (.ref 0), some (.int x)], [.int 1], mL cd n pr st he wt wn cv qs qu v5 v6 v7)) ok_r_isTransaction rfl ?_
      exact aq_ez ok_r_isTransaction rfl rfl (by unfold isT; simp_all [bI]) rfl
set_option maxHeartbeats 4000000 in
theorem rm_modeOf {d cd n : Nat} {pr st : Nat → Nat} {he wt : Nat → Option Nat} {wn : Nat → Nat} {cv : Nat → Bool} {qs qu : Nat → Nat} {v5 v6 v7 : Nat} {t o : Nat} (ht : t < 60) (ho : o < 85) : AM r_modeOf (d) (.inl (some (.int (mdI he t o)))) [.ref 0, .int (nI t), .int (nI o)] (mL cd n pr st he wt wn cv qs qu v5 v6 v7) (mL cd n pr st he wt wn cv qs qu v5 v6 v7) := by
  refine aq_enter pl_r_modeOf (Nat.le_of_ble_eq_true rfl) ?_
  refine aq_go (n := 10) (c1 := (13, [some (.ref 0), some (.int (nI t)), some (.int (nI o))], [.int ((oI (he (((nI 60) * (nI o)) + (nI t)).toNatClampNeg)) - (nI 1))], mL cd n pr st he wt wn cv qs qu v5 v6 v7)) (P := vp_in (((nI 60) * (nI o)) + (nI t)) 5100) ok_r_modeOf rfl (in6 ho ht) ?_
  rw [cl6 ho ht]
  exact aq_ei ok_r_modeOf rfl rfl rfl rfl
set_option maxHeartbeats 4000000 in
theorem lp_fits {d cd n : Nat} {pr st : Nat → Nat} {he wt : Nat → Option Nat} {wn : Nat → Nat} {cv : Nat → Bool} {qs qu : Nat → Nat} {v5 v6 v7 : Nat} {t o : Nat} {x : Int32} (ht : t < 60) (ho : o < 85) (hn : n ≤ 60) : ∀ (f i : Nat), i + f = n → ∀ b : Bool,  AW r_fits (d + 1) (.inl (some (.int (bI (ftF he t o x f i b))))) (mL cd n pr st he wt wn cv qs qu v5 v6 v7) (6, [some (.ref 0), some (.int (nI t)), some (.int (nI o)), some (.int x), some (.int (bI b)), some (.int (nI i)), none], [], mL cd n pr st he wt wn cv qs qu v5 v6 v7) := by
  intro f
  induction f with
  | zero =>
    intro i hif b
    refine aq_gn (n := 3) (c1 := (12, [some (.ref 0), some (.int (nI t)), some (.int (nI o)), some (.int x), some (.int (bI b)), some (.int (nI i)), none], [.int (nI n), .int (nI i)], mL cd n pr st he wt wn cv qs qu v5 v6 v7)) ok_r_fits rfl ?_
    refine aq_icmp_ge ok_r_fits rfl (fun h => ?_) (fun h => ?_)
    · refine aq_gn (n := 1) (c1 := (64, [some (.ref 0), some (.int (nI t)), some (.int (nI o)), some (.int x), some (.int (bI b)), some (.int (nI i)), none], [.int (bI b)], mL cd n pr st he wt wn cv qs qu v5 v6 v7)) ok_r_fits rfl ?_
      exact aq_ez ok_r_fits rfl rfl rfl rfl
    · exact absurd (nI_le (show n ≤ i by omega) (by omega)) h
  | succ f ih =>
    intro i hif b
    refine aq_gn (n := 3) (c1 := (12, [some (.ref 0), some (.int (nI t)), some (.int (nI o)), some (.int x), some (.int (bI b)), some (.int (nI i)), none], [.int (nI n), .int (nI i)], mL cd n pr st he wt wn cv qs qu v5 v6 v7)) ok_r_fits rfl ?_
    refine aq_icmp_ge ok_r_fits rfl (fun h => ?_) (fun h => ?_)
    · exact absurd (q_le h (by omega) (by omega)) (by omega)
    · refine aq_gn (n := 3) (c1 := (19, [some (.ref 0), some (.int (nI t)), some (.int (nI o)), some (.int x), some (.int (bI b)), some (.int (nI i)), none], [.int (nI o), .int (nI i), .ref 0], mL cd n pr st he wt wn cv qs qu v5 v6 v7)) ok_r_fits rfl ?_
      refine aq_callV (as := [.int (nI i), .int (nI o)]) (st := []) ok_r_fits rfl c1_r_modeOf (rm_modeOf (show i < 60 by omega) ho) rfl (Nat.le_of_ble_eq_true rfl) rfl rfl rfl ?_
      refine aq_gn (n := 2) (c1 := (26, [some (.ref 0), some (.int (nI t)), some (.int (nI o)), some (.int x), some (.int (bI b)), some (.int (nI i)), some (.int (mdI he i o))], [.int (bI b)], mL cd n pr st he wt wn cv qs qu v5 v6 v7)) ok_r_fits rfl ?_
      refine aq_if_eq ok_r_fits rfl (fun h2 => ?_) (fun h2 => ?_)
      · have hb := (bI_0 _).mp h2
        refine aq_gn (n := 4) (c1 := (6, [some (.ref 0), some (.int (nI t)), some (.int (nI o)), some (.int x), some (.int (nI 0)), some (.int ((nI i) + 1)), some (.int (mdI he i o))], [], mL cd n pr st he wt wn cv qs qu v5 v6 v7)) ok_r_fits rfl ?_
        rw [nI_1]
        have e : ftF he t o x (f + 1) i b = ftF he t o x f (i + 1) false := by rw [ftF]; simp [hb]
        rw [e]
        refine aq_drop 6 ?_
        exact ih (i + 1) (by omega) false
      · have hb : b = true := by cases b with | true => rfl | false => exact absurd rfl h2
        refine aq_gn (n := 2) (c1 := (32, [some (.ref 0), some (.int (nI t)), some (.int (nI o)), some (.int x), some (.int (bI b)), some (.int (nI i)), some (.int (mdI he i o))], [.int (nI t), .int (nI i)], mL cd n pr st he wt wn cv qs qu v5 v6 v7)) ok_r_fits rfl ?_
        refine aq_icmp_eq ok_r_fits rfl (fun h3 => ?_) (fun h3 => ?_)
        · have hc := q_eq h3 (by omega) (by omega)
          refine aq_gn (n := 5) (c1 := (6, [some (.ref 0), some (.int (nI t)), some (.int (nI o)), some (.int x), some (.int (nI 1)), some (.int ((nI i) + 1)), some (.int (mdI he i o))], [], mL cd n pr st he wt wn cv qs qu v5 v6 v7)) ok_r_fits rfl ?_
          rw [nI_1]
          have e : ftF he t o x (f + 1) i b = ftF he t o x f (i + 1) true := by rw [ftF]; simp [hb, hc]
          rw [e]
          refine aq_drop 6 ?_
          exact ih (i + 1) (by omega) true
        · have hc := q_ne h3
          refine aq_gn (n := 1) (c1 := (37, [some (.ref 0), some (.int (nI t)), some (.int (nI o)), some (.int x), some (.int (bI b)), some (.int (nI i)), some (.int (mdI he i o))], [.int (mdI he i o)], mL cd n pr st he wt wn cv qs qu v5 v6 v7)) ok_r_fits rfl ?_
          refine aq_if_lt ok_r_fits rfl (fun h4 => ?_) (fun h4 => ?_)
          · refine aq_gn (n := 5) (c1 := (6, [some (.ref 0), some (.int (nI t)), some (.int (nI o)), some (.int x), some (.int (nI 1)), some (.int ((nI i) + 1)), some (.int (mdI he i o))], [], mL cd n pr st he wt wn cv qs qu v5 v6 v7)) ok_r_fits rfl ?_
            rw [nI_1]
            have e : ftF he t o x (f + 1) i b = ftF he t o x f (i + 1) true := by rw [ftF]; simp [hb, hc, h4]
            rw [e]
            refine aq_drop 6 ?_
            exact ih (i + 1) (by omega) true
          · refine aq_gn (n := 2) (c1 := (43, [some (.ref 0), some (.int (nI t)), some (.int (nI o)), some (.int x), some (.int (bI b)), some (.int (nI i)), some (.int (mdI he i o))], [.int x, .int (mdI he i o)], mL cd n pr st he wt wn cv qs qu v5 v6 v7)) ok_r_fits rfl ?_
            refine aq_callS (as := [.int (mdI he i o), .int x]) (st := []) ok_r_fits rfl c1_r_together (rm_together (mdI he i o) x) rfl (Nat.le_of_ble_eq_true rfl) ?_
            refine aq_if_eq ok_r_fits rfl (fun h5 => ?_) (fun h5 => ?_)
            · have hg := (bI_0 _).mp h5
              refine aq_gn (n := 4) (c1 := (6, [some (.ref 0), some (.int (nI t)), some (.int (nI o)), some (.int x), some (.int (nI 0)), some (.int ((nI i) + 1)), some (.int (mdI he i o))], [], mL cd n pr st he wt wn cv qs qu v5 v6 v7)) ok_r_fits rfl ?_
              rw [nI_1]
              have e : ftF he t o x (f + 1) i b = ftF he t o x f (i + 1) false := by rw [ftF]; simp [hb, hc, h4, hg]
              rw [e]
              refine aq_drop 6 ?_
              exact ih (i + 1) (by omega) false
            · have hg : tgI (mdI he i o) x = true := by cases hy : tgI (mdI he i o) x with | true => rfl | false => exact absurd ((bI_0 _).mpr hy) h5
              refine aq_gn (n := 5) (c1 := (6, [some (.ref 0), some (.int (nI t)), some (.int (nI o)), some (.int x), some (.int (nI 1)), some (.int ((nI i) + 1)), some (.int (mdI he i o))], [], mL cd n pr st he wt wn cv qs qu v5 v6 v7)) ok_r_fits rfl ?_
              rw [nI_1]
              have e : ftF he t o x (f + 1) i b = ftF he t o x f (i + 1) true := by rw [ftF]; simp [hb, hc, h4, hg]
              rw [e]
              refine aq_drop 6 ?_
              exact ih (i + 1) (by omega) true
set_option maxHeartbeats 4000000 in
theorem rm_fits {d cd n : Nat} {pr st : Nat → Nat} {he wt : Nat → Option Nat} {wn : Nat → Nat} {cv : Nat → Bool} {qs qu : Nat → Nat} {v5 v6 v7 : Nat} {t o : Nat} {x : Int32} (ht : t < 60) (ho : o < 85) (hn : n ≤ 60) : AM r_fits (d + 1) (.inl (some (.int (bI (ftF he t o x n 0 true))))) [.ref 0, .int (nI t), .int (nI o), .int x] (mL cd n pr st he wt wn cv qs qu v5 v6 v7) (mL cd n pr st he wt wn cv qs qu v5 v6 v7) := by
  refine aq_enter pl_r_fits (Nat.le_of_ble_eq_true rfl) ?_
  refine aq_gn (n := 4) (c1 := (6, [some (.ref 0), some (.int (nI t)), some (.int (nI o)), some (.int x), some (.int (nI 1)), some (.int (nI 0)), none], [], mL cd n pr st he wt wn cv qs qu v5 v6 v7)) ok_r_fits rfl ?_
  exact lp_fits ht ho hn n 0 (by omega) true
set_option maxHeartbeats 4000000 in
theorem lp_enq {d cd n : Nat} {pr st : Nat → Nat} {he wt : Nat → Option Nat} {wn : Nat → Nat} {cv : Nat → Bool} {qs : Nat → Nat} {v5 v6 v7 : Nat} {t o : Nat} (ht : t < 60) (ho : o < 85) : ∀ (a : Nat), a < 60 → ∀ q : Nat → Nat, (∀ i, q i < 60) → AW r_enqueue d (.inl none) (mL cd n pr st he wt wn cv (va_up qs o (qs o + 1)) (eqF cv t o a q) v5 v6 v7) (7, [some (.ref 0), some (.int (nI t)), some (.int (nI o)), some (.int (nI a))], [], mL cd n pr st he wt wn cv qs q v5 v6 v7) := by
  intro a
  induction a with
  | zero =>
    intro ha q hq
    refine aq_gn (n := 1) (c1 := (8, [some (.ref 0), some (.int (nI t)), some (.int (nI o)), some (.int (nI 0))], [.int (nI 0)], mL cd n pr st he wt wn cv qs q v5 v6 v7)) ok_r_enqueue rfl ?_
    refine aq_if_le ok_r_enqueue rfl (fun h => ?_) (fun h => ?_)
    · refine aq_go (n := 17) (c1 := (93, [some (.ref 0), some (.int (nI t)), some (.int (nI o)), some (.int (nI 0))], [], mR (nI cd) (nI n) (fun i => nI (pr i)) (fun i => nI (st i)) (fun i => oI (he i)) (fun i => oI (wt i)) (fun i => nI (wn i)) (fun i => bI (cv i)) (upd (fun i => nI (qs i)) (nI o).toNatClampNeg ((nI (qs (nI o).toNatClampNeg)) + (nI 1))) (upd (fun i => nI (q i)) (((nI 60) * (nI o)) + (nI 0)).toNatClampNeg (nI t)) (nI v5) (nI v6) (nI v7))) (P := vp_in (((nI 60) * (nI o)) + (nI 0)) 5100 ∧ vp_in (nI o) 85 ∧ vp_in (nI o) 85) ok_r_enqueue rfl ⟨(in6 ho (by omega)), (inN ho (by omega)), (inN ho (by omega))⟩ ?_
      rw [cl6 ho (show 0 < 60 by omega), clN (show o < 6000 by omega), nI_add, upd_n, upd_n]
      exact aq_ev ok_r_enqueue rfl rfl rfl
    · exact absurd (by decide) h
  | succ a ih =>
    intro ha q hq
    refine aq_gn (n := 1) (c1 := (8, [some (.ref 0), some (.int (nI t)), some (.int (nI o)), some (.int (nI (a + 1)))], [.int (nI (a + 1))], mL cd n pr st he wt wn cv qs q v5 v6 v7)) ok_r_enqueue rfl ?_
    refine aq_if_le ok_r_enqueue rfl (fun h => ?_) (fun h => ?_)
    · exact absurd (q_le (b := 0) h (by omega) (by omega)) (by omega)
    · refine aq_go (n := 4) (c1 := (17, [some (.ref 0), some (.int (nI t)), some (.int (nI o)), some (.int (nI (a + 1)))], [.int (bI (cv (nI t).toNatClampNeg))], mL cd n pr st he wt wn cv qs q v5 v6 v7)) (P := vp_in (nI t) 60) ok_r_enqueue rfl (in60 ht) ?_
      rw [cl60 ht]
      refine aq_if_eq ok_r_enqueue rfl (fun h2 => ?_) (fun h2 => ?_)
      · have hb := (bI_0 _).mp h2
        have e : eqF cv t o (a + 1) q = va_up q (60 * o + (a + 1)) t := by rw [eqF, if_neg (by simp [hb])]
        rw [e]
        refine aq_go (n := 17) (c1 := (93, [some (.ref 0), some (.int (nI t)), some (.int (nI o)), some (.int (nI (a + 1)))], [], mR (nI cd) (nI n) (fun i => nI (pr i)) (fun i => nI (st i)) (fun i => oI (he i)) (fun i => oI (wt i)) (fun i => nI (wn i)) (fun i => bI (cv i)) (upd (fun i => nI (qs i)) (nI o).toNatClampNeg ((nI (qs (nI o).toNatClampNeg)) + (nI 1))) (upd (fun i => nI (q i)) (((nI 60) * (nI o)) + (nI (a + 1))).toNatClampNeg (nI t)) (nI v5) (nI v6) (nI v7))) (P := vp_in (((nI 60) * (nI o)) + (nI (a + 1))) 5100 ∧ vp_in (nI o) 85 ∧ vp_in (nI o) 85) ok_r_enqueue rfl ⟨(in6 ho ha), (inN ho (by omega)), (inN ho (by omega))⟩ ?_
        rw [cl6 ho ha, clN (show o < 6000 by omega), nI_add, upd_n, upd_n]
        exact aq_ev ok_r_enqueue rfl rfl rfl
      · have hb : cv t = true := by cases hy : cv t with | true => rfl | false => exact absurd ((bI_0 _).mpr hy) h2
        refine aq_go (n := 13) (c1 := (38, [some (.ref 0), some (.int (nI t)), some (.int (nI o)), some (.int (nI (a + 1)))], [.int (bI (cv (nI (q ((((nI 60) * (nI o)) + (nI (a + 1))) - (nI 1)).toNatClampNeg)).toNatClampNeg))], mL cd n pr st he wt wn cv qs q v5 v6 v7)) (P := vp_in ((((nI 60) * (nI o)) + (nI (a + 1))) - (nI 1)) 5100 ∧ vp_in (nI (q ((((nI 60) * (nI o)) + (nI (a + 1))) - (nI 1)).toNatClampNeg)) 60) ok_r_enqueue rfl ⟨(by rw [(show nI 60 * nI o + nI (a + 1) - nI 1 = nI (60 * o + a) from by rw [ix6]; exact nI_pred _)]; exact inN (by omega) (by omega)), (by rw [(show nI 60 * nI o + nI (a + 1) - nI 1 = nI (60 * o + a) from by rw [ix6]; exact nI_pred _), clN (show 60 * o + a < 6000 by omega)]; exact in60 (hq _))⟩ ?_
        rw [(show nI 60 * nI o + nI (a + 1) - nI 1 = nI (60 * o + a) from by rw [ix6]; exact nI_pred _), clN (show 60 * o + a < 6000 by omega), cl60 (hq _)]
        refine aq_if_ne ok_r_enqueue rfl (fun h3 => ?_) (fun h3 => ?_)
        · have hc : cv (q (60 * o + a)) = true := by cases hy : cv (q (60 * o + a)) with | true => rfl | false => exact absurd ((bI_0 _).mpr hy) h3
          have e : eqF cv t o (a + 1) q = va_up q (60 * o + (a + 1)) t := by rw [eqF, if_neg (by simp [hc])]
          rw [e]
          refine aq_go (n := 17) (c1 := (93, [some (.ref 0), some (.int (nI t)), some (.int (nI o)), some (.int (nI (a + 1)))], [], mR (nI cd) (nI n) (fun i => nI (pr i)) (fun i => nI (st i)) (fun i => oI (he i)) (fun i => oI (wt i)) (fun i => nI (wn i)) (fun i => bI (cv i)) (upd (fun i => nI (qs i)) (nI o).toNatClampNeg ((nI (qs (nI o).toNatClampNeg)) + (nI 1))) (upd (fun i => nI (q i)) (((nI 60) * (nI o)) + (nI (a + 1))).toNatClampNeg (nI t)) (nI v5) (nI v6) (nI v7))) (P := vp_in (((nI 60) * (nI o)) + (nI (a + 1))) 5100 ∧ vp_in (nI o) 85 ∧ vp_in (nI o) 85) ok_r_enqueue rfl ⟨(in6 ho ha), (inN ho (by omega)), (inN ho (by omega))⟩ ?_
          rw [cl6 ho ha, clN (show o < 6000 by omega), nI_add, upd_n, upd_n]
          exact aq_ev ok_r_enqueue rfl rfl rfl
        · have hc := (bI_0 _).mp h3
          refine aq_go (n := 20) (c1 := (7, [some (.ref 0), some (.int (nI t)), some (.int (nI o)), some (.int ((nI (a + 1)) + (-1)))], [], mR (nI cd) (nI n) (fun i => nI (pr i)) (fun i => nI (st i)) (fun i => oI (he i)) (fun i => oI (wt i)) (fun i => nI (wn i)) (fun i => bI (cv i)) (fun i => nI (qs i)) (upd (fun i => nI (q i)) (((nI 60) * (nI o)) + (nI (a + 1))).toNatClampNeg (nI (q ((((nI 60) * (nI o)) + (nI (a + 1))) - (nI 1)).toNatClampNeg))) (nI v5) (nI v6) (nI v7))) (P := vp_in ((((nI 60) * (nI o)) + (nI (a + 1))) - (nI 1)) 5100 ∧ vp_in (((nI 60) * (nI o)) + (nI (a + 1))) 5100) ok_r_enqueue rfl ⟨(by rw [(show nI 60 * nI o + nI (a + 1) - nI 1 = nI (60 * o + a) from by rw [ix6]; exact nI_pred _)]; exact inN (by omega) (by omega)), (in6 ho ha)⟩ ?_
          rw [(show nI 60 * nI o + nI (a + 1) - nI 1 = nI (60 * o + a) from by rw [ix6]; exact nI_pred _), clN (show 60 * o + a < 6000 by omega), cl6 ho ha, pk_m1, upd_n]
          have e : eqF cv t o (a + 1) q = eqF cv t o a (va_up q (60 * o + (a + 1)) (q (60 * o + a))) := by rw [eqF, if_pos ⟨hb, hc⟩]
          rw [e]
          exact ih (by omega) _ (va_up_lt hq (hq _))
set_option maxHeartbeats 4000000 in
theorem rm_enqueue {d cd n : Nat} {pr st : Nat → Nat} {he wt : Nat → Option Nat} {wn : Nat → Nat} {cv : Nat → Bool} {qs qu : Nat → Nat} {v5 v6 v7 : Nat} {t o : Nat} (ht : t < 60) (ho : o < 85) (hs : qs o < 60) (hq : ∀ i, qu i < 60) : AM r_enqueue (d) (.inl none) [.ref 0, .int (nI t), .int (nI o)] (mL cd n pr st he wt wn cv qs qu v5 v6 v7) (mL cd n pr st he wt wn cv (va_up qs o (qs o + 1)) (eqF cv t o (qs o) qu) v5 v6 v7) := by
  refine aq_enter pl_r_enqueue (Nat.le_of_ble_eq_true rfl) ?_
  refine aq_go (n := 5) (c1 := (7, [some (.ref 0), some (.int (nI t)), some (.int (nI o)), some (.int (nI (qs (nI o).toNatClampNeg)))], [], mL cd n pr st he wt wn cv qs qu v5 v6 v7)) (P := vp_in (nI o) 85) ok_r_enqueue rfl (inN ho (by omega)) ?_
  rw [clN (show o < 6000 by omega)]
  exact lp_enq ht ho (qs o) hs qu hq
set_option maxHeartbeats 4000000 in
theorem lp_deq {d cd n : Nat} {pr st : Nat → Nat} {he wt : Nat → Option Nat} {wn : Nat → Nat} {cv : Nat → Bool} {qs : Nat → Nat} {v5 v6 v7 : Nat} {t o : Nat} (ht : t < 60) (ho : o < 85) (hs : qs o ≤ 60) : ∀ (f i : Nat), i + f = 60 * o + qs o → ∀ (j : Nat) (q : Nat → Nat), j ≤ i → 60 * o ≤ j → (∀ i, q i < 60) → AW r_dequeue d (.inl none) (mL cd n pr st he wt wn cv (va_up qs o ((lqF t f i j q).2 - 60 * o)) ((lqF t f i j q).1) v5 v6 v7) (11, [some (.ref 0), some (.int (nI t)), some (.int (nI o)), some (.int (nI j)), some (.int (nI i))], [], mL cd n pr st he wt wn cv qs q v5 v6 v7) := by
  intro f
  induction f with
  | zero =>
    intro i hif j q hj hj6 hq
    refine aq_go (n := 9) (c1 := (24, [some (.ref 0), some (.int (nI t)), some (.int (nI o)), some (.int (nI j)), some (.int (nI i))], [.int (((nI 60) * (nI o)) + (nI (qs (nI o).toNatClampNeg))), .int (nI i)], mL cd n pr st he wt wn cv qs q v5 v6 v7)) (P := vp_in (nI o) 85) ok_r_dequeue rfl (inN ho (by omega)) ?_
    rw [clN (show o < 6000 by omega), ix6]
    refine aq_icmp_ge ok_r_dequeue rfl (fun h => ?_) (fun h => ?_)
    · refine aq_go (n := 9) (c1 := (72, [some (.ref 0), some (.int (nI t)), some (.int (nI o)), some (.int (nI j)), some (.int (nI i))], [], mR (nI cd) (nI n) (fun i => nI (pr i)) (fun i => nI (st i)) (fun i => oI (he i)) (fun i => oI (wt i)) (fun i => nI (wn i)) (fun i => bI (cv i)) (upd (fun i => nI (qs i)) (nI o).toNatClampNeg ((nI j) - ((nI 60) * (nI o)))) (fun i => nI (q i)) (nI v5) (nI v6) (nI v7))) (P := vp_in (nI o) 85) ok_r_dequeue rfl (inN ho (by omega)) ?_
      rw [clN (show o < 6000 by omega), ix6z, pk_sub hj6, upd_n]
      exact aq_ev ok_r_dequeue rfl rfl rfl
    · exact absurd (nI_le (show 60 * o + qs o ≤ i by omega) (by omega)) h
  | succ f ih =>
    intro i hif j q hj hj6 hq
    refine aq_go (n := 9) (c1 := (24, [some (.ref 0), some (.int (nI t)), some (.int (nI o)), some (.int (nI j)), some (.int (nI i))], [.int (((nI 60) * (nI o)) + (nI (qs (nI o).toNatClampNeg))), .int (nI i)], mL cd n pr st he wt wn cv qs q v5 v6 v7)) (P := vp_in (nI o) 85) ok_r_dequeue rfl (inN ho (by omega)) ?_
    rw [clN (show o < 6000 by omega), ix6]
    refine aq_icmp_ge ok_r_dequeue rfl (fun h => ?_) (fun h => ?_)
    · exact absurd (q_le h (by omega) (by omega)) (by omega)
    · refine aq_go (n := 5) (c1 := (35, [some (.ref 0), some (.int (nI t)), some (.int (nI o)), some (.int (nI j)), some (.int (nI i))], [.int (nI t), .int (nI (q (nI i).toNatClampNeg))], mL cd n pr st he wt wn cv qs q v5 v6 v7)) (P := vp_in (nI i) 5100) ok_r_dequeue rfl (inN (by omega) (by omega)) ?_
      rw [clN (show i < 6000 by omega)]
      refine aq_icmp_eq ok_r_dequeue rfl (fun h2 => ?_) (fun h2 => ?_)
      · have hx := q_eq h2 (by have := hq i; omega) (by omega)
        refine aq_gn (n := 2) (c1 := (11, [some (.ref 0), some (.int (nI t)), some (.int (nI o)), some (.int (nI j)), some (.int ((nI i) + 1))], [], mL cd n pr st he wt wn cv qs q v5 v6 v7)) ok_r_dequeue rfl ?_
        rw [nI_1]
        have e : lqF t (f + 1) i j q = lqF t f (i + 1) j q := by simp [lqF, hx]
        rw [e]
        exact ih (i + 1) (by omega) j q (by omega) hj6 hq
      · have hx := q_ne h2
        refine aq_go (n := 11) (c1 := (11, [some (.ref 0), some (.int (nI t)), some (.int (nI o)), some (.int ((nI j) + 1)), some (.int ((nI i) + 1))], [], mR (nI cd) (nI n) (fun i => nI (pr i)) (fun i => nI (st i)) (fun i => oI (he i)) (fun i => oI (wt i)) (fun i => nI (wn i)) (fun i => bI (cv i)) (fun i => nI (qs i)) (upd (fun i => nI (q i)) (nI j).toNatClampNeg (nI (q (nI i).toNatClampNeg))) (nI v5) (nI v6) (nI v7))) (P := vp_in (nI i) 5100 ∧ vp_in (nI j) 5100) ok_r_dequeue rfl ⟨(inN (by omega) (by omega)), (inN (by omega) (by omega))⟩ ?_
        rw [clN (show i < 6000 by omega), clN (show j < 6000 by omega), upd_n, nI_1, nI_1]
        have e : lqF t (f + 1) i j q = lqF t f (i + 1) (j + 1) (va_up q j (q i)) := by simp [lqF, hx]
        rw [e]
        exact ih (i + 1) (by omega) (j + 1) (va_up q j (q i)) (by omega) (by omega) (va_up_lt hq (hq i))
set_option maxHeartbeats 4000000 in
theorem rm_dequeue {d cd n : Nat} {pr st : Nat → Nat} {he wt : Nat → Option Nat} {wn : Nat → Nat} {cv : Nat → Bool} {qs qu : Nat → Nat} {v5 v6 v7 : Nat} {t o : Nat} (ht : t < 60) (ho : o < 85) (hs : qs o ≤ 60) (hq : ∀ i, qu i < 60) : AM r_dequeue (d) (.inl none) [.ref 0, .int (nI t), .int (nI o)] (mL cd n pr st he wt wn cv qs qu v5 v6 v7) (mL cd n pr st he wt wn cv (va_up qs o ((lqF t (qs o) (60 * o) (60 * o) qu).2 - 60 * o)) ((lqF t (qs o) (60 * o) (60 * o) qu).1) v5 v6 v7) := by
  refine aq_enter pl_r_dequeue (Nat.le_of_ble_eq_true rfl) ?_
  refine aq_gn (n := 8) (c1 := (11, [some (.ref 0), some (.int (nI t)), some (.int (nI o)), some (.int ((nI 60) * (nI o))), some (.int ((nI 60) * (nI o)))], [], mL cd n pr st he wt wn cv qs qu v5 v6 v7)) ok_r_dequeue rfl ?_
  rw [ix6z]
  exact lp_deq ht ho hs (qs o) (60 * o) rfl (60 * o) qu (Nat.le_refl _) (Nat.le_refl _) hq
end
section
/-! THE REFERENCE'S STATE AS ONE VALUE -/
abbrev MSt : Type := Nat × Nat × (Nat → Nat) × (Nat → Nat) × (Nat → Option Nat) × (Nat → Option Nat) × (Nat → Nat) × (Nat → Bool) × (Nat → Nat) × (Nat → Nat) × Nat × Nat × Nat
abbrev g_cd (M : MSt) : Nat := M.1
abbrev g_n (M : MSt) : Nat := M.2.1
abbrev g_pr (M : MSt) : Nat → Nat := M.2.2.1
abbrev g_st (M : MSt) : Nat → Nat := M.2.2.2.1
abbrev g_he (M : MSt) : Nat → Option Nat := M.2.2.2.2.1
abbrev g_wt (M : MSt) : Nat → Option Nat := M.2.2.2.2.2.1
abbrev g_wn (M : MSt) : Nat → Nat := M.2.2.2.2.2.2.1
abbrev g_cv (M : MSt) : Nat → Bool := M.2.2.2.2.2.2.2.1
abbrev g_qs (M : MSt) : Nat → Nat := M.2.2.2.2.2.2.2.2.1
abbrev g_qu (M : MSt) : Nat → Nat := M.2.2.2.2.2.2.2.2.2.1
abbrev g_v5 (M : MSt) : Nat := M.2.2.2.2.2.2.2.2.2.2.1
abbrev g_v6 (M : MSt) : Nat := M.2.2.2.2.2.2.2.2.2.2.2.1
abbrev g_v7 (M : MSt) : Nat := M.2.2.2.2.2.2.2.2.2.2.2.2
def wM (M : MSt) : List va_E := mL (g_cd M) (g_n M) (g_pr M) (g_st M) (g_he M) (g_wt M) (g_wn M) (g_cv M) (g_qs M) (g_qu M) (g_v5 M) (g_v6 M) (g_v7 M)
def WM (M : MSt) : Prop := g_n M ≤ 60 ∧ (∀ i, g_qu M i < 60) ∧ (∀ o, g_qs M o ≤ 60) ∧ (∀ t x, g_wt M t = some x → x < 85) ∧ (∀ t, g_st M t < 4) ∧ (∀ t, g_pr M t < 100) ∧ (∀ t, g_wn M t < 5) ∧ (∀ i x, g_he M i = some x → x < 6)
/-- one that waits stands in the queue -/
def WQ (M : MSt) : Prop := ∀ u o, g_wt M u = some o → ∃ j, j < g_qs M o ∧ g_qu M (60 * o + j) = u
/-- the first of o's queue is served -/
def mgr (M : MSt) (o : Nat) : MSt := (g_cd M, g_n M, g_pr M, va_up (g_st M) (g_qu M (60 * o)) 0, va_up (g_he M) (60 * o + g_qu M (60 * o)) (some (g_wn M (g_qu M (60 * o)) + 1)), va_up (g_wt M) (g_qu M (60 * o)) none, g_wn M, g_cv M, va_up (g_qs M) o ((lqF (g_qu M (60 * o)) (g_qs M o) (60 * o) (60 * o) (g_qu M)).2 - 60 * o), (lqF (g_qu M (60 * o)) (g_qs M o) (60 * o) (60 * o) (g_qu M)).1, g_v5 M, g_v6 M, g_v7 M)
def mfit (M : MSt) (o : Nat) : Bool := ftF (g_he M) (g_qu M (60 * o)) o (nI (g_wn M (g_qu M (60 * o)))) (g_n M) 0 true
def msF (o : Nat) : Nat → Nat → MSt → MSt × Nat
  | 0, g, M => (M, g)
  | f + 1, g, M => if 0 < g_qs M o ∧ mfit M o = true then msF o f (g + 1) (mgr M o) else (M, g)
def ms (M : MSt) (o : Nat) : MSt × Nat := msF o 60 0 M
theorem va_up_ol {l : Nat → Option Nat} {b j : Nat} {v : Option Nat} (h : ∀ i x, l i = some x → x < b) (hv : ∀ x, v = some x → x < b) : ∀ i x, va_up l j v i = some x → x < b := fun i x q => by
  unfold va_up at q
  split at q
  · exact hv x q
  · exact h i x q
theorem lqF_drop {t : Nat} : ∀ (f i j : Nat) (l : Nat → Nat), l i = t → 0 < f → (lqF t f i j l).2 ≤ j + f - 1 := by
  intro f i j l h hf
  obtain ⟨g, rfl⟩ : ∃ g, f = g + 1 := ⟨f - 1, by omega⟩
  unfold lqF
  rw [if_pos h]
  have := lqF_le (t := t) g (i + 1) j l
  omega
theorem WM_mgr {M : MSt} (h : WM M) (o : Nat) : WM (mgr M o) := by
  obtain ⟨h1, h2, h3, h4, h5, h6, h7, h8⟩ := h
  refine ⟨h1, lqF_lt _ _ _ _ h2, fun q => ?_, va_up_ol h4 (fun x q => by cases q), fun t => va_up_lt h5 (by omega) t, h6, h7, va_up_ol h8 (fun x q => ?_)⟩
  · show va_up (g_qs M) o _ q ≤ 60
    unfold va_up
    split
    · have := lqF_le (t := g_qu M (60 * o)) (g_qs M o) (60 * o) (60 * o) (g_qu M)
      have := h3 o
      omega
    · exact h3 q
  · have e : g_wn M (g_qu M (60 * o)) + 1 = x := Option.some.inj q
    have := h7 (g_qu M (60 * o))
    omega
theorem qs_mgr {M : MSt} {o : Nat} (h : 0 < g_qs M o) : g_qs (mgr M o) o < g_qs M o := by
  show va_up (g_qs M) o _ o < g_qs M o
  unfold va_up
  rw [if_pos rfl]
  have := lqF_drop (t := g_qu M (60 * o)) (g_qs M o) (60 * o) (60 * o) (g_qu M) rfl h
  omega
theorem WM_msF {o : Nat} : ∀ (f g : Nat) (M : MSt), WM M → WM (msF o f g M).1 := by
  intro f
  induction f with
  | zero => intro g M h; exact h
  | succ f ih =>
    intro g M h
    unfold msF
    split
    · exact ih _ _ (WM_mgr h o)
    · exact h
theorem WM_ms {M : MSt} (h : WM M) (o : Nat) : WM (ms M o).1 := WM_msF _ _ _ h
end
section
/-! THE REFERENCE: serve -/
set_option maxHeartbeats 4000000 in
theorem rm_fitsM {d : Nat} {M : MSt} {t o : Nat} {x : Int32} (h : WM M) (ht : t < 60) (ho : o < 85) : AM r_fits (d + 1) (.inl (some (.int (bI (ftF (g_he M) t o x (g_n M) 0 true))))) [.ref 0, .int (nI t), .int (nI o), .int x] (wM M) (wM M) := rm_fits ht ho h.1
set_option maxHeartbeats 4000000 in
theorem rm_modeOfM {d : Nat} {M : MSt} {t o : Nat} (ht : t < 60) (ho : o < 85) : AM r_modeOf d (.inl (some (.int (mdI (g_he M) t o)))) [.ref 0, .int (nI t), .int (nI o)] (wM M) (wM M) := rm_modeOf ht ho
set_option maxHeartbeats 4000000 in
theorem rm_isTransactionM {d : Nat} {M : MSt} (x : Int32) : AM r_isTransaction d (.inl (some (.int (bI (isT (g_n M) x))))) [.ref 0, .int x] (wM M) (wM M) := rm_isTransaction x
set_option maxHeartbeats 4000000 in
theorem lp_mserve {d o : Nat} (ho : o < 85) : ∀ (f g : Nat) (M : MSt), g_qs M o ≤ f → WM M → AW r_serve (d + 2) (.inl (some (.int (nI (msF o f g M).2)))) (wM (msF o f g M).1) (2, [some (.ref 0), some (.int (nI o)), some (.int (nI g)), none], [], wM M) := by
  intro f
  induction f with
  | zero =>
    intro g M hf hM
    refine aq_go (n := 4) (c1 := (8, [some (.ref 0), some (.int (nI o)), some (.int (nI g)), none], [.int (nI ((g_qs M) (nI o).toNatClampNeg))], mL (g_cd M) (g_n M) (g_pr M) (g_st M) (g_he M) (g_wt M) (g_wn M) (g_cv M) (g_qs M) (g_qu M) (g_v5 M) (g_v6 M) (g_v7 M))) (P := vp_in (nI o) 85) ok_r_serve rfl (inN ho (by omega)) ?_
    rw [clN (show o < 6000 by omega)]
    refine aq_if_le ok_r_serve rfl (fun h => ?_) (fun h => ?_)
    · refine aq_gn (n := 1) (c1 := (98, [some (.ref 0), some (.int (nI o)), some (.int (nI g)), none], [.int (nI g)], wM M)) ok_r_serve rfl ?_
      exact aq_ei ok_r_serve rfl rfl rfl rfl
    · exact absurd (nI_le (b := 0) (show g_qs M o ≤ 0 by omega) (by omega)) h
  | succ f ih =>
    intro g M hf hM
    have hq6 : g_qu M (60 * o) < 60 := hM.2.1 _
    refine aq_go (n := 4) (c1 := (8, [some (.ref 0), some (.int (nI o)), some (.int (nI g)), none], [.int (nI ((g_qs M) (nI o).toNatClampNeg))], mL (g_cd M) (g_n M) (g_pr M) (g_st M) (g_he M) (g_wt M) (g_wn M) (g_cv M) (g_qs M) (g_qu M) (g_v5 M) (g_v6 M) (g_v7 M))) (P := vp_in (nI o) 85) ok_r_serve rfl (inN ho (by omega)) ?_
    rw [clN (show o < 6000 by omega)]
    refine aq_if_le ok_r_serve rfl (fun h => ?_) (fun h => ?_)
    · have hz := q_le (b := 0) h (by have := hM.2.2.1 o; omega) (by omega)
      have e : msF o (f + 1) g M = (M, g) := by rw [msF, if_neg (fun q => by omega)]
      rw [e]
      refine aq_gn (n := 1) (c1 := (98, [some (.ref 0), some (.int (nI o)), some (.int (nI g)), none], [.int (nI g)], wM M)) ok_r_serve rfl ?_
      exact aq_ei ok_r_serve rfl rfl rfl rfl
    · have hz : 0 < g_qs M o := q_nle (b := 0) h (by have := hM.2.2.1 o; omega) (by omega)
      refine aq_go (n := 17) (c1 := (36, [some (.ref 0), some (.int (nI o)), some (.int (nI g)), none], [.int (nI ((g_wn M) (nI ((g_qu M) ((nI 60) * (nI o)).toNatClampNeg)).toNatClampNeg)), .int (nI o), .int (nI ((g_qu M) ((nI 60) * (nI o)).toNatClampNeg)), .ref 0], mL (g_cd M) (g_n M) (g_pr M) (g_st M) (g_he M) (g_wt M) (g_wn M) (g_cv M) (g_qs M) (g_qu M) (g_v5 M) (g_v6 M) (g_v7 M))) (P := vp_in ((nI 60) * (nI o)) 5100 ∧ vp_in ((nI 60) * (nI o)) 5100 ∧ vp_in (nI ((g_qu M) ((nI 60) * (nI o)).toNatClampNeg)) 60) ok_r_serve rfl ⟨(in6z ho), (in6z ho), (by rw [cl6z ho]; exact in60 hq6)⟩ ?_
      rw [cl6z ho, cl60 hq6]
      show AW r_serve _ _ _ (36, [some (.ref 0), some (.int (nI o)), some (.int (nI g)), none], [.int (nI (g_wn M (g_qu M (60 * o)))), .int (nI o), .int (nI (g_qu M (60 * o))), .ref 0], wM M)
      refine aq_callV (as := [.int (nI (g_qu M (60 * o))), .int (nI o), .int (nI (g_wn M (g_qu M (60 * o))))]) (st := []) ok_r_serve rfl c1_r_fits (rm_fitsM hM hq6 ho) rfl (Nat.le_of_ble_eq_true rfl) rfl rfl rfl ?_
      refine aq_if_eq ok_r_serve rfl (fun h2 => ?_) (fun h2 => ?_)
      · have hb := (bI_0 _).mp h2
        have e : msF o (f + 1) g M = (M, g) := by rw [msF, if_neg (fun q => by rw [show mfit M o = false from hb] at q; cases q.2)]
        rw [e]
        refine aq_gn (n := 1) (c1 := (98, [some (.ref 0), some (.int (nI o)), some (.int (nI g)), none], [.int (nI g)], wM M)) ok_r_serve rfl ?_
        exact aq_ei ok_r_serve rfl rfl rfl rfl
      · have hb : mfit M o = true := by cases hy : mfit M o with | true => rfl | false => exact absurd ((bI_0 _).mpr hy) h2
        have e : msF o (f + 1) g M = msF o f (g + 1) (mgr M o) := by rw [msF, if_pos ⟨hz, hb⟩]
        rw [e]
        show AW r_serve _ _ _ (42, [some (.ref 0), some (.int (nI o)), some (.int (nI g)), none], [], mL (g_cd M) (g_n M) (g_pr M) (g_st M) (g_he M) (g_wt M) (g_wn M) (g_cv M) (g_qs M) (g_qu M) (g_v5 M) (g_v6 M) (g_v7 M))
        refine aq_go (n := 10) (c1 := (55, [some (.ref 0), some (.int (nI o)), some (.int (nI g)), some (.int (nI ((g_qu M) ((nI 60) * (nI o)).toNatClampNeg)))], [.int (nI o), .int (nI ((g_qu M) ((nI 60) * (nI o)).toNatClampNeg)), .ref 0], mL (g_cd M) (g_n M) (g_pr M) (g_st M) (g_he M) (g_wt M) (g_wn M) (g_cv M) (g_qs M) (g_qu M) (g_v5 M) (g_v6 M) (g_v7 M))) (P := vp_in ((nI 60) * (nI o)) 5100) ok_r_serve rfl (in6z ho) ?_
        rw [cl6z ho]
        refine aq_callV (as := [.int (nI (g_qu M (60 * o))), .int (nI o)]) (st := []) ok_r_serve rfl c1_r_dequeue (rm_dequeue (d := d + 1) hq6 ho (hM.2.2.1 o) hM.2.1) rfl (Nat.le_of_ble_eq_true rfl) rfl rfl rfl ?_
        refine aq_go (n := 26) (c1 := (2, [some (.ref 0), some (.int (nI o)), some (.int ((nI g) + 1)), some (.int (nI (g_qu M (60 * o))))], [], mR (nI (g_cd M)) (nI (g_n M)) (fun ι => nI ((g_pr M) ι)) (upd (fun ι => nI ((g_st M) ι)) (nI (g_qu M (60 * o))).toNatClampNeg (nI 0)) (upd (fun ι => oI ((g_he M) ι)) (((nI 60) * (nI o)) + (nI (g_qu M (60 * o)))).toNatClampNeg ((nI ((g_wn M) (nI (g_qu M (60 * o))).toNatClampNeg)) + (nI 1))) (upd (fun ι => oI ((g_wt M) ι)) (nI (g_qu M (60 * o))).toNatClampNeg (-1)) (fun ι => nI ((g_wn M) ι)) (fun ι => bI ((g_cv M) ι)) (fun ι => nI ((va_up (g_qs M) o ((lqF (g_qu M (60 * o)) (g_qs M o) (60 * o) (60 * o) (g_qu M)).2 - 60 * o)) ι)) (fun ι => nI (((lqF (g_qu M (60 * o)) (g_qs M o) (60 * o) (60 * o) (g_qu M)).1) ι)) (nI (g_v5 M)) (nI (g_v6 M)) (nI (g_v7 M)))) (P := vp_in (nI (g_qu M (60 * o))) 60 ∧ vp_in (((nI 60) * (nI o)) + (nI (g_qu M (60 * o)))) 5100 ∧ vp_in (nI (g_qu M (60 * o))) 60 ∧ vp_in (nI (g_qu M (60 * o))) 60) ok_r_serve rfl ⟨(in60 hq6), (in6 ho hq6), (in60 hq6), (in60 hq6)⟩ ?_
        rw [cl60 hq6, cl6 ho hq6, nI_add, upd_o, upd_m, upd_n, nI_1]
        refine aq_drop 3 ?_
        exact ih (g + 1) (mgr M o) (by have := qs_mgr hz; omega) (WM_mgr hM o)
set_option maxHeartbeats 4000000 in
theorem rm_serve {d : Nat} {o : Nat} {M : MSt} (hM : WM M) (ho : o < 85) : AM r_serve (d + 2) (.inl (some (.int (nI (ms M o).2)))) [.ref 0, .int (nI o)] (wM M) (wM (ms M o).1) := by
  refine aq_enter pl_r_serve (Nat.le_of_ble_eq_true rfl) ?_
  refine aq_gn (n := 2) (c1 := (2, [some (.ref 0), some (.int (nI o)), some (.int (nI 0)), none], [], wM M)) ok_r_serve rfl ?_
  exact lp_mserve ho 60 0 M (hM.2.2.1 o) hM
def mbF (qu : Nat → Nat) (t : Nat) : Nat → Nat → Int64 → Int64
  | 0, _, a => a
  | f + 1, i, a => if qu i = t then a else mbF qu t f (i + 1) (a ||| lbit (qu i))
def mcF (he : Nat → Option Nat) (t o : Nat) (x : Int32) : Nat → Nat → Int64 → Int64
  | 0, _, a => a
  | f + 1, u, a => mcF he t o x f (u + 1) (if ¬ u = t ∧ ¬ mdI he u o < 0 ∧ tgI (mdI he u o) x = false then a ||| lbit u else a)
def mwb (M : MSt) (t : Nat) : Int64 := match g_wt M t with
  | none => 0
  | some o => mbF (g_qu M) t (g_qs M o) (60 * o) (mcF (g_he M) t o (nI (g_wn M t)) (g_n M) 0 0)
theorem lor0 (a : Int64) : a ||| 0 = a := lb_ext (fun i _ => by rw [lb_or, lb_0, Bool.or_false])
set_option maxHeartbeats 4000000 in
theorem lp_wb2 {d : Nat} {M : MSt} {t o : Nat} (hM : WM M) (ht : t < 60) (ho : o < 85) : ∀ (f i : Nat) (a : Int64), i + f ≤ 5100 → (∃ j, i ≤ j ∧ j < i + f ∧ g_qu M j = t) → AW r_waitBits d (.inl (some (.long (mbF (g_qu M) t f i a)))) (wM M) (88, [some (.ref 0), some (.int (nI t)), some (.long a), none, some (.int (nI o)), some (.int (nI i)), none], [], wM M) := by
  intro f
  induction f with
  | zero => intro i a hi hj; obtain ⟨j, h1, h2, -⟩ := hj; omega
  | succ f ih =>
    intro i a hi hj
    refine aq_go (n := 5) (c1 := (96, [some (.ref 0), some (.int (nI t)), some (.long a), none, some (.int (nI o)), some (.int (nI i)), none], [.int (nI t), .int (nI ((g_qu M) (nI i).toNatClampNeg))], mL (g_cd M) (g_n M) (g_pr M) (g_st M) (g_he M) (g_wt M) (g_wn M) (g_cv M) (g_qs M) (g_qu M) (g_v5 M) (g_v6 M) (g_v7 M))) (P := vp_in (nI i) 5100) ok_r_waitBits rfl (inN (show i < 5100 by omega) (by omega)) ?_
    rw [clN (show i < 6000 by omega)]
    refine aq_icmp_eq ok_r_waitBits rfl (fun h => ?_) (fun h => ?_)
    · have hx := q_eq h (by have := hM.2.1 i; omega) (by omega)
      refine aq_gn (n := 1) (c1 := (118, [some (.ref 0), some (.int (nI t)), some (.long a), none, some (.int (nI o)), some (.int (nI i)), none], [.long a], wM M)) ok_r_waitBits rfl ?_
      exact aq_el ok_r_waitBits rfl rfl (by rw [mbF, if_pos hx]) rfl
    · have hx := q_ne h
      refine aq_go (n := 11) (c1 := (88, [some (.ref 0), some (.int (nI t)), some (.long (a ||| (lbit ((g_qu M) (nI i).toNatClampNeg)))), none, some (.int (nI o)), some (.int ((nI i) + 1)), none], [], mL (g_cd M) (g_n M) (g_pr M) (g_st M) (g_he M) (g_wt M) (g_wn M) (g_cv M) (g_qs M) (g_qu M) (g_v5 M) (g_v6 M) (g_v7 M))) (P := vp_in (nI i) 5100) ok_r_waitBits rfl (inN (show i < 5100 by omega) (by omega)) ?_
      rw [clN (show i < 6000 by omega), nI_1]
      have e : mbF (g_qu M) t (f + 1) i a = mbF (g_qu M) t f (i + 1) (a ||| lbit (g_qu M i)) := by rw [mbF, if_neg hx]
      rw [e]
      refine ih (i + 1) _ (by omega) ?_
      obtain ⟨j, h1, h2, h3⟩ := hj
      exact ⟨j, Nat.lt_of_le_of_ne h1 (fun q => hx (by rw [q]; exact h3)), by omega, h3⟩
set_option maxHeartbeats 4000000 in
theorem lp_wb1 {d : Nat} {M : MSt} {t o : Nat} (hM : WM M) (hn : g_n M ≤ 60) (ht : t < 60) (ho : o < 85) (hj : ∃ j, 60 * o ≤ j ∧ j < 60 * o + g_qs M o ∧ g_qu M j = t) : ∀ (f i : Nat), i + f = g_n M → ∀ a : Int64,  AW r_waitBits (d + 1) (.inl (some (.long (mbF (g_qu M) t (g_qs M o) (60 * o) (mcF (g_he M) t o (nI (g_wn M t)) f i a))))) (wM M) (20, [some (.ref 0), some (.int (nI t)), some (.long a), none, some (.int (nI o)), some (.int (nI i)), none], [], mL (g_cd M) (g_n M) (g_pr M) (g_st M) (g_he M) (g_wt M) (g_wn M) (g_cv M) (g_qs M) (g_qu M) (g_v5 M) (g_v6 M) (g_v7 M)) := by
  intro f
  induction f with
  | zero =>
    intro i hif a
    refine aq_gn (n := 3) (c1 := (26, [some (.ref 0), some (.int (nI t)), some (.long a), none, some (.int (nI o)), some (.int (nI i)), none], [.int (nI (g_n M)), .int (nI i)], mL (g_cd M) (g_n M) (g_pr M) (g_st M) (g_he M) (g_wt M) (g_wn M) (g_cv M) (g_qs M) (g_qu M) (g_v5 M) (g_v6 M) (g_v7 M))) ok_r_waitBits rfl ?_
    refine aq_icmp_ge ok_r_waitBits rfl (fun h => ?_) (fun h => ?_)
    · refine aq_gn (n := 4) (c1 := (88, [some (.ref 0), some (.int (nI t)), some (.long a), none, some (.int (nI o)), some (.int ((nI 60) * (nI o))), none], [], mL (g_cd M) (g_n M) (g_pr M) (g_st M) (g_he M) (g_wt M) (g_wn M) (g_cv M) (g_qs M) (g_qu M) (g_v5 M) (g_v6 M) (g_v7 M))) ok_r_waitBits rfl ?_
      rw [ix6z]
      exact lp_wb2 hM ht ho (g_qs M o) (60 * o) a (by have := hM.2.2.1 o; omega) hj
    · exact absurd (nI_le (show g_n M ≤ i by omega) (by omega)) h
  | succ f ih =>
    intro i hif a
    refine aq_gn (n := 3) (c1 := (26, [some (.ref 0), some (.int (nI t)), some (.long a), none, some (.int (nI o)), some (.int (nI i)), none], [.int (nI (g_n M)), .int (nI i)], mL (g_cd M) (g_n M) (g_pr M) (g_st M) (g_he M) (g_wt M) (g_wn M) (g_cv M) (g_qs M) (g_qu M) (g_v5 M) (g_v6 M) (g_v7 M))) ok_r_waitBits rfl ?_
    refine aq_icmp_ge ok_r_waitBits rfl (fun h => ?_) (fun h => ?_)
    · exact absurd (q_le h (by omega) (by omega)) (by omega)
    · refine aq_gn (n := 3) (c1 := (34, [some (.ref 0), some (.int (nI t)), some (.long a), none, some (.int (nI o)), some (.int (nI i)), none], [.int (nI o), .int (nI i), .ref 0], wM M)) ok_r_waitBits rfl ?_
      refine aq_callV (as := [.int (nI i), .int (nI o)]) (st := []) ok_r_waitBits rfl c1_r_modeOf (rm_modeOfM (show i < 60 by have := hM.1; omega) ho) rfl (Nat.le_of_ble_eq_true rfl) rfl rfl rfl ?_
      refine aq_gn (n := 4) (c1 := (43, [some (.ref 0), some (.int (nI t)), some (.long a), none, some (.int (nI o)), some (.int (nI i)), some (.int (mdI (g_he M) i o))], [.int (nI t), .int (nI i), .long a], mL (g_cd M) (g_n M) (g_pr M) (g_st M) (g_he M) (g_wt M) (g_wn M) (g_cv M) (g_qs M) (g_qu M) (g_v5 M) (g_v6 M) (g_v7 M))) ok_r_waitBits rfl ?_
      refine aq_icmp_eq ok_r_waitBits rfl (fun h2 => ?_) (fun h2 => ?_)
      · have hx := q_eq h2 (by have := hM.1; omega) (by omega)
        refine aq_gn (n := 5) (c1 := (20, [some (.ref 0), some (.int (nI t)), some (.long (a ||| 0)), none, some (.int (nI o)), some (.int ((nI i) + 1)), some (.int (mdI (g_he M) i o))], [], mL (g_cd M) (g_n M) (g_pr M) (g_st M) (g_he M) (g_wt M) (g_wn M) (g_cv M) (g_qs M) (g_qu M) (g_v5 M) (g_v6 M) (g_v7 M))) ok_r_waitBits rfl ?_
        rw [lor0, nI_1]
        have e : mcF (g_he M) t o (nI (g_wn M t)) (f + 1) i a = mcF (g_he M) t o (nI (g_wn M t)) f (i + 1) a := by rw [mcF]; simp [hx]
        rw [e]
        refine aq_drop 6 ?_
        exact ih (i + 1) (by omega) _
      · have hx := q_ne h2
        refine aq_gn (n := 1) (c1 := (48, [some (.ref 0), some (.int (nI t)), some (.long a), none, some (.int (nI o)), some (.int (nI i)), some (.int (mdI (g_he M) i o))], [.int (mdI (g_he M) i o), .long a], mL (g_cd M) (g_n M) (g_pr M) (g_st M) (g_he M) (g_wt M) (g_wn M) (g_cv M) (g_qs M) (g_qu M) (g_v5 M) (g_v6 M) (g_v7 M))) ok_r_waitBits rfl ?_
        refine aq_if_lt ok_r_waitBits rfl (fun h3 => ?_) (fun h3 => ?_)
        · refine aq_gn (n := 5) (c1 := (20, [some (.ref 0), some (.int (nI t)), some (.long (a ||| 0)), none, some (.int (nI o)), some (.int ((nI i) + 1)), some (.int (mdI (g_he M) i o))], [], mL (g_cd M) (g_n M) (g_pr M) (g_st M) (g_he M) (g_wt M) (g_wn M) (g_cv M) (g_qs M) (g_qu M) (g_v5 M) (g_v6 M) (g_v7 M))) ok_r_waitBits rfl ?_
          rw [lor0, nI_1]
          have e : mcF (g_he M) t o (nI (g_wn M t)) (f + 1) i a = mcF (g_he M) t o (nI (g_wn M t)) f (i + 1) a := by rw [mcF]; rw [if_neg (fun q => q.2.1 h3)]
          rw [e]
          refine aq_drop 6 ?_
          exact ih (i + 1) (by omega) _
        · refine aq_go (n := 5) (c1 := (59, [some (.ref 0), some (.int (nI t)), some (.long a), none, some (.int (nI o)), some (.int (nI i)), some (.int (mdI (g_he M) i o))], [.int (nI ((g_wn M) (nI t).toNatClampNeg)), .int (mdI (g_he M) i o), .long a], mL (g_cd M) (g_n M) (g_pr M) (g_st M) (g_he M) (g_wt M) (g_wn M) (g_cv M) (g_qs M) (g_qu M) (g_v5 M) (g_v6 M) (g_v7 M))) (P := vp_in (nI t) 60) ok_r_waitBits rfl (in60 ht) ?_
          rw [cl60 ht]
          refine aq_callS (as := [.int (mdI (g_he M) i o), .int (nI ((g_wn M) t))]) (st := [.long a]) ok_r_waitBits rfl c1_r_together (rm_together (mdI (g_he M) i o) (nI (g_wn M t))) rfl (Nat.le_of_ble_eq_true rfl) ?_
          refine aq_if_ne ok_r_waitBits rfl (fun h4 => ?_) (fun h4 => ?_)
          · have hg : tgI (mdI (g_he M) i o) (nI (g_wn M t)) = true := by cases hy : tgI (mdI (g_he M) i o) (nI (g_wn M t)) with | true => rfl | false => exact absurd ((bI_0 _).mpr hy) h4
            refine aq_gn (n := 5) (c1 := (20, [some (.ref 0), some (.int (nI t)), some (.long (a ||| 0)), none, some (.int (nI o)), some (.int ((nI i) + 1)), some (.int (mdI (g_he M) i o))], [], mL (g_cd M) (g_n M) (g_pr M) (g_st M) (g_he M) (g_wt M) (g_wn M) (g_cv M) (g_qs M) (g_qu M) (g_v5 M) (g_v6 M) (g_v7 M))) ok_r_waitBits rfl ?_
            rw [lor0, nI_1]
            have e : mcF (g_he M) t o (nI (g_wn M t)) (f + 1) i a = mcF (g_he M) t o (nI (g_wn M t)) f (i + 1) a := by rw [mcF]; rw [if_neg (fun q => by rw [hg] at q; cases q.2.2)]
            rw [e]
            refine aq_drop 6 ?_
            exact ih (i + 1) (by omega) _
          · have hg := (bI_0 _).mp h4
            refine aq_gn (n := 8) (c1 := (20, [some (.ref 0), some (.int (nI t)), some (.long (a ||| (lbit i))), none, some (.int (nI o)), some (.int ((nI i) + 1)), some (.int (mdI (g_he M) i o))], [], mL (g_cd M) (g_n M) (g_pr M) (g_st M) (g_he M) (g_wt M) (g_wn M) (g_cv M) (g_qs M) (g_qu M) (g_v5 M) (g_v6 M) (g_v7 M))) ok_r_waitBits rfl ?_
            rw [nI_1]
            have e : mcF (g_he M) t o (nI (g_wn M t)) (f + 1) i a = mcF (g_he M) t o (nI (g_wn M t)) f (i + 1) (a ||| lbit i) := by rw [mcF]; rw [if_pos ⟨hx, h3, hg⟩]
            rw [e]
            refine aq_drop 6 ?_
            exact ih (i + 1) (by omega) _
set_option maxHeartbeats 4000000 in
theorem rm_waitBits {d : Nat} {M : MSt} {t : Nat} (hM : WM M) (hQ : WQ M) (ht : t < 60) : AM r_waitBits (d + 1) (.inl (some (.long (mwb M t)))) [.ref 0, .int (nI t)] (wM M) (wM M) := by
  refine aq_enter pl_r_waitBits (Nat.le_of_ble_eq_true rfl) ?_
  refine aq_go (n := 8) (c1 := (12, [some (.ref 0), some (.int (nI t)), some (.long 0), none, some (.int (oI ((g_wt M) (nI t).toNatClampNeg))), none, none], [.int (oI ((g_wt M) (nI t).toNatClampNeg))], mL (g_cd M) (g_n M) (g_pr M) (g_st M) (g_he M) (g_wt M) (g_wn M) (g_cv M) (g_qs M) (g_qu M) (g_v5 M) (g_v6 M) (g_v7 M))) (P := vp_in (nI t) 60) ok_r_waitBits rfl (in60 ht) ?_
  rw [cl60 ht]
  refine aq_if_ge ok_r_waitBits rfl (fun h => ?_) (fun h => ?_)
  · obtain ⟨o, hx⟩ : ∃ o, g_wt M t = some o := by cases hy : g_wt M t with | none => rw [hy] at h; exact absurd h (by decide) | some o => exact ⟨o, rfl⟩
    have ho := hM.2.2.2.1 t o hx
    obtain ⟨j, hj1, hj2⟩ := hQ t o hx
    have e : mwb M t = mbF (g_qu M) t (g_qs M o) (60 * o) (mcF (g_he M) t o (nI (g_wn M t)) (g_n M) 0 0) := by unfold mwb; rw [hx]
    rw [e, hx]
    show AW r_waitBits _ _ _ (17, [some (.ref 0), some (.int (nI t)), some (.long 0), none, some (.int (nI o)), none, none], [], mL (g_cd M) (g_n M) (g_pr M) (g_st M) (g_he M) (g_wt M) (g_wn M) (g_cv M) (g_qs M) (g_qu M) (g_v5 M) (g_v6 M) (g_v7 M))
    refine aq_gn (n := 2) (c1 := (20, [some (.ref 0), some (.int (nI t)), some (.long 0), none, some (.int (nI o)), some (.int (nI 0)), none], [], mL (g_cd M) (g_n M) (g_pr M) (g_st M) (g_he M) (g_wt M) (g_wn M) (g_cv M) (g_qs M) (g_qu M) (g_v5 M) (g_v6 M) (g_v7 M))) ok_r_waitBits rfl ?_
    exact lp_wb1 hM hM.1 ht ho ⟨60 * o + j, by omega, by omega, hj2⟩ (g_n M) 0 (by omega) 0
  · have hx : g_wt M t = none := by cases hy : g_wt M t with | none => rfl | some o => rw [hy] at h; exact absurd (nI_pos' (by have := hM.2.2.2.1 t o hy; omega)) h
    refine aq_gn (n := 1) (c1 := (16, [some (.ref 0), some (.int (nI t)), some (.long 0), none, some (.int (oI ((g_wt M) t))), none, none], [.long 0], wM M)) ok_r_waitBits rfl ?_
    exact aq_el ok_r_waitBits rfl rfl (by unfold mwb; rw [hx]) rfl
end
section
/-! THE REFERENCE: bits by shifts, reach -/
theorem sh_d : ∀ u, u < 64 → (((nI u).toInt64 &&& 63).toBitVec.smod 64).toNat = u := by decide +kernel
theorem lb_one : ∀ i, i < 64 → lb 1 i = decide (i = 0) := by decide +kernel
theorem sh0 (x : Int64) {u : Nat} (hu : u < 64) : lb (x >>> ((nI u).toInt64 &&& 63)) 0 = lb x u := by
  unfold lb
  rw [Int64.toBitVec_shiftRight, BitVec.getLsbD_sshiftRight']
  have e : ((((nI u).toInt64 &&& 63).toBitVec).smod 64).toNat = u := sh_d u hu
  rw [e]
  simp [hu]
theorem sh1 {x : Int64} {u : Nat} (hu : u < 64) : (x >>> ((nI u).toInt64 &&& 63)) &&& 1 = 1 ↔ lb x u = true := by
  constructor
  · intro h
    have h1 : lb ((x >>> ((nI u).toInt64 &&& 63)) &&& 1) 0 = true := by rw [h]; decide +kernel
    rw [lb_and, sh0 x hu] at h1
    simp only [Bool.and_eq_true] at h1
    exact h1.1
  · intro h
    refine lb_ext (fun i hi => ?_)
    rw [lb_and, lb_one i hi]
    by_cases e : i = 0
    · subst e
      rw [sh0 x hu, h]
      simp
    · simp [e]
def riF (q : Nat → Int64) (z : Int64) : Nat → Nat → Int64 → Int64
  | 0, _, a => a
  | f + 1, u, a => riF q z f (u + 1) (if lb z u then a ||| q u else a)
def rst (q : Nat → Int64) (n : Nat) (a : Int64) : Int64 := riF q a n 0 a
def rcF (q : Nat → Int64) (n : Nat) : Nat → Int64 → Int64
  | 0, a => a
  | f + 1, a => if rst q n a = a then a else rcF q n f (rst q n a)
def stab (q : Nat → Int64) (n : Nat) : Nat → Int64 → Prop
  | 0, a => rst q n a = a
  | f + 1, a => rst q n a = a ∨ stab q n f (rst q n a)
theorem riF_0 (q : Nat → Int64) : ∀ f u : Nat, ∀ a, riF q 0 f u a = a := by
  intro f
  induction f with
  | zero => intro u a; rfl
  | succ f ih => intro u a; unfold riF; rw [lb_0]; exact ih _ _
theorem rst_0 (q : Nat → Int64) (n : Nat) : rst q n 0 = 0 := riF_0 q n 0 0
def rch (M : MSt) (t : Nat) : Int64 := rcF (mwb M) (g_n M) 64 (mwb M t)
theorem rcF_fix {q : Nat → Int64} {n : Nat} {a : Int64} (h : rst q n a = a) : ∀ f, rcF q n f a = a := by
  intro f
  cases f with
  | zero => rfl
  | succ f => unfold rcF; rw [if_pos h]
def vcF (M : MSt) (t : Nat) (c : Int64) : Nat → Nat → Option Nat → Option Nat
  | 0, _, b => b
  | f + 1, u, b => if lb c t then vcF M t c f (u + 1) (if lb c u = true ∧ lb (rch M u) t = true ∧ (∀ v, b = some v → g_pr M u ≤ g_pr M v) then some u else b) else b
def mvic (M : MSt) (t : Nat) : Option Nat := vcF M t (rch M t) (g_n M) 0 none
/-- every search ends -/
def WR (M : MSt) : Prop := ∀ u, stab (mwb M) (g_n M) 64 (mwb M u)
end
section
/-! THE REFERENCE: reach, victimOf -/
set_option maxHeartbeats 4000000 in
theorem lp_reach1 {d : Nat} {M : MSt} {t : Nat} {z : Int64} {O : aq_O} (hM : WM M) (hQ : WQ M) (hn : g_n M ≤ 60) : ∀ (f i : Nat), i + f = g_n M → ∀ a : Int64, AW r_reach (d + 2) O (wM M) (9, [some (.ref 0), some (.int (nI t)), some (.long (riF (mwb M) z f i a)), none, some (.long z), none, none], [], wM M) → AW r_reach (d + 2) O (wM M) (22, [some (.ref 0), some (.int (nI t)), some (.long a), none, some (.long z), none, some (.int (nI i))], [], wM M) := by
  intro f
  induction f with
  | zero =>
    intro i hif a K
    refine aq_gn (n := 3) (c1 := (28, [some (.ref 0), some (.int (nI t)), some (.long a), none, some (.long z), none, some (.int (nI i))], [.int (nI (g_n M)), .int (nI i)], mL (g_cd M) (g_n M) (g_pr M) (g_st M) (g_he M) (g_wt M) (g_wn M) (g_cv M) (g_qs M) (g_qu M) (g_v5 M) (g_v6 M) (g_v7 M))) ok_r_reach rfl ?_
    refine aq_icmp_ge ok_r_reach rfl (fun h => ?_) (fun h => ?_)
    · refine aq_gn (n := 1) (c1 := (9, [some (.ref 0), some (.int (nI t)), some (.long a), none, some (.long z), none, some (.int (nI i))], [], wM M)) ok_r_reach rfl ?_
      refine aq_drop 6 ?_
      exact K
    · exact absurd (nI_le (show g_n M ≤ i by omega) (by omega)) h
  | succ f ih =>
    intro i hif a K
    refine aq_gn (n := 3) (c1 := (28, [some (.ref 0), some (.int (nI t)), some (.long a), none, some (.long z), none, some (.int (nI i))], [.int (nI (g_n M)), .int (nI i)], mL (g_cd M) (g_n M) (g_pr M) (g_st M) (g_he M) (g_wt M) (g_wn M) (g_cv M) (g_qs M) (g_qu M) (g_v5 M) (g_v6 M) (g_v7 M))) ok_r_reach rfl ?_
    refine aq_icmp_ge ok_r_reach rfl (fun h => ?_) (fun h => ?_)
    · exact absurd (q_le h (by omega) (by omega)) (by omega)
    · refine aq_gn (n := 8) (c1 := (41, [some (.ref 0), some (.int (nI t)), some (.long a), none, some (.long z), none, some (.int (nI i))], [.int (lg_cmp ((z >>> ((nI i).toInt64 &&& 63)) &&& 1) 1), .long a], wM M)) ok_r_reach rfl ?_
      refine aq_if_ne ok_r_reach rfl (fun h2 => ?_) (fun h2 => ?_)
      · have hb : lb z i = false := by cases hy : lb z i with | false => rfl | true => exact absurd ((lg_cmp_0 _ _).mpr ((sh1 (show i < 64 by omega)).mpr hy)) h2
        refine aq_gn (n := 5) (c1 := (22, [some (.ref 0), some (.int (nI t)), some (.long (a ||| 0)), none, some (.long z), none, some (.int ((nI i) + 1))], [], wM M)) ok_r_reach rfl ?_
        rw [lor0, nI_1]
        have e : riF (mwb M) z (f + 1) i a = riF (mwb M) z f (i + 1) a := by rw [riF, hb]; rfl
        rw [e] at K
        exact ih (i + 1) (by omega) _ K
      · have hb : lb z i = true := (sh1 (show i < 64 by omega)).mp ((lg_cmp_0 _ _).mp h2)
        refine aq_gn (n := 2) (c1 := (47, [some (.ref 0), some (.int (nI t)), some (.long a), none, some (.long z), none, some (.int (nI i))], [.int (nI i), .ref 0, .long a], wM M)) ok_r_reach rfl ?_
        refine aq_callV (as := [.int (nI i)]) (st := [.long a]) ok_r_reach rfl c1_r_waitBits (rm_waitBits hM hQ (show i < 60 by omega)) rfl (Nat.le_of_ble_eq_true rfl) rfl rfl rfl ?_
        refine aq_gn (n := 5) (c1 := (22, [some (.ref 0), some (.int (nI t)), some (.long (a ||| (mwb M i))), none, some (.long z), none, some (.int ((nI i) + 1))], [], wM M)) ok_r_reach rfl ?_
        rw [nI_1]
        have e : riF (mwb M) z (f + 1) i a = riF (mwb M) z f (i + 1) (a ||| mwb M i) := by rw [riF, hb]; rfl
        rw [e] at K
        exact ih (i + 1) (by omega) _ K
set_option maxHeartbeats 4000000 in
theorem lp_reach {d : Nat} {M : MSt} {t : Nat} (hM : WM M) (hQ : WQ M) : ∀ (f : Nat) (a z : Int64), stab (mwb M) (g_n M) f a → (a = z → rst (mwb M) (g_n M) a = a) → AW r_reach (d + 2) (.inl (some (.long (rcF (mwb M) (g_n M) f a)))) (wM M) (9, [some (.ref 0), some (.int (nI t)), some (.long a), none, some (.long z), none, none], [], wM M) := by
  intro f
  induction f with
  | zero =>
    intro a z hs hz
    refine aq_gn (n := 3) (c1 := (13, [some (.ref 0), some (.int (nI t)), some (.long a), none, some (.long z), none, none], [.int (lg_cmp a z)], wM M)) ok_r_reach rfl ?_
    refine aq_if_eq ok_r_reach rfl (fun h => ?_) (fun h => ?_)
    · have he := hz ((lg_cmp_0 _ _).mp h)
      rw [rcF_fix he]
      refine aq_gn (n := 1) (c1 := (66, [some (.ref 0), some (.int (nI t)), some (.long a), none, some (.long z), none, none], [.long a], wM M)) ok_r_reach rfl ?_
      exact aq_el ok_r_reach rfl rfl rfl rfl
    · refine aq_gn (n := 4) (c1 := (22, [some (.ref 0), some (.int (nI t)), some (.long a), none, some (.long a), none, some (.int (nI 0))], [], wM M)) ok_r_reach rfl ?_
      refine lp_reach1 (t := t) hM hQ hM.1 (g_n M) 0 (by omega) a ?_
      show AW r_reach _ _ _ (9, [some (.ref 0), some (.int (nI t)), some (.long (rst (mwb M) (g_n M) a)), none, some (.long a), none, none], [], wM M)
      have hf : rst (mwb M) (g_n M) a = a := hs
      rw [rcF_fix hf, hf]
      refine aq_gn (n := 3) (c1 := (13, [some (.ref 0), some (.int (nI t)), some (.long a), none, some (.long a), none, none], [.int (lg_cmp a a)], wM M)) ok_r_reach rfl ?_
      refine aq_if_eq ok_r_reach rfl (fun h3 => ?_) (fun h3 => ?_)
      · refine aq_gn (n := 1) (c1 := (66, [some (.ref 0), some (.int (nI t)), some (.long a), none, some (.long a), none, none], [.long a], wM M)) ok_r_reach rfl ?_
        exact aq_el ok_r_reach rfl rfl rfl rfl
      · exact absurd ((lg_cmp_0 _ _).mpr rfl) h3
  | succ f ih =>
    intro a z hs hz
    refine aq_gn (n := 3) (c1 := (13, [some (.ref 0), some (.int (nI t)), some (.long a), none, some (.long z), none, none], [.int (lg_cmp a z)], wM M)) ok_r_reach rfl ?_
    refine aq_if_eq ok_r_reach rfl (fun h => ?_) (fun h => ?_)
    · have he := hz ((lg_cmp_0 _ _).mp h)
      rw [rcF_fix he]
      refine aq_gn (n := 1) (c1 := (66, [some (.ref 0), some (.int (nI t)), some (.long a), none, some (.long z), none, none], [.long a], wM M)) ok_r_reach rfl ?_
      exact aq_el ok_r_reach rfl rfl rfl rfl
    · refine aq_gn (n := 4) (c1 := (22, [some (.ref 0), some (.int (nI t)), some (.long a), none, some (.long a), none, some (.int (nI 0))], [], wM M)) ok_r_reach rfl ?_
      refine lp_reach1 (t := t) hM hQ hM.1 (g_n M) 0 (by omega) a ?_
      show AW r_reach _ _ _ (9, [some (.ref 0), some (.int (nI t)), some (.long (rst (mwb M) (g_n M) a)), none, some (.long a), none, none], [], wM M)
      by_cases hf : rst (mwb M) (g_n M) a = a
      · rw [rcF_fix hf, hf]
        refine aq_gn (n := 3) (c1 := (13, [some (.ref 0), some (.int (nI t)), some (.long a), none, some (.long a), none, none], [.int (lg_cmp a a)], wM M)) ok_r_reach rfl ?_
        refine aq_if_eq ok_r_reach rfl (fun h3 => ?_) (fun h3 => ?_)
        · refine aq_gn (n := 1) (c1 := (66, [some (.ref 0), some (.int (nI t)), some (.long a), none, some (.long a), none, none], [.long a], wM M)) ok_r_reach rfl ?_
          exact aq_el ok_r_reach rfl rfl rfl rfl
        · exact absurd ((lg_cmp_0 _ _).mpr rfl) h3
      · have e : rcF (mwb M) (g_n M) (f + 1) a = rcF (mwb M) (g_n M) f (rst (mwb M) (g_n M) a) := by rw [rcF, if_neg hf]
        rw [e]
        exact ih _ _ (hs.resolve_left hf) (fun q => absurd q hf)
set_option maxHeartbeats 4000000 in
theorem rm_reach {d : Nat} {M : MSt} {t : Nat} (hM : WM M) (hQ : WQ M) (hR : WR M) (ht : t < 60) : AM r_reach (d + 2) (.inl (some (.long (rch M t)))) [.ref 0, .int (nI t)] (wM M) (wM M) := by
  refine aq_enter pl_r_reach (Nat.le_of_ble_eq_true rfl) ?_
  refine aq_gn (n := 2) (c1 := (2, [some (.ref 0), some (.int (nI t)), none, none, none, none, none], [.int (nI t), .ref 0], wM M)) ok_r_reach rfl ?_
  refine aq_callV (as := [.int (nI t)]) (st := []) ok_r_reach rfl c1_r_waitBits (rm_waitBits hM hQ ht) rfl (Nat.le_of_ble_eq_true rfl) rfl rfl rfl ?_
  refine aq_gn (n := 3) (c1 := (9, [some (.ref 0), some (.int (nI t)), some (.long (mwb M t)), none, some (.long 0), none, none], [], wM M)) ok_r_reach rfl ?_
  exact lp_reach hM hQ 64 _ _ (hR t) (fun q => by rw [q]; exact rst_0 _ _)
set_option maxHeartbeats 4000000 in
theorem lp_victim {d : Nat} {M : MSt} {t : Nat} {c : Int64} (hM : WM M) (hQ : WQ M) (hR : WR M) (hn : g_n M ≤ 60) (ht : t < 60) : ∀ (f i : Nat), i + f = g_n M → ∀ w : Option Nat, (∀ u, w = some u → u < i) → AW r_victimOf (d + 3) (.inl (some (.int (oI (vcF M t c f i w))))) (wM M) (12, [some (.ref 0), some (.int (nI t)), some (.long c), none, some (.int (oI w)), some (.int (nI i)), none], [], mL (g_cd M) (g_n M) (g_pr M) (g_st M) (g_he M) (g_wt M) (g_wn M) (g_cv M) (g_qs M) (g_qu M) (g_v5 M) (g_v6 M) (g_v7 M)) := by
  intro f
  induction f with
  | zero =>
    intro i hif w hw
    refine aq_gn (n := 3) (c1 := (18, [some (.ref 0), some (.int (nI t)), some (.long c), none, some (.int (oI w)), some (.int (nI i)), none], [.int (nI (g_n M)), .int (nI i)], mL (g_cd M) (g_n M) (g_pr M) (g_st M) (g_he M) (g_wt M) (g_wn M) (g_cv M) (g_qs M) (g_qu M) (g_v5 M) (g_v6 M) (g_v7 M))) ok_r_victimOf rfl ?_
    refine aq_icmp_ge ok_r_victimOf rfl (fun h => ?_) (fun h => ?_)
    · refine aq_gn (n := 1) (c1 := (108, [some (.ref 0), some (.int (nI t)), some (.long c), none, some (.int (oI w)), some (.int (nI i)), none], [.int (oI w)], wM M)) ok_r_victimOf rfl ?_
      exact aq_ei ok_r_victimOf rfl rfl rfl rfl
    · exact absurd (nI_le (show g_n M ≤ i by omega) (by omega)) h
  | succ f ih =>
    intro i hif w hw
    refine aq_gn (n := 3) (c1 := (18, [some (.ref 0), some (.int (nI t)), some (.long c), none, some (.int (oI w)), some (.int (nI i)), none], [.int (nI (g_n M)), .int (nI i)], mL (g_cd M) (g_n M) (g_pr M) (g_st M) (g_he M) (g_wt M) (g_wn M) (g_cv M) (g_qs M) (g_qu M) (g_v5 M) (g_v6 M) (g_v7 M))) ok_r_victimOf rfl ?_
    refine aq_icmp_ge ok_r_victimOf rfl (fun h => ?_) (fun h => ?_)
    · exact absurd (q_le h (by omega) (by omega)) (by omega)
    · refine aq_gn (n := 7) (c1 := (28, [some (.ref 0), some (.int (nI t)), some (.long c), none, some (.int (oI w)), some (.int (nI i)), none], [.int (lg_cmp ((c >>> ((nI t).toInt64 &&& 63)) &&& 1) 1)], mL (g_cd M) (g_n M) (g_pr M) (g_st M) (g_he M) (g_wt M) (g_wn M) (g_cv M) (g_qs M) (g_qu M) (g_v5 M) (g_v6 M) (g_v7 M))) ok_r_victimOf rfl ?_
      refine aq_if_ne ok_r_victimOf rfl (fun h2 => ?_) (fun h2 => ?_)
      · have hb : lb c t = false := by cases hy : lb c t with | false => rfl | true => exact absurd ((lg_cmp_0 _ _).mpr ((sh1 (show t < 64 by omega)).mpr hy)) h2
        refine aq_gn (n := 1) (c1 := (108, [some (.ref 0), some (.int (nI t)), some (.long c), none, some (.int (oI w)), some (.int (nI i)), none], [.int (oI w)], wM M)) ok_r_victimOf rfl ?_
        exact aq_ei ok_r_victimOf rfl rfl (by rw [vcF, hb]; rfl) rfl
      · have hb : lb c t = true := (sh1 (show t < 64 by omega)).mp ((lg_cmp_0 _ _).mp h2)
        refine aq_gn (n := 7) (c1 := (39, [some (.ref 0), some (.int (nI t)), some (.long c), none, some (.int (oI w)), some (.int (nI i)), none], [.int (lg_cmp ((c >>> ((nI i).toInt64 &&& 63)) &&& 1) 1)], mL (g_cd M) (g_n M) (g_pr M) (g_st M) (g_he M) (g_wt M) (g_wn M) (g_cv M) (g_qs M) (g_qu M) (g_v5 M) (g_v6 M) (g_v7 M))) ok_r_victimOf rfl ?_
        refine aq_if_ne ok_r_victimOf rfl (fun h3 => ?_) (fun h3 => ?_)
        · have hc : lb c i = false := by cases hy : lb c i with | false => rfl | true => exact absurd ((lg_cmp_0 _ _).mpr ((sh1 (show i < 64 by omega)).mpr hy)) h3
          refine aq_gn (n := 3) (c1 := (66, [some (.ref 0), some (.int (nI t)), some (.long c), none, some (.int (oI w)), some (.int (nI i)), some (.int (nI 0))], [.int (nI 0)], mL (g_cd M) (g_n M) (g_pr M) (g_st M) (g_he M) (g_wt M) (g_wn M) (g_cv M) (g_qs M) (g_qu M) (g_v5 M) (g_v6 M) (g_v7 M))) ok_r_victimOf rfl ?_
          refine aq_if_eq ok_r_victimOf rfl (fun h5 => ?_) (fun h5 => ?_)
          · refine aq_gn (n := 4) (c1 := (12, [some (.ref 0), some (.int (nI t)), some (.long c), none, some (.int (oI w)), some (.int ((nI i) + 1)), some (.int (nI 0))], [], mL (g_cd M) (g_n M) (g_pr M) (g_st M) (g_he M) (g_wt M) (g_wn M) (g_cv M) (g_qs M) (g_qu M) (g_v5 M) (g_v6 M) (g_v7 M))) ok_r_victimOf rfl ?_
            rw [nI_1]
            have e : vcF M t c (f + 1) i w = vcF M t c f (i + 1) w := by rw [vcF, if_pos hb, if_neg (fun q => by rw [hc] at q; cases q.1)]
            rw [e]
            refine aq_drop 6 ?_
            exact ih (i + 1) (by omega) w (fun u q => Nat.lt_succ_of_lt (hw u q))
          · exact absurd rfl h5
        · have hc : lb c i = true := (sh1 (show i < 64 by omega)).mp ((lg_cmp_0 _ _).mp h3)
          refine aq_gn (n := 2) (c1 := (45, [some (.ref 0), some (.int (nI t)), some (.long c), none, some (.int (oI w)), some (.int (nI i)), none], [.int (nI i), .ref 0], wM M)) ok_r_victimOf rfl ?_
          refine aq_callV (as := [.int (nI i)]) (st := []) ok_r_victimOf rfl c1_r_reach (rm_reach hM hQ hR (show i < 60 by omega)) rfl (Nat.le_of_ble_eq_true rfl) rfl rfl rfl ?_
          refine aq_gn (n := 6) (c1 := (54, [some (.ref 0), some (.int (nI t)), some (.long c), none, some (.int (oI w)), some (.int (nI i)), none], [.int (lg_cmp (((rch M i) >>> ((nI t).toInt64 &&& 63)) &&& 1) 1)], mL (g_cd M) (g_n M) (g_pr M) (g_st M) (g_he M) (g_wt M) (g_wn M) (g_cv M) (g_qs M) (g_qu M) (g_v5 M) (g_v6 M) (g_v7 M))) ok_r_victimOf rfl ?_
          refine aq_if_ne ok_r_victimOf rfl (fun h4 => ?_) (fun h4 => ?_)
          · have hd : lb (rch M i) t = false := by cases hy : lb (rch M i) t with | false => rfl | true => exact absurd ((lg_cmp_0 _ _).mpr ((sh1 (show t < 64 by omega)).mpr hy)) h4
            refine aq_gn (n := 3) (c1 := (66, [some (.ref 0), some (.int (nI t)), some (.long c), none, some (.int (oI w)), some (.int (nI i)), some (.int (nI 0))], [.int (nI 0)], mL (g_cd M) (g_n M) (g_pr M) (g_st M) (g_he M) (g_wt M) (g_wn M) (g_cv M) (g_qs M) (g_qu M) (g_v5 M) (g_v6 M) (g_v7 M))) ok_r_victimOf rfl ?_
            refine aq_if_eq ok_r_victimOf rfl (fun h5 => ?_) (fun h5 => ?_)
            · refine aq_gn (n := 4) (c1 := (12, [some (.ref 0), some (.int (nI t)), some (.long c), none, some (.int (oI w)), some (.int ((nI i) + 1)), some (.int (nI 0))], [], mL (g_cd M) (g_n M) (g_pr M) (g_st M) (g_he M) (g_wt M) (g_wn M) (g_cv M) (g_qs M) (g_qu M) (g_v5 M) (g_v6 M) (g_v7 M))) ok_r_victimOf rfl ?_
              rw [nI_1]
              have e : vcF M t c (f + 1) i w = vcF M t c f (i + 1) w := by rw [vcF, if_pos hb, if_neg (fun q => by rw [hd] at q; cases q.2.1)]
              rw [e]
              refine aq_drop 6 ?_
              exact ih (i + 1) (by omega) w (fun u q => Nat.lt_succ_of_lt (hw u q))
            · exact absurd rfl h5
          · have hd : lb (rch M i) t = true := (sh1 (show t < 64 by omega)).mp ((lg_cmp_0 _ _).mp h4)
            refine aq_gn (n := 4) (c1 := (66, [some (.ref 0), some (.int (nI t)), some (.long c), none, some (.int (oI w)), some (.int (nI i)), some (.int (nI 1))], [.int (nI 1)], mL (g_cd M) (g_n M) (g_pr M) (g_st M) (g_he M) (g_wt M) (g_wn M) (g_cv M) (g_qs M) (g_qu M) (g_v5 M) (g_v6 M) (g_v7 M))) ok_r_victimOf rfl ?_
            refine aq_if_eq ok_r_victimOf rfl (fun h5 => ?_) (fun h5 => ?_)
            · exact absurd h5 (by decide)
            · refine aq_gn (n := 1) (c1 := (71, [some (.ref 0), some (.int (nI t)), some (.long c), none, some (.int (oI w)), some (.int (nI i)), some (.int (nI 1))], [.int (oI w)], mL (g_cd M) (g_n M) (g_pr M) (g_st M) (g_he M) (g_wt M) (g_wn M) (g_cv M) (g_qs M) (g_qu M) (g_v5 M) (g_v6 M) (g_v7 M))) ok_r_victimOf rfl ?_
              refine aq_if_lt ok_r_victimOf rfl (fun h6 => ?_) (fun h6 => ?_)
              · have hx : w = none := by cases w with | none => rfl | some u => exact absurd h6 (nI_pos (by have := hw u rfl; omega))
                refine aq_gn (n := 5) (c1 := (12, [some (.ref 0), some (.int (nI t)), some (.long c), none, some (.int (nI i)), some (.int ((nI i) + 1)), some (.int (nI 1))], [], mL (g_cd M) (g_n M) (g_pr M) (g_st M) (g_he M) (g_wt M) (g_wn M) (g_cv M) (g_qs M) (g_qu M) (g_v5 M) (g_v6 M) (g_v7 M))) ok_r_victimOf rfl ?_
                rw [nI_1]
                have e : vcF M t c (f + 1) i w = vcF M t c f (i + 1) (some i) := by rw [vcF, if_pos hb, if_pos (⟨hc, hd, fun u q => by rw [hx] at q; cases q⟩)]
                rw [e]
                refine aq_drop 6 ?_
                exact ih (i + 1) (by omega) (some i) (fun u q => by cases q; omega)
              · obtain ⟨u, hx⟩ : ∃ u, w = some u := by cases w with | none => exact absurd (by decide) h6 | some u => exact ⟨u, rfl⟩
                have hu := hw u hx
                subst hx
                show AW r_victimOf _ _ _ (74, [some (.ref 0), some (.int (nI t)), some (.long c), none, some (.int (nI u)), some (.int (nI i)), some (.int (nI 1))], [], mL (g_cd M) (g_n M) (g_pr M) (g_st M) (g_he M) (g_wt M) (g_wn M) (g_cv M) (g_qs M) (g_qu M) (g_v5 M) (g_v6 M) (g_v7 M))
                refine aq_go (n := 8) (c1 := (88, [some (.ref 0), some (.int (nI t)), some (.long c), none, some (.int (nI u)), some (.int (nI i)), some (.int (nI 1))], [.int (nI ((g_pr M) (nI u).toNatClampNeg)), .int (nI ((g_pr M) (nI i).toNatClampNeg))], mL (g_cd M) (g_n M) (g_pr M) (g_st M) (g_he M) (g_wt M) (g_wn M) (g_cv M) (g_qs M) (g_qu M) (g_v5 M) (g_v6 M) (g_v7 M))) (P := vp_in (nI i) 60 ∧ vp_in (nI u) 60) ok_r_victimOf rfl ⟨(in60 (by omega)), (in60 (by omega))⟩ ?_
                rw [cl60 (show i < 60 by omega), cl60 (show u < 60 by omega)]
                refine aq_icmp_gt ok_r_victimOf rfl (fun h7 => ?_) (fun h7 => ?_)
                · have hy := q_lt h7 (by have := hM.2.2.2.2.2.1 u; omega) (by have := hM.2.2.2.2.2.1 i; omega)
                  refine aq_gn (n := 4) (c1 := (12, [some (.ref 0), some (.int (nI t)), some (.long c), none, some (.int (nI u)), some (.int ((nI i) + 1)), some (.int (nI 1))], [], mL (g_cd M) (g_n M) (g_pr M) (g_st M) (g_he M) (g_wt M) (g_wn M) (g_cv M) (g_qs M) (g_qu M) (g_v5 M) (g_v6 M) (g_v7 M))) ok_r_victimOf rfl ?_
                  rw [nI_1]
                  have e : vcF M t c (f + 1) i (some u) = vcF M t c f (i + 1) (some u) := by rw [vcF, if_pos hb, if_neg (fun q => by have := q.2.2 u rfl; omega)]
                  rw [e]
                  refine aq_drop 6 ?_
                  exact ih (i + 1) (by omega) (some u) (fun v q => by cases q; omega)
                · have hy := q_nlt h7 (by have := hM.2.2.2.2.2.1 u; omega) (by have := hM.2.2.2.2.2.1 i; omega)
                  refine aq_gn (n := 5) (c1 := (12, [some (.ref 0), some (.int (nI t)), some (.long c), none, some (.int (nI i)), some (.int ((nI i) + 1)), some (.int (nI 1))], [], mL (g_cd M) (g_n M) (g_pr M) (g_st M) (g_he M) (g_wt M) (g_wn M) (g_cv M) (g_qs M) (g_qu M) (g_v5 M) (g_v6 M) (g_v7 M))) ok_r_victimOf rfl ?_
                  rw [nI_1]
                  have e : vcF M t c (f + 1) i (some u) = vcF M t c f (i + 1) (some i) := by rw [vcF, if_pos hb, if_pos ⟨hc, hd, fun v q => by cases q; exact hy⟩]
                  rw [e]
                  refine aq_drop 6 ?_
                  exact ih (i + 1) (by omega) (some i) (fun v q => by cases q; omega)
set_option maxHeartbeats 4000000 in
theorem rm_victim {d : Nat} {M : MSt} {t : Nat} (hM : WM M) (hQ : WQ M) (hR : WR M) (ht : t < 60) : AM r_victimOf (d + 3) (.inl (some (.int (oI (mvic M t))))) [.ref 0, .int (nI t)] (wM M) (wM M) := by
  refine aq_enter pl_r_victimOf (Nat.le_of_ble_eq_true rfl) ?_
  refine aq_gn (n := 2) (c1 := (2, [some (.ref 0), some (.int (nI t)), none, none, none, none, none], [.int (nI t), .ref 0], wM M)) ok_r_victimOf rfl ?_
  refine aq_callV (as := [.int (nI t)]) (st := []) ok_r_victimOf rfl c1_r_reach (rm_reach hM hQ hR ht) rfl (Nat.le_of_ble_eq_true rfl) rfl rfl rfl ?_
  refine aq_gn (n := 5) (c1 := (12, [some (.ref 0), some (.int (nI t)), some (.long (rch M t)), none, some (.int (-1)), some (.int (nI 0)), none], [], wM M)) ok_r_victimOf rfl ?_
  exact lp_victim hM hQ hR hM.1 ht (g_n M) 0 (by omega) none (fun u q => by cases q)
end
section
/-! THE REFERENCE: endIt, begin, commit, abort -/
def m_cd (M : MSt) (c : Nat) : MSt := (c, M.2)
def m_he (M : MSt) (h : Nat → Option Nat) : MSt := (g_cd M, g_n M, g_pr M, g_st M, h, g_wt M, g_wn M, g_cv M, g_qs M, g_qu M, g_v5 M, g_v6 M, g_v7 M)
def m_ws (M : MSt) (t x : Nat) : MSt := (g_cd M, g_n M, g_pr M, va_up (g_st M) t x, g_he M, va_up (g_wt M) t none, g_wn M, g_cv M, g_qs M, g_qu M, g_v5 M, g_v6 M, g_v7 M)
def m_dq (M : MSt) (t o : Nat) : MSt := (g_cd M, g_n M, g_pr M, g_st M, g_he M, g_wt M, g_wn M, g_cv M, va_up (g_qs M) o ((lqF t (g_qs M o) (60 * o) (60 * o) (g_qu M)).2 - 60 * o), (lqF t (g_qs M o) (60 * o) (60 * o) (g_qu M)).1, g_v5 M, g_v6 M, g_v7 M)
def m_7 (M : MSt) (c : Nat) : MSt := (g_cd M, g_n M, g_pr M, g_st M, g_he M, g_wt M, g_wn M, g_cv M, g_qs M, g_qu M, g_v5 M, g_v6 M, g_v7 M + c)
def m_6 (M : MSt) (c : Nat) : MSt := (g_cd M, g_n M, g_pr M, g_st M, g_he M, g_wt M, g_wn M, g_cv M, g_qs M, g_qu M, g_v5 M, g_v6 M + c, g_v7 M)
def m_5 (M : MSt) : MSt := (g_cd M, g_n M, g_pr M, g_st M, g_he M, g_wt M, g_wn M, g_cv M, g_qs M, g_qu M, g_v5 M + 1, g_v6 M, g_v7 M)
def mlv (M : MSt) (t : Nat) : MSt := match g_wt M t with
  | none => M
  | some o => m_dq M t o
def e1F (t : Nat) (a : Option Nat) : Nat → Nat → (Nat → Option Nat) → (Nat → Option Nat)
  | 0, _, h => h
  | f + 1, i, h => e1F t a f (i + 1) (va_up h (60 * i + t) (if 0 < oI (h (60 * i + t)) ∨ a = some i then none else some 0))
def e2F (t : Nat) : Nat → Nat → Nat → MSt → MSt × Nat
  | 0, _, c, M => (M, c)
  | f + 1, i, c, M => if g_he M (60 * i + t) = none then e2F t f (i + 1) (c + (ms (m_he M (va_up (g_he M) (60 * i + t) (some 0))) i).2) (ms (m_he M (va_up (g_he M) (60 * i + t) (some 0))) i).1 else e2F t f (i + 1) c M
def mfn (E : MSt × Nat) : MSt × Nat := (m_7 E.1 E.2, E.2)
def mend (M : MSt) (t x : Nat) : MSt × Nat := mfn (e2F t 85 0 0 (m_he (m_ws (mlv M t) t x) (e1F t (g_wt M t) 85 0 (g_he (mlv M t)))))
theorem WM_cd {M : MSt} (h : WM M) (c : Nat) : WM (m_cd M c) := h
theorem WM_5 {M : MSt} (h : WM M) : WM (m_5 M) := h
theorem WM_6 {M : MSt} (h : WM M) (c : Nat) : WM (m_6 M c) := h
theorem WM_7 {M : MSt} (h : WM M) (c : Nat) : WM (m_7 M c) := h
theorem WM_he {M : MSt} (h : WM M) {f : Nat → Option Nat} (hf : ∀ i x, f i = some x → x < 6) : WM (m_he M f) := ⟨h.1, h.2.1, h.2.2.1, h.2.2.2.1, h.2.2.2.2.1, h.2.2.2.2.2.1, h.2.2.2.2.2.2.1, hf⟩
theorem WM_he0 {M : MSt} (h : WM M) (j : Nat) : WM (m_he M (va_up (g_he M) j (some 0))) := WM_he h (va_up_ol h.2.2.2.2.2.2.2 (fun x q => by cases q; omega))
theorem WM_ws {M : MSt} (h : WM M) (t : Nat) {x : Nat} (hx : x < 4) : WM (m_ws M t x) := ⟨h.1, h.2.1, h.2.2.1, va_up_ol h.2.2.2.1 (fun x q => by cases q), fun u => va_up_lt h.2.2.2.2.1 hx u, h.2.2.2.2.2.1, h.2.2.2.2.2.2.1, h.2.2.2.2.2.2.2⟩
theorem WM_dq {M : MSt} (h : WM M) (t o : Nat) : WM (m_dq M t o) := by
  refine ⟨h.1, lqF_lt _ _ _ _ h.2.1, fun q => ?_, h.2.2.2⟩
  show va_up (g_qs M) o _ q ≤ 60
  unfold va_up
  split
  · have := lqF_le (t := t) (g_qs M o) (60 * o) (60 * o) (g_qu M)
    have := h.2.2.1 o
    omega
  · exact h.2.2.1 q
theorem WM_mlv {M : MSt} (h : WM M) (t : Nat) : WM (mlv M t) := by
  unfold mlv
  split
  · exact h
  · exact WM_dq h _ _
theorem e1F_lt {t : Nat} {a : Option Nat} : ∀ (f i : Nat) (h : Nat → Option Nat), (∀ i x, h i = some x → x < 6) → ∀ j x, e1F t a f i h j = some x → x < 6 := by
  intro f
  induction f with
  | zero => intro i h hh; exact hh
  | succ f ih =>
    intro i h hh
    unfold e1F
    exact ih _ _ (va_up_ol hh (fun x q => by split at q <;> cases q; omega))
theorem WM_e2F {t : Nat} : ∀ (f i c : Nat) (M : MSt), WM M → WM (e2F t f i c M).1 := by
  intro f
  induction f with
  | zero => intro i c M h; exact h
  | succ f ih =>
    intro i c M h
    unfold e2F
    split
    · exact ih _ _ _ (WM_ms (WM_he0 h _) i)
    · exact ih _ _ _ h
theorem WM_mend {M : MSt} (h : WM M) (t : Nat) {x : Nat} (hx : x < 4) : WM (mend M t x).1 := WM_7 (WM_e2F _ _ _ _ (WM_he (WM_ws (WM_mlv h t) t hx) (e1F_lt _ _ _ (WM_mlv h t).2.2.2.2.2.2.2))) _
theorem oI_eq' {x : Option Nat} {o : Nat} (h : nI o = oI x) (ho : o < 2 ^ 31) (hb : ∀ n, x = some n → n < 2 ^ 31) : x = some o := oI_eq h.symm ho hb
theorem oI_ne' {x : Option Nat} {o : Nat} (h : ¬ nI o = oI x) : ¬ x = some o := oI_ne (fun q => h q.symm)
theorem oI_ge {x : Option Nat} (h : 0 ≤ oI x) : ∃ n, x = some n := by
  cases x with
  | none => exact absurd h (by decide)
  | some n => exact ⟨n, rfl⟩
theorem oI_nge {x : Option Nat} (h : ¬ 0 ≤ oI x) (hb : ∀ n, x = some n → n < 2 ^ 31) : x = none := by
  cases x with
  | none => rfl
  | some n => exact absurd (nI_pos' (hb n rfl)) h
theorem nI_m1 (c : Nat) : (nI c) + (nI 1) - (nI 1) = nI c := by rw [Int32.add_sub_cancel]
set_option maxHeartbeats 4000000 in
theorem lp_e1 {d : Nat} {M : MSt} {t : Nat} {y : Int32} {a : Option Nat} {O : aq_O} {w' : List va_E} (ht : t < 60) (ha : ∀ x, a = some x → x < 85) : ∀ (f i : Nat), i + f = 85 → ∀ h : Nat → Option Nat, AW r_endIt (d + 3) O w' (88, [some (.ref 0), some (.int (nI t)), some (.int y), some (.int (oI a)), some (.int (nI 0)), none], [], wM (m_he M (e1F t a f i h))) → AW r_endIt (d + 3) O w' (37, [some (.ref 0), some (.int (nI t)), some (.int y), some (.int (oI a)), some (.int (nI 0)), some (.int (nI i))], [], wM (m_he M h)) := by
  intro f
  induction f with
  | zero =>
    intro i hif he K
    refine aq_gn (n := 2) (c1 := (41, [some (.ref 0), some (.int (nI t)), some (.int y), some (.int (oI a)), some (.int (nI 0)), some (.int (nI i))], [.int (nI 85), .int (nI i)], wM (m_he M he))) ok_r_endIt rfl ?_
    refine aq_icmp_ge ok_r_endIt rfl (fun h => ?_) (fun h => ?_)
    · refine aq_drop 5 ?_
      exact K
    · exact absurd (nI_le (show 85 ≤ i by omega) (by omega)) h
  | succ f ih =>
    intro i hif he K
    show AW r_endIt _ _ _ (37, [some (.ref 0), some (.int (nI t)), some (.int y), some (.int (oI a)), some (.int (nI 0)), some (.int (nI i))], [], mL (g_cd M) (g_n M) (g_pr M) (g_st M) he (g_wt M) (g_wn M) (g_cv M) (g_qs M) (g_qu M) (g_v5 M) (g_v6 M) (g_v7 M))
    refine aq_gn (n := 2) (c1 := (41, [some (.ref 0), some (.int (nI t)), some (.int y), some (.int (oI a)), some (.int (nI 0)), some (.int (nI i))], [.int (nI 85), .int (nI i)], mL (g_cd M) (g_n M) (g_pr M) (g_st M) he (g_wt M) (g_wn M) (g_cv M) (g_qs M) (g_qu M) (g_v5 M) (g_v6 M) (g_v7 M))) ok_r_endIt rfl ?_
    refine aq_icmp_ge ok_r_endIt rfl (fun h => ?_) (fun h => ?_)
    · exact absurd (q_le h (by omega) (by omega)) (by omega)
    · refine aq_go (n := 15) (c1 := (67, [some (.ref 0), some (.int (nI t)), some (.int y), some (.int (oI a)), some (.int (nI 0)), some (.int (nI i))], [.int (oI (he (((nI 60) * (nI i)) + (nI t)).toNatClampNeg)), .int (((nI 60) * (nI i)) + (nI t)), .ref 3], mL (g_cd M) (g_n M) (g_pr M) (g_st M) he (g_wt M) (g_wn M) (g_cv M) (g_qs M) (g_qu M) (g_v5 M) (g_v6 M) (g_v7 M))) (P := vp_in (((nI 60) * (nI i)) + (nI t)) 5100) ok_r_endIt rfl (in6 (show i < 85 by omega) ht) ?_
      rw [cl6 (show i < 85 by omega) ht]
      refine aq_if_gt ok_r_endIt rfl (fun h2 => ?_) (fun h2 => ?_)
      · refine aq_gn (n := 1) (c1 := (77, [some (.ref 0), some (.int (nI t)), some (.int y), some (.int (oI a)), some (.int (nI 0)), some (.int (nI i))], [.int (-1), .int (((nI 60) * (nI i)) + (nI t)), .ref 3], mL (g_cd M) (g_n M) (g_pr M) (g_st M) he (g_wt M) (g_wn M) (g_cv M) (g_qs M) (g_qu M) (g_v5 M) (g_v6 M) (g_v7 M))) ok_r_endIt rfl ?_
        refine aq_go (n := 4) (c1 := (37, [some (.ref 0), some (.int (nI t)), some (.int y), some (.int (oI a)), some (.int (nI 0)), some (.int ((nI i) + 1))], [], mR (nI (g_cd M)) (nI (g_n M)) (fun ι => nI ((g_pr M) ι)) (fun ι => nI ((g_st M) ι)) (upd (fun ι => oI (he ι)) (((nI 60) * (nI i)) + (nI t)).toNatClampNeg (-1)) (fun ι => oI ((g_wt M) ι)) (fun ι => nI ((g_wn M) ι)) (fun ι => bI ((g_cv M) ι)) (fun ι => nI ((g_qs M) ι)) (fun ι => nI ((g_qu M) ι)) (nI (g_v5 M)) (nI (g_v6 M)) (nI (g_v7 M)))) (P := vp_in (((nI 60) * (nI i)) + (nI t)) 5100) ok_r_endIt rfl (in6 (show i < 85 by omega) ht) ?_
        rw [cl6 (show i < 85 by omega) ht, upd_m, nI_1]
        have e : e1F t a (f + 1) i he = e1F t a f (i + 1) (va_up he (60 * i + t) (none)) := by rw [e1F, if_pos (.inl h2)]
        rw [e] at K
        exact ih (i + 1) (by omega) _ K
      · refine aq_gn (n := 2) (c1 := (73, [some (.ref 0), some (.int (nI t)), some (.int y), some (.int (oI a)), some (.int (nI 0)), some (.int (nI i))], [.int (oI a), .int (nI i), .int (((nI 60) * (nI i)) + (nI t)), .ref 3], mL (g_cd M) (g_n M) (g_pr M) (g_st M) he (g_wt M) (g_wn M) (g_cv M) (g_qs M) (g_qu M) (g_v5 M) (g_v6 M) (g_v7 M))) ok_r_endIt rfl ?_
        refine aq_icmp_ne ok_r_endIt rfl (fun h3 => ?_) (fun h3 => ?_)
        · have hx := oI_ne' h3
          refine aq_go (n := 4) (c1 := (37, [some (.ref 0), some (.int (nI t)), some (.int y), some (.int (oI a)), some (.int (nI 0)), some (.int ((nI i) + 1))], [], mR (nI (g_cd M)) (nI (g_n M)) (fun ι => nI ((g_pr M) ι)) (fun ι => nI ((g_st M) ι)) (upd (fun ι => oI (he ι)) (((nI 60) * (nI i)) + (nI t)).toNatClampNeg (nI 0)) (fun ι => oI ((g_wt M) ι)) (fun ι => nI ((g_wn M) ι)) (fun ι => bI ((g_cv M) ι)) (fun ι => nI ((g_qs M) ι)) (fun ι => nI ((g_qu M) ι)) (nI (g_v5 M)) (nI (g_v6 M)) (nI (g_v7 M)))) (P := vp_in (((nI 60) * (nI i)) + (nI t)) 5100) ok_r_endIt rfl (in6 (show i < 85 by omega) ht) ?_
          rw [cl6 (show i < 85 by omega) ht, upd_o, nI_1]
          have e : e1F t a (f + 1) i he = e1F t a f (i + 1) (va_up he (60 * i + t) (some 0)) := by rw [e1F, if_neg (fun q => q.elim h2 hx)]
          rw [e] at K
          exact ih (i + 1) (by omega) _ K
        · have hx := oI_eq' h3 (by omega) (fun x q => by have := ha x q; omega)
          refine aq_go (n := 5) (c1 := (37, [some (.ref 0), some (.int (nI t)), some (.int y), some (.int (oI a)), some (.int (nI 0)), some (.int ((nI i) + 1))], [], mR (nI (g_cd M)) (nI (g_n M)) (fun ι => nI ((g_pr M) ι)) (fun ι => nI ((g_st M) ι)) (upd (fun ι => oI (he ι)) (((nI 60) * (nI i)) + (nI t)).toNatClampNeg (-1)) (fun ι => oI ((g_wt M) ι)) (fun ι => nI ((g_wn M) ι)) (fun ι => bI ((g_cv M) ι)) (fun ι => nI ((g_qs M) ι)) (fun ι => nI ((g_qu M) ι)) (nI (g_v5 M)) (nI (g_v6 M)) (nI (g_v7 M)))) (P := vp_in (((nI 60) * (nI i)) + (nI t)) 5100) ok_r_endIt rfl (in6 (show i < 85 by omega) ht) ?_
          rw [cl6 (show i < 85 by omega) ht, upd_m, nI_1]
          have e : e1F t a (f + 1) i he = e1F t a f (i + 1) (va_up he (60 * i + t) (none)) := by rw [e1F, if_pos (.inr hx)]
          rw [e] at K
          exact ih (i + 1) (by omega) _ K
set_option maxHeartbeats 4000000 in
theorem lp_e2 {d : Nat} {t : Nat} {y z : Int32} (ht : t < 60) : ∀ (f i : Nat), i + f = 85 → ∀ (c : Nat) (M : MSt), WM M → AW r_endIt (d + 3) (.inl (some (.int (nI (mfn (e2F t f i c M)).2)))) (wM (mfn (e2F t f i c M)).1) (91, [some (.ref 0), some (.int (nI t)), some (.int y), some (.int z), some (.int (nI c)), some (.int (nI i))], [], mL (g_cd M) (g_n M) (g_pr M) (g_st M) (g_he M) (g_wt M) (g_wn M) (g_cv M) (g_qs M) (g_qu M) (g_v5 M) (g_v6 M) (g_v7 M)) := by
  intro f
  induction f with
  | zero =>
    intro i hif c M hM
    refine aq_gn (n := 2) (c1 := (95, [some (.ref 0), some (.int (nI t)), some (.int y), some (.int z), some (.int (nI c)), some (.int (nI i))], [.int (nI 85), .int (nI i)], mL (g_cd M) (g_n M) (g_pr M) (g_st M) (g_he M) (g_wt M) (g_wn M) (g_cv M) (g_qs M) (g_qu M) (g_v5 M) (g_v6 M) (g_v7 M))) ok_r_endIt rfl ?_
    refine aq_icmp_ge ok_r_endIt rfl (fun h => ?_) (fun h => ?_)
    · show AW r_endIt _ _ _ (143, [some (.ref 0), some (.int (nI t)), some (.int y), some (.int z), some (.int (nI c)), some (.int (nI i))], [], mL (g_cd M) (g_n M) (g_pr M) (g_st M) (g_he M) (g_wt M) (g_wn M) (g_cv M) (g_qs M) (g_qu M) (g_v5 M) (g_v6 M) (g_v7 M))
      refine aq_go (n := 7) (c1 := (156, [some (.ref 0), some (.int (nI t)), some (.int y), some (.int z), some (.int (nI c)), some (.int (nI i))], [.int (nI c)], mR (nI (g_cd M)) (nI (g_n M)) (fun ι => nI ((g_pr M) ι)) (fun ι => nI ((g_st M) ι)) (fun ι => oI ((g_he M) ι)) (fun ι => oI ((g_wt M) ι)) (fun ι => nI ((g_wn M) ι)) (fun ι => bI ((g_cv M) ι)) (fun ι => nI ((g_qs M) ι)) (fun ι => nI ((g_qu M) ι)) (nI (g_v5 M)) (nI (g_v6 M)) ((nI (g_v7 M)) + (nI c)))) (P := aq_fi 1 12 = true) ok_r_endIt rfl fi1_12 ?_
      rw [nI_add]
      exact aq_ei ok_r_endIt rfl rfl rfl rfl
    · exact absurd (nI_le (show 85 ≤ i by omega) (by omega)) h
  | succ f ih =>
    intro i hif c M hM
    refine aq_gn (n := 2) (c1 := (95, [some (.ref 0), some (.int (nI t)), some (.int y), some (.int z), some (.int (nI c)), some (.int (nI i))], [.int (nI 85), .int (nI i)], mL (g_cd M) (g_n M) (g_pr M) (g_st M) (g_he M) (g_wt M) (g_wn M) (g_cv M) (g_qs M) (g_qu M) (g_v5 M) (g_v6 M) (g_v7 M))) ok_r_endIt rfl ?_
    refine aq_icmp_ge ok_r_endIt rfl (fun h => ?_) (fun h => ?_)
    · exact absurd (q_le h (by omega) (by omega)) (by omega)
    · refine aq_go (n := 8) (c1 := (110, [some (.ref 0), some (.int (nI t)), some (.int y), some (.int z), some (.int (nI c)), some (.int (nI i))], [.int (oI ((g_he M) (((nI 60) * (nI i)) + (nI t)).toNatClampNeg))], mL (g_cd M) (g_n M) (g_pr M) (g_st M) (g_he M) (g_wt M) (g_wn M) (g_cv M) (g_qs M) (g_qu M) (g_v5 M) (g_v6 M) (g_v7 M))) (P := vp_in (((nI 60) * (nI i)) + (nI t)) 5100) ok_r_endIt rfl (in6 (show i < 85 by omega) ht) ?_
      rw [cl6 (show i < 85 by omega) ht]
      refine aq_if_ge ok_r_endIt rfl (fun h2 => ?_) (fun h2 => ?_)
      · obtain ⟨q, hq⟩ := oI_ge h2
        refine aq_gn (n := 2) (c1 := (91, [some (.ref 0), some (.int (nI t)), some (.int y), some (.int z), some (.int (nI c)), some (.int ((nI i) + 1))], [], mL (g_cd M) (g_n M) (g_pr M) (g_st M) (g_he M) (g_wt M) (g_wn M) (g_cv M) (g_qs M) (g_qu M) (g_v5 M) (g_v6 M) (g_v7 M))) ok_r_endIt rfl ?_
        rw [nI_1]
        have e : e2F t (f + 1) i c M = e2F t f (i + 1) c M := by rw [e2F, if_neg (by rw [hq]; intro q; cases q)]
        rw [e]
        exact ih (i + 1) (by omega) c M hM
      · have hq := oI_nge h2 (fun x q => by have := hM.2.2.2.2.2.2.2 _ x q; omega)
        refine aq_go (n := 12) (c1 := (131, [some (.ref 0), some (.int (nI t)), some (.int y), some (.int z), some (.int (nI c)), some (.int (nI i))], [.int (nI i), .ref 0, .int (nI c)], mR (nI (g_cd M)) (nI (g_n M)) (fun ι => nI ((g_pr M) ι)) (fun ι => nI ((g_st M) ι)) (upd (fun ι => oI ((g_he M) ι)) (((nI 60) * (nI i)) + (nI t)).toNatClampNeg (nI 0)) (fun ι => oI ((g_wt M) ι)) (fun ι => nI ((g_wn M) ι)) (fun ι => bI ((g_cv M) ι)) (fun ι => nI ((g_qs M) ι)) (fun ι => nI ((g_qu M) ι)) (nI (g_v5 M)) (nI (g_v6 M)) (nI (g_v7 M)))) (P := vp_in (((nI 60) * (nI i)) + (nI t)) 5100) ok_r_endIt rfl (in6 (show i < 85 by omega) ht) ?_
        rw [cl6 (show i < 85 by omega) ht, upd_o]
        obtain ⟨Q, hQ⟩ : ∃ Q, Q = m_he M (va_up (g_he M) (60 * i + t) (some 0)) := ⟨_, rfl⟩
        have hWQ : WM Q := by rw [hQ]; exact WM_he0 hM _
        have e : e2F t (f + 1) i c M = e2F t f (i + 1) (c + (ms Q i).2) (ms Q i).1 := by rw [e2F, if_pos hq, hQ]
        rw [e]
        show AW r_endIt _ _ _ (131, [some (.ref 0), some (.int (nI t)), some (.int y), some (.int z), some (.int (nI c)), some (.int (nI i))], [.int (nI i), .ref 0, .int (nI c)], wM (m_he M (va_up (g_he M) (60 * i + t) (some 0))))
        rw [← hQ]
        refine aq_callV (as := [.int (nI i)]) (st := [.int (nI c)]) ok_r_endIt rfl c1_r_serve (rm_serve hWQ (show i < 85 by omega)) rfl (Nat.le_of_ble_eq_true rfl) rfl rfl rfl ?_
        refine aq_gn (n := 4) (c1 := (91, [some (.ref 0), some (.int (nI t)), some (.int y), some (.int z), some (.int ((nI c) + (nI (ms Q i).2))), some (.int ((nI i) + 1))], [], wM (ms Q i).1)) ok_r_endIt rfl ?_
        rw [nI_add, nI_1]
        exact ih (i + 1) (by omega) _ _ (WM_ms hWQ i)
set_option maxHeartbeats 4000000 in
theorem rm_endIt {d : Nat} {M : MSt} {t x : Nat} (hM : WM M) (ht : t < 60) (hx4 : x < 4) : AM r_endIt (d + 3) (.inl (some (.int (nI (mend M t x).2)))) [.ref 0, .int (nI t), .int (nI x)] (wM M) (wM (mend M t x).1) := by
  refine aq_enter pl_r_endIt (Nat.le_of_ble_eq_true rfl) ?_
  show AW r_endIt _ _ _ (0, [some (.ref 0), some (.int (nI t)), some (.int (nI x)), none, none, none], [], mL (g_cd M) (g_n M) (g_pr M) (g_st M) (g_he M) (g_wt M) (g_wn M) (g_cv M) (g_qs M) (g_qu M) (g_v5 M) (g_v6 M) (g_v7 M))
  refine aq_go (n := 6) (c1 := (8, [some (.ref 0), some (.int (nI t)), some (.int (nI x)), some (.int (oI ((g_wt M) (nI t).toNatClampNeg))), none, none], [.int (oI ((g_wt M) (nI t).toNatClampNeg))], mL (g_cd M) (g_n M) (g_pr M) (g_st M) (g_he M) (g_wt M) (g_wn M) (g_cv M) (g_qs M) (g_qu M) (g_v5 M) (g_v6 M) (g_v7 M))) (P := vp_in (nI t) 60) ok_r_endIt rfl (in60 ht) ?_
  rw [cl60 ht]
  refine aq_if_lt ok_r_endIt rfl (fun h => ?_) (fun h => ?_)
  · have hx : g_wt M t = none := by cases hy : g_wt M t with | none => rfl | some o => rw [hy] at h; exact absurd h (nI_pos (by have := hM.2.2.2.1 t o hy; omega))
    rw [hx]
    show AW r_endIt _ _ _ (17, [some (.ref 0), some (.int (nI t)), some (.int (nI x)), some (.int (oI none)), none, none], [], mL (g_cd M) (g_n M) (g_pr M) (g_st M) (g_he M) (g_wt M) (g_wn M) (g_cv M) (g_qs M) (g_qu M) (g_v5 M) (g_v6 M) (g_v7 M))
    obtain ⟨L, hL⟩ : ∃ L, L = M := ⟨_, rfl⟩
    have hWL : WM L := by rw [hL]; exact hM
    have e : mend M t x = mfn (e2F t 85 0 0 (m_he (m_ws L t x) (e1F t (none) 85 0 (g_he L)))) := by rw [mend, mlv, hx, hL]
    rw [e]
    show AW r_endIt _ _ _ (17, [some (.ref 0), some (.int (nI t)), some (.int (nI x)), some (.int (oI none)), none, none], [], wM (M))
    rw [← hL]
    show AW r_endIt _ _ _ (17, [some (.ref 0), some (.int (nI t)), some (.int (nI x)), some (.int (oI none)), none, none], [], mL (g_cd L) (g_n L) (g_pr L) (g_st L) (g_he L) (g_wt L) (g_wn L) (g_cv L) (g_qs L) (g_qu L) (g_v5 L) (g_v6 L) (g_v7 L))
    refine aq_go (n := 14) (c1 := (37, [some (.ref 0), some (.int (nI t)), some (.int (nI x)), some (.int (oI none)), some (.int (nI 0)), some (.int (nI 0))], [], mR (nI (g_cd L)) (nI (g_n L)) (fun ι => nI ((g_pr L) ι)) (upd (fun ι => nI ((g_st L) ι)) (nI t).toNatClampNeg (nI x)) (fun ι => oI ((g_he L) ι)) (upd (fun ι => oI ((g_wt L) ι)) (nI t).toNatClampNeg (-1)) (fun ι => nI ((g_wn L) ι)) (fun ι => bI ((g_cv L) ι)) (fun ι => nI ((g_qs L) ι)) (fun ι => nI ((g_qu L) ι)) (nI (g_v5 L)) (nI (g_v6 L)) (nI (g_v7 L)))) (P := vp_in (nI t) 60 ∧ vp_in (nI t) 60) ok_r_endIt rfl ⟨(in60 ht), (in60 ht)⟩ ?_
    rw [cl60 ht, upd_m, upd_n]
    refine lp_e1 (M := m_ws L t x) ht (fun x q => by cases q) 85 0 (by omega) (g_he L) ?_
    obtain ⟨Q, hQ⟩ : ∃ Q, Q = m_he (m_ws L t x) (e1F t (none) 85 0 (g_he L)) := ⟨_, rfl⟩
    have hWQ : WM Q := by rw [hQ]; exact WM_he (WM_ws hWL t hx4) (e1F_lt _ _ _ hWL.2.2.2.2.2.2.2)
    rw [← hQ]
    refine aq_gn (n := 2) (c1 := (91, [some (.ref 0), some (.int (nI t)), some (.int (nI x)), some (.int (oI (none))), some (.int (nI 0)), some (.int (nI 0))], [], wM Q)) ok_r_endIt rfl ?_
    exact lp_e2 ht 85 0 (by omega) 0 Q hWQ
  · obtain ⟨o, hx⟩ : ∃ o, g_wt M t = some o := by cases hy : g_wt M t with | none => rw [hy] at h; exact absurd (by decide) h | some o => exact ⟨o, rfl⟩
    have ho := hM.2.2.2.1 t o hx
    rw [hx]
    show AW r_endIt _ _ _ (11, [some (.ref 0), some (.int (nI t)), some (.int (nI x)), some (.int (nI o)), none, none], [], mL (g_cd M) (g_n M) (g_pr M) (g_st M) (g_he M) (g_wt M) (g_wn M) (g_cv M) (g_qs M) (g_qu M) (g_v5 M) (g_v6 M) (g_v7 M))
    refine aq_gn (n := 3) (c1 := (14, [some (.ref 0), some (.int (nI t)), some (.int (nI x)), some (.int (nI o)), none, none], [.int (nI o), .int (nI t), .ref 0], mL (g_cd M) (g_n M) (g_pr M) (g_st M) (g_he M) (g_wt M) (g_wn M) (g_cv M) (g_qs M) (g_qu M) (g_v5 M) (g_v6 M) (g_v7 M))) ok_r_endIt rfl ?_
    refine aq_callV (as := [.int (nI t), .int (nI o)]) (st := []) ok_r_endIt rfl c1_r_dequeue (rm_dequeue (d := d + 2) ht ho (hM.2.2.1 o) hM.2.1) rfl (Nat.le_of_ble_eq_true rfl) rfl rfl rfl ?_
    obtain ⟨L, hL⟩ : ∃ L, L = m_dq M t o := ⟨_, rfl⟩
    have hWL : WM L := by rw [hL]; exact WM_dq hM t o
    have e : mend M t x = mfn (e2F t 85 0 0 (m_he (m_ws L t x) (e1F t (some o) 85 0 (g_he L)))) := by rw [mend, mlv, hx, hL]
    rw [e]
    show AW r_endIt _ _ _ (17, [some (.ref 0), some (.int (nI t)), some (.int (nI x)), some (.int (oI (some o))), none, none], [], wM (m_dq M t o))
    rw [← hL]
    show AW r_endIt _ _ _ (17, [some (.ref 0), some (.int (nI t)), some (.int (nI x)), some (.int (oI (some o))), none, none], [], mL (g_cd L) (g_n L) (g_pr L) (g_st L) (g_he L) (g_wt L) (g_wn L) (g_cv L) (g_qs L) (g_qu L) (g_v5 L) (g_v6 L) (g_v7 L))
    refine aq_go (n := 14) (c1 := (37, [some (.ref 0), some (.int (nI t)), some (.int (nI x)), some (.int (oI (some o))), some (.int (nI 0)), some (.int (nI 0))], [], mR (nI (g_cd L)) (nI (g_n L)) (fun ι => nI ((g_pr L) ι)) (upd (fun ι => nI ((g_st L) ι)) (nI t).toNatClampNeg (nI x)) (fun ι => oI ((g_he L) ι)) (upd (fun ι => oI ((g_wt L) ι)) (nI t).toNatClampNeg (-1)) (fun ι => nI ((g_wn L) ι)) (fun ι => bI ((g_cv L) ι)) (fun ι => nI ((g_qs L) ι)) (fun ι => nI ((g_qu L) ι)) (nI (g_v5 L)) (nI (g_v6 L)) (nI (g_v7 L)))) (P := vp_in (nI t) 60 ∧ vp_in (nI t) 60) ok_r_endIt rfl ⟨(in60 ht), (in60 ht)⟩ ?_
    rw [cl60 ht, upd_m, upd_n]
    refine lp_e1 (M := m_ws L t x) ht (fun x q => by cases q; exact ho) 85 0 (by omega) (g_he L) ?_
    obtain ⟨Q, hQ⟩ : ∃ Q, Q = m_he (m_ws L t x) (e1F t (some o) 85 0 (g_he L)) := ⟨_, rfl⟩
    have hWQ : WM Q := by rw [hQ]; exact WM_he (WM_ws hWL t hx4) (e1F_lt _ _ _ hWL.2.2.2.2.2.2.2)
    rw [← hQ]
    refine aq_gn (n := 2) (c1 := (91, [some (.ref 0), some (.int (nI t)), some (.int (nI x)), some (.int (oI (some o))), some (.int (nI 0)), some (.int (nI 0))], [], wM Q)) ok_r_endIt rfl ?_
    exact lp_e2 ht 85 0 (by omega) 0 Q hWQ
end
section
/-! THE REFERENCE: begin, commit, abort, and what is told -/
theorem isT_in {n t : Nat} (h : t < n) (hn : n < 2 ^ 31) : isT n (nI t) = true := by
  unfold isT
  have h1 : ¬ nI t < 0 := nI_pos (by omega)
  have h2 : ¬ nI n ≤ nI t := fun q => absurd (q_le q hn (by omega)) (by omega)
  simp [h1, h2]
theorem isT_out {n : Nat} {x : Int32} (h : x < 0 ∨ nI n ≤ x) : isT n x = false := by
  unfold isT
  rcases h with h | h <;> simp [h]
def m_bg (M : MSt) (x : Nat) : MSt := (0, g_n M + 1, va_up (g_pr M) (g_n M) x, va_up (g_st M) (g_n M) 0, g_he M, va_up (g_wt M) (g_n M) none, g_wn M, g_cv M, g_qs M, g_qu M, g_v5 M, g_v6 M, g_v7 M)
theorem bI_t : ¬ bI true = 0 := by decide
theorem I_gt {x y : Int32} (h : x < y) : ¬ y ≤ x := fun q => absurd (Int32.lt_of_lt_of_le h q) (Int32.lt_irrefl)
theorem c_le1 : ¬ nI 1 ≤ 0 := by decide
theorem c_le2 : ¬ nI 2 ≤ 0 := by decide
theorem c_le3 : ¬ nI 3 ≤ 0 := by decide
theorem c_le0 : nI 0 ≤ 0 := by decide
set_option maxHeartbeats 4000000 in
theorem rm_begin_x {d : Nat} {M : MSt} {x : Int32} (hx : x < 0 ∨ nI 99 < x) : AM r_begin (d) (.inl (some (.int (nI 0)))) [.ref 0, .int x] (wM M) (wM (m_cd M 1)) := by
  refine aq_enter pl_r_begin (Nat.le_of_ble_eq_true rfl) ?_
  show AW r_begin _ _ _ (0, [some (.ref 0), some (.int x)], [], mL (g_cd M) (g_n M) (g_pr M) (g_st M) (g_he M) (g_wt M) (g_wn M) (g_cv M) (g_qs M) (g_qu M) (g_v5 M) (g_v6 M) (g_v7 M))
  refine aq_gn (n := 2) (c1 := (2, [some (.ref 0), some (.int x)], [.int x, .ref 0], mL (g_cd M) (g_n M) (g_pr M) (g_st M) (g_he M) (g_wt M) (g_wn M) (g_cv M) (g_qs M) (g_qu M) (g_v5 M) (g_v6 M) (g_v7 M))) ok_r_begin rfl ?_
  refine aq_if_lt ok_r_begin rfl (fun h => ?_) (fun h => ?_)
  · refine aq_go (n := 5) (c1 := (36, [some (.ref 0), some (.int x)], [.int (nI 1)], mR (nI 1) (nI (g_n M)) (fun ι => nI ((g_pr M) ι)) (fun ι => nI ((g_st M) ι)) (fun ι => oI ((g_he M) ι)) (fun ι => oI ((g_wt M) ι)) (fun ι => nI ((g_wn M) ι)) (fun ι => bI ((g_cv M) ι)) (fun ι => nI ((g_qs M) ι)) (fun ι => nI ((g_qu M) ι)) (nI (g_v5 M)) (nI (g_v6 M)) (nI (g_v7 M)))) (P := aq_fi 1 0 = true) ok_r_begin rfl fi1_0 ?_
    show AW r_begin _ _ _ (36, [some (.ref 0), some (.int x)], [.int (nI 1)], wM (m_cd M 1))
    refine aq_if_le ok_r_begin rfl (fun hz => ?_) (fun hz => ?_)
    · exact absurd hz c_le1
    · refine aq_gn (n := 1) (c1 := (40, [some (.ref 0), some (.int x)], [.int (nI 0)], wM (m_cd M 1))) ok_r_begin rfl ?_
      exact aq_ei ok_r_begin rfl rfl rfl rfl
  · refine aq_gn (n := 2) (c1 := (8, [some (.ref 0), some (.int x)], [.int (nI 99), .int x, .ref 0], mL (g_cd M) (g_n M) (g_pr M) (g_st M) (g_he M) (g_wt M) (g_wn M) (g_cv M) (g_qs M) (g_qu M) (g_v5 M) (g_v6 M) (g_v7 M))) ok_r_begin rfl ?_
    refine aq_icmp_le ok_r_begin rfl (fun h2 => ?_) (fun h2 => ?_)
    · exact absurd hx (fun q => q.elim h (fun q => I_gt q h2))
    · refine aq_go (n := 5) (c1 := (36, [some (.ref 0), some (.int x)], [.int (nI 1)], mR (nI 1) (nI (g_n M)) (fun ι => nI ((g_pr M) ι)) (fun ι => nI ((g_st M) ι)) (fun ι => oI ((g_he M) ι)) (fun ι => oI ((g_wt M) ι)) (fun ι => nI ((g_wn M) ι)) (fun ι => bI ((g_cv M) ι)) (fun ι => nI ((g_qs M) ι)) (fun ι => nI ((g_qu M) ι)) (nI (g_v5 M)) (nI (g_v6 M)) (nI (g_v7 M)))) (P := aq_fi 1 0 = true) ok_r_begin rfl fi1_0 ?_
      show AW r_begin _ _ _ (36, [some (.ref 0), some (.int x)], [.int (nI 1)], wM (m_cd M 1))
      refine aq_if_le ok_r_begin rfl (fun hz => ?_) (fun hz => ?_)
      · exact absurd hz c_le1
      · refine aq_gn (n := 1) (c1 := (40, [some (.ref 0), some (.int x)], [.int (nI 0)], wM (m_cd M 1))) ok_r_begin rfl ?_
        exact aq_ei ok_r_begin rfl rfl rfl rfl
set_option maxHeartbeats 4000000 in
theorem rm_begin_f {d : Nat} {M : MSt} {x : Nat} (hx : x ≤ 99) (hn : g_n M = 60) : AM r_begin (d) (.inl (some (.int (nI 0)))) [.ref 0, .int (nI x)] (wM M) (wM (m_cd M 2)) := by
  refine aq_enter pl_r_begin (Nat.le_of_ble_eq_true rfl) ?_
  show AW r_begin _ _ _ (0, [some (.ref 0), some (.int (nI x))], [], mL (g_cd M) (g_n M) (g_pr M) (g_st M) (g_he M) (g_wt M) (g_wn M) (g_cv M) (g_qs M) (g_qu M) (g_v5 M) (g_v6 M) (g_v7 M))
  refine aq_gn (n := 2) (c1 := (2, [some (.ref 0), some (.int (nI x))], [.int (nI x), .ref 0], mL (g_cd M) (g_n M) (g_pr M) (g_st M) (g_he M) (g_wt M) (g_wn M) (g_cv M) (g_qs M) (g_qu M) (g_v5 M) (g_v6 M) (g_v7 M))) ok_r_begin rfl ?_
  refine aq_if_lt ok_r_begin rfl (fun h => ?_) (fun h => ?_)
  · exact absurd h (nI_pos (by omega))
  · refine aq_gn (n := 2) (c1 := (8, [some (.ref 0), some (.int (nI x))], [.int (nI 99), .int (nI x), .ref 0], mL (g_cd M) (g_n M) (g_pr M) (g_st M) (g_he M) (g_wt M) (g_wn M) (g_cv M) (g_qs M) (g_qu M) (g_v5 M) (g_v6 M) (g_v7 M))) ok_r_begin rfl ?_
    refine aq_icmp_le ok_r_begin rfl (fun h2 => ?_) (fun h2 => ?_)
    · refine aq_gn (n := 3) (c1 := (21, [some (.ref 0), some (.int (nI x))], [.int (nI 60), .int (nI (g_n M)), .ref 0], mL (g_cd M) (g_n M) (g_pr M) (g_st M) (g_he M) (g_wt M) (g_wn M) (g_cv M) (g_qs M) (g_qu M) (g_v5 M) (g_v6 M) (g_v7 M))) ok_r_begin rfl ?_
      refine aq_icmp_ne ok_r_begin rfl (fun h3 => ?_) (fun h3 => ?_)
      · exact absurd (by rw [hn]) h3
      · refine aq_go (n := 5) (c1 := (36, [some (.ref 0), some (.int (nI x))], [.int (nI 2)], mR (nI 2) (nI (g_n M)) (fun ι => nI ((g_pr M) ι)) (fun ι => nI ((g_st M) ι)) (fun ι => oI ((g_he M) ι)) (fun ι => oI ((g_wt M) ι)) (fun ι => nI ((g_wn M) ι)) (fun ι => bI ((g_cv M) ι)) (fun ι => nI ((g_qs M) ι)) (fun ι => nI ((g_qu M) ι)) (nI (g_v5 M)) (nI (g_v6 M)) (nI (g_v7 M)))) (P := aq_fi 1 0 = true) ok_r_begin rfl fi1_0 ?_
        show AW r_begin _ _ _ (36, [some (.ref 0), some (.int (nI x))], [.int (nI 2)], wM (m_cd M 2))
        refine aq_if_le ok_r_begin rfl (fun hz => ?_) (fun hz => ?_)
        · exact absurd hz c_le2
        · refine aq_gn (n := 1) (c1 := (40, [some (.ref 0), some (.int (nI x))], [.int (nI 0)], wM (m_cd M 2))) ok_r_begin rfl ?_
          exact aq_ei ok_r_begin rfl rfl rfl rfl
    · exact absurd (nI_le hx (by omega)) h2
set_option maxHeartbeats 4000000 in
theorem rm_begin {d : Nat} {M : MSt} {x : Nat} (hx : x ≤ 99) (hn : g_n M < 60) : AM r_begin (d) (.inl (some (.int (nI (g_n M))))) [.ref 0, .int (nI x)] (wM M) (wM (m_bg M x)) := by
  refine aq_enter pl_r_begin (Nat.le_of_ble_eq_true rfl) ?_
  show AW r_begin _ _ _ (0, [some (.ref 0), some (.int (nI x))], [], mL (g_cd M) (g_n M) (g_pr M) (g_st M) (g_he M) (g_wt M) (g_wn M) (g_cv M) (g_qs M) (g_qu M) (g_v5 M) (g_v6 M) (g_v7 M))
  refine aq_gn (n := 2) (c1 := (2, [some (.ref 0), some (.int (nI x))], [.int (nI x), .ref 0], mL (g_cd M) (g_n M) (g_pr M) (g_st M) (g_he M) (g_wt M) (g_wn M) (g_cv M) (g_qs M) (g_qu M) (g_v5 M) (g_v6 M) (g_v7 M))) ok_r_begin rfl ?_
  refine aq_if_lt ok_r_begin rfl (fun h => ?_) (fun h => ?_)
  · exact absurd h (nI_pos (by omega))
  · refine aq_gn (n := 2) (c1 := (8, [some (.ref 0), some (.int (nI x))], [.int (nI 99), .int (nI x), .ref 0], mL (g_cd M) (g_n M) (g_pr M) (g_st M) (g_he M) (g_wt M) (g_wn M) (g_cv M) (g_qs M) (g_qu M) (g_v5 M) (g_v6 M) (g_v7 M))) ok_r_begin rfl ?_
    refine aq_icmp_le ok_r_begin rfl (fun h2 => ?_) (fun h2 => ?_)
    · refine aq_gn (n := 3) (c1 := (21, [some (.ref 0), some (.int (nI x))], [.int (nI 60), .int (nI (g_n M)), .ref 0], mL (g_cd M) (g_n M) (g_pr M) (g_st M) (g_he M) (g_wt M) (g_wn M) (g_cv M) (g_qs M) (g_qu M) (g_v5 M) (g_v6 M) (g_v7 M))) ok_r_begin rfl ?_
      refine aq_icmp_ne ok_r_begin rfl (fun h3 => ?_) (fun h3 => ?_)
      · refine aq_go (n := 4) (c1 := (36, [some (.ref 0), some (.int (nI x))], [.int (nI 0)], mR (nI 0) (nI (g_n M)) (fun ι => nI ((g_pr M) ι)) (fun ι => nI ((g_st M) ι)) (fun ι => oI ((g_he M) ι)) (fun ι => oI ((g_wt M) ι)) (fun ι => nI ((g_wn M) ι)) (fun ι => bI ((g_cv M) ι)) (fun ι => nI ((g_qs M) ι)) (fun ι => nI ((g_qu M) ι)) (nI (g_v5 M)) (nI (g_v6 M)) (nI (g_v7 M)))) (P := aq_fi 1 0 = true) ok_r_begin rfl fi1_0 ?_
        show AW r_begin _ _ _ (36, [some (.ref 0), some (.int (nI x))], [.int (nI 0)], wM (m_cd M 0))
        refine aq_if_le ok_r_begin rfl (fun h4 => ?_) (fun h4 => ?_)
        · show AW r_begin _ _ _ (41, [some (.ref 0), some (.int (nI x))], [], mL (g_cd (m_cd M 0)) (g_n (m_cd M 0)) (g_pr (m_cd M 0)) (g_st (m_cd M 0)) (g_he (m_cd M 0)) (g_wt (m_cd M 0)) (g_wn (m_cd M 0)) (g_cv (m_cd M 0)) (g_qs (m_cd M 0)) (g_qu (m_cd M 0)) (g_v5 (m_cd M 0)) (g_v6 (m_cd M 0)) (g_v7 (m_cd M 0)))
          refine aq_go (n := 28) (c1 := (87, [some (.ref 0), some (.int (nI x))], [.int (((nI (g_n (m_cd M 0))) + (nI 1)) - (nI 1))], mR (nI (g_cd (m_cd M 0))) ((nI (g_n (m_cd M 0))) + (nI 1)) (upd (fun ι => nI ((g_pr (m_cd M 0)) ι)) (nI (g_n (m_cd M 0))).toNatClampNeg (nI x)) (upd (fun ι => nI ((g_st (m_cd M 0)) ι)) (nI (g_n (m_cd M 0))).toNatClampNeg (nI 0)) (fun ι => oI ((g_he (m_cd M 0)) ι)) (upd (fun ι => oI ((g_wt (m_cd M 0)) ι)) (nI (g_n (m_cd M 0))).toNatClampNeg (-1)) (fun ι => nI ((g_wn (m_cd M 0)) ι)) (fun ι => bI ((g_cv (m_cd M 0)) ι)) (fun ι => nI ((g_qs (m_cd M 0)) ι)) (fun ι => nI ((g_qu (m_cd M 0)) ι)) (nI (g_v5 (m_cd M 0))) (nI (g_v6 (m_cd M 0))) (nI (g_v7 (m_cd M 0))))) (P := vp_in (nI (g_n (m_cd M 0))) 60 ∧ vp_in (nI (g_n (m_cd M 0))) 60 ∧ vp_in (nI (g_n (m_cd M 0))) 60 ∧ aq_fi 1 1 = true) ok_r_begin rfl ⟨(in60 hn), (in60 hn), (in60 hn), fi1_1⟩ ?_
          rw [cl60 (show g_n (m_cd M 0) < 60 from hn), upd_n, upd_n, upd_m, nI_m1, nI_add]
          show AW r_begin _ _ _ (87, [some (.ref 0), some (.int (nI x))], [.int (nI (g_n M))], wM (m_bg M x))
          exact aq_ei ok_r_begin rfl rfl rfl rfl
        · exact absurd c_le0 h4
      · exact absurd (q_eq h3 (by omega) (by omega)) (by omega)
    · exact absurd (nI_le hx (by omega)) h2
set_option maxHeartbeats 4000000 in
theorem rm_commit_t {d : Nat} {M : MSt} {x : Int32} (hx : x < 0 ∨ nI (g_n M) ≤ x) : AM r_commit (d + 1) (.inl (some (.int (nI 0)))) [.ref 0, .int x] (wM M) (wM (m_cd M 1)) := by
  refine aq_enter pl_r_commit (Nat.le_of_ble_eq_true rfl) ?_
  refine aq_gn (n := 3) (c1 := (3, [some (.ref 0), some (.int x)], [.int x, .ref 0, .ref 0], wM M)) ok_r_commit rfl ?_
  refine aq_callV (as := [.int x]) (st := [.ref 0]) ok_r_commit rfl c1_r_isTransaction (rm_isTransactionM x) rfl (Nat.le_of_ble_eq_true rfl) rfl rfl rfl ?_
  rw [isT_out hx]
  refine aq_if_ne ok_r_commit rfl (fun h => ?_) (fun h => ?_)
  · exact absurd rfl h
  · show AW r_commit _ _ _ (9, [some (.ref 0), some (.int x)], [.ref 0], mL (g_cd M) (g_n M) (g_pr M) (g_st M) (g_he M) (g_wt M) (g_wn M) (g_cv M) (g_qs M) (g_qu M) (g_v5 M) (g_v6 M) (g_v7 M))
    refine aq_go (n := 5) (c1 := (34, [some (.ref 0), some (.int x)], [.int (nI 1)], mR (nI 1) (nI (g_n M)) (fun ι => nI ((g_pr M) ι)) (fun ι => nI ((g_st M) ι)) (fun ι => oI ((g_he M) ι)) (fun ι => oI ((g_wt M) ι)) (fun ι => nI ((g_wn M) ι)) (fun ι => bI ((g_cv M) ι)) (fun ι => nI ((g_qs M) ι)) (fun ι => nI ((g_qu M) ι)) (nI (g_v5 M)) (nI (g_v6 M)) (nI (g_v7 M)))) (P := aq_fi 1 0 = true) ok_r_commit rfl fi1_0 ?_
    show AW r_commit _ _ _ (34, [some (.ref 0), some (.int x)], [.int (nI 1)], wM (m_cd M 1))
    refine aq_if_le ok_r_commit rfl (fun hz => ?_) (fun hz => ?_)
    · exact absurd hz c_le1
    · refine aq_gn (n := 2) (c1 := (47, [some (.ref 0), some (.int x)], [.int (nI 0)], wM (m_cd M 1))) ok_r_commit rfl ?_
      exact aq_ei ok_r_commit rfl rfl rfl rfl
set_option maxHeartbeats 4000000 in
theorem rm_commit_a {d : Nat} {M : MSt} {t : Nat} (hM : WM M) (ht : t < g_n M) (hs : ¬ g_st M t = 0) : AM r_commit (d + 1) (.inl (some (.int (nI 0)))) [.ref 0, .int (nI t)] (wM M) (wM (m_cd M 2)) := by
  refine aq_enter pl_r_commit (Nat.le_of_ble_eq_true rfl) ?_
  have ht6 : t < 60 := Nat.lt_of_lt_of_le ht hM.1
  refine aq_gn (n := 3) (c1 := (3, [some (.ref 0), some (.int (nI t))], [.int (nI t), .ref 0, .ref 0], wM M)) ok_r_commit rfl ?_
  refine aq_callV (as := [.int (nI t)]) (st := [.ref 0]) ok_r_commit rfl c1_r_isTransaction (rm_isTransactionM (nI t)) rfl (Nat.le_of_ble_eq_true rfl) rfl rfl rfl ?_
  rw [isT_in ht (show g_n M < 2 ^ 31 by have := hM.1; omega)]
  refine aq_if_ne ok_r_commit rfl (fun h => ?_) (fun h => ?_)
  · show AW r_commit _ _ _ (13, [some (.ref 0), some (.int (nI t))], [.ref 0], mL (g_cd M) (g_n M) (g_pr M) (g_st M) (g_he M) (g_wt M) (g_wn M) (g_cv M) (g_qs M) (g_qu M) (g_v5 M) (g_v6 M) (g_v7 M))
    refine aq_go (n := 4) (c1 := (19, [some (.ref 0), some (.int (nI t))], [.int (nI ((g_st M) (nI t).toNatClampNeg)), .ref 0], mL (g_cd M) (g_n M) (g_pr M) (g_st M) (g_he M) (g_wt M) (g_wn M) (g_cv M) (g_qs M) (g_qu M) (g_v5 M) (g_v6 M) (g_v7 M))) (P := vp_in (nI t) 60) ok_r_commit rfl (in60 ht6) ?_
    rw [cl60 ht6]
    refine aq_if_eq ok_r_commit rfl (fun h2 => ?_) (fun h2 => ?_)
    · exact absurd (q_eq (b := 0) h2 (by have := hM.2.2.2.2.1 t; omega) (by omega)) hs
    · refine aq_go (n := 5) (c1 := (34, [some (.ref 0), some (.int (nI t))], [.int (nI 2)], mR (nI 2) (nI (g_n M)) (fun ι => nI ((g_pr M) ι)) (fun ι => nI ((g_st M) ι)) (fun ι => oI ((g_he M) ι)) (fun ι => oI ((g_wt M) ι)) (fun ι => nI ((g_wn M) ι)) (fun ι => bI ((g_cv M) ι)) (fun ι => nI ((g_qs M) ι)) (fun ι => nI ((g_qu M) ι)) (nI (g_v5 M)) (nI (g_v6 M)) (nI (g_v7 M)))) (P := aq_fi 1 0 = true) ok_r_commit rfl fi1_0 ?_
      show AW r_commit _ _ _ (34, [some (.ref 0), some (.int (nI t))], [.int (nI 2)], wM (m_cd M 2))
      refine aq_if_le ok_r_commit rfl (fun hz => ?_) (fun hz => ?_)
      · exact absurd hz c_le2
      · refine aq_gn (n := 2) (c1 := (47, [some (.ref 0), some (.int (nI t))], [.int (nI 0)], wM (m_cd M 2))) ok_r_commit rfl ?_
        exact aq_ei ok_r_commit rfl rfl rfl rfl
  · exact absurd h bI_t
set_option maxHeartbeats 4000000 in
theorem rm_commit {d : Nat} {M : MSt} {t : Nat} (hM : WM M) (ht : t < g_n M) (hs : g_st M t = 0) : AM r_commit (d + 4) (.inl (some (.int (nI (mend (m_cd M 0) t 2).2)))) [.ref 0, .int (nI t)] (wM M) (wM (mend (m_cd M 0) t 2).1) := by
  refine aq_enter pl_r_commit (Nat.le_of_ble_eq_true rfl) ?_
  have ht6 : t < 60 := Nat.lt_of_lt_of_le ht hM.1
  refine aq_gn (n := 3) (c1 := (3, [some (.ref 0), some (.int (nI t))], [.int (nI t), .ref 0, .ref 0], wM M)) ok_r_commit rfl ?_
  refine aq_callV (as := [.int (nI t)]) (st := [.ref 0]) ok_r_commit rfl c1_r_isTransaction (rm_isTransactionM (nI t)) rfl (Nat.le_of_ble_eq_true rfl) rfl rfl rfl ?_
  rw [isT_in ht (show g_n M < 2 ^ 31 by have := hM.1; omega)]
  refine aq_if_ne ok_r_commit rfl (fun h => ?_) (fun h => ?_)
  · show AW r_commit _ _ _ (13, [some (.ref 0), some (.int (nI t))], [.ref 0], mL (g_cd M) (g_n M) (g_pr M) (g_st M) (g_he M) (g_wt M) (g_wn M) (g_cv M) (g_qs M) (g_qu M) (g_v5 M) (g_v6 M) (g_v7 M))
    refine aq_go (n := 4) (c1 := (19, [some (.ref 0), some (.int (nI t))], [.int (nI ((g_st M) (nI t).toNatClampNeg)), .ref 0], mL (g_cd M) (g_n M) (g_pr M) (g_st M) (g_he M) (g_wt M) (g_wn M) (g_cv M) (g_qs M) (g_qu M) (g_v5 M) (g_v6 M) (g_v7 M))) (P := vp_in (nI t) 60) ok_r_commit rfl (in60 ht6) ?_
    rw [cl60 ht6]
    refine aq_if_eq ok_r_commit rfl (fun h2 => ?_) (fun h2 => ?_)
    · refine aq_go (n := 4) (c1 := (34, [some (.ref 0), some (.int (nI t))], [.int (nI 0)], mR (nI 0) (nI (g_n M)) (fun ι => nI ((g_pr M) ι)) (fun ι => nI ((g_st M) ι)) (fun ι => oI ((g_he M) ι)) (fun ι => oI ((g_wt M) ι)) (fun ι => nI ((g_wn M) ι)) (fun ι => bI ((g_cv M) ι)) (fun ι => nI ((g_qs M) ι)) (fun ι => nI ((g_qu M) ι)) (nI (g_v5 M)) (nI (g_v6 M)) (nI (g_v7 M)))) (P := aq_fi 1 0 = true) ok_r_commit rfl fi1_0 ?_
      show AW r_commit _ _ _ (34, [some (.ref 0), some (.int (nI t))], [.int (nI 0)], wM (m_cd M 0))
      refine aq_if_le ok_r_commit rfl (fun hz => ?_) (fun hz => ?_)
      · refine aq_gn (n := 3) (c1 := (44, [some (.ref 0), some (.int (nI t))], [.int (nI 2), .int (nI t), .ref 0], wM (m_cd M 0))) ok_r_commit rfl ?_
        refine aq_callV (as := [.int (nI t), .int (nI 2)]) (st := []) ok_r_commit rfl c1_r_endIt (rm_endIt (d := d) (M := m_cd M 0) hM ht6 (by omega)) rfl (Nat.le_of_ble_eq_true rfl) rfl rfl rfl ?_
        exact aq_ei ok_r_commit rfl rfl rfl rfl
      · exact absurd c_le0 hz
    · exact absurd (by rw [hs]; rfl) h2
  · exact absurd h bI_t
set_option maxHeartbeats 4000000 in
theorem rm_abort_t {d : Nat} {M : MSt} {x : Int32} (hx : x < 0 ∨ nI (g_n M) ≤ x) : AM r_abort (d + 1) (.inl (some (.int (nI 0)))) [.ref 0, .int x] (wM M) (wM (m_cd M 1)) := by
  refine aq_enter pl_r_abort (Nat.le_of_ble_eq_true rfl) ?_
  refine aq_gn (n := 3) (c1 := (3, [some (.ref 0), some (.int x)], [.int x, .ref 0, .ref 0], wM M)) ok_r_abort rfl ?_
  refine aq_callV (as := [.int x]) (st := [.ref 0]) ok_r_abort rfl c1_r_isTransaction (rm_isTransactionM x) rfl (Nat.le_of_ble_eq_true rfl) rfl rfl rfl ?_
  rw [isT_out hx]
  refine aq_if_ne ok_r_abort rfl (fun h => ?_) (fun h => ?_)
  · exact absurd rfl h
  · show AW r_abort _ _ _ (9, [some (.ref 0), some (.int x)], [.ref 0], mL (g_cd M) (g_n M) (g_pr M) (g_st M) (g_he M) (g_wt M) (g_wn M) (g_cv M) (g_qs M) (g_qu M) (g_v5 M) (g_v6 M) (g_v7 M))
    refine aq_go (n := 5) (c1 := (35, [some (.ref 0), some (.int x)], [.int (nI 1)], mR (nI 1) (nI (g_n M)) (fun ι => nI ((g_pr M) ι)) (fun ι => nI ((g_st M) ι)) (fun ι => oI ((g_he M) ι)) (fun ι => oI ((g_wt M) ι)) (fun ι => nI ((g_wn M) ι)) (fun ι => bI ((g_cv M) ι)) (fun ι => nI ((g_qs M) ι)) (fun ι => nI ((g_qu M) ι)) (nI (g_v5 M)) (nI (g_v6 M)) (nI (g_v7 M)))) (P := aq_fi 1 0 = true) ok_r_abort rfl fi1_0 ?_
    show AW r_abort _ _ _ (35, [some (.ref 0), some (.int x)], [.int (nI 1)], wM (m_cd M 1))
    refine aq_if_le ok_r_abort rfl (fun hz => ?_) (fun hz => ?_)
    · exact absurd hz c_le1
    · refine aq_gn (n := 2) (c1 := (48, [some (.ref 0), some (.int x)], [.int (nI 0)], wM (m_cd M 1))) ok_r_abort rfl ?_
      exact aq_ei ok_r_abort rfl rfl rfl rfl
set_option maxHeartbeats 4000000 in
theorem rm_abort_a {d : Nat} {M : MSt} {t : Nat} (hM : WM M) (ht : t < g_n M) (hs : ¬ g_st M t < 2) : AM r_abort (d + 1) (.inl (some (.int (nI 0)))) [.ref 0, .int (nI t)] (wM M) (wM (m_cd M 2)) := by
  refine aq_enter pl_r_abort (Nat.le_of_ble_eq_true rfl) ?_
  have ht6 : t < 60 := Nat.lt_of_lt_of_le ht hM.1
  refine aq_gn (n := 3) (c1 := (3, [some (.ref 0), some (.int (nI t))], [.int (nI t), .ref 0, .ref 0], wM M)) ok_r_abort rfl ?_
  refine aq_callV (as := [.int (nI t)]) (st := [.ref 0]) ok_r_abort rfl c1_r_isTransaction (rm_isTransactionM (nI t)) rfl (Nat.le_of_ble_eq_true rfl) rfl rfl rfl ?_
  rw [isT_in ht (show g_n M < 2 ^ 31 by have := hM.1; omega)]
  refine aq_if_ne ok_r_abort rfl (fun h => ?_) (fun h => ?_)
  · show AW r_abort _ _ _ (13, [some (.ref 0), some (.int (nI t))], [.ref 0], mL (g_cd M) (g_n M) (g_pr M) (g_st M) (g_he M) (g_wt M) (g_wn M) (g_cv M) (g_qs M) (g_qu M) (g_v5 M) (g_v6 M) (g_v7 M))
    refine aq_go (n := 5) (c1 := (20, [some (.ref 0), some (.int (nI t))], [.int (nI 2), .int (nI ((g_st M) (nI t).toNatClampNeg)), .ref 0], mL (g_cd M) (g_n M) (g_pr M) (g_st M) (g_he M) (g_wt M) (g_wn M) (g_cv M) (g_qs M) (g_qu M) (g_v5 M) (g_v6 M) (g_v7 M))) (P := vp_in (nI t) 60) ok_r_abort rfl (in60 ht6) ?_
    rw [cl60 ht6]
    refine aq_icmp_lt ok_r_abort rfl (fun h2 => ?_) (fun h2 => ?_)
    · exact absurd (q_lt h2 (by have := hM.2.2.2.2.1 t; omega) (by omega)) hs
    · refine aq_go (n := 5) (c1 := (35, [some (.ref 0), some (.int (nI t))], [.int (nI 2)], mR (nI 2) (nI (g_n M)) (fun ι => nI ((g_pr M) ι)) (fun ι => nI ((g_st M) ι)) (fun ι => oI ((g_he M) ι)) (fun ι => oI ((g_wt M) ι)) (fun ι => nI ((g_wn M) ι)) (fun ι => bI ((g_cv M) ι)) (fun ι => nI ((g_qs M) ι)) (fun ι => nI ((g_qu M) ι)) (nI (g_v5 M)) (nI (g_v6 M)) (nI (g_v7 M)))) (P := aq_fi 1 0 = true) ok_r_abort rfl fi1_0 ?_
      show AW r_abort _ _ _ (35, [some (.ref 0), some (.int (nI t))], [.int (nI 2)], wM (m_cd M 2))
      refine aq_if_le ok_r_abort rfl (fun hz => ?_) (fun hz => ?_)
      · exact absurd hz c_le2
      · refine aq_gn (n := 2) (c1 := (48, [some (.ref 0), some (.int (nI t))], [.int (nI 0)], wM (m_cd M 2))) ok_r_abort rfl ?_
        exact aq_ei ok_r_abort rfl rfl rfl rfl
  · exact absurd h bI_t
set_option maxHeartbeats 4000000 in
theorem rm_abort {d : Nat} {M : MSt} {t : Nat} (hM : WM M) (ht : t < g_n M) (hs : g_st M t < 2) : AM r_abort (d + 4) (.inl (some (.int (nI (mend (m_cd M 0) t 3).2)))) [.ref 0, .int (nI t)] (wM M) (wM (mend (m_cd M 0) t 3).1) := by
  refine aq_enter pl_r_abort (Nat.le_of_ble_eq_true rfl) ?_
  have ht6 : t < 60 := Nat.lt_of_lt_of_le ht hM.1
  refine aq_gn (n := 3) (c1 := (3, [some (.ref 0), some (.int (nI t))], [.int (nI t), .ref 0, .ref 0], wM M)) ok_r_abort rfl ?_
  refine aq_callV (as := [.int (nI t)]) (st := [.ref 0]) ok_r_abort rfl c1_r_isTransaction (rm_isTransactionM (nI t)) rfl (Nat.le_of_ble_eq_true rfl) rfl rfl rfl ?_
  rw [isT_in ht (show g_n M < 2 ^ 31 by have := hM.1; omega)]
  refine aq_if_ne ok_r_abort rfl (fun h => ?_) (fun h => ?_)
  · show AW r_abort _ _ _ (13, [some (.ref 0), some (.int (nI t))], [.ref 0], mL (g_cd M) (g_n M) (g_pr M) (g_st M) (g_he M) (g_wt M) (g_wn M) (g_cv M) (g_qs M) (g_qu M) (g_v5 M) (g_v6 M) (g_v7 M))
    refine aq_go (n := 5) (c1 := (20, [some (.ref 0), some (.int (nI t))], [.int (nI 2), .int (nI ((g_st M) (nI t).toNatClampNeg)), .ref 0], mL (g_cd M) (g_n M) (g_pr M) (g_st M) (g_he M) (g_wt M) (g_wn M) (g_cv M) (g_qs M) (g_qu M) (g_v5 M) (g_v6 M) (g_v7 M))) (P := vp_in (nI t) 60) ok_r_abort rfl (in60 ht6) ?_
    rw [cl60 ht6]
    refine aq_icmp_lt ok_r_abort rfl (fun h2 => ?_) (fun h2 => ?_)
    · refine aq_go (n := 4) (c1 := (35, [some (.ref 0), some (.int (nI t))], [.int (nI 0)], mR (nI 0) (nI (g_n M)) (fun ι => nI ((g_pr M) ι)) (fun ι => nI ((g_st M) ι)) (fun ι => oI ((g_he M) ι)) (fun ι => oI ((g_wt M) ι)) (fun ι => nI ((g_wn M) ι)) (fun ι => bI ((g_cv M) ι)) (fun ι => nI ((g_qs M) ι)) (fun ι => nI ((g_qu M) ι)) (nI (g_v5 M)) (nI (g_v6 M)) (nI (g_v7 M)))) (P := aq_fi 1 0 = true) ok_r_abort rfl fi1_0 ?_
      show AW r_abort _ _ _ (35, [some (.ref 0), some (.int (nI t))], [.int (nI 0)], wM (m_cd M 0))
      refine aq_if_le ok_r_abort rfl (fun hz => ?_) (fun hz => ?_)
      · refine aq_gn (n := 3) (c1 := (45, [some (.ref 0), some (.int (nI t))], [.int (nI 3), .int (nI t), .ref 0], wM (m_cd M 0))) ok_r_abort rfl ?_
        refine aq_callV (as := [.int (nI t), .int (nI 3)]) (st := []) ok_r_abort rfl c1_r_endIt (rm_endIt (d := d) (M := m_cd M 0) hM ht6 (by omega)) rfl (Nat.le_of_ble_eq_true rfl) rfl rfl rfl ?_
        exact aq_ei ok_r_abort rfl rfl rfl rfl
      · exact absurd c_le0 hz
    · exact absurd (nI_lt hs (by omega)) h2
  · exact absurd h bI_t
set_option maxHeartbeats 4000000 in
theorem rm_mode_t {d : Nat} {M : MSt} {x y : Int32} (hx : x < 0 ∨ nI (g_n M) ≤ x) : AM r_mode (d + 1) (.inl (some (.int (nI 0)))) [.ref 0, .int x, .int y] (wM M) (wM (m_cd M 1)) := by
  refine aq_enter pl_r_mode (Nat.le_of_ble_eq_true rfl) ?_
  refine aq_gn (n := 3) (c1 := (3, [some (.ref 0), some (.int x), some (.int y)], [.int x, .ref 0, .ref 0], wM M)) ok_r_mode rfl ?_
  refine aq_callV (as := [.int x]) (st := [.ref 0]) ok_r_mode rfl c1_r_isTransaction (rm_isTransactionM x) rfl (Nat.le_of_ble_eq_true rfl) rfl rfl rfl ?_
  rw [isT_out hx]
  refine aq_if_eq ok_r_mode rfl (fun h => ?_) (fun h => ?_)
  · show AW r_mode _ _ _ (20, [some (.ref 0), some (.int x), some (.int y)], [.ref 0], mL (g_cd M) (g_n M) (g_pr M) (g_st M) (g_he M) (g_wt M) (g_wn M) (g_cv M) (g_qs M) (g_qu M) (g_v5 M) (g_v6 M) (g_v7 M))
    refine aq_go (n := 4) (c1 := (28, [some (.ref 0), some (.int x), some (.int y)], [.int (nI 1)], mR (nI 1) (nI (g_n M)) (fun ι => nI ((g_pr M) ι)) (fun ι => nI ((g_st M) ι)) (fun ι => oI ((g_he M) ι)) (fun ι => oI ((g_wt M) ι)) (fun ι => nI ((g_wn M) ι)) (fun ι => bI ((g_cv M) ι)) (fun ι => nI ((g_qs M) ι)) (fun ι => nI ((g_qu M) ι)) (nI (g_v5 M)) (nI (g_v6 M)) (nI (g_v7 M)))) (P := aq_fi 1 0 = true) ok_r_mode rfl fi1_0 ?_
    show AW r_mode _ _ _ (28, [some (.ref 0), some (.int x), some (.int y)], [.int (nI 1)], wM (m_cd M 1))
    refine aq_if_le ok_r_mode rfl (fun hz => ?_) (fun hz => ?_)
    · exact absurd hz c_le1
    · refine aq_gn (n := 2) (c1 := (41, [some (.ref 0), some (.int x), some (.int y)], [.int (nI 0)], wM (m_cd M 1))) ok_r_mode rfl ?_
      exact aq_ei ok_r_mode rfl rfl rfl rfl
  · exact absurd rfl h
set_option maxHeartbeats 4000000 in
theorem rm_mode_o {d : Nat} {M : MSt} {t : Nat} {y : Int32} (hM : WM M) (ht : t < g_n M) (hy : y < 0 ∨ nI 85 ≤ y) : AM r_mode (d + 1) (.inl (some (.int (nI 0)))) [.ref 0, .int (nI t), .int y] (wM M) (wM (m_cd M 1)) := by
  refine aq_enter pl_r_mode (Nat.le_of_ble_eq_true rfl) ?_
  refine aq_gn (n := 3) (c1 := (3, [some (.ref 0), some (.int (nI t)), some (.int y)], [.int (nI t), .ref 0, .ref 0], wM M)) ok_r_mode rfl ?_
  refine aq_callV (as := [.int (nI t)]) (st := [.ref 0]) ok_r_mode rfl c1_r_isTransaction (rm_isTransactionM (nI t)) rfl (Nat.le_of_ble_eq_true rfl) rfl rfl rfl ?_
  rw [isT_in ht (show g_n M < 2 ^ 31 by have := hM.1; omega)]
  refine aq_if_eq ok_r_mode rfl (fun h => ?_) (fun h => ?_)
  · exact absurd h bI_t
  · refine aq_gn (n := 1) (c1 := (10, [some (.ref 0), some (.int (nI t)), some (.int y)], [.int y, .ref 0], wM M)) ok_r_mode rfl ?_
    refine aq_callS (as := [.int y]) (st := [.ref 0]) ok_r_mode rfl c1_r_isObject (rm_isObject y) rfl (Nat.le_of_ble_eq_true rfl) ?_
    rw [isT_out hy]
    refine aq_if_eq ok_r_mode rfl (fun h2 => ?_) (fun h2 => ?_)
    · show AW r_mode _ _ _ (20, [some (.ref 0), some (.int (nI t)), some (.int y)], [.ref 0], mL (g_cd M) (g_n M) (g_pr M) (g_st M) (g_he M) (g_wt M) (g_wn M) (g_cv M) (g_qs M) (g_qu M) (g_v5 M) (g_v6 M) (g_v7 M))
      refine aq_go (n := 4) (c1 := (28, [some (.ref 0), some (.int (nI t)), some (.int y)], [.int (nI 1)], mR (nI 1) (nI (g_n M)) (fun ι => nI ((g_pr M) ι)) (fun ι => nI ((g_st M) ι)) (fun ι => oI ((g_he M) ι)) (fun ι => oI ((g_wt M) ι)) (fun ι => nI ((g_wn M) ι)) (fun ι => bI ((g_cv M) ι)) (fun ι => nI ((g_qs M) ι)) (fun ι => nI ((g_qu M) ι)) (nI (g_v5 M)) (nI (g_v6 M)) (nI (g_v7 M)))) (P := aq_fi 1 0 = true) ok_r_mode rfl fi1_0 ?_
      show AW r_mode _ _ _ (28, [some (.ref 0), some (.int (nI t)), some (.int y)], [.int (nI 1)], wM (m_cd M 1))
      refine aq_if_le ok_r_mode rfl (fun hz => ?_) (fun hz => ?_)
      · exact absurd hz c_le1
      · refine aq_gn (n := 2) (c1 := (41, [some (.ref 0), some (.int (nI t)), some (.int y)], [.int (nI 0)], wM (m_cd M 1))) ok_r_mode rfl ?_
        exact aq_ei ok_r_mode rfl rfl rfl rfl
    · exact absurd rfl h2
set_option maxHeartbeats 4000000 in
theorem rm_mode {d : Nat} {M : MSt} {t o : Nat} (hM : WM M) (ht : t < g_n M) (ho : o < 85) : AM r_mode (d + 1) (.inl (some (.int (mdI (g_he M) t o)))) [.ref 0, .int (nI t), .int (nI o)] (wM M) (wM (m_cd M 0)) := by
  refine aq_enter pl_r_mode (Nat.le_of_ble_eq_true rfl) ?_
  refine aq_gn (n := 3) (c1 := (3, [some (.ref 0), some (.int (nI t)), some (.int (nI o))], [.int (nI t), .ref 0, .ref 0], wM M)) ok_r_mode rfl ?_
  refine aq_callV (as := [.int (nI t)]) (st := [.ref 0]) ok_r_mode rfl c1_r_isTransaction (rm_isTransactionM (nI t)) rfl (Nat.le_of_ble_eq_true rfl) rfl rfl rfl ?_
  rw [isT_in ht (show g_n M < 2 ^ 31 by have := hM.1; omega)]
  refine aq_if_eq ok_r_mode rfl (fun h => ?_) (fun h => ?_)
  · exact absurd h bI_t
  · refine aq_gn (n := 1) (c1 := (10, [some (.ref 0), some (.int (nI t)), some (.int (nI o))], [.int (nI o), .ref 0], wM M)) ok_r_mode rfl ?_
    refine aq_callS (as := [.int (nI o)]) (st := [.ref 0]) ok_r_mode rfl c1_r_isObject (rm_isObject (nI o)) rfl (Nat.le_of_ble_eq_true rfl) ?_
    rw [isT_in ho (by omega)]
    refine aq_if_eq ok_r_mode rfl (fun h2 => ?_) (fun h2 => ?_)
    · exact absurd h2 bI_t
    · show AW r_mode _ _ _ (16, [some (.ref 0), some (.int (nI t)), some (.int (nI o))], [.ref 0], mL (g_cd M) (g_n M) (g_pr M) (g_st M) (g_he M) (g_wt M) (g_wn M) (g_cv M) (g_qs M) (g_qu M) (g_v5 M) (g_v6 M) (g_v7 M))
      refine aq_go (n := 5) (c1 := (28, [some (.ref 0), some (.int (nI t)), some (.int (nI o))], [.int (nI 0)], mR (nI 0) (nI (g_n M)) (fun ι => nI ((g_pr M) ι)) (fun ι => nI ((g_st M) ι)) (fun ι => oI ((g_he M) ι)) (fun ι => oI ((g_wt M) ι)) (fun ι => nI ((g_wn M) ι)) (fun ι => bI ((g_cv M) ι)) (fun ι => nI ((g_qs M) ι)) (fun ι => nI ((g_qu M) ι)) (nI (g_v5 M)) (nI (g_v6 M)) (nI (g_v7 M)))) (P := aq_fi 1 0 = true) ok_r_mode rfl fi1_0 ?_
      show AW r_mode _ _ _ (28, [some (.ref 0), some (.int (nI t)), some (.int (nI o))], [.int (nI 0)], wM (m_cd M 0))
      refine aq_if_le ok_r_mode rfl (fun hz => ?_) (fun hz => ?_)
      · refine aq_gn (n := 3) (c1 := (38, [some (.ref 0), some (.int (nI t)), some (.int (nI o))], [.int (nI o), .int (nI t), .ref 0], wM (m_cd M 0))) ok_r_mode rfl ?_
        refine aq_callV (as := [.int (nI t), .int (nI o)]) (st := []) ok_r_mode rfl c1_r_modeOf (rm_modeOfM (M := m_cd M 0) (Nat.lt_of_lt_of_le ht hM.1) ho) rfl (Nat.le_of_ble_eq_true rfl) rfl rfl rfl ?_
        exact aq_ei ok_r_mode rfl rfl rfl rfl
      · exact absurd c_le0 hz
set_option maxHeartbeats 4000000 in
theorem rm_waitsFor_t {d : Nat} {M : MSt} {x : Int32} (hx : x < 0 ∨ nI (g_n M) ≤ x) : AM r_waitsFor (d + 1) (.inl (some (.long (0)))) [.ref 0, .int x] (wM M) (wM (m_cd M 1)) := by
  refine aq_enter pl_r_waitsFor (Nat.le_of_ble_eq_true rfl) ?_
  refine aq_gn (n := 3) (c1 := (3, [some (.ref 0), some (.int x)], [.int x, .ref 0, .ref 0], wM M)) ok_r_waitsFor rfl ?_
  refine aq_callV (as := [.int x]) (st := [.ref 0]) ok_r_waitsFor rfl c1_r_isTransaction (rm_isTransactionM x) rfl (Nat.le_of_ble_eq_true rfl) rfl rfl rfl ?_
  rw [isT_out hx]
  refine aq_if_eq ok_r_waitsFor rfl (fun h => ?_) (fun h => ?_)
  · show AW r_waitsFor _ _ _ (13, [some (.ref 0), some (.int x)], [.ref 0], mL (g_cd M) (g_n M) (g_pr M) (g_st M) (g_he M) (g_wt M) (g_wn M) (g_cv M) (g_qs M) (g_qu M) (g_v5 M) (g_v6 M) (g_v7 M))
    refine aq_go (n := 4) (c1 := (21, [some (.ref 0), some (.int x)], [.int (nI 1)], mR (nI 1) (nI (g_n M)) (fun ι => nI ((g_pr M) ι)) (fun ι => nI ((g_st M) ι)) (fun ι => oI ((g_he M) ι)) (fun ι => oI ((g_wt M) ι)) (fun ι => nI ((g_wn M) ι)) (fun ι => bI ((g_cv M) ι)) (fun ι => nI ((g_qs M) ι)) (fun ι => nI ((g_qu M) ι)) (nI (g_v5 M)) (nI (g_v6 M)) (nI (g_v7 M)))) (P := aq_fi 1 0 = true) ok_r_waitsFor rfl fi1_0 ?_
    show AW r_waitsFor _ _ _ (21, [some (.ref 0), some (.int x)], [.int (nI 1)], wM (m_cd M 1))
    refine aq_if_le ok_r_waitsFor rfl (fun hz => ?_) (fun hz => ?_)
    · exact absurd hz c_le1
    · refine aq_gn (n := 2) (c1 := (33, [some (.ref 0), some (.int x)], [.long 0], wM (m_cd M 1))) ok_r_waitsFor rfl ?_
      exact aq_el ok_r_waitsFor rfl rfl rfl rfl
  · exact absurd rfl h
set_option maxHeartbeats 4000000 in
theorem rm_waitsFor {d : Nat} {M : MSt} {t : Nat} (hM : WM M) (hQ : WQ M) (ht : t < g_n M) : AM r_waitsFor (d + 2) (.inl (some (.long (mwb M t)))) [.ref 0, .int (nI t)] (wM M) (wM (m_cd M 0)) := by
  refine aq_enter pl_r_waitsFor (Nat.le_of_ble_eq_true rfl) ?_
  refine aq_gn (n := 3) (c1 := (3, [some (.ref 0), some (.int (nI t))], [.int (nI t), .ref 0, .ref 0], wM M)) ok_r_waitsFor rfl ?_
  refine aq_callV (as := [.int (nI t)]) (st := [.ref 0]) ok_r_waitsFor rfl c1_r_isTransaction (rm_isTransactionM (nI t)) rfl (Nat.le_of_ble_eq_true rfl) rfl rfl rfl ?_
  rw [isT_in ht (show g_n M < 2 ^ 31 by have := hM.1; omega)]
  refine aq_if_eq ok_r_waitsFor rfl (fun h => ?_) (fun h => ?_)
  · exact absurd h bI_t
  · show AW r_waitsFor _ _ _ (9, [some (.ref 0), some (.int (nI t))], [.ref 0], mL (g_cd M) (g_n M) (g_pr M) (g_st M) (g_he M) (g_wt M) (g_wn M) (g_cv M) (g_qs M) (g_qu M) (g_v5 M) (g_v6 M) (g_v7 M))
    refine aq_go (n := 5) (c1 := (21, [some (.ref 0), some (.int (nI t))], [.int (nI 0)], mR (nI 0) (nI (g_n M)) (fun ι => nI ((g_pr M) ι)) (fun ι => nI ((g_st M) ι)) (fun ι => oI ((g_he M) ι)) (fun ι => oI ((g_wt M) ι)) (fun ι => nI ((g_wn M) ι)) (fun ι => bI ((g_cv M) ι)) (fun ι => nI ((g_qs M) ι)) (fun ι => nI ((g_qu M) ι)) (nI (g_v5 M)) (nI (g_v6 M)) (nI (g_v7 M)))) (P := aq_fi 1 0 = true) ok_r_waitsFor rfl fi1_0 ?_
    show AW r_waitsFor _ _ _ (21, [some (.ref 0), some (.int (nI t))], [.int (nI 0)], wM (m_cd M 0))
    refine aq_if_le ok_r_waitsFor rfl (fun hz => ?_) (fun hz => ?_)
    · refine aq_gn (n := 2) (c1 := (30, [some (.ref 0), some (.int (nI t))], [.int (nI t), .ref 0], wM (m_cd M 0))) ok_r_waitsFor rfl ?_
      refine aq_callV (as := [.int (nI t)]) (st := []) ok_r_waitsFor rfl c1_r_waitBits (rm_waitBits (M := m_cd M 0) hM hQ (Nat.lt_of_lt_of_le ht hM.1)) rfl (Nat.le_of_ble_eq_true rfl) rfl rfl rfl ?_
      exact aq_el ok_r_waitsFor rfl rfl rfl rfl
    · exact absurd c_le0 hz
set_option maxHeartbeats 4000000 in
theorem rm_astray {d : Nat} {M : MSt}  : AM r_astray (d) (.inl (some (.int (nI 0)))) [.ref 0] (wM M) (wM (m_cd M 0)) := by
  refine aq_enter pl_r_astray (Nat.le_of_ble_eq_true rfl) ?_
  show AW r_astray _ _ _ (0, [some (.ref 0)], [], mL (g_cd M) (g_n M) (g_pr M) (g_st M) (g_he M) (g_wt M) (g_wn M) (g_cv M) (g_qs M) (g_qu M) (g_v5 M) (g_v6 M) (g_v7 M))
  refine aq_go (n := 4) (c1 := (6, [some (.ref 0)], [.int (nI 0)], mR (nI 0) (nI (g_n M)) (fun ι => nI ((g_pr M) ι)) (fun ι => nI ((g_st M) ι)) (fun ι => oI ((g_he M) ι)) (fun ι => oI ((g_wt M) ι)) (fun ι => nI ((g_wn M) ι)) (fun ι => bI ((g_cv M) ι)) (fun ι => nI ((g_qs M) ι)) (fun ι => nI ((g_qu M) ι)) (nI (g_v5 M)) (nI (g_v6 M)) (nI (g_v7 M)))) (P := aq_fi 1 0 = true) ok_r_astray rfl fi1_0 ?_
  exact aq_ei ok_r_astray rfl rfl rfl rfl
set_option maxHeartbeats 4000000 in
theorem lp_told0 {d : Nat} {M : MSt} {t : Nat} (hM : WM M) (ht6 : t < 60) : ∀ (f i : Nat), i + f = 85 → ∀ c : Nat,  AW r_told (d + 1) (.inl (some (.int (nI (g_st M t))))) (wM M) (44, [some (.ref 0), some (.int (nI t)), some (.int (nI 0)), some (.int (nI c)), some (.int (nI i))], [], mL (g_cd M) (g_n M) (g_pr M) (g_st M) (g_he M) (g_wt M) (g_wn M) (g_cv M) (g_qs M) (g_qu M) (g_v5 M) (g_v6 M) (g_v7 M)) := by
  intro f
  induction f with
  | zero =>
    intro i hif c
    refine aq_gn (n := 2) (c1 := (48, [some (.ref 0), some (.int (nI t)), some (.int (nI 0)), some (.int (nI c)), some (.int (nI i))], [.int (nI 85), .int (nI i)], mL (g_cd M) (g_n M) (g_pr M) (g_st M) (g_he M) (g_wt M) (g_wn M) (g_cv M) (g_qs M) (g_qu M) (g_v5 M) (g_v6 M) (g_v7 M))) ok_r_told rfl ?_
    refine aq_icmp_ge ok_r_told rfl (fun h => ?_) (fun h => ?_)
    · refine aq_gn (n := 1) (c1 := (76, [some (.ref 0), some (.int (nI t)), some (.int (nI 0)), some (.int (nI c)), some (.int (nI i))], [.int (nI 0)], mL (g_cd M) (g_n M) (g_pr M) (g_st M) (g_he M) (g_wt M) (g_wn M) (g_cv M) (g_qs M) (g_qu M) (g_v5 M) (g_v6 M) (g_v7 M))) ok_r_told rfl ?_
      refine aq_tabI (tgt := 108) ok_r_told rfl (by decide) (by decide) rfl (by decide) ?_
      refine aq_go (n := 4) (c1 := (114, [some (.ref 0), some (.int (nI t)), some (.int (nI 0)), some (.int (nI c)), some (.int (nI i))], [.int (nI ((g_st M) (nI t).toNatClampNeg))], mL (g_cd M) (g_n M) (g_pr M) (g_st M) (g_he M) (g_wt M) (g_wn M) (g_cv M) (g_qs M) (g_qu M) (g_v5 M) (g_v6 M) (g_v7 M))) (P := vp_in (nI t) 60) ok_r_told rfl (in60 ht6) ?_
      rw [cl60 ht6]
      exact aq_ei ok_r_told rfl rfl rfl rfl
    · exact absurd (nI_le (show 85 ≤ i by omega) (by omega)) h
  | succ f ih =>
    intro i hif c
    refine aq_gn (n := 2) (c1 := (48, [some (.ref 0), some (.int (nI t)), some (.int (nI 0)), some (.int (nI c)), some (.int (nI i))], [.int (nI 85), .int (nI i)], mL (g_cd M) (g_n M) (g_pr M) (g_st M) (g_he M) (g_wt M) (g_wn M) (g_cv M) (g_qs M) (g_qu M) (g_v5 M) (g_v6 M) (g_v7 M))) ok_r_told rfl ?_
    refine aq_icmp_ge ok_r_told rfl (fun h => ?_) (fun h => ?_)
    · exact absurd (q_le h (by omega) (by omega)) (by omega)
    · refine aq_gn (n := 4) (c1 := (56, [some (.ref 0), some (.int (nI t)), some (.int (nI 0)), some (.int (nI c)), some (.int (nI i))], [.int (nI i), .int (nI t), .ref 0, .int (nI c)], wM M)) ok_r_told rfl ?_
      refine aq_callV (as := [.int (nI t), .int (nI i)]) (st := [.int (nI c)]) ok_r_told rfl c1_r_modeOf (rm_modeOfM ht6 (show i < 85 by omega)) rfl (Nat.le_of_ble_eq_true rfl) rfl rfl rfl ?_
      refine aq_if_lt ok_r_told rfl (fun h2 => ?_) (fun h2 => ?_)
      · refine aq_gn (n := 5) (c1 := (44, [some (.ref 0), some (.int (nI t)), some (.int (nI 0)), some (.int ((nI c) + (nI 0))), some (.int ((nI i) + 1))], [], mL (g_cd M) (g_n M) (g_pr M) (g_st M) (g_he M) (g_wt M) (g_wn M) (g_cv M) (g_qs M) (g_qu M) (g_v5 M) (g_v6 M) (g_v7 M))) ok_r_told rfl ?_
        rw [nI_add, nI_1]
        have e : cnt (fun i => !decide (mdI (g_he M) t i < 0)) (f + 1) i c = cnt (fun i => !decide (mdI (g_he M) t i < 0)) f (i + 1) (c + 0) := by rw [cnt]; simp [h2]
        try rw [e]
        exact ih (i + 1) (by omega) _
      · refine aq_gn (n := 6) (c1 := (44, [some (.ref 0), some (.int (nI t)), some (.int (nI 0)), some (.int ((nI c) + (nI 1))), some (.int ((nI i) + 1))], [], mL (g_cd M) (g_n M) (g_pr M) (g_st M) (g_he M) (g_wt M) (g_wn M) (g_cv M) (g_qs M) (g_qu M) (g_v5 M) (g_v6 M) (g_v7 M))) ok_r_told rfl ?_
        rw [nI_add, nI_1]
        have e : cnt (fun i => !decide (mdI (g_he M) t i < 0)) (f + 1) i c = cnt (fun i => !decide (mdI (g_he M) t i < 0)) f (i + 1) (c + 1) := by rw [cnt]; simp [h2]
        try rw [e]
        exact ih (i + 1) (by omega) _
set_option maxHeartbeats 4000000 in
theorem rm_told0 {d : Nat} {M : MSt} {t : Nat} (hM : WM M) (ht : t < g_n M) : AM r_told (d + 1) (.inl (some (.int (nI (g_st M t))))) [.ref 0, .int (nI t), .int (nI 0)] (wM M) (wM (m_cd M 0)) := by
  refine aq_enter pl_r_told (Nat.le_of_ble_eq_true rfl) ?_
  refine aq_gn (n := 3) (c1 := (3, [some (.ref 0), some (.int (nI t)), some (.int (nI 0)), none, none], [.int (nI t), .ref 0, .ref 0], wM M)) ok_r_told rfl ?_
  refine aq_callV (as := [.int (nI t)]) (st := [.ref 0]) ok_r_told rfl c1_r_isTransaction (rm_isTransactionM (nI t)) rfl (Nat.le_of_ble_eq_true rfl) rfl rfl rfl ?_
  rw [isT_in ht (show g_n M < 2 ^ 31 by have := hM.1; omega)]
  refine aq_if_ne ok_r_told rfl (fun h => ?_) (fun h => ?_)
  · show AW r_told _ _ _ (13, [some (.ref 0), some (.int (nI t)), some (.int (nI 0)), none, none], [.ref 0], mL (g_cd M) (g_n M) (g_pr M) (g_st M) (g_he M) (g_wt M) (g_wn M) (g_cv M) (g_qs M) (g_qu M) (g_v5 M) (g_v6 M) (g_v7 M))
    refine aq_gn (n := 1) (c1 := (14, [some (.ref 0), some (.int (nI t)), some (.int (nI 0)), none, none], [.int (nI 0), .ref 0], mL (g_cd M) (g_n M) (g_pr M) (g_st M) (g_he M) (g_wt M) (g_wn M) (g_cv M) (g_qs M) (g_qu M) (g_v5 M) (g_v6 M) (g_v7 M))) ok_r_told rfl ?_
    refine aq_if_lt ok_r_told rfl (fun h2 => ?_) (fun h2 => ?_)
    · exact absurd h2 (by decide)
    · refine aq_gn (n := 2) (c1 := (19, [some (.ref 0), some (.int (nI t)), some (.int (nI 0)), none, none], [.int (nI 4), .int (nI 0), .ref 0], mL (g_cd M) (g_n M) (g_pr M) (g_st M) (g_he M) (g_wt M) (g_wn M) (g_cv M) (g_qs M) (g_qu M) (g_v5 M) (g_v6 M) (g_v7 M))) ok_r_told rfl ?_
      refine aq_icmp_le ok_r_told rfl (fun h3 => ?_) (fun h3 => ?_)
      · refine aq_go (n := 4) (c1 := (34, [some (.ref 0), some (.int (nI t)), some (.int (nI 0)), none, none], [.int (nI 0)], mR (nI 0) (nI (g_n M)) (fun ι => nI ((g_pr M) ι)) (fun ι => nI ((g_st M) ι)) (fun ι => oI ((g_he M) ι)) (fun ι => oI ((g_wt M) ι)) (fun ι => nI ((g_wn M) ι)) (fun ι => bI ((g_cv M) ι)) (fun ι => nI ((g_qs M) ι)) (fun ι => nI ((g_qu M) ι)) (nI (g_v5 M)) (nI (g_v6 M)) (nI (g_v7 M)))) (P := aq_fi 1 0 = true) ok_r_told rfl fi1_0 ?_
        show AW r_told _ _ _ (34, [some (.ref 0), some (.int (nI t)), some (.int (nI 0)), none, none], [.int (nI 0)], wM (m_cd M 0))
        refine aq_if_le ok_r_told rfl (fun hz => ?_) (fun hz => ?_)
        · refine aq_gn (n := 4) (c1 := (44, [some (.ref 0), some (.int (nI t)), some (.int (nI 0)), some (.int (nI 0)), some (.int (nI 0))], [], wM (m_cd M 0))) ok_r_told rfl ?_
          exact lp_told0 (M := m_cd M 0) hM (Nat.lt_of_lt_of_le ht hM.1) 85 0 (by omega) 0
        · exact absurd c_le0 hz
      · exact absurd (by decide) h3
  · exact absurd h bI_t
set_option maxHeartbeats 4000000 in
theorem lp_told1 {d : Nat} {M : MSt} {t : Nat} (hM : WM M) (ht6 : t < 60) : ∀ (f i : Nat), i + f = 85 → ∀ c : Nat,  AW r_told (d + 1) (.inl (some (.int (nI (g_pr M t))))) (wM M) (44, [some (.ref 0), some (.int (nI t)), some (.int (nI 1)), some (.int (nI c)), some (.int (nI i))], [], mL (g_cd M) (g_n M) (g_pr M) (g_st M) (g_he M) (g_wt M) (g_wn M) (g_cv M) (g_qs M) (g_qu M) (g_v5 M) (g_v6 M) (g_v7 M)) := by
  intro f
  induction f with
  | zero =>
    intro i hif c
    refine aq_gn (n := 2) (c1 := (48, [some (.ref 0), some (.int (nI t)), some (.int (nI 1)), some (.int (nI c)), some (.int (nI i))], [.int (nI 85), .int (nI i)], mL (g_cd M) (g_n M) (g_pr M) (g_st M) (g_he M) (g_wt M) (g_wn M) (g_cv M) (g_qs M) (g_qu M) (g_v5 M) (g_v6 M) (g_v7 M))) ok_r_told rfl ?_
    refine aq_icmp_ge ok_r_told rfl (fun h => ?_) (fun h => ?_)
    · refine aq_gn (n := 1) (c1 := (76, [some (.ref 0), some (.int (nI t)), some (.int (nI 1)), some (.int (nI c)), some (.int (nI i))], [.int (nI 1)], mL (g_cd M) (g_n M) (g_pr M) (g_st M) (g_he M) (g_wt M) (g_wn M) (g_cv M) (g_qs M) (g_qu M) (g_v5 M) (g_v6 M) (g_v7 M))) ok_r_told rfl ?_
      refine aq_tabI (tgt := 115) ok_r_told rfl (by decide) (by decide) rfl (by decide) ?_
      refine aq_go (n := 4) (c1 := (121, [some (.ref 0), some (.int (nI t)), some (.int (nI 1)), some (.int (nI c)), some (.int (nI i))], [.int (nI ((g_pr M) (nI t).toNatClampNeg))], mL (g_cd M) (g_n M) (g_pr M) (g_st M) (g_he M) (g_wt M) (g_wn M) (g_cv M) (g_qs M) (g_qu M) (g_v5 M) (g_v6 M) (g_v7 M))) (P := vp_in (nI t) 60) ok_r_told rfl (in60 ht6) ?_
      rw [cl60 ht6]
      exact aq_ei ok_r_told rfl rfl rfl rfl
    · exact absurd (nI_le (show 85 ≤ i by omega) (by omega)) h
  | succ f ih =>
    intro i hif c
    refine aq_gn (n := 2) (c1 := (48, [some (.ref 0), some (.int (nI t)), some (.int (nI 1)), some (.int (nI c)), some (.int (nI i))], [.int (nI 85), .int (nI i)], mL (g_cd M) (g_n M) (g_pr M) (g_st M) (g_he M) (g_wt M) (g_wn M) (g_cv M) (g_qs M) (g_qu M) (g_v5 M) (g_v6 M) (g_v7 M))) ok_r_told rfl ?_
    refine aq_icmp_ge ok_r_told rfl (fun h => ?_) (fun h => ?_)
    · exact absurd (q_le h (by omega) (by omega)) (by omega)
    · refine aq_gn (n := 4) (c1 := (56, [some (.ref 0), some (.int (nI t)), some (.int (nI 1)), some (.int (nI c)), some (.int (nI i))], [.int (nI i), .int (nI t), .ref 0, .int (nI c)], wM M)) ok_r_told rfl ?_
      refine aq_callV (as := [.int (nI t), .int (nI i)]) (st := [.int (nI c)]) ok_r_told rfl c1_r_modeOf (rm_modeOfM ht6 (show i < 85 by omega)) rfl (Nat.le_of_ble_eq_true rfl) rfl rfl rfl ?_
      refine aq_if_lt ok_r_told rfl (fun h2 => ?_) (fun h2 => ?_)
      · refine aq_gn (n := 5) (c1 := (44, [some (.ref 0), some (.int (nI t)), some (.int (nI 1)), some (.int ((nI c) + (nI 0))), some (.int ((nI i) + 1))], [], mL (g_cd M) (g_n M) (g_pr M) (g_st M) (g_he M) (g_wt M) (g_wn M) (g_cv M) (g_qs M) (g_qu M) (g_v5 M) (g_v6 M) (g_v7 M))) ok_r_told rfl ?_
        rw [nI_add, nI_1]
        have e : cnt (fun i => !decide (mdI (g_he M) t i < 0)) (f + 1) i c = cnt (fun i => !decide (mdI (g_he M) t i < 0)) f (i + 1) (c + 0) := by rw [cnt]; simp [h2]
        try rw [e]
        exact ih (i + 1) (by omega) _
      · refine aq_gn (n := 6) (c1 := (44, [some (.ref 0), some (.int (nI t)), some (.int (nI 1)), some (.int ((nI c) + (nI 1))), some (.int ((nI i) + 1))], [], mL (g_cd M) (g_n M) (g_pr M) (g_st M) (g_he M) (g_wt M) (g_wn M) (g_cv M) (g_qs M) (g_qu M) (g_v5 M) (g_v6 M) (g_v7 M))) ok_r_told rfl ?_
        rw [nI_add, nI_1]
        have e : cnt (fun i => !decide (mdI (g_he M) t i < 0)) (f + 1) i c = cnt (fun i => !decide (mdI (g_he M) t i < 0)) f (i + 1) (c + 1) := by rw [cnt]; simp [h2]
        try rw [e]
        exact ih (i + 1) (by omega) _
set_option maxHeartbeats 4000000 in
theorem rm_told1 {d : Nat} {M : MSt} {t : Nat} (hM : WM M) (ht : t < g_n M) : AM r_told (d + 1) (.inl (some (.int (nI (g_pr M t))))) [.ref 0, .int (nI t), .int (nI 1)] (wM M) (wM (m_cd M 0)) := by
  refine aq_enter pl_r_told (Nat.le_of_ble_eq_true rfl) ?_
  refine aq_gn (n := 3) (c1 := (3, [some (.ref 0), some (.int (nI t)), some (.int (nI 1)), none, none], [.int (nI t), .ref 0, .ref 0], wM M)) ok_r_told rfl ?_
  refine aq_callV (as := [.int (nI t)]) (st := [.ref 0]) ok_r_told rfl c1_r_isTransaction (rm_isTransactionM (nI t)) rfl (Nat.le_of_ble_eq_true rfl) rfl rfl rfl ?_
  rw [isT_in ht (show g_n M < 2 ^ 31 by have := hM.1; omega)]
  refine aq_if_ne ok_r_told rfl (fun h => ?_) (fun h => ?_)
  · show AW r_told _ _ _ (13, [some (.ref 0), some (.int (nI t)), some (.int (nI 1)), none, none], [.ref 0], mL (g_cd M) (g_n M) (g_pr M) (g_st M) (g_he M) (g_wt M) (g_wn M) (g_cv M) (g_qs M) (g_qu M) (g_v5 M) (g_v6 M) (g_v7 M))
    refine aq_gn (n := 1) (c1 := (14, [some (.ref 0), some (.int (nI t)), some (.int (nI 1)), none, none], [.int (nI 1), .ref 0], mL (g_cd M) (g_n M) (g_pr M) (g_st M) (g_he M) (g_wt M) (g_wn M) (g_cv M) (g_qs M) (g_qu M) (g_v5 M) (g_v6 M) (g_v7 M))) ok_r_told rfl ?_
    refine aq_if_lt ok_r_told rfl (fun h2 => ?_) (fun h2 => ?_)
    · exact absurd h2 (by decide)
    · refine aq_gn (n := 2) (c1 := (19, [some (.ref 0), some (.int (nI t)), some (.int (nI 1)), none, none], [.int (nI 4), .int (nI 1), .ref 0], mL (g_cd M) (g_n M) (g_pr M) (g_st M) (g_he M) (g_wt M) (g_wn M) (g_cv M) (g_qs M) (g_qu M) (g_v5 M) (g_v6 M) (g_v7 M))) ok_r_told rfl ?_
      refine aq_icmp_le ok_r_told rfl (fun h3 => ?_) (fun h3 => ?_)
      · refine aq_go (n := 4) (c1 := (34, [some (.ref 0), some (.int (nI t)), some (.int (nI 1)), none, none], [.int (nI 0)], mR (nI 0) (nI (g_n M)) (fun ι => nI ((g_pr M) ι)) (fun ι => nI ((g_st M) ι)) (fun ι => oI ((g_he M) ι)) (fun ι => oI ((g_wt M) ι)) (fun ι => nI ((g_wn M) ι)) (fun ι => bI ((g_cv M) ι)) (fun ι => nI ((g_qs M) ι)) (fun ι => nI ((g_qu M) ι)) (nI (g_v5 M)) (nI (g_v6 M)) (nI (g_v7 M)))) (P := aq_fi 1 0 = true) ok_r_told rfl fi1_0 ?_
        show AW r_told _ _ _ (34, [some (.ref 0), some (.int (nI t)), some (.int (nI 1)), none, none], [.int (nI 0)], wM (m_cd M 0))
        refine aq_if_le ok_r_told rfl (fun hz => ?_) (fun hz => ?_)
        · refine aq_gn (n := 4) (c1 := (44, [some (.ref 0), some (.int (nI t)), some (.int (nI 1)), some (.int (nI 0)), some (.int (nI 0))], [], wM (m_cd M 0))) ok_r_told rfl ?_
          exact lp_told1 (M := m_cd M 0) hM (Nat.lt_of_lt_of_le ht hM.1) 85 0 (by omega) 0
        · exact absurd c_le0 hz
      · exact absurd (by decide) h3
  · exact absurd h bI_t
set_option maxHeartbeats 4000000 in
theorem lp_told2 {d : Nat} {M : MSt} {t : Nat} (hM : WM M) (ht6 : t < 60) : ∀ (f i : Nat), i + f = 85 → ∀ c : Nat,  AW r_told (d + 1) (.inl (some (.int (nI (cnt (fun i => !decide (mdI (g_he M) t i < 0)) f i c))))) (wM M) (44, [some (.ref 0), some (.int (nI t)), some (.int (nI 2)), some (.int (nI c)), some (.int (nI i))], [], mL (g_cd M) (g_n M) (g_pr M) (g_st M) (g_he M) (g_wt M) (g_wn M) (g_cv M) (g_qs M) (g_qu M) (g_v5 M) (g_v6 M) (g_v7 M)) := by
  intro f
  induction f with
  | zero =>
    intro i hif c
    refine aq_gn (n := 2) (c1 := (48, [some (.ref 0), some (.int (nI t)), some (.int (nI 2)), some (.int (nI c)), some (.int (nI i))], [.int (nI 85), .int (nI i)], mL (g_cd M) (g_n M) (g_pr M) (g_st M) (g_he M) (g_wt M) (g_wn M) (g_cv M) (g_qs M) (g_qu M) (g_v5 M) (g_v6 M) (g_v7 M))) ok_r_told rfl ?_
    refine aq_icmp_ge ok_r_told rfl (fun h => ?_) (fun h => ?_)
    · refine aq_gn (n := 1) (c1 := (76, [some (.ref 0), some (.int (nI t)), some (.int (nI 2)), some (.int (nI c)), some (.int (nI i))], [.int (nI 2)], mL (g_cd M) (g_n M) (g_pr M) (g_st M) (g_he M) (g_wt M) (g_wn M) (g_cv M) (g_qs M) (g_qu M) (g_v5 M) (g_v6 M) (g_v7 M))) ok_r_told rfl ?_
      refine aq_tabI (tgt := 122) ok_r_told rfl (by decide) (by decide) rfl (by decide) ?_
      refine aq_gn (n := 1) (c1 := (123, [some (.ref 0), some (.int (nI t)), some (.int (nI 2)), some (.int (nI c)), some (.int (nI i))], [.int (nI c)], mL (g_cd M) (g_n M) (g_pr M) (g_st M) (g_he M) (g_wt M) (g_wn M) (g_cv M) (g_qs M) (g_qu M) (g_v5 M) (g_v6 M) (g_v7 M))) ok_r_told rfl ?_
      exact aq_ei ok_r_told rfl rfl rfl rfl
    · exact absurd (nI_le (show 85 ≤ i by omega) (by omega)) h
  | succ f ih =>
    intro i hif c
    refine aq_gn (n := 2) (c1 := (48, [some (.ref 0), some (.int (nI t)), some (.int (nI 2)), some (.int (nI c)), some (.int (nI i))], [.int (nI 85), .int (nI i)], mL (g_cd M) (g_n M) (g_pr M) (g_st M) (g_he M) (g_wt M) (g_wn M) (g_cv M) (g_qs M) (g_qu M) (g_v5 M) (g_v6 M) (g_v7 M))) ok_r_told rfl ?_
    refine aq_icmp_ge ok_r_told rfl (fun h => ?_) (fun h => ?_)
    · exact absurd (q_le h (by omega) (by omega)) (by omega)
    · refine aq_gn (n := 4) (c1 := (56, [some (.ref 0), some (.int (nI t)), some (.int (nI 2)), some (.int (nI c)), some (.int (nI i))], [.int (nI i), .int (nI t), .ref 0, .int (nI c)], wM M)) ok_r_told rfl ?_
      refine aq_callV (as := [.int (nI t), .int (nI i)]) (st := [.int (nI c)]) ok_r_told rfl c1_r_modeOf (rm_modeOfM ht6 (show i < 85 by omega)) rfl (Nat.le_of_ble_eq_true rfl) rfl rfl rfl ?_
      refine aq_if_lt ok_r_told rfl (fun h2 => ?_) (fun h2 => ?_)
      · refine aq_gn (n := 5) (c1 := (44, [some (.ref 0), some (.int (nI t)), some (.int (nI 2)), some (.int ((nI c) + (nI 0))), some (.int ((nI i) + 1))], [], mL (g_cd M) (g_n M) (g_pr M) (g_st M) (g_he M) (g_wt M) (g_wn M) (g_cv M) (g_qs M) (g_qu M) (g_v5 M) (g_v6 M) (g_v7 M))) ok_r_told rfl ?_
        rw [nI_add, nI_1]
        have e : cnt (fun i => !decide (mdI (g_he M) t i < 0)) (f + 1) i c = cnt (fun i => !decide (mdI (g_he M) t i < 0)) f (i + 1) (c + 0) := by rw [cnt]; simp [h2]
        try rw [e]
        exact ih (i + 1) (by omega) _
      · refine aq_gn (n := 6) (c1 := (44, [some (.ref 0), some (.int (nI t)), some (.int (nI 2)), some (.int ((nI c) + (nI 1))), some (.int ((nI i) + 1))], [], mL (g_cd M) (g_n M) (g_pr M) (g_st M) (g_he M) (g_wt M) (g_wn M) (g_cv M) (g_qs M) (g_qu M) (g_v5 M) (g_v6 M) (g_v7 M))) ok_r_told rfl ?_
        rw [nI_add, nI_1]
        have e : cnt (fun i => !decide (mdI (g_he M) t i < 0)) (f + 1) i c = cnt (fun i => !decide (mdI (g_he M) t i < 0)) f (i + 1) (c + 1) := by rw [cnt]; simp [h2]
        try rw [e]
        exact ih (i + 1) (by omega) _
set_option maxHeartbeats 4000000 in
theorem rm_told2 {d : Nat} {M : MSt} {t : Nat} (hM : WM M) (ht : t < g_n M) : AM r_told (d + 1) (.inl (some (.int (nI (cnt (fun i => !decide (mdI (g_he M) t i < 0)) 85 0 0))))) [.ref 0, .int (nI t), .int (nI 2)] (wM M) (wM (m_cd M 0)) := by
  refine aq_enter pl_r_told (Nat.le_of_ble_eq_true rfl) ?_
  refine aq_gn (n := 3) (c1 := (3, [some (.ref 0), some (.int (nI t)), some (.int (nI 2)), none, none], [.int (nI t), .ref 0, .ref 0], wM M)) ok_r_told rfl ?_
  refine aq_callV (as := [.int (nI t)]) (st := [.ref 0]) ok_r_told rfl c1_r_isTransaction (rm_isTransactionM (nI t)) rfl (Nat.le_of_ble_eq_true rfl) rfl rfl rfl ?_
  rw [isT_in ht (show g_n M < 2 ^ 31 by have := hM.1; omega)]
  refine aq_if_ne ok_r_told rfl (fun h => ?_) (fun h => ?_)
  · show AW r_told _ _ _ (13, [some (.ref 0), some (.int (nI t)), some (.int (nI 2)), none, none], [.ref 0], mL (g_cd M) (g_n M) (g_pr M) (g_st M) (g_he M) (g_wt M) (g_wn M) (g_cv M) (g_qs M) (g_qu M) (g_v5 M) (g_v6 M) (g_v7 M))
    refine aq_gn (n := 1) (c1 := (14, [some (.ref 0), some (.int (nI t)), some (.int (nI 2)), none, none], [.int (nI 2), .ref 0], mL (g_cd M) (g_n M) (g_pr M) (g_st M) (g_he M) (g_wt M) (g_wn M) (g_cv M) (g_qs M) (g_qu M) (g_v5 M) (g_v6 M) (g_v7 M))) ok_r_told rfl ?_
    refine aq_if_lt ok_r_told rfl (fun h2 => ?_) (fun h2 => ?_)
    · exact absurd h2 (by decide)
    · refine aq_gn (n := 2) (c1 := (19, [some (.ref 0), some (.int (nI t)), some (.int (nI 2)), none, none], [.int (nI 4), .int (nI 2), .ref 0], mL (g_cd M) (g_n M) (g_pr M) (g_st M) (g_he M) (g_wt M) (g_wn M) (g_cv M) (g_qs M) (g_qu M) (g_v5 M) (g_v6 M) (g_v7 M))) ok_r_told rfl ?_
      refine aq_icmp_le ok_r_told rfl (fun h3 => ?_) (fun h3 => ?_)
      · refine aq_go (n := 4) (c1 := (34, [some (.ref 0), some (.int (nI t)), some (.int (nI 2)), none, none], [.int (nI 0)], mR (nI 0) (nI (g_n M)) (fun ι => nI ((g_pr M) ι)) (fun ι => nI ((g_st M) ι)) (fun ι => oI ((g_he M) ι)) (fun ι => oI ((g_wt M) ι)) (fun ι => nI ((g_wn M) ι)) (fun ι => bI ((g_cv M) ι)) (fun ι => nI ((g_qs M) ι)) (fun ι => nI ((g_qu M) ι)) (nI (g_v5 M)) (nI (g_v6 M)) (nI (g_v7 M)))) (P := aq_fi 1 0 = true) ok_r_told rfl fi1_0 ?_
        show AW r_told _ _ _ (34, [some (.ref 0), some (.int (nI t)), some (.int (nI 2)), none, none], [.int (nI 0)], wM (m_cd M 0))
        refine aq_if_le ok_r_told rfl (fun hz => ?_) (fun hz => ?_)
        · refine aq_gn (n := 4) (c1 := (44, [some (.ref 0), some (.int (nI t)), some (.int (nI 2)), some (.int (nI 0)), some (.int (nI 0))], [], wM (m_cd M 0))) ok_r_told rfl ?_
          exact lp_told2 (M := m_cd M 0) hM (Nat.lt_of_lt_of_le ht hM.1) 85 0 (by omega) 0
        · exact absurd c_le0 hz
      · exact absurd (by decide) h3
  · exact absurd h bI_t
set_option maxHeartbeats 4000000 in
theorem lp_told3 {d : Nat} {M : MSt} {t : Nat} (hM : WM M) (ht6 : t < 60) : ∀ (f i : Nat), i + f = 85 → ∀ c : Nat,  AW r_told (d + 1) (.inl (some (.int (oI (g_wt M t))))) (wM M) (44, [some (.ref 0), some (.int (nI t)), some (.int (nI 3)), some (.int (nI c)), some (.int (nI i))], [], mL (g_cd M) (g_n M) (g_pr M) (g_st M) (g_he M) (g_wt M) (g_wn M) (g_cv M) (g_qs M) (g_qu M) (g_v5 M) (g_v6 M) (g_v7 M)) := by
  intro f
  induction f with
  | zero =>
    intro i hif c
    refine aq_gn (n := 2) (c1 := (48, [some (.ref 0), some (.int (nI t)), some (.int (nI 3)), some (.int (nI c)), some (.int (nI i))], [.int (nI 85), .int (nI i)], mL (g_cd M) (g_n M) (g_pr M) (g_st M) (g_he M) (g_wt M) (g_wn M) (g_cv M) (g_qs M) (g_qu M) (g_v5 M) (g_v6 M) (g_v7 M))) ok_r_told rfl ?_
    refine aq_icmp_ge ok_r_told rfl (fun h => ?_) (fun h => ?_)
    · refine aq_gn (n := 1) (c1 := (76, [some (.ref 0), some (.int (nI t)), some (.int (nI 3)), some (.int (nI c)), some (.int (nI i))], [.int (nI 3)], mL (g_cd M) (g_n M) (g_pr M) (g_st M) (g_he M) (g_wt M) (g_wn M) (g_cv M) (g_qs M) (g_qu M) (g_v5 M) (g_v6 M) (g_v7 M))) ok_r_told rfl ?_
      refine aq_tabI (tgt := 124) ok_r_told rfl (by decide) (by decide) rfl (by decide) ?_
      refine aq_go (n := 4) (c1 := (130, [some (.ref 0), some (.int (nI t)), some (.int (nI 3)), some (.int (nI c)), some (.int (nI i))], [.int (oI ((g_wt M) (nI t).toNatClampNeg))], mL (g_cd M) (g_n M) (g_pr M) (g_st M) (g_he M) (g_wt M) (g_wn M) (g_cv M) (g_qs M) (g_qu M) (g_v5 M) (g_v6 M) (g_v7 M))) (P := vp_in (nI t) 60) ok_r_told rfl (in60 ht6) ?_
      rw [cl60 ht6]
      exact aq_ei ok_r_told rfl rfl rfl rfl
    · exact absurd (nI_le (show 85 ≤ i by omega) (by omega)) h
  | succ f ih =>
    intro i hif c
    refine aq_gn (n := 2) (c1 := (48, [some (.ref 0), some (.int (nI t)), some (.int (nI 3)), some (.int (nI c)), some (.int (nI i))], [.int (nI 85), .int (nI i)], mL (g_cd M) (g_n M) (g_pr M) (g_st M) (g_he M) (g_wt M) (g_wn M) (g_cv M) (g_qs M) (g_qu M) (g_v5 M) (g_v6 M) (g_v7 M))) ok_r_told rfl ?_
    refine aq_icmp_ge ok_r_told rfl (fun h => ?_) (fun h => ?_)
    · exact absurd (q_le h (by omega) (by omega)) (by omega)
    · refine aq_gn (n := 4) (c1 := (56, [some (.ref 0), some (.int (nI t)), some (.int (nI 3)), some (.int (nI c)), some (.int (nI i))], [.int (nI i), .int (nI t), .ref 0, .int (nI c)], wM M)) ok_r_told rfl ?_
      refine aq_callV (as := [.int (nI t), .int (nI i)]) (st := [.int (nI c)]) ok_r_told rfl c1_r_modeOf (rm_modeOfM ht6 (show i < 85 by omega)) rfl (Nat.le_of_ble_eq_true rfl) rfl rfl rfl ?_
      refine aq_if_lt ok_r_told rfl (fun h2 => ?_) (fun h2 => ?_)
      · refine aq_gn (n := 5) (c1 := (44, [some (.ref 0), some (.int (nI t)), some (.int (nI 3)), some (.int ((nI c) + (nI 0))), some (.int ((nI i) + 1))], [], mL (g_cd M) (g_n M) (g_pr M) (g_st M) (g_he M) (g_wt M) (g_wn M) (g_cv M) (g_qs M) (g_qu M) (g_v5 M) (g_v6 M) (g_v7 M))) ok_r_told rfl ?_
        rw [nI_add, nI_1]
        have e : cnt (fun i => !decide (mdI (g_he M) t i < 0)) (f + 1) i c = cnt (fun i => !decide (mdI (g_he M) t i < 0)) f (i + 1) (c + 0) := by rw [cnt]; simp [h2]
        try rw [e]
        exact ih (i + 1) (by omega) _
      · refine aq_gn (n := 6) (c1 := (44, [some (.ref 0), some (.int (nI t)), some (.int (nI 3)), some (.int ((nI c) + (nI 1))), some (.int ((nI i) + 1))], [], mL (g_cd M) (g_n M) (g_pr M) (g_st M) (g_he M) (g_wt M) (g_wn M) (g_cv M) (g_qs M) (g_qu M) (g_v5 M) (g_v6 M) (g_v7 M))) ok_r_told rfl ?_
        rw [nI_add, nI_1]
        have e : cnt (fun i => !decide (mdI (g_he M) t i < 0)) (f + 1) i c = cnt (fun i => !decide (mdI (g_he M) t i < 0)) f (i + 1) (c + 1) := by rw [cnt]; simp [h2]
        try rw [e]
        exact ih (i + 1) (by omega) _
set_option maxHeartbeats 4000000 in
theorem rm_told3 {d : Nat} {M : MSt} {t : Nat} (hM : WM M) (ht : t < g_n M) : AM r_told (d + 1) (.inl (some (.int (oI (g_wt M t))))) [.ref 0, .int (nI t), .int (nI 3)] (wM M) (wM (m_cd M 0)) := by
  refine aq_enter pl_r_told (Nat.le_of_ble_eq_true rfl) ?_
  refine aq_gn (n := 3) (c1 := (3, [some (.ref 0), some (.int (nI t)), some (.int (nI 3)), none, none], [.int (nI t), .ref 0, .ref 0], wM M)) ok_r_told rfl ?_
  refine aq_callV (as := [.int (nI t)]) (st := [.ref 0]) ok_r_told rfl c1_r_isTransaction (rm_isTransactionM (nI t)) rfl (Nat.le_of_ble_eq_true rfl) rfl rfl rfl ?_
  rw [isT_in ht (show g_n M < 2 ^ 31 by have := hM.1; omega)]
  refine aq_if_ne ok_r_told rfl (fun h => ?_) (fun h => ?_)
  · show AW r_told _ _ _ (13, [some (.ref 0), some (.int (nI t)), some (.int (nI 3)), none, none], [.ref 0], mL (g_cd M) (g_n M) (g_pr M) (g_st M) (g_he M) (g_wt M) (g_wn M) (g_cv M) (g_qs M) (g_qu M) (g_v5 M) (g_v6 M) (g_v7 M))
    refine aq_gn (n := 1) (c1 := (14, [some (.ref 0), some (.int (nI t)), some (.int (nI 3)), none, none], [.int (nI 3), .ref 0], mL (g_cd M) (g_n M) (g_pr M) (g_st M) (g_he M) (g_wt M) (g_wn M) (g_cv M) (g_qs M) (g_qu M) (g_v5 M) (g_v6 M) (g_v7 M))) ok_r_told rfl ?_
    refine aq_if_lt ok_r_told rfl (fun h2 => ?_) (fun h2 => ?_)
    · exact absurd h2 (by decide)
    · refine aq_gn (n := 2) (c1 := (19, [some (.ref 0), some (.int (nI t)), some (.int (nI 3)), none, none], [.int (nI 4), .int (nI 3), .ref 0], mL (g_cd M) (g_n M) (g_pr M) (g_st M) (g_he M) (g_wt M) (g_wn M) (g_cv M) (g_qs M) (g_qu M) (g_v5 M) (g_v6 M) (g_v7 M))) ok_r_told rfl ?_
      refine aq_icmp_le ok_r_told rfl (fun h3 => ?_) (fun h3 => ?_)
      · refine aq_go (n := 4) (c1 := (34, [some (.ref 0), some (.int (nI t)), some (.int (nI 3)), none, none], [.int (nI 0)], mR (nI 0) (nI (g_n M)) (fun ι => nI ((g_pr M) ι)) (fun ι => nI ((g_st M) ι)) (fun ι => oI ((g_he M) ι)) (fun ι => oI ((g_wt M) ι)) (fun ι => nI ((g_wn M) ι)) (fun ι => bI ((g_cv M) ι)) (fun ι => nI ((g_qs M) ι)) (fun ι => nI ((g_qu M) ι)) (nI (g_v5 M)) (nI (g_v6 M)) (nI (g_v7 M)))) (P := aq_fi 1 0 = true) ok_r_told rfl fi1_0 ?_
        show AW r_told _ _ _ (34, [some (.ref 0), some (.int (nI t)), some (.int (nI 3)), none, none], [.int (nI 0)], wM (m_cd M 0))
        refine aq_if_le ok_r_told rfl (fun hz => ?_) (fun hz => ?_)
        · refine aq_gn (n := 4) (c1 := (44, [some (.ref 0), some (.int (nI t)), some (.int (nI 3)), some (.int (nI 0)), some (.int (nI 0))], [], wM (m_cd M 0))) ok_r_told rfl ?_
          exact lp_told3 (M := m_cd M 0) hM (Nat.lt_of_lt_of_le ht hM.1) 85 0 (by omega) 0
        · exact absurd c_le0 hz
      · exact absurd (by decide) h3
  · exact absurd h bI_t
set_option maxHeartbeats 4000000 in
theorem lp_told4 {d : Nat} {M : MSt} {t : Nat} (hM : WM M) (ht6 : t < 60) : ∀ (f i : Nat), i + f = 85 → ∀ c : Nat,  AW r_told (d + 1) (.inl (some (.int (if g_wt M t = none then -1 else nI (g_wn M t))))) (wM M) (44, [some (.ref 0), some (.int (nI t)), some (.int (nI 4)), some (.int (nI c)), some (.int (nI i))], [], mL (g_cd M) (g_n M) (g_pr M) (g_st M) (g_he M) (g_wt M) (g_wn M) (g_cv M) (g_qs M) (g_qu M) (g_v5 M) (g_v6 M) (g_v7 M)) := by
  intro f
  induction f with
  | zero =>
    intro i hif c
    refine aq_gn (n := 2) (c1 := (48, [some (.ref 0), some (.int (nI t)), some (.int (nI 4)), some (.int (nI c)), some (.int (nI i))], [.int (nI 85), .int (nI i)], mL (g_cd M) (g_n M) (g_pr M) (g_st M) (g_he M) (g_wt M) (g_wn M) (g_cv M) (g_qs M) (g_qu M) (g_v5 M) (g_v6 M) (g_v7 M))) ok_r_told rfl ?_
    refine aq_icmp_ge ok_r_told rfl (fun h => ?_) (fun h => ?_)
    · refine aq_gn (n := 1) (c1 := (76, [some (.ref 0), some (.int (nI t)), some (.int (nI 4)), some (.int (nI c)), some (.int (nI i))], [.int (nI 4)], mL (g_cd M) (g_n M) (g_pr M) (g_st M) (g_he M) (g_wt M) (g_wn M) (g_cv M) (g_qs M) (g_qu M) (g_v5 M) (g_v6 M) (g_v7 M))) ok_r_told rfl ?_
      refine aq_tabO (tgt := 131) ok_r_told rfl (Or.inr (by decide)) (by decide) ?_
      refine aq_go (n := 4) (c1 := (137, [some (.ref 0), some (.int (nI t)), some (.int (nI 4)), some (.int (nI c)), some (.int (nI i))], [.int (oI ((g_wt M) (nI t).toNatClampNeg))], mL (g_cd M) (g_n M) (g_pr M) (g_st M) (g_he M) (g_wt M) (g_wn M) (g_cv M) (g_qs M) (g_qu M) (g_v5 M) (g_v6 M) (g_v7 M))) (P := vp_in (nI t) 60) ok_r_told rfl (in60 ht6) ?_
      rw [cl60 ht6]
      refine aq_if_ge ok_r_told rfl (fun h2 => ?_) (fun h2 => ?_)
      · obtain ⟨q, hq⟩ := oI_ge h2
        refine aq_go (n := 4) (c1 := (150, [some (.ref 0), some (.int (nI t)), some (.int (nI 4)), some (.int (nI c)), some (.int (nI i))], [.int (nI ((g_wn M) (nI t).toNatClampNeg))], mL (g_cd M) (g_n M) (g_pr M) (g_st M) (g_he M) (g_wt M) (g_wn M) (g_cv M) (g_qs M) (g_qu M) (g_v5 M) (g_v6 M) (g_v7 M))) (P := vp_in (nI t) 60) ok_r_told rfl (in60 ht6) ?_
        rw [cl60 ht6]
        exact aq_ei ok_r_told rfl rfl (by rw [if_neg (by rw [hq]; intro q; cases q)]) rfl
      · have hq := oI_nge h2 (fun x q => by have := hM.2.2.2.1 t x q; omega)
        refine aq_gn (n := 2) (c1 := (150, [some (.ref 0), some (.int (nI t)), some (.int (nI 4)), some (.int (nI c)), some (.int (nI i))], [.int (-1)], mL (g_cd M) (g_n M) (g_pr M) (g_st M) (g_he M) (g_wt M) (g_wn M) (g_cv M) (g_qs M) (g_qu M) (g_v5 M) (g_v6 M) (g_v7 M))) ok_r_told rfl ?_
        exact aq_ei ok_r_told rfl rfl (by rw [if_pos hq]) rfl
    · exact absurd (nI_le (show 85 ≤ i by omega) (by omega)) h
  | succ f ih =>
    intro i hif c
    refine aq_gn (n := 2) (c1 := (48, [some (.ref 0), some (.int (nI t)), some (.int (nI 4)), some (.int (nI c)), some (.int (nI i))], [.int (nI 85), .int (nI i)], mL (g_cd M) (g_n M) (g_pr M) (g_st M) (g_he M) (g_wt M) (g_wn M) (g_cv M) (g_qs M) (g_qu M) (g_v5 M) (g_v6 M) (g_v7 M))) ok_r_told rfl ?_
    refine aq_icmp_ge ok_r_told rfl (fun h => ?_) (fun h => ?_)
    · exact absurd (q_le h (by omega) (by omega)) (by omega)
    · refine aq_gn (n := 4) (c1 := (56, [some (.ref 0), some (.int (nI t)), some (.int (nI 4)), some (.int (nI c)), some (.int (nI i))], [.int (nI i), .int (nI t), .ref 0, .int (nI c)], wM M)) ok_r_told rfl ?_
      refine aq_callV (as := [.int (nI t), .int (nI i)]) (st := [.int (nI c)]) ok_r_told rfl c1_r_modeOf (rm_modeOfM ht6 (show i < 85 by omega)) rfl (Nat.le_of_ble_eq_true rfl) rfl rfl rfl ?_
      refine aq_if_lt ok_r_told rfl (fun h2 => ?_) (fun h2 => ?_)
      · refine aq_gn (n := 5) (c1 := (44, [some (.ref 0), some (.int (nI t)), some (.int (nI 4)), some (.int ((nI c) + (nI 0))), some (.int ((nI i) + 1))], [], mL (g_cd M) (g_n M) (g_pr M) (g_st M) (g_he M) (g_wt M) (g_wn M) (g_cv M) (g_qs M) (g_qu M) (g_v5 M) (g_v6 M) (g_v7 M))) ok_r_told rfl ?_
        rw [nI_add, nI_1]
        have e : cnt (fun i => !decide (mdI (g_he M) t i < 0)) (f + 1) i c = cnt (fun i => !decide (mdI (g_he M) t i < 0)) f (i + 1) (c + 0) := by rw [cnt]; simp [h2]
        try rw [e]
        exact ih (i + 1) (by omega) _
      · refine aq_gn (n := 6) (c1 := (44, [some (.ref 0), some (.int (nI t)), some (.int (nI 4)), some (.int ((nI c) + (nI 1))), some (.int ((nI i) + 1))], [], mL (g_cd M) (g_n M) (g_pr M) (g_st M) (g_he M) (g_wt M) (g_wn M) (g_cv M) (g_qs M) (g_qu M) (g_v5 M) (g_v6 M) (g_v7 M))) ok_r_told rfl ?_
        rw [nI_add, nI_1]
        have e : cnt (fun i => !decide (mdI (g_he M) t i < 0)) (f + 1) i c = cnt (fun i => !decide (mdI (g_he M) t i < 0)) f (i + 1) (c + 1) := by rw [cnt]; simp [h2]
        try rw [e]
        exact ih (i + 1) (by omega) _
set_option maxHeartbeats 4000000 in
theorem rm_told4 {d : Nat} {M : MSt} {t : Nat} (hM : WM M) (ht : t < g_n M) : AM r_told (d + 1) (.inl (some (.int (if g_wt M t = none then -1 else nI (g_wn M t))))) [.ref 0, .int (nI t), .int (nI 4)] (wM M) (wM (m_cd M 0)) := by
  refine aq_enter pl_r_told (Nat.le_of_ble_eq_true rfl) ?_
  refine aq_gn (n := 3) (c1 := (3, [some (.ref 0), some (.int (nI t)), some (.int (nI 4)), none, none], [.int (nI t), .ref 0, .ref 0], wM M)) ok_r_told rfl ?_
  refine aq_callV (as := [.int (nI t)]) (st := [.ref 0]) ok_r_told rfl c1_r_isTransaction (rm_isTransactionM (nI t)) rfl (Nat.le_of_ble_eq_true rfl) rfl rfl rfl ?_
  rw [isT_in ht (show g_n M < 2 ^ 31 by have := hM.1; omega)]
  refine aq_if_ne ok_r_told rfl (fun h => ?_) (fun h => ?_)
  · show AW r_told _ _ _ (13, [some (.ref 0), some (.int (nI t)), some (.int (nI 4)), none, none], [.ref 0], mL (g_cd M) (g_n M) (g_pr M) (g_st M) (g_he M) (g_wt M) (g_wn M) (g_cv M) (g_qs M) (g_qu M) (g_v5 M) (g_v6 M) (g_v7 M))
    refine aq_gn (n := 1) (c1 := (14, [some (.ref 0), some (.int (nI t)), some (.int (nI 4)), none, none], [.int (nI 4), .ref 0], mL (g_cd M) (g_n M) (g_pr M) (g_st M) (g_he M) (g_wt M) (g_wn M) (g_cv M) (g_qs M) (g_qu M) (g_v5 M) (g_v6 M) (g_v7 M))) ok_r_told rfl ?_
    refine aq_if_lt ok_r_told rfl (fun h2 => ?_) (fun h2 => ?_)
    · exact absurd h2 (by decide)
    · refine aq_gn (n := 2) (c1 := (19, [some (.ref 0), some (.int (nI t)), some (.int (nI 4)), none, none], [.int (nI 4), .int (nI 4), .ref 0], mL (g_cd M) (g_n M) (g_pr M) (g_st M) (g_he M) (g_wt M) (g_wn M) (g_cv M) (g_qs M) (g_qu M) (g_v5 M) (g_v6 M) (g_v7 M))) ok_r_told rfl ?_
      refine aq_icmp_le ok_r_told rfl (fun h3 => ?_) (fun h3 => ?_)
      · refine aq_go (n := 4) (c1 := (34, [some (.ref 0), some (.int (nI t)), some (.int (nI 4)), none, none], [.int (nI 0)], mR (nI 0) (nI (g_n M)) (fun ι => nI ((g_pr M) ι)) (fun ι => nI ((g_st M) ι)) (fun ι => oI ((g_he M) ι)) (fun ι => oI ((g_wt M) ι)) (fun ι => nI ((g_wn M) ι)) (fun ι => bI ((g_cv M) ι)) (fun ι => nI ((g_qs M) ι)) (fun ι => nI ((g_qu M) ι)) (nI (g_v5 M)) (nI (g_v6 M)) (nI (g_v7 M)))) (P := aq_fi 1 0 = true) ok_r_told rfl fi1_0 ?_
        show AW r_told _ _ _ (34, [some (.ref 0), some (.int (nI t)), some (.int (nI 4)), none, none], [.int (nI 0)], wM (m_cd M 0))
        refine aq_if_le ok_r_told rfl (fun hz => ?_) (fun hz => ?_)
        · refine aq_gn (n := 4) (c1 := (44, [some (.ref 0), some (.int (nI t)), some (.int (nI 4)), some (.int (nI 0)), some (.int (nI 0))], [], wM (m_cd M 0))) ok_r_told rfl ?_
          exact lp_told4 (M := m_cd M 0) hM (Nat.lt_of_lt_of_le ht hM.1) 85 0 (by omega) 0
        · exact absurd c_le0 hz
      · exact absurd (by decide) h3
  · exact absurd h bI_t
set_option maxHeartbeats 4000000 in
theorem rm_told_t {d : Nat} {M : MSt} {x y : Int32} (hx : x < 0 ∨ nI (g_n M) ≤ x) : AM r_told (d + 1) (.inl (some (.int (nI 0)))) [.ref 0, .int x, .int y] (wM M) (wM (m_cd M 1)) := by
  refine aq_enter pl_r_told (Nat.le_of_ble_eq_true rfl) ?_
  refine aq_gn (n := 3) (c1 := (3, [some (.ref 0), some (.int x), some (.int y), none, none], [.int x, .ref 0, .ref 0], wM M)) ok_r_told rfl ?_
  refine aq_callV (as := [.int x]) (st := [.ref 0]) ok_r_told rfl c1_r_isTransaction (rm_isTransactionM x) rfl (Nat.le_of_ble_eq_true rfl) rfl rfl rfl ?_
  rw [isT_out hx]
  refine aq_if_ne ok_r_told rfl (fun h => ?_) (fun h => ?_)
  · exact absurd rfl h
  · show AW r_told _ _ _ (9, [some (.ref 0), some (.int x), some (.int y), none, none], [.ref 0], mL (g_cd M) (g_n M) (g_pr M) (g_st M) (g_he M) (g_wt M) (g_wn M) (g_cv M) (g_qs M) (g_qu M) (g_v5 M) (g_v6 M) (g_v7 M))
    refine aq_go (n := 5) (c1 := (34, [some (.ref 0), some (.int x), some (.int y), none, none], [.int (nI 1)], mR (nI 1) (nI (g_n M)) (fun ι => nI ((g_pr M) ι)) (fun ι => nI ((g_st M) ι)) (fun ι => oI ((g_he M) ι)) (fun ι => oI ((g_wt M) ι)) (fun ι => nI ((g_wn M) ι)) (fun ι => bI ((g_cv M) ι)) (fun ι => nI ((g_qs M) ι)) (fun ι => nI ((g_qu M) ι)) (nI (g_v5 M)) (nI (g_v6 M)) (nI (g_v7 M)))) (P := aq_fi 1 0 = true) ok_r_told rfl fi1_0 ?_
    show AW r_told _ _ _ (34, [some (.ref 0), some (.int x), some (.int y), none, none], [.int (nI 1)], wM (m_cd M 1))
    refine aq_if_le ok_r_told rfl (fun hz => ?_) (fun hz => ?_)
    · exact absurd hz c_le1
    · refine aq_gn (n := 1) (c1 := (38, [some (.ref 0), some (.int x), some (.int y), none, none], [.int (nI 0)], wM (m_cd M 1))) ok_r_told rfl ?_
      exact aq_ei ok_r_told rfl rfl rfl rfl
set_option maxHeartbeats 4000000 in
theorem rm_told_w {d : Nat} {M : MSt} {t : Nat} {y : Int32} (hM : WM M) (ht : t < g_n M) (hy : y.toInt < 0 ∨ 4 < y.toInt) : AM r_told (d + 1) (.inl (some (.int (nI 0)))) [.ref 0, .int (nI t), .int y] (wM M) (wM (m_cd M 2)) := by
  refine aq_enter pl_r_told (Nat.le_of_ble_eq_true rfl) ?_
  refine aq_gn (n := 3) (c1 := (3, [some (.ref 0), some (.int (nI t)), some (.int y), none, none], [.int (nI t), .ref 0, .ref 0], wM M)) ok_r_told rfl ?_
  refine aq_callV (as := [.int (nI t)]) (st := [.ref 0]) ok_r_told rfl c1_r_isTransaction (rm_isTransactionM (nI t)) rfl (Nat.le_of_ble_eq_true rfl) rfl rfl rfl ?_
  rw [isT_in ht (show g_n M < 2 ^ 31 by have := hM.1; omega)]
  refine aq_if_ne ok_r_told rfl (fun h => ?_) (fun h => ?_)
  · show AW r_told _ _ _ (13, [some (.ref 0), some (.int (nI t)), some (.int y), none, none], [.ref 0], mL (g_cd M) (g_n M) (g_pr M) (g_st M) (g_he M) (g_wt M) (g_wn M) (g_cv M) (g_qs M) (g_qu M) (g_v5 M) (g_v6 M) (g_v7 M))
    refine aq_gn (n := 1) (c1 := (14, [some (.ref 0), some (.int (nI t)), some (.int y), none, none], [.int y, .ref 0], mL (g_cd M) (g_n M) (g_pr M) (g_st M) (g_he M) (g_wt M) (g_wn M) (g_cv M) (g_qs M) (g_qu M) (g_v5 M) (g_v6 M) (g_v7 M))) ok_r_told rfl ?_
    refine aq_if_lt ok_r_told rfl (fun h2 => ?_) (fun h2 => ?_)
    · refine aq_go (n := 5) (c1 := (34, [some (.ref 0), some (.int (nI t)), some (.int y), none, none], [.int (nI 2)], mR (nI 2) (nI (g_n M)) (fun ι => nI ((g_pr M) ι)) (fun ι => nI ((g_st M) ι)) (fun ι => oI ((g_he M) ι)) (fun ι => oI ((g_wt M) ι)) (fun ι => nI ((g_wn M) ι)) (fun ι => bI ((g_cv M) ι)) (fun ι => nI ((g_qs M) ι)) (fun ι => nI ((g_qu M) ι)) (nI (g_v5 M)) (nI (g_v6 M)) (nI (g_v7 M)))) (P := aq_fi 1 0 = true) ok_r_told rfl fi1_0 ?_
      show AW r_told _ _ _ (34, [some (.ref 0), some (.int (nI t)), some (.int y), none, none], [.int (nI 2)], wM (m_cd M 2))
      refine aq_if_le ok_r_told rfl (fun hz => ?_) (fun hz => ?_)
      · exact absurd hz c_le2
      · refine aq_gn (n := 1) (c1 := (38, [some (.ref 0), some (.int (nI t)), some (.int y), none, none], [.int (nI 0)], wM (m_cd M 2))) ok_r_told rfl ?_
        exact aq_ei ok_r_told rfl rfl rfl rfl
    · refine aq_gn (n := 2) (c1 := (19, [some (.ref 0), some (.int (nI t)), some (.int y), none, none], [.int (nI 4), .int y, .ref 0], mL (g_cd M) (g_n M) (g_pr M) (g_st M) (g_he M) (g_wt M) (g_wn M) (g_cv M) (g_qs M) (g_qu M) (g_v5 M) (g_v6 M) (g_v7 M))) ok_r_told rfl ?_
      refine aq_icmp_le ok_r_told rfl (fun h3 => ?_) (fun h3 => ?_)
      · exact absurd hy (fun q => q.elim (fun q => h2 (Int32.lt_iff_toInt_lt.mpr (by simpa using q))) (fun q => I_gt (Int32.lt_iff_toInt_lt.mpr (by rw [show (nI 4).toInt = 4 by decide]; exact q)) h3))
      · refine aq_go (n := 5) (c1 := (34, [some (.ref 0), some (.int (nI t)), some (.int y), none, none], [.int (nI 2)], mR (nI 2) (nI (g_n M)) (fun ι => nI ((g_pr M) ι)) (fun ι => nI ((g_st M) ι)) (fun ι => oI ((g_he M) ι)) (fun ι => oI ((g_wt M) ι)) (fun ι => nI ((g_wn M) ι)) (fun ι => bI ((g_cv M) ι)) (fun ι => nI ((g_qs M) ι)) (fun ι => nI ((g_qu M) ι)) (nI (g_v5 M)) (nI (g_v6 M)) (nI (g_v7 M)))) (P := aq_fi 1 0 = true) ok_r_told rfl fi1_0 ?_
        show AW r_told _ _ _ (34, [some (.ref 0), some (.int (nI t)), some (.int y), none, none], [.int (nI 2)], wM (m_cd M 2))
        refine aq_if_le ok_r_told rfl (fun hz => ?_) (fun hz => ?_)
        · exact absurd hz c_le2
        · refine aq_gn (n := 1) (c1 := (38, [some (.ref 0), some (.int (nI t)), some (.int y), none, none], [.int (nI 0)], wM (m_cd M 2))) ok_r_told rfl ?_
          exact aq_ei ok_r_told rfl rfl rfl rfl
  · exact absurd h bI_t
set_option maxHeartbeats 4000000 in
theorem rm_many_o {d : Nat} {M : MSt} {y z : Int32} (hy : y < 0 ∨ nI 85 ≤ y) : AM r_many (d + 1) (.inl (some (.int (nI 0)))) [.ref 0, .int y, .int z] (wM M) (wM (m_cd M 1)) := by
  refine aq_enter pl_r_many (Nat.le_of_ble_eq_true rfl) ?_
  refine aq_gn (n := 2) (c1 := (2, [some (.ref 0), some (.int y), some (.int z), none, none], [.int y, .ref 0], wM M)) ok_r_many rfl ?_
  refine aq_callS (as := [.int y]) (st := [.ref 0]) ok_r_many rfl c1_r_isObject (rm_isObject y) rfl (Nat.le_of_ble_eq_true rfl) ?_
  rw [isT_out hy]
  refine aq_if_eq ok_r_many rfl (fun h2 => ?_) (fun h2 => ?_)
  · show AW r_many _ _ _ (12, [some (.ref 0), some (.int y), some (.int z), none, none], [.ref 0], mL (g_cd M) (g_n M) (g_pr M) (g_st M) (g_he M) (g_wt M) (g_wn M) (g_cv M) (g_qs M) (g_qu M) (g_v5 M) (g_v6 M) (g_v7 M))
    refine aq_go (n := 4) (c1 := (20, [some (.ref 0), some (.int y), some (.int z), none, none], [.int (nI 1)], mR (nI 1) (nI (g_n M)) (fun ι => nI ((g_pr M) ι)) (fun ι => nI ((g_st M) ι)) (fun ι => oI ((g_he M) ι)) (fun ι => oI ((g_wt M) ι)) (fun ι => nI ((g_wn M) ι)) (fun ι => bI ((g_cv M) ι)) (fun ι => nI ((g_qs M) ι)) (fun ι => nI ((g_qu M) ι)) (nI (g_v5 M)) (nI (g_v6 M)) (nI (g_v7 M)))) (P := aq_fi 1 0 = true) ok_r_many rfl fi1_0 ?_
    show AW r_many _ _ _ (20, [some (.ref 0), some (.int y), some (.int z), none, none], [.int (nI 1)], wM (m_cd M 1))
    refine aq_if_le ok_r_many rfl (fun hz => ?_) (fun hz => ?_)
    · exact absurd hz c_le1
    · refine aq_gn (n := 1) (c1 := (24, [some (.ref 0), some (.int y), some (.int z), none, none], [.int (nI 0)], wM (m_cd M 1))) ok_r_many rfl ?_
      exact aq_ei ok_r_many rfl rfl rfl rfl
  · exact absurd rfl h2
set_option maxHeartbeats 4000000 in
theorem lp_many {d : Nat} {M : MSt} {o : Nat} {b : Bool} (hM : WM M) (hn : g_n M ≤ 60) (ho : o < 85) : ∀ (f i : Nat), i + f = g_n M → ∀ c : Nat,  AW r_many (d + 1) (.inl (some (.int (if b then nI (g_qs M o) else nI (cnt (fun i => !decide (mdI (g_he M) i o < 0)) f i c))))) (wM M) (30, [some (.ref 0), some (.int (nI o)), some (.int (bI b)), some (.int (nI c)), some (.int (nI i))], [], mL (g_cd M) (g_n M) (g_pr M) (g_st M) (g_he M) (g_wt M) (g_wn M) (g_cv M) (g_qs M) (g_qu M) (g_v5 M) (g_v6 M) (g_v7 M)) := by
  intro f
  induction f with
  | zero =>
    intro i hif c
    refine aq_gn (n := 3) (c1 := (36, [some (.ref 0), some (.int (nI o)), some (.int (bI b)), some (.int (nI c)), some (.int (nI i))], [.int (nI (g_n M)), .int (nI i)], mL (g_cd M) (g_n M) (g_pr M) (g_st M) (g_he M) (g_wt M) (g_wn M) (g_cv M) (g_qs M) (g_qu M) (g_v5 M) (g_v6 M) (g_v7 M))) ok_r_many rfl ?_
    refine aq_icmp_ge ok_r_many rfl (fun h => ?_) (fun h => ?_)
    · refine aq_gn (n := 1) (c1 := (64, [some (.ref 0), some (.int (nI o)), some (.int (bI b)), some (.int (nI c)), some (.int (nI i))], [.int (bI b)], mL (g_cd M) (g_n M) (g_pr M) (g_st M) (g_he M) (g_wt M) (g_wn M) (g_cv M) (g_qs M) (g_qu M) (g_v5 M) (g_v6 M) (g_v7 M))) ok_r_many rfl ?_
      refine aq_if_eq ok_r_many rfl (fun h2 => ?_) (fun h2 => ?_)
      · have hb := (bI_0 _).mp h2
        subst hb
        refine aq_gn (n := 1) (c1 := (77, [some (.ref 0), some (.int (nI o)), some (.int (bI false)), some (.int (nI c)), some (.int (nI i))], [.int (nI c)], mL (g_cd M) (g_n M) (g_pr M) (g_st M) (g_he M) (g_wt M) (g_wn M) (g_cv M) (g_qs M) (g_qu M) (g_v5 M) (g_v6 M) (g_v7 M))) ok_r_many rfl ?_
        exact aq_ei ok_r_many rfl rfl rfl rfl
      · have hb : b = true := by cases b with | true => rfl | false => exact absurd rfl h2
        subst hb
        refine aq_go (n := 5) (c1 := (77, [some (.ref 0), some (.int (nI o)), some (.int (bI true)), some (.int (nI c)), some (.int (nI i))], [.int (nI ((g_qs M) (nI o).toNatClampNeg))], mL (g_cd M) (g_n M) (g_pr M) (g_st M) (g_he M) (g_wt M) (g_wn M) (g_cv M) (g_qs M) (g_qu M) (g_v5 M) (g_v6 M) (g_v7 M))) (P := vp_in (nI o) 85) ok_r_many rfl (inN ho (by omega)) ?_
        rw [clN (show o < 6000 by omega)]
        exact aq_ei ok_r_many rfl rfl rfl rfl
    · exact absurd (nI_le (show g_n M ≤ i by omega) (by omega)) h
  | succ f ih =>
    intro i hif c
    refine aq_gn (n := 3) (c1 := (36, [some (.ref 0), some (.int (nI o)), some (.int (bI b)), some (.int (nI c)), some (.int (nI i))], [.int (nI (g_n M)), .int (nI i)], mL (g_cd M) (g_n M) (g_pr M) (g_st M) (g_he M) (g_wt M) (g_wn M) (g_cv M) (g_qs M) (g_qu M) (g_v5 M) (g_v6 M) (g_v7 M))) ok_r_many rfl ?_
    refine aq_icmp_ge ok_r_many rfl (fun h => ?_) (fun h => ?_)
    · exact absurd (q_le h (by omega) (by omega)) (by omega)
    · refine aq_gn (n := 4) (c1 := (44, [some (.ref 0), some (.int (nI o)), some (.int (bI b)), some (.int (nI c)), some (.int (nI i))], [.int (nI o), .int (nI i), .ref 0, .int (nI c)], wM M)) ok_r_many rfl ?_
      refine aq_callV (as := [.int (nI i), .int (nI o)]) (st := [.int (nI c)]) ok_r_many rfl c1_r_modeOf (rm_modeOfM (show i < 60 by omega) ho) rfl (Nat.le_of_ble_eq_true rfl) rfl rfl rfl ?_
      refine aq_if_lt ok_r_many rfl (fun h2 => ?_) (fun h2 => ?_)
      · refine aq_gn (n := 5) (c1 := (30, [some (.ref 0), some (.int (nI o)), some (.int (bI b)), some (.int ((nI c) + (nI 0))), some (.int ((nI i) + 1))], [], mL (g_cd M) (g_n M) (g_pr M) (g_st M) (g_he M) (g_wt M) (g_wn M) (g_cv M) (g_qs M) (g_qu M) (g_v5 M) (g_v6 M) (g_v7 M))) ok_r_many rfl ?_
        rw [nI_add, nI_1]
        have e : cnt (fun i => !decide (mdI (g_he M) i o < 0)) (f + 1) i c = cnt (fun i => !decide (mdI (g_he M) i o < 0)) f (i + 1) (c + 0) := by rw [cnt]; simp [h2]
        try rw [e]
        exact ih (i + 1) (by omega) _
      · refine aq_gn (n := 6) (c1 := (30, [some (.ref 0), some (.int (nI o)), some (.int (bI b)), some (.int ((nI c) + (nI 1))), some (.int ((nI i) + 1))], [], mL (g_cd M) (g_n M) (g_pr M) (g_st M) (g_he M) (g_wt M) (g_wn M) (g_cv M) (g_qs M) (g_qu M) (g_v5 M) (g_v6 M) (g_v7 M))) ok_r_many rfl ?_
        rw [nI_add, nI_1]
        have e : cnt (fun i => !decide (mdI (g_he M) i o < 0)) (f + 1) i c = cnt (fun i => !decide (mdI (g_he M) i o < 0)) f (i + 1) (c + 1) := by rw [cnt]; simp [h2]
        try rw [e]
        exact ih (i + 1) (by omega) _
set_option maxHeartbeats 4000000 in
theorem rm_many {d : Nat} {M : MSt} {o : Nat} {b : Bool} (hM : WM M) (ho : o < 85) : AM r_many (d + 1) (.inl (some (.int (if b then nI (g_qs M o) else nI (cnt (fun i => !decide (mdI (g_he M) i o < 0)) (g_n M) 0 0))))) [.ref 0, .int (nI o), .int (bI b)] (wM M) (wM (m_cd M 0)) := by
  refine aq_enter pl_r_many (Nat.le_of_ble_eq_true rfl) ?_
  refine aq_gn (n := 2) (c1 := (2, [some (.ref 0), some (.int (nI o)), some (.int (bI b)), none, none], [.int (nI o), .ref 0], wM M)) ok_r_many rfl ?_
  refine aq_callS (as := [.int (nI o)]) (st := [.ref 0]) ok_r_many rfl c1_r_isObject (rm_isObject (nI o)) rfl (Nat.le_of_ble_eq_true rfl) ?_
  rw [isT_in ho (by omega)]
  refine aq_if_eq ok_r_many rfl (fun h2 => ?_) (fun h2 => ?_)
  · exact absurd h2 bI_t
  · show AW r_many _ _ _ (8, [some (.ref 0), some (.int (nI o)), some (.int (bI b)), none, none], [.ref 0], mL (g_cd M) (g_n M) (g_pr M) (g_st M) (g_he M) (g_wt M) (g_wn M) (g_cv M) (g_qs M) (g_qu M) (g_v5 M) (g_v6 M) (g_v7 M))
    refine aq_go (n := 5) (c1 := (20, [some (.ref 0), some (.int (nI o)), some (.int (bI b)), none, none], [.int (nI 0)], mR (nI 0) (nI (g_n M)) (fun ι => nI ((g_pr M) ι)) (fun ι => nI ((g_st M) ι)) (fun ι => oI ((g_he M) ι)) (fun ι => oI ((g_wt M) ι)) (fun ι => nI ((g_wn M) ι)) (fun ι => bI ((g_cv M) ι)) (fun ι => nI ((g_qs M) ι)) (fun ι => nI ((g_qu M) ι)) (nI (g_v5 M)) (nI (g_v6 M)) (nI (g_v7 M)))) (P := aq_fi 1 0 = true) ok_r_many rfl fi1_0 ?_
    show AW r_many _ _ _ (20, [some (.ref 0), some (.int (nI o)), some (.int (bI b)), none, none], [.int (nI 0)], wM (m_cd M 0))
    refine aq_if_le ok_r_many rfl (fun hz => ?_) (fun hz => ?_)
    · refine aq_gn (n := 4) (c1 := (30, [some (.ref 0), some (.int (nI o)), some (.int (bI b)), some (.int (nI 0)), some (.int (nI 0))], [], wM (m_cd M 0))) ok_r_many rfl ?_
      exact lp_many (M := m_cd M 0) hM hM.1 ho (g_n M) 0 (Nat.zero_add _) 0
    · exact absurd c_le0 hz
set_option maxHeartbeats 4000000 in
theorem lp_count0 {d : Nat} {M : MSt} (hn : g_n M ≤ 60) : ∀ (f i : Nat), i + f = g_n M → ∀ c : Nat,  AW r_count (d) (.inl (some (.int (nI (g_n M))))) (wM M) (9, [some (.ref 0), some (.int (nI 0)), some (.int (nI c)), some (.int (nI i))], [], mL (g_cd M) (g_n M) (g_pr M) (g_st M) (g_he M) (g_wt M) (g_wn M) (g_cv M) (g_qs M) (g_qu M) (g_v5 M) (g_v6 M) (g_v7 M)) := by
  intro f
  induction f with
  | zero =>
    intro i hif c
    refine aq_gn (n := 3) (c1 := (14, [some (.ref 0), some (.int (nI 0)), some (.int (nI c)), some (.int (nI i))], [.int (nI (g_n M)), .int (nI i)], mL (g_cd M) (g_n M) (g_pr M) (g_st M) (g_he M) (g_wt M) (g_wn M) (g_cv M) (g_qs M) (g_qu M) (g_v5 M) (g_v6 M) (g_v7 M))) ok_r_count rfl ?_
    refine aq_icmp_ge ok_r_count rfl (fun h => ?_) (fun h => ?_)
    · refine aq_gn (n := 1) (c1 := (44, [some (.ref 0), some (.int (nI 0)), some (.int (nI c)), some (.int (nI i))], [.int (nI 0)], mL (g_cd M) (g_n M) (g_pr M) (g_st M) (g_he M) (g_wt M) (g_wn M) (g_cv M) (g_qs M) (g_qu M) (g_v5 M) (g_v6 M) (g_v7 M))) ok_r_count rfl ?_
      refine aq_tabI (tgt := 92) ok_r_count rfl (by decide) (by decide) rfl (by decide) ?_
      refine aq_gn (n := 2) (c1 := (96, [some (.ref 0), some (.int (nI 0)), some (.int (nI c)), some (.int (nI i))], [.int (nI (g_n M))], mL (g_cd M) (g_n M) (g_pr M) (g_st M) (g_he M) (g_wt M) (g_wn M) (g_cv M) (g_qs M) (g_qu M) (g_v5 M) (g_v6 M) (g_v7 M))) ok_r_count rfl ?_
      exact aq_ei ok_r_count rfl rfl rfl rfl
    · exact absurd (nI_le (show g_n M ≤ i by omega) (by omega)) h
  | succ f ih =>
    intro i hif c
    refine aq_gn (n := 3) (c1 := (14, [some (.ref 0), some (.int (nI 0)), some (.int (nI c)), some (.int (nI i))], [.int (nI (g_n M)), .int (nI i)], mL (g_cd M) (g_n M) (g_pr M) (g_st M) (g_he M) (g_wt M) (g_wn M) (g_cv M) (g_qs M) (g_qu M) (g_v5 M) (g_v6 M) (g_v7 M))) ok_r_count rfl ?_
    refine aq_icmp_ge ok_r_count rfl (fun h => ?_) (fun h => ?_)
    · exact absurd (q_le h (by omega) (by omega)) (by omega)
    · refine aq_go (n := 8) (c1 := (27, [some (.ref 0), some (.int (nI 0)), some (.int (nI c)), some (.int (nI i))], [.int ((nI 0) - (nI 1)), .int (nI ((g_st M) (nI i).toNatClampNeg)), .int (nI c)], mL (g_cd M) (g_n M) (g_pr M) (g_st M) (g_he M) (g_wt M) (g_wn M) (g_cv M) (g_qs M) (g_qu M) (g_v5 M) (g_v6 M) (g_v7 M))) (P := vp_in (nI i) 60) ok_r_count rfl (in60 (by omega)) ?_
      rw [cl60 (show i < 60 by omega)]
      refine aq_icmp_ne ok_r_count rfl (fun h2 => ?_) (fun h2 => ?_)
      · refine aq_gn (n := 5) (c1 := (9, [some (.ref 0), some (.int (nI 0)), some (.int ((nI c) + (nI 0))), some (.int ((nI i) + 1))], [], mL (g_cd M) (g_n M) (g_pr M) (g_st M) (g_he M) (g_wt M) (g_wn M) (g_cv M) (g_qs M) (g_qu M) (g_v5 M) (g_v6 M) (g_v7 M))) ok_r_count rfl ?_
        rw [nI_add, nI_1]
        have e : cnt (fun i => decide (nI (g_st M i) = (nI 0) - nI 1)) (f + 1) i c = cnt (fun i => decide (nI (g_st M i) = (nI 0) - nI 1)) f (i + 1) (c + 0) := by rw [cnt]; simp only [h2, decide_true, decide_false, Bool.false_eq_true, if_false, if_true, Nat.add_zero]
        try rw [e]
        exact ih (i + 1) (by omega) _
      · refine aq_gn (n := 6) (c1 := (9, [some (.ref 0), some (.int (nI 0)), some (.int ((nI c) + (nI 1))), some (.int ((nI i) + 1))], [], mL (g_cd M) (g_n M) (g_pr M) (g_st M) (g_he M) (g_wt M) (g_wn M) (g_cv M) (g_qs M) (g_qu M) (g_v5 M) (g_v6 M) (g_v7 M))) ok_r_count rfl ?_
        rw [nI_add, nI_1]
        have e : cnt (fun i => decide (nI (g_st M i) = (nI 0) - nI 1)) (f + 1) i c = cnt (fun i => decide (nI (g_st M i) = (nI 0) - nI 1)) f (i + 1) (c + 1) := by rw [cnt]; simp only [h2, decide_true, decide_false, Bool.false_eq_true, if_false, if_true, Nat.add_zero]
        try rw [e]
        exact ih (i + 1) (by omega) _
set_option maxHeartbeats 4000000 in
theorem rm_count0 {d : Nat} {M : MSt} (hM : WM M) : AM r_count (d) (.inl (some (.int (nI (g_n M))))) [.ref 0, .int (nI 0)] (wM M) (wM (m_cd M 0)) := by
  refine aq_enter pl_r_count (Nat.le_of_ble_eq_true rfl) ?_
  show AW r_count _ _ _ (0, [some (.ref 0), some (.int (nI 0)), none, none], [], mL (g_cd M) (g_n M) (g_pr M) (g_st M) (g_he M) (g_wt M) (g_wn M) (g_cv M) (g_qs M) (g_qu M) (g_v5 M) (g_v6 M) (g_v7 M))
  refine aq_go (n := 7) (c1 := (9, [some (.ref 0), some (.int (nI 0)), some (.int (nI 0)), some (.int (nI 0))], [], mR (nI 0) (nI (g_n M)) (fun ι => nI ((g_pr M) ι)) (fun ι => nI ((g_st M) ι)) (fun ι => oI ((g_he M) ι)) (fun ι => oI ((g_wt M) ι)) (fun ι => nI ((g_wn M) ι)) (fun ι => bI ((g_cv M) ι)) (fun ι => nI ((g_qs M) ι)) (fun ι => nI ((g_qu M) ι)) (nI (g_v5 M)) (nI (g_v6 M)) (nI (g_v7 M)))) (P := aq_fi 1 0 = true) ok_r_count rfl fi1_0 ?_
  exact lp_count0 (M := m_cd M 0) hM.1 (g_n M) 0 (Nat.zero_add _) 0
set_option maxHeartbeats 4000000 in
theorem lp_count1 {d : Nat} {M : MSt} (hn : g_n M ≤ 60) : ∀ (f i : Nat), i + f = g_n M → ∀ c : Nat,  AW r_count (d) (.inl (some (.int (nI (cnt (fun i => decide (nI (g_st M i) = (nI 1) - nI 1)) f i c))))) (wM M) (9, [some (.ref 0), some (.int (nI 1)), some (.int (nI c)), some (.int (nI i))], [], mL (g_cd M) (g_n M) (g_pr M) (g_st M) (g_he M) (g_wt M) (g_wn M) (g_cv M) (g_qs M) (g_qu M) (g_v5 M) (g_v6 M) (g_v7 M)) := by
  intro f
  induction f with
  | zero =>
    intro i hif c
    refine aq_gn (n := 3) (c1 := (14, [some (.ref 0), some (.int (nI 1)), some (.int (nI c)), some (.int (nI i))], [.int (nI (g_n M)), .int (nI i)], mL (g_cd M) (g_n M) (g_pr M) (g_st M) (g_he M) (g_wt M) (g_wn M) (g_cv M) (g_qs M) (g_qu M) (g_v5 M) (g_v6 M) (g_v7 M))) ok_r_count rfl ?_
    refine aq_icmp_ge ok_r_count rfl (fun h => ?_) (fun h => ?_)
    · refine aq_gn (n := 1) (c1 := (44, [some (.ref 0), some (.int (nI 1)), some (.int (nI c)), some (.int (nI i))], [.int (nI 1)], mL (g_cd M) (g_n M) (g_pr M) (g_st M) (g_he M) (g_wt M) (g_wn M) (g_cv M) (g_qs M) (g_qu M) (g_v5 M) (g_v6 M) (g_v7 M))) ok_r_count rfl ?_
      refine aq_tabI (tgt := 97) ok_r_count rfl (by decide) (by decide) rfl (by decide) ?_
      refine aq_gn (n := 1) (c1 := (98, [some (.ref 0), some (.int (nI 1)), some (.int (nI c)), some (.int (nI i))], [.int (nI c)], mL (g_cd M) (g_n M) (g_pr M) (g_st M) (g_he M) (g_wt M) (g_wn M) (g_cv M) (g_qs M) (g_qu M) (g_v5 M) (g_v6 M) (g_v7 M))) ok_r_count rfl ?_
      exact aq_ei ok_r_count rfl rfl rfl rfl
    · exact absurd (nI_le (show g_n M ≤ i by omega) (by omega)) h
  | succ f ih =>
    intro i hif c
    refine aq_gn (n := 3) (c1 := (14, [some (.ref 0), some (.int (nI 1)), some (.int (nI c)), some (.int (nI i))], [.int (nI (g_n M)), .int (nI i)], mL (g_cd M) (g_n M) (g_pr M) (g_st M) (g_he M) (g_wt M) (g_wn M) (g_cv M) (g_qs M) (g_qu M) (g_v5 M) (g_v6 M) (g_v7 M))) ok_r_count rfl ?_
    refine aq_icmp_ge ok_r_count rfl (fun h => ?_) (fun h => ?_)
    · exact absurd (q_le h (by omega) (by omega)) (by omega)
    · refine aq_go (n := 8) (c1 := (27, [some (.ref 0), some (.int (nI 1)), some (.int (nI c)), some (.int (nI i))], [.int ((nI 1) - (nI 1)), .int (nI ((g_st M) (nI i).toNatClampNeg)), .int (nI c)], mL (g_cd M) (g_n M) (g_pr M) (g_st M) (g_he M) (g_wt M) (g_wn M) (g_cv M) (g_qs M) (g_qu M) (g_v5 M) (g_v6 M) (g_v7 M))) (P := vp_in (nI i) 60) ok_r_count rfl (in60 (by omega)) ?_
      rw [cl60 (show i < 60 by omega)]
      refine aq_icmp_ne ok_r_count rfl (fun h2 => ?_) (fun h2 => ?_)
      · refine aq_gn (n := 5) (c1 := (9, [some (.ref 0), some (.int (nI 1)), some (.int ((nI c) + (nI 0))), some (.int ((nI i) + 1))], [], mL (g_cd M) (g_n M) (g_pr M) (g_st M) (g_he M) (g_wt M) (g_wn M) (g_cv M) (g_qs M) (g_qu M) (g_v5 M) (g_v6 M) (g_v7 M))) ok_r_count rfl ?_
        rw [nI_add, nI_1]
        have e : cnt (fun i => decide (nI (g_st M i) = (nI 1) - nI 1)) (f + 1) i c = cnt (fun i => decide (nI (g_st M i) = (nI 1) - nI 1)) f (i + 1) (c + 0) := by rw [cnt]; simp only [h2, decide_true, decide_false, Bool.false_eq_true, if_false, if_true, Nat.add_zero]
        try rw [e]
        exact ih (i + 1) (by omega) _
      · refine aq_gn (n := 6) (c1 := (9, [some (.ref 0), some (.int (nI 1)), some (.int ((nI c) + (nI 1))), some (.int ((nI i) + 1))], [], mL (g_cd M) (g_n M) (g_pr M) (g_st M) (g_he M) (g_wt M) (g_wn M) (g_cv M) (g_qs M) (g_qu M) (g_v5 M) (g_v6 M) (g_v7 M))) ok_r_count rfl ?_
        rw [nI_add, nI_1]
        have e : cnt (fun i => decide (nI (g_st M i) = (nI 1) - nI 1)) (f + 1) i c = cnt (fun i => decide (nI (g_st M i) = (nI 1) - nI 1)) f (i + 1) (c + 1) := by rw [cnt]; simp only [h2, decide_true, decide_false, Bool.false_eq_true, if_false, if_true, Nat.add_zero]
        try rw [e]
        exact ih (i + 1) (by omega) _
set_option maxHeartbeats 4000000 in
theorem rm_count1 {d : Nat} {M : MSt} (hM : WM M) : AM r_count (d) (.inl (some (.int (nI (cnt (fun i => decide (nI (g_st M i) = (nI 1) - nI 1)) (g_n M) 0 0))))) [.ref 0, .int (nI 1)] (wM M) (wM (m_cd M 0)) := by
  refine aq_enter pl_r_count (Nat.le_of_ble_eq_true rfl) ?_
  show AW r_count _ _ _ (0, [some (.ref 0), some (.int (nI 1)), none, none], [], mL (g_cd M) (g_n M) (g_pr M) (g_st M) (g_he M) (g_wt M) (g_wn M) (g_cv M) (g_qs M) (g_qu M) (g_v5 M) (g_v6 M) (g_v7 M))
  refine aq_go (n := 7) (c1 := (9, [some (.ref 0), some (.int (nI 1)), some (.int (nI 0)), some (.int (nI 0))], [], mR (nI 0) (nI (g_n M)) (fun ι => nI ((g_pr M) ι)) (fun ι => nI ((g_st M) ι)) (fun ι => oI ((g_he M) ι)) (fun ι => oI ((g_wt M) ι)) (fun ι => nI ((g_wn M) ι)) (fun ι => bI ((g_cv M) ι)) (fun ι => nI ((g_qs M) ι)) (fun ι => nI ((g_qu M) ι)) (nI (g_v5 M)) (nI (g_v6 M)) (nI (g_v7 M)))) (P := aq_fi 1 0 = true) ok_r_count rfl fi1_0 ?_
  exact lp_count1 (M := m_cd M 0) hM.1 (g_n M) 0 (Nat.zero_add _) 0
set_option maxHeartbeats 4000000 in
theorem lp_count2 {d : Nat} {M : MSt} (hn : g_n M ≤ 60) : ∀ (f i : Nat), i + f = g_n M → ∀ c : Nat,  AW r_count (d) (.inl (some (.int (nI (cnt (fun i => decide (nI (g_st M i) = (nI 2) - nI 1)) f i c))))) (wM M) (9, [some (.ref 0), some (.int (nI 2)), some (.int (nI c)), some (.int (nI i))], [], mL (g_cd M) (g_n M) (g_pr M) (g_st M) (g_he M) (g_wt M) (g_wn M) (g_cv M) (g_qs M) (g_qu M) (g_v5 M) (g_v6 M) (g_v7 M)) := by
  intro f
  induction f with
  | zero =>
    intro i hif c
    refine aq_gn (n := 3) (c1 := (14, [some (.ref 0), some (.int (nI 2)), some (.int (nI c)), some (.int (nI i))], [.int (nI (g_n M)), .int (nI i)], mL (g_cd M) (g_n M) (g_pr M) (g_st M) (g_he M) (g_wt M) (g_wn M) (g_cv M) (g_qs M) (g_qu M) (g_v5 M) (g_v6 M) (g_v7 M))) ok_r_count rfl ?_
    refine aq_icmp_ge ok_r_count rfl (fun h => ?_) (fun h => ?_)
    · refine aq_gn (n := 1) (c1 := (44, [some (.ref 0), some (.int (nI 2)), some (.int (nI c)), some (.int (nI i))], [.int (nI 2)], mL (g_cd M) (g_n M) (g_pr M) (g_st M) (g_he M) (g_wt M) (g_wn M) (g_cv M) (g_qs M) (g_qu M) (g_v5 M) (g_v6 M) (g_v7 M))) ok_r_count rfl ?_
      refine aq_tabI (tgt := 97) ok_r_count rfl (by decide) (by decide) rfl (by decide) ?_
      refine aq_gn (n := 1) (c1 := (98, [some (.ref 0), some (.int (nI 2)), some (.int (nI c)), some (.int (nI i))], [.int (nI c)], mL (g_cd M) (g_n M) (g_pr M) (g_st M) (g_he M) (g_wt M) (g_wn M) (g_cv M) (g_qs M) (g_qu M) (g_v5 M) (g_v6 M) (g_v7 M))) ok_r_count rfl ?_
      exact aq_ei ok_r_count rfl rfl rfl rfl
    · exact absurd (nI_le (show g_n M ≤ i by omega) (by omega)) h
  | succ f ih =>
    intro i hif c
    refine aq_gn (n := 3) (c1 := (14, [some (.ref 0), some (.int (nI 2)), some (.int (nI c)), some (.int (nI i))], [.int (nI (g_n M)), .int (nI i)], mL (g_cd M) (g_n M) (g_pr M) (g_st M) (g_he M) (g_wt M) (g_wn M) (g_cv M) (g_qs M) (g_qu M) (g_v5 M) (g_v6 M) (g_v7 M))) ok_r_count rfl ?_
    refine aq_icmp_ge ok_r_count rfl (fun h => ?_) (fun h => ?_)
    · exact absurd (q_le h (by omega) (by omega)) (by omega)
    · refine aq_go (n := 8) (c1 := (27, [some (.ref 0), some (.int (nI 2)), some (.int (nI c)), some (.int (nI i))], [.int ((nI 2) - (nI 1)), .int (nI ((g_st M) (nI i).toNatClampNeg)), .int (nI c)], mL (g_cd M) (g_n M) (g_pr M) (g_st M) (g_he M) (g_wt M) (g_wn M) (g_cv M) (g_qs M) (g_qu M) (g_v5 M) (g_v6 M) (g_v7 M))) (P := vp_in (nI i) 60) ok_r_count rfl (in60 (by omega)) ?_
      rw [cl60 (show i < 60 by omega)]
      refine aq_icmp_ne ok_r_count rfl (fun h2 => ?_) (fun h2 => ?_)
      · refine aq_gn (n := 5) (c1 := (9, [some (.ref 0), some (.int (nI 2)), some (.int ((nI c) + (nI 0))), some (.int ((nI i) + 1))], [], mL (g_cd M) (g_n M) (g_pr M) (g_st M) (g_he M) (g_wt M) (g_wn M) (g_cv M) (g_qs M) (g_qu M) (g_v5 M) (g_v6 M) (g_v7 M))) ok_r_count rfl ?_
        rw [nI_add, nI_1]
        have e : cnt (fun i => decide (nI (g_st M i) = (nI 2) - nI 1)) (f + 1) i c = cnt (fun i => decide (nI (g_st M i) = (nI 2) - nI 1)) f (i + 1) (c + 0) := by rw [cnt]; simp only [h2, decide_true, decide_false, Bool.false_eq_true, if_false, if_true, Nat.add_zero]
        try rw [e]
        exact ih (i + 1) (by omega) _
      · refine aq_gn (n := 6) (c1 := (9, [some (.ref 0), some (.int (nI 2)), some (.int ((nI c) + (nI 1))), some (.int ((nI i) + 1))], [], mL (g_cd M) (g_n M) (g_pr M) (g_st M) (g_he M) (g_wt M) (g_wn M) (g_cv M) (g_qs M) (g_qu M) (g_v5 M) (g_v6 M) (g_v7 M))) ok_r_count rfl ?_
        rw [nI_add, nI_1]
        have e : cnt (fun i => decide (nI (g_st M i) = (nI 2) - nI 1)) (f + 1) i c = cnt (fun i => decide (nI (g_st M i) = (nI 2) - nI 1)) f (i + 1) (c + 1) := by rw [cnt]; simp only [h2, decide_true, decide_false, Bool.false_eq_true, if_false, if_true, Nat.add_zero]
        try rw [e]
        exact ih (i + 1) (by omega) _
set_option maxHeartbeats 4000000 in
theorem rm_count2 {d : Nat} {M : MSt} (hM : WM M) : AM r_count (d) (.inl (some (.int (nI (cnt (fun i => decide (nI (g_st M i) = (nI 2) - nI 1)) (g_n M) 0 0))))) [.ref 0, .int (nI 2)] (wM M) (wM (m_cd M 0)) := by
  refine aq_enter pl_r_count (Nat.le_of_ble_eq_true rfl) ?_
  show AW r_count _ _ _ (0, [some (.ref 0), some (.int (nI 2)), none, none], [], mL (g_cd M) (g_n M) (g_pr M) (g_st M) (g_he M) (g_wt M) (g_wn M) (g_cv M) (g_qs M) (g_qu M) (g_v5 M) (g_v6 M) (g_v7 M))
  refine aq_go (n := 7) (c1 := (9, [some (.ref 0), some (.int (nI 2)), some (.int (nI 0)), some (.int (nI 0))], [], mR (nI 0) (nI (g_n M)) (fun ι => nI ((g_pr M) ι)) (fun ι => nI ((g_st M) ι)) (fun ι => oI ((g_he M) ι)) (fun ι => oI ((g_wt M) ι)) (fun ι => nI ((g_wn M) ι)) (fun ι => bI ((g_cv M) ι)) (fun ι => nI ((g_qs M) ι)) (fun ι => nI ((g_qu M) ι)) (nI (g_v5 M)) (nI (g_v6 M)) (nI (g_v7 M)))) (P := aq_fi 1 0 = true) ok_r_count rfl fi1_0 ?_
  exact lp_count2 (M := m_cd M 0) hM.1 (g_n M) 0 (Nat.zero_add _) 0
set_option maxHeartbeats 4000000 in
theorem lp_count3 {d : Nat} {M : MSt} (hn : g_n M ≤ 60) : ∀ (f i : Nat), i + f = g_n M → ∀ c : Nat,  AW r_count (d) (.inl (some (.int (nI (cnt (fun i => decide (nI (g_st M i) = (nI 3) - nI 1)) f i c))))) (wM M) (9, [some (.ref 0), some (.int (nI 3)), some (.int (nI c)), some (.int (nI i))], [], mL (g_cd M) (g_n M) (g_pr M) (g_st M) (g_he M) (g_wt M) (g_wn M) (g_cv M) (g_qs M) (g_qu M) (g_v5 M) (g_v6 M) (g_v7 M)) := by
  intro f
  induction f with
  | zero =>
    intro i hif c
    refine aq_gn (n := 3) (c1 := (14, [some (.ref 0), some (.int (nI 3)), some (.int (nI c)), some (.int (nI i))], [.int (nI (g_n M)), .int (nI i)], mL (g_cd M) (g_n M) (g_pr M) (g_st M) (g_he M) (g_wt M) (g_wn M) (g_cv M) (g_qs M) (g_qu M) (g_v5 M) (g_v6 M) (g_v7 M))) ok_r_count rfl ?_
    refine aq_icmp_ge ok_r_count rfl (fun h => ?_) (fun h => ?_)
    · refine aq_gn (n := 1) (c1 := (44, [some (.ref 0), some (.int (nI 3)), some (.int (nI c)), some (.int (nI i))], [.int (nI 3)], mL (g_cd M) (g_n M) (g_pr M) (g_st M) (g_he M) (g_wt M) (g_wn M) (g_cv M) (g_qs M) (g_qu M) (g_v5 M) (g_v6 M) (g_v7 M))) ok_r_count rfl ?_
      refine aq_tabI (tgt := 97) ok_r_count rfl (by decide) (by decide) rfl (by decide) ?_
      refine aq_gn (n := 1) (c1 := (98, [some (.ref 0), some (.int (nI 3)), some (.int (nI c)), some (.int (nI i))], [.int (nI c)], mL (g_cd M) (g_n M) (g_pr M) (g_st M) (g_he M) (g_wt M) (g_wn M) (g_cv M) (g_qs M) (g_qu M) (g_v5 M) (g_v6 M) (g_v7 M))) ok_r_count rfl ?_
      exact aq_ei ok_r_count rfl rfl rfl rfl
    · exact absurd (nI_le (show g_n M ≤ i by omega) (by omega)) h
  | succ f ih =>
    intro i hif c
    refine aq_gn (n := 3) (c1 := (14, [some (.ref 0), some (.int (nI 3)), some (.int (nI c)), some (.int (nI i))], [.int (nI (g_n M)), .int (nI i)], mL (g_cd M) (g_n M) (g_pr M) (g_st M) (g_he M) (g_wt M) (g_wn M) (g_cv M) (g_qs M) (g_qu M) (g_v5 M) (g_v6 M) (g_v7 M))) ok_r_count rfl ?_
    refine aq_icmp_ge ok_r_count rfl (fun h => ?_) (fun h => ?_)
    · exact absurd (q_le h (by omega) (by omega)) (by omega)
    · refine aq_go (n := 8) (c1 := (27, [some (.ref 0), some (.int (nI 3)), some (.int (nI c)), some (.int (nI i))], [.int ((nI 3) - (nI 1)), .int (nI ((g_st M) (nI i).toNatClampNeg)), .int (nI c)], mL (g_cd M) (g_n M) (g_pr M) (g_st M) (g_he M) (g_wt M) (g_wn M) (g_cv M) (g_qs M) (g_qu M) (g_v5 M) (g_v6 M) (g_v7 M))) (P := vp_in (nI i) 60) ok_r_count rfl (in60 (by omega)) ?_
      rw [cl60 (show i < 60 by omega)]
      refine aq_icmp_ne ok_r_count rfl (fun h2 => ?_) (fun h2 => ?_)
      · refine aq_gn (n := 5) (c1 := (9, [some (.ref 0), some (.int (nI 3)), some (.int ((nI c) + (nI 0))), some (.int ((nI i) + 1))], [], mL (g_cd M) (g_n M) (g_pr M) (g_st M) (g_he M) (g_wt M) (g_wn M) (g_cv M) (g_qs M) (g_qu M) (g_v5 M) (g_v6 M) (g_v7 M))) ok_r_count rfl ?_
        rw [nI_add, nI_1]
        have e : cnt (fun i => decide (nI (g_st M i) = (nI 3) - nI 1)) (f + 1) i c = cnt (fun i => decide (nI (g_st M i) = (nI 3) - nI 1)) f (i + 1) (c + 0) := by rw [cnt]; simp only [h2, decide_true, decide_false, Bool.false_eq_true, if_false, if_true, Nat.add_zero]
        try rw [e]
        exact ih (i + 1) (by omega) _
      · refine aq_gn (n := 6) (c1 := (9, [some (.ref 0), some (.int (nI 3)), some (.int ((nI c) + (nI 1))), some (.int ((nI i) + 1))], [], mL (g_cd M) (g_n M) (g_pr M) (g_st M) (g_he M) (g_wt M) (g_wn M) (g_cv M) (g_qs M) (g_qu M) (g_v5 M) (g_v6 M) (g_v7 M))) ok_r_count rfl ?_
        rw [nI_add, nI_1]
        have e : cnt (fun i => decide (nI (g_st M i) = (nI 3) - nI 1)) (f + 1) i c = cnt (fun i => decide (nI (g_st M i) = (nI 3) - nI 1)) f (i + 1) (c + 1) := by rw [cnt]; simp only [h2, decide_true, decide_false, Bool.false_eq_true, if_false, if_true, Nat.add_zero]
        try rw [e]
        exact ih (i + 1) (by omega) _
set_option maxHeartbeats 4000000 in
theorem rm_count3 {d : Nat} {M : MSt} (hM : WM M) : AM r_count (d) (.inl (some (.int (nI (cnt (fun i => decide (nI (g_st M i) = (nI 3) - nI 1)) (g_n M) 0 0))))) [.ref 0, .int (nI 3)] (wM M) (wM (m_cd M 0)) := by
  refine aq_enter pl_r_count (Nat.le_of_ble_eq_true rfl) ?_
  show AW r_count _ _ _ (0, [some (.ref 0), some (.int (nI 3)), none, none], [], mL (g_cd M) (g_n M) (g_pr M) (g_st M) (g_he M) (g_wt M) (g_wn M) (g_cv M) (g_qs M) (g_qu M) (g_v5 M) (g_v6 M) (g_v7 M))
  refine aq_go (n := 7) (c1 := (9, [some (.ref 0), some (.int (nI 3)), some (.int (nI 0)), some (.int (nI 0))], [], mR (nI 0) (nI (g_n M)) (fun ι => nI ((g_pr M) ι)) (fun ι => nI ((g_st M) ι)) (fun ι => oI ((g_he M) ι)) (fun ι => oI ((g_wt M) ι)) (fun ι => nI ((g_wn M) ι)) (fun ι => bI ((g_cv M) ι)) (fun ι => nI ((g_qs M) ι)) (fun ι => nI ((g_qu M) ι)) (nI (g_v5 M)) (nI (g_v6 M)) (nI (g_v7 M)))) (P := aq_fi 1 0 = true) ok_r_count rfl fi1_0 ?_
  exact lp_count3 (M := m_cd M 0) hM.1 (g_n M) 0 (Nat.zero_add _) 0
set_option maxHeartbeats 4000000 in
theorem lp_count4 {d : Nat} {M : MSt} (hn : g_n M ≤ 60) : ∀ (f i : Nat), i + f = g_n M → ∀ c : Nat,  AW r_count (d) (.inl (some (.int (nI (cnt (fun i => decide (nI (g_st M i) = (nI 4) - nI 1)) f i c))))) (wM M) (9, [some (.ref 0), some (.int (nI 4)), some (.int (nI c)), some (.int (nI i))], [], mL (g_cd M) (g_n M) (g_pr M) (g_st M) (g_he M) (g_wt M) (g_wn M) (g_cv M) (g_qs M) (g_qu M) (g_v5 M) (g_v6 M) (g_v7 M)) := by
  intro f
  induction f with
  | zero =>
    intro i hif c
    refine aq_gn (n := 3) (c1 := (14, [some (.ref 0), some (.int (nI 4)), some (.int (nI c)), some (.int (nI i))], [.int (nI (g_n M)), .int (nI i)], mL (g_cd M) (g_n M) (g_pr M) (g_st M) (g_he M) (g_wt M) (g_wn M) (g_cv M) (g_qs M) (g_qu M) (g_v5 M) (g_v6 M) (g_v7 M))) ok_r_count rfl ?_
    refine aq_icmp_ge ok_r_count rfl (fun h => ?_) (fun h => ?_)
    · refine aq_gn (n := 1) (c1 := (44, [some (.ref 0), some (.int (nI 4)), some (.int (nI c)), some (.int (nI i))], [.int (nI 4)], mL (g_cd M) (g_n M) (g_pr M) (g_st M) (g_he M) (g_wt M) (g_wn M) (g_cv M) (g_qs M) (g_qu M) (g_v5 M) (g_v6 M) (g_v7 M))) ok_r_count rfl ?_
      refine aq_tabI (tgt := 97) ok_r_count rfl (by decide) (by decide) rfl (by decide) ?_
      refine aq_gn (n := 1) (c1 := (98, [some (.ref 0), some (.int (nI 4)), some (.int (nI c)), some (.int (nI i))], [.int (nI c)], mL (g_cd M) (g_n M) (g_pr M) (g_st M) (g_he M) (g_wt M) (g_wn M) (g_cv M) (g_qs M) (g_qu M) (g_v5 M) (g_v6 M) (g_v7 M))) ok_r_count rfl ?_
      exact aq_ei ok_r_count rfl rfl rfl rfl
    · exact absurd (nI_le (show g_n M ≤ i by omega) (by omega)) h
  | succ f ih =>
    intro i hif c
    refine aq_gn (n := 3) (c1 := (14, [some (.ref 0), some (.int (nI 4)), some (.int (nI c)), some (.int (nI i))], [.int (nI (g_n M)), .int (nI i)], mL (g_cd M) (g_n M) (g_pr M) (g_st M) (g_he M) (g_wt M) (g_wn M) (g_cv M) (g_qs M) (g_qu M) (g_v5 M) (g_v6 M) (g_v7 M))) ok_r_count rfl ?_
    refine aq_icmp_ge ok_r_count rfl (fun h => ?_) (fun h => ?_)
    · exact absurd (q_le h (by omega) (by omega)) (by omega)
    · refine aq_go (n := 8) (c1 := (27, [some (.ref 0), some (.int (nI 4)), some (.int (nI c)), some (.int (nI i))], [.int ((nI 4) - (nI 1)), .int (nI ((g_st M) (nI i).toNatClampNeg)), .int (nI c)], mL (g_cd M) (g_n M) (g_pr M) (g_st M) (g_he M) (g_wt M) (g_wn M) (g_cv M) (g_qs M) (g_qu M) (g_v5 M) (g_v6 M) (g_v7 M))) (P := vp_in (nI i) 60) ok_r_count rfl (in60 (by omega)) ?_
      rw [cl60 (show i < 60 by omega)]
      refine aq_icmp_ne ok_r_count rfl (fun h2 => ?_) (fun h2 => ?_)
      · refine aq_gn (n := 5) (c1 := (9, [some (.ref 0), some (.int (nI 4)), some (.int ((nI c) + (nI 0))), some (.int ((nI i) + 1))], [], mL (g_cd M) (g_n M) (g_pr M) (g_st M) (g_he M) (g_wt M) (g_wn M) (g_cv M) (g_qs M) (g_qu M) (g_v5 M) (g_v6 M) (g_v7 M))) ok_r_count rfl ?_
        rw [nI_add, nI_1]
        have e : cnt (fun i => decide (nI (g_st M i) = (nI 4) - nI 1)) (f + 1) i c = cnt (fun i => decide (nI (g_st M i) = (nI 4) - nI 1)) f (i + 1) (c + 0) := by rw [cnt]; simp only [h2, decide_true, decide_false, Bool.false_eq_true, if_false, if_true, Nat.add_zero]
        try rw [e]
        exact ih (i + 1) (by omega) _
      · refine aq_gn (n := 6) (c1 := (9, [some (.ref 0), some (.int (nI 4)), some (.int ((nI c) + (nI 1))), some (.int ((nI i) + 1))], [], mL (g_cd M) (g_n M) (g_pr M) (g_st M) (g_he M) (g_wt M) (g_wn M) (g_cv M) (g_qs M) (g_qu M) (g_v5 M) (g_v6 M) (g_v7 M))) ok_r_count rfl ?_
        rw [nI_add, nI_1]
        have e : cnt (fun i => decide (nI (g_st M i) = (nI 4) - nI 1)) (f + 1) i c = cnt (fun i => decide (nI (g_st M i) = (nI 4) - nI 1)) f (i + 1) (c + 1) := by rw [cnt]; simp only [h2, decide_true, decide_false, Bool.false_eq_true, if_false, if_true, Nat.add_zero]
        try rw [e]
        exact ih (i + 1) (by omega) _
set_option maxHeartbeats 4000000 in
theorem rm_count4 {d : Nat} {M : MSt} (hM : WM M) : AM r_count (d) (.inl (some (.int (nI (cnt (fun i => decide (nI (g_st M i) = (nI 4) - nI 1)) (g_n M) 0 0))))) [.ref 0, .int (nI 4)] (wM M) (wM (m_cd M 0)) := by
  refine aq_enter pl_r_count (Nat.le_of_ble_eq_true rfl) ?_
  show AW r_count _ _ _ (0, [some (.ref 0), some (.int (nI 4)), none, none], [], mL (g_cd M) (g_n M) (g_pr M) (g_st M) (g_he M) (g_wt M) (g_wn M) (g_cv M) (g_qs M) (g_qu M) (g_v5 M) (g_v6 M) (g_v7 M))
  refine aq_go (n := 7) (c1 := (9, [some (.ref 0), some (.int (nI 4)), some (.int (nI 0)), some (.int (nI 0))], [], mR (nI 0) (nI (g_n M)) (fun ι => nI ((g_pr M) ι)) (fun ι => nI ((g_st M) ι)) (fun ι => oI ((g_he M) ι)) (fun ι => oI ((g_wt M) ι)) (fun ι => nI ((g_wn M) ι)) (fun ι => bI ((g_cv M) ι)) (fun ι => nI ((g_qs M) ι)) (fun ι => nI ((g_qu M) ι)) (nI (g_v5 M)) (nI (g_v6 M)) (nI (g_v7 M)))) (P := aq_fi 1 0 = true) ok_r_count rfl fi1_0 ?_
  exact lp_count4 (M := m_cd M 0) hM.1 (g_n M) 0 (Nat.zero_add _) 0
set_option maxHeartbeats 4000000 in
theorem lp_count5 {d : Nat} {M : MSt} (hn : g_n M ≤ 60) : ∀ (f i : Nat), i + f = g_n M → ∀ c : Nat,  AW r_count (d) (.inl (some (.int (nI (g_v5 M))))) (wM M) (9, [some (.ref 0), some (.int (nI 5)), some (.int (nI c)), some (.int (nI i))], [], mL (g_cd M) (g_n M) (g_pr M) (g_st M) (g_he M) (g_wt M) (g_wn M) (g_cv M) (g_qs M) (g_qu M) (g_v5 M) (g_v6 M) (g_v7 M)) := by
  intro f
  induction f with
  | zero =>
    intro i hif c
    refine aq_gn (n := 3) (c1 := (14, [some (.ref 0), some (.int (nI 5)), some (.int (nI c)), some (.int (nI i))], [.int (nI (g_n M)), .int (nI i)], mL (g_cd M) (g_n M) (g_pr M) (g_st M) (g_he M) (g_wt M) (g_wn M) (g_cv M) (g_qs M) (g_qu M) (g_v5 M) (g_v6 M) (g_v7 M))) ok_r_count rfl ?_
    refine aq_icmp_ge ok_r_count rfl (fun h => ?_) (fun h => ?_)
    · refine aq_gn (n := 1) (c1 := (44, [some (.ref 0), some (.int (nI 5)), some (.int (nI c)), some (.int (nI i))], [.int (nI 5)], mL (g_cd M) (g_n M) (g_pr M) (g_st M) (g_he M) (g_wt M) (g_wn M) (g_cv M) (g_qs M) (g_qu M) (g_v5 M) (g_v6 M) (g_v7 M))) ok_r_count rfl ?_
      refine aq_tabI (tgt := 99) ok_r_count rfl (by decide) (by decide) rfl (by decide) ?_
      refine aq_gn (n := 2) (c1 := (103, [some (.ref 0), some (.int (nI 5)), some (.int (nI c)), some (.int (nI i))], [.int (nI (g_v5 M))], mL (g_cd M) (g_n M) (g_pr M) (g_st M) (g_he M) (g_wt M) (g_wn M) (g_cv M) (g_qs M) (g_qu M) (g_v5 M) (g_v6 M) (g_v7 M))) ok_r_count rfl ?_
      exact aq_ei ok_r_count rfl rfl rfl rfl
    · exact absurd (nI_le (show g_n M ≤ i by omega) (by omega)) h
  | succ f ih =>
    intro i hif c
    refine aq_gn (n := 3) (c1 := (14, [some (.ref 0), some (.int (nI 5)), some (.int (nI c)), some (.int (nI i))], [.int (nI (g_n M)), .int (nI i)], mL (g_cd M) (g_n M) (g_pr M) (g_st M) (g_he M) (g_wt M) (g_wn M) (g_cv M) (g_qs M) (g_qu M) (g_v5 M) (g_v6 M) (g_v7 M))) ok_r_count rfl ?_
    refine aq_icmp_ge ok_r_count rfl (fun h => ?_) (fun h => ?_)
    · exact absurd (q_le h (by omega) (by omega)) (by omega)
    · refine aq_go (n := 8) (c1 := (27, [some (.ref 0), some (.int (nI 5)), some (.int (nI c)), some (.int (nI i))], [.int ((nI 5) - (nI 1)), .int (nI ((g_st M) (nI i).toNatClampNeg)), .int (nI c)], mL (g_cd M) (g_n M) (g_pr M) (g_st M) (g_he M) (g_wt M) (g_wn M) (g_cv M) (g_qs M) (g_qu M) (g_v5 M) (g_v6 M) (g_v7 M))) (P := vp_in (nI i) 60) ok_r_count rfl (in60 (by omega)) ?_
      rw [cl60 (show i < 60 by omega)]
      refine aq_icmp_ne ok_r_count rfl (fun h2 => ?_) (fun h2 => ?_)
      · refine aq_gn (n := 5) (c1 := (9, [some (.ref 0), some (.int (nI 5)), some (.int ((nI c) + (nI 0))), some (.int ((nI i) + 1))], [], mL (g_cd M) (g_n M) (g_pr M) (g_st M) (g_he M) (g_wt M) (g_wn M) (g_cv M) (g_qs M) (g_qu M) (g_v5 M) (g_v6 M) (g_v7 M))) ok_r_count rfl ?_
        rw [nI_add, nI_1]
        have e : cnt (fun i => decide (nI (g_st M i) = (nI 5) - nI 1)) (f + 1) i c = cnt (fun i => decide (nI (g_st M i) = (nI 5) - nI 1)) f (i + 1) (c + 0) := by rw [cnt]; simp only [h2, decide_true, decide_false, Bool.false_eq_true, if_false, if_true, Nat.add_zero]
        try rw [e]
        exact ih (i + 1) (by omega) _
      · refine aq_gn (n := 6) (c1 := (9, [some (.ref 0), some (.int (nI 5)), some (.int ((nI c) + (nI 1))), some (.int ((nI i) + 1))], [], mL (g_cd M) (g_n M) (g_pr M) (g_st M) (g_he M) (g_wt M) (g_wn M) (g_cv M) (g_qs M) (g_qu M) (g_v5 M) (g_v6 M) (g_v7 M))) ok_r_count rfl ?_
        rw [nI_add, nI_1]
        have e : cnt (fun i => decide (nI (g_st M i) = (nI 5) - nI 1)) (f + 1) i c = cnt (fun i => decide (nI (g_st M i) = (nI 5) - nI 1)) f (i + 1) (c + 1) := by rw [cnt]; simp only [h2, decide_true, decide_false, Bool.false_eq_true, if_false, if_true, Nat.add_zero]
        try rw [e]
        exact ih (i + 1) (by omega) _
set_option maxHeartbeats 4000000 in
theorem rm_count5 {d : Nat} {M : MSt} (hM : WM M) : AM r_count (d) (.inl (some (.int (nI (g_v5 M))))) [.ref 0, .int (nI 5)] (wM M) (wM (m_cd M 0)) := by
  refine aq_enter pl_r_count (Nat.le_of_ble_eq_true rfl) ?_
  show AW r_count _ _ _ (0, [some (.ref 0), some (.int (nI 5)), none, none], [], mL (g_cd M) (g_n M) (g_pr M) (g_st M) (g_he M) (g_wt M) (g_wn M) (g_cv M) (g_qs M) (g_qu M) (g_v5 M) (g_v6 M) (g_v7 M))
  refine aq_go (n := 7) (c1 := (9, [some (.ref 0), some (.int (nI 5)), some (.int (nI 0)), some (.int (nI 0))], [], mR (nI 0) (nI (g_n M)) (fun ι => nI ((g_pr M) ι)) (fun ι => nI ((g_st M) ι)) (fun ι => oI ((g_he M) ι)) (fun ι => oI ((g_wt M) ι)) (fun ι => nI ((g_wn M) ι)) (fun ι => bI ((g_cv M) ι)) (fun ι => nI ((g_qs M) ι)) (fun ι => nI ((g_qu M) ι)) (nI (g_v5 M)) (nI (g_v6 M)) (nI (g_v7 M)))) (P := aq_fi 1 0 = true) ok_r_count rfl fi1_0 ?_
  exact lp_count5 (M := m_cd M 0) hM.1 (g_n M) 0 (Nat.zero_add _) 0
set_option maxHeartbeats 4000000 in
theorem lp_count6 {d : Nat} {M : MSt} (hn : g_n M ≤ 60) : ∀ (f i : Nat), i + f = g_n M → ∀ c : Nat,  AW r_count (d) (.inl (some (.int (nI (g_v6 M))))) (wM M) (9, [some (.ref 0), some (.int (nI 6)), some (.int (nI c)), some (.int (nI i))], [], mL (g_cd M) (g_n M) (g_pr M) (g_st M) (g_he M) (g_wt M) (g_wn M) (g_cv M) (g_qs M) (g_qu M) (g_v5 M) (g_v6 M) (g_v7 M)) := by
  intro f
  induction f with
  | zero =>
    intro i hif c
    refine aq_gn (n := 3) (c1 := (14, [some (.ref 0), some (.int (nI 6)), some (.int (nI c)), some (.int (nI i))], [.int (nI (g_n M)), .int (nI i)], mL (g_cd M) (g_n M) (g_pr M) (g_st M) (g_he M) (g_wt M) (g_wn M) (g_cv M) (g_qs M) (g_qu M) (g_v5 M) (g_v6 M) (g_v7 M))) ok_r_count rfl ?_
    refine aq_icmp_ge ok_r_count rfl (fun h => ?_) (fun h => ?_)
    · refine aq_gn (n := 1) (c1 := (44, [some (.ref 0), some (.int (nI 6)), some (.int (nI c)), some (.int (nI i))], [.int (nI 6)], mL (g_cd M) (g_n M) (g_pr M) (g_st M) (g_he M) (g_wt M) (g_wn M) (g_cv M) (g_qs M) (g_qu M) (g_v5 M) (g_v6 M) (g_v7 M))) ok_r_count rfl ?_
      refine aq_tabI (tgt := 104) ok_r_count rfl (by decide) (by decide) rfl (by decide) ?_
      refine aq_gn (n := 2) (c1 := (108, [some (.ref 0), some (.int (nI 6)), some (.int (nI c)), some (.int (nI i))], [.int (nI (g_v6 M))], mL (g_cd M) (g_n M) (g_pr M) (g_st M) (g_he M) (g_wt M) (g_wn M) (g_cv M) (g_qs M) (g_qu M) (g_v5 M) (g_v6 M) (g_v7 M))) ok_r_count rfl ?_
      exact aq_ei ok_r_count rfl rfl rfl rfl
    · exact absurd (nI_le (show g_n M ≤ i by omega) (by omega)) h
  | succ f ih =>
    intro i hif c
    refine aq_gn (n := 3) (c1 := (14, [some (.ref 0), some (.int (nI 6)), some (.int (nI c)), some (.int (nI i))], [.int (nI (g_n M)), .int (nI i)], mL (g_cd M) (g_n M) (g_pr M) (g_st M) (g_he M) (g_wt M) (g_wn M) (g_cv M) (g_qs M) (g_qu M) (g_v5 M) (g_v6 M) (g_v7 M))) ok_r_count rfl ?_
    refine aq_icmp_ge ok_r_count rfl (fun h => ?_) (fun h => ?_)
    · exact absurd (q_le h (by omega) (by omega)) (by omega)
    · refine aq_go (n := 8) (c1 := (27, [some (.ref 0), some (.int (nI 6)), some (.int (nI c)), some (.int (nI i))], [.int ((nI 6) - (nI 1)), .int (nI ((g_st M) (nI i).toNatClampNeg)), .int (nI c)], mL (g_cd M) (g_n M) (g_pr M) (g_st M) (g_he M) (g_wt M) (g_wn M) (g_cv M) (g_qs M) (g_qu M) (g_v5 M) (g_v6 M) (g_v7 M))) (P := vp_in (nI i) 60) ok_r_count rfl (in60 (by omega)) ?_
      rw [cl60 (show i < 60 by omega)]
      refine aq_icmp_ne ok_r_count rfl (fun h2 => ?_) (fun h2 => ?_)
      · refine aq_gn (n := 5) (c1 := (9, [some (.ref 0), some (.int (nI 6)), some (.int ((nI c) + (nI 0))), some (.int ((nI i) + 1))], [], mL (g_cd M) (g_n M) (g_pr M) (g_st M) (g_he M) (g_wt M) (g_wn M) (g_cv M) (g_qs M) (g_qu M) (g_v5 M) (g_v6 M) (g_v7 M))) ok_r_count rfl ?_
        rw [nI_add, nI_1]
        have e : cnt (fun i => decide (nI (g_st M i) = (nI 6) - nI 1)) (f + 1) i c = cnt (fun i => decide (nI (g_st M i) = (nI 6) - nI 1)) f (i + 1) (c + 0) := by rw [cnt]; simp only [h2, decide_true, decide_false, Bool.false_eq_true, if_false, if_true, Nat.add_zero]
        try rw [e]
        exact ih (i + 1) (by omega) _
      · refine aq_gn (n := 6) (c1 := (9, [some (.ref 0), some (.int (nI 6)), some (.int ((nI c) + (nI 1))), some (.int ((nI i) + 1))], [], mL (g_cd M) (g_n M) (g_pr M) (g_st M) (g_he M) (g_wt M) (g_wn M) (g_cv M) (g_qs M) (g_qu M) (g_v5 M) (g_v6 M) (g_v7 M))) ok_r_count rfl ?_
        rw [nI_add, nI_1]
        have e : cnt (fun i => decide (nI (g_st M i) = (nI 6) - nI 1)) (f + 1) i c = cnt (fun i => decide (nI (g_st M i) = (nI 6) - nI 1)) f (i + 1) (c + 1) := by rw [cnt]; simp only [h2, decide_true, decide_false, Bool.false_eq_true, if_false, if_true, Nat.add_zero]
        try rw [e]
        exact ih (i + 1) (by omega) _
set_option maxHeartbeats 4000000 in
theorem rm_count6 {d : Nat} {M : MSt} (hM : WM M) : AM r_count (d) (.inl (some (.int (nI (g_v6 M))))) [.ref 0, .int (nI 6)] (wM M) (wM (m_cd M 0)) := by
  refine aq_enter pl_r_count (Nat.le_of_ble_eq_true rfl) ?_
  show AW r_count _ _ _ (0, [some (.ref 0), some (.int (nI 6)), none, none], [], mL (g_cd M) (g_n M) (g_pr M) (g_st M) (g_he M) (g_wt M) (g_wn M) (g_cv M) (g_qs M) (g_qu M) (g_v5 M) (g_v6 M) (g_v7 M))
  refine aq_go (n := 7) (c1 := (9, [some (.ref 0), some (.int (nI 6)), some (.int (nI 0)), some (.int (nI 0))], [], mR (nI 0) (nI (g_n M)) (fun ι => nI ((g_pr M) ι)) (fun ι => nI ((g_st M) ι)) (fun ι => oI ((g_he M) ι)) (fun ι => oI ((g_wt M) ι)) (fun ι => nI ((g_wn M) ι)) (fun ι => bI ((g_cv M) ι)) (fun ι => nI ((g_qs M) ι)) (fun ι => nI ((g_qu M) ι)) (nI (g_v5 M)) (nI (g_v6 M)) (nI (g_v7 M)))) (P := aq_fi 1 0 = true) ok_r_count rfl fi1_0 ?_
  exact lp_count6 (M := m_cd M 0) hM.1 (g_n M) 0 (Nat.zero_add _) 0
set_option maxHeartbeats 4000000 in
theorem lp_count7 {d : Nat} {M : MSt} (hn : g_n M ≤ 60) : ∀ (f i : Nat), i + f = g_n M → ∀ c : Nat,  AW r_count (d) (.inl (some (.int (nI (g_v7 M))))) (wM M) (9, [some (.ref 0), some (.int (nI 7)), some (.int (nI c)), some (.int (nI i))], [], mL (g_cd M) (g_n M) (g_pr M) (g_st M) (g_he M) (g_wt M) (g_wn M) (g_cv M) (g_qs M) (g_qu M) (g_v5 M) (g_v6 M) (g_v7 M)) := by
  intro f
  induction f with
  | zero =>
    intro i hif c
    refine aq_gn (n := 3) (c1 := (14, [some (.ref 0), some (.int (nI 7)), some (.int (nI c)), some (.int (nI i))], [.int (nI (g_n M)), .int (nI i)], mL (g_cd M) (g_n M) (g_pr M) (g_st M) (g_he M) (g_wt M) (g_wn M) (g_cv M) (g_qs M) (g_qu M) (g_v5 M) (g_v6 M) (g_v7 M))) ok_r_count rfl ?_
    refine aq_icmp_ge ok_r_count rfl (fun h => ?_) (fun h => ?_)
    · refine aq_gn (n := 1) (c1 := (44, [some (.ref 0), some (.int (nI 7)), some (.int (nI c)), some (.int (nI i))], [.int (nI 7)], mL (g_cd M) (g_n M) (g_pr M) (g_st M) (g_he M) (g_wt M) (g_wn M) (g_cv M) (g_qs M) (g_qu M) (g_v5 M) (g_v6 M) (g_v7 M))) ok_r_count rfl ?_
      refine aq_tabI (tgt := 109) ok_r_count rfl (by decide) (by decide) rfl (by decide) ?_
      refine aq_gn (n := 2) (c1 := (113, [some (.ref 0), some (.int (nI 7)), some (.int (nI c)), some (.int (nI i))], [.int (nI (g_v7 M))], mL (g_cd M) (g_n M) (g_pr M) (g_st M) (g_he M) (g_wt M) (g_wn M) (g_cv M) (g_qs M) (g_qu M) (g_v5 M) (g_v6 M) (g_v7 M))) ok_r_count rfl ?_
      exact aq_ei ok_r_count rfl rfl rfl rfl
    · exact absurd (nI_le (show g_n M ≤ i by omega) (by omega)) h
  | succ f ih =>
    intro i hif c
    refine aq_gn (n := 3) (c1 := (14, [some (.ref 0), some (.int (nI 7)), some (.int (nI c)), some (.int (nI i))], [.int (nI (g_n M)), .int (nI i)], mL (g_cd M) (g_n M) (g_pr M) (g_st M) (g_he M) (g_wt M) (g_wn M) (g_cv M) (g_qs M) (g_qu M) (g_v5 M) (g_v6 M) (g_v7 M))) ok_r_count rfl ?_
    refine aq_icmp_ge ok_r_count rfl (fun h => ?_) (fun h => ?_)
    · exact absurd (q_le h (by omega) (by omega)) (by omega)
    · refine aq_go (n := 8) (c1 := (27, [some (.ref 0), some (.int (nI 7)), some (.int (nI c)), some (.int (nI i))], [.int ((nI 7) - (nI 1)), .int (nI ((g_st M) (nI i).toNatClampNeg)), .int (nI c)], mL (g_cd M) (g_n M) (g_pr M) (g_st M) (g_he M) (g_wt M) (g_wn M) (g_cv M) (g_qs M) (g_qu M) (g_v5 M) (g_v6 M) (g_v7 M))) (P := vp_in (nI i) 60) ok_r_count rfl (in60 (by omega)) ?_
      rw [cl60 (show i < 60 by omega)]
      refine aq_icmp_ne ok_r_count rfl (fun h2 => ?_) (fun h2 => ?_)
      · refine aq_gn (n := 5) (c1 := (9, [some (.ref 0), some (.int (nI 7)), some (.int ((nI c) + (nI 0))), some (.int ((nI i) + 1))], [], mL (g_cd M) (g_n M) (g_pr M) (g_st M) (g_he M) (g_wt M) (g_wn M) (g_cv M) (g_qs M) (g_qu M) (g_v5 M) (g_v6 M) (g_v7 M))) ok_r_count rfl ?_
        rw [nI_add, nI_1]
        have e : cnt (fun i => decide (nI (g_st M i) = (nI 7) - nI 1)) (f + 1) i c = cnt (fun i => decide (nI (g_st M i) = (nI 7) - nI 1)) f (i + 1) (c + 0) := by rw [cnt]; simp only [h2, decide_true, decide_false, Bool.false_eq_true, if_false, if_true, Nat.add_zero]
        try rw [e]
        exact ih (i + 1) (by omega) _
      · refine aq_gn (n := 6) (c1 := (9, [some (.ref 0), some (.int (nI 7)), some (.int ((nI c) + (nI 1))), some (.int ((nI i) + 1))], [], mL (g_cd M) (g_n M) (g_pr M) (g_st M) (g_he M) (g_wt M) (g_wn M) (g_cv M) (g_qs M) (g_qu M) (g_v5 M) (g_v6 M) (g_v7 M))) ok_r_count rfl ?_
        rw [nI_add, nI_1]
        have e : cnt (fun i => decide (nI (g_st M i) = (nI 7) - nI 1)) (f + 1) i c = cnt (fun i => decide (nI (g_st M i) = (nI 7) - nI 1)) f (i + 1) (c + 1) := by rw [cnt]; simp only [h2, decide_true, decide_false, Bool.false_eq_true, if_false, if_true, Nat.add_zero]
        try rw [e]
        exact ih (i + 1) (by omega) _
set_option maxHeartbeats 4000000 in
theorem rm_count7 {d : Nat} {M : MSt} (hM : WM M) : AM r_count (d) (.inl (some (.int (nI (g_v7 M))))) [.ref 0, .int (nI 7)] (wM M) (wM (m_cd M 0)) := by
  refine aq_enter pl_r_count (Nat.le_of_ble_eq_true rfl) ?_
  show AW r_count _ _ _ (0, [some (.ref 0), some (.int (nI 7)), none, none], [], mL (g_cd M) (g_n M) (g_pr M) (g_st M) (g_he M) (g_wt M) (g_wn M) (g_cv M) (g_qs M) (g_qu M) (g_v5 M) (g_v6 M) (g_v7 M))
  refine aq_go (n := 7) (c1 := (9, [some (.ref 0), some (.int (nI 7)), some (.int (nI 0)), some (.int (nI 0))], [], mR (nI 0) (nI (g_n M)) (fun ι => nI ((g_pr M) ι)) (fun ι => nI ((g_st M) ι)) (fun ι => oI ((g_he M) ι)) (fun ι => oI ((g_wt M) ι)) (fun ι => nI ((g_wn M) ι)) (fun ι => bI ((g_cv M) ι)) (fun ι => nI ((g_qs M) ι)) (fun ι => nI ((g_qu M) ι)) (nI (g_v5 M)) (nI (g_v6 M)) (nI (g_v7 M)))) (P := aq_fi 1 0 = true) ok_r_count rfl fi1_0 ?_
  exact lp_count7 (M := m_cd M 0) hM.1 (g_n M) 0 (Nat.zero_add _) 0
set_option maxHeartbeats 4000000 in
theorem lp_countw {d : Nat} {M : MSt} (hn : g_n M ≤ 60) {y : Int32} (hy : y.toInt < 0 ∨ 7 < y.toInt) : ∀ (f i : Nat), i + f = g_n M → ∀ c : Nat,  AW r_count (d) (.inl (some (.int (-1)))) (wM M) (9, [some (.ref 0), some (.int y), some (.int (nI c)), some (.int (nI i))], [], mL (g_cd M) (g_n M) (g_pr M) (g_st M) (g_he M) (g_wt M) (g_wn M) (g_cv M) (g_qs M) (g_qu M) (g_v5 M) (g_v6 M) (g_v7 M)) := by
  intro f
  induction f with
  | zero =>
    intro i hif c
    refine aq_gn (n := 3) (c1 := (14, [some (.ref 0), some (.int y), some (.int (nI c)), some (.int (nI i))], [.int (nI (g_n M)), .int (nI i)], mL (g_cd M) (g_n M) (g_pr M) (g_st M) (g_he M) (g_wt M) (g_wn M) (g_cv M) (g_qs M) (g_qu M) (g_v5 M) (g_v6 M) (g_v7 M))) ok_r_count rfl ?_
    refine aq_icmp_ge ok_r_count rfl (fun h => ?_) (fun h => ?_)
    · refine aq_gn (n := 1) (c1 := (44, [some (.ref 0), some (.int y), some (.int (nI c)), some (.int (nI i))], [.int y], mL (g_cd M) (g_n M) (g_pr M) (g_st M) (g_he M) (g_wt M) (g_wn M) (g_cv M) (g_qs M) (g_qu M) (g_v5 M) (g_v6 M) (g_v7 M))) ok_r_count rfl ?_
      refine aq_tabO (tgt := 114) ok_r_count rfl hy (by decide) ?_
      refine aq_gn (n := 1) (c1 := (115, [some (.ref 0), some (.int y), some (.int (nI c)), some (.int (nI i))], [.int (-1)], mL (g_cd M) (g_n M) (g_pr M) (g_st M) (g_he M) (g_wt M) (g_wn M) (g_cv M) (g_qs M) (g_qu M) (g_v5 M) (g_v6 M) (g_v7 M))) ok_r_count rfl ?_
      exact aq_ei ok_r_count rfl rfl rfl rfl
    · exact absurd (nI_le (show g_n M ≤ i by omega) (by omega)) h
  | succ f ih =>
    intro i hif c
    refine aq_gn (n := 3) (c1 := (14, [some (.ref 0), some (.int y), some (.int (nI c)), some (.int (nI i))], [.int (nI (g_n M)), .int (nI i)], mL (g_cd M) (g_n M) (g_pr M) (g_st M) (g_he M) (g_wt M) (g_wn M) (g_cv M) (g_qs M) (g_qu M) (g_v5 M) (g_v6 M) (g_v7 M))) ok_r_count rfl ?_
    refine aq_icmp_ge ok_r_count rfl (fun h => ?_) (fun h => ?_)
    · exact absurd (q_le h (by omega) (by omega)) (by omega)
    · refine aq_go (n := 8) (c1 := (27, [some (.ref 0), some (.int y), some (.int (nI c)), some (.int (nI i))], [.int (y - (nI 1)), .int (nI ((g_st M) (nI i).toNatClampNeg)), .int (nI c)], mL (g_cd M) (g_n M) (g_pr M) (g_st M) (g_he M) (g_wt M) (g_wn M) (g_cv M) (g_qs M) (g_qu M) (g_v5 M) (g_v6 M) (g_v7 M))) (P := vp_in (nI i) 60) ok_r_count rfl (in60 (by omega)) ?_
      rw [cl60 (show i < 60 by omega)]
      refine aq_icmp_ne ok_r_count rfl (fun h2 => ?_) (fun h2 => ?_)
      · refine aq_gn (n := 5) (c1 := (9, [some (.ref 0), some (.int y), some (.int ((nI c) + (nI 0))), some (.int ((nI i) + 1))], [], mL (g_cd M) (g_n M) (g_pr M) (g_st M) (g_he M) (g_wt M) (g_wn M) (g_cv M) (g_qs M) (g_qu M) (g_v5 M) (g_v6 M) (g_v7 M))) ok_r_count rfl ?_
        rw [nI_add, nI_1]
        have e : cnt (fun i => decide (nI (g_st M i) = y - nI 1)) (f + 1) i c = cnt (fun i => decide (nI (g_st M i) = y - nI 1)) f (i + 1) (c + 0) := by rw [cnt]; simp only [h2, decide_true, decide_false, Bool.false_eq_true, if_false, if_true, Nat.add_zero]
        try rw [e]
        exact ih (i + 1) (by omega) _
      · refine aq_gn (n := 6) (c1 := (9, [some (.ref 0), some (.int y), some (.int ((nI c) + (nI 1))), some (.int ((nI i) + 1))], [], mL (g_cd M) (g_n M) (g_pr M) (g_st M) (g_he M) (g_wt M) (g_wn M) (g_cv M) (g_qs M) (g_qu M) (g_v5 M) (g_v6 M) (g_v7 M))) ok_r_count rfl ?_
        rw [nI_add, nI_1]
        have e : cnt (fun i => decide (nI (g_st M i) = y - nI 1)) (f + 1) i c = cnt (fun i => decide (nI (g_st M i) = y - nI 1)) f (i + 1) (c + 1) := by rw [cnt]; simp only [h2, decide_true, decide_false, Bool.false_eq_true, if_false, if_true, Nat.add_zero]
        try rw [e]
        exact ih (i + 1) (by omega) _
set_option maxHeartbeats 4000000 in
theorem rm_countw {d : Nat} {M : MSt} (hM : WM M) {y : Int32} (hy : y.toInt < 0 ∨ 7 < y.toInt) : AM r_count (d) (.inl (some (.int (-1)))) [.ref 0, .int y] (wM M) (wM (m_cd M 0)) := by
  refine aq_enter pl_r_count (Nat.le_of_ble_eq_true rfl) ?_
  show AW r_count _ _ _ (0, [some (.ref 0), some (.int y), none, none], [], mL (g_cd M) (g_n M) (g_pr M) (g_st M) (g_he M) (g_wt M) (g_wn M) (g_cv M) (g_qs M) (g_qu M) (g_v5 M) (g_v6 M) (g_v7 M))
  refine aq_go (n := 7) (c1 := (9, [some (.ref 0), some (.int y), some (.int (nI 0)), some (.int (nI 0))], [], mR (nI 0) (nI (g_n M)) (fun ι => nI ((g_pr M) ι)) (fun ι => nI ((g_st M) ι)) (fun ι => oI ((g_he M) ι)) (fun ι => oI ((g_wt M) ι)) (fun ι => nI ((g_wn M) ι)) (fun ι => bI ((g_cv M) ι)) (fun ι => nI ((g_qs M) ι)) (fun ι => nI ((g_qu M) ι)) (nI (g_v5 M)) (nI (g_v6 M)) (nI (g_v7 M)))) (P := aq_fi 1 0 = true) ok_r_count rfl fi1_0 ?_
  exact lp_countw (M := m_cd M 0) hM.1 hy (g_n M) 0 (Nat.zero_add _) 0
end
section
/-! THE REFERENCE: at, isBelow, escalate -/
def hv (x : Option Nat) : Option Nat := match x with
  | some (m + 1) => some m
  | _ => none
theorem mdI_v {he : Nat → Option Nat} {t o : Nat} (h : ¬ he (60 * o + t) = none) : mdI he t o = oI (hv (he (60 * o + t))) := by
  unfold mdI
  match q : he (60 * o + t) with
  | none => exact absurd q h
  | some 0 => exact (by decide : oI (some 0) - nI 1 = -1)
  | some (m + 1) =>
    show nI (m + 1) - nI 1 = nI m
    rw [← nI_add, Int32.add_sub_cancel]
theorem hv_lt {x : Option Nat} (h : ∀ y, x = some y → y < 6) : ∀ y, hv x = some y → y < 5 := by
  intro y q
  match x, q, h with
  | none, q, _ => cases q
  | some 0, q, _ => cases q
  | some (m + 1), q, h =>
    have := h (m + 1) rfl
    cases q
    omega
/-- no marks -/
def WN (M : MSt) : Prop := ∀ i, ¬ g_he M i = none
theorem dv4 : ∀ x, x < 85 → 0 < x → (nI x - nI 1) / nI 4 = nI ((x - 1) / 4) := by decide +kernel
def rbF (top : Nat) : Nat → Nat → Nat
  | 0, x => x
  | f + 1, x => if x ≤ top then x else rbF top f ((x - 1) / 4)
def rb (o top : Nat) : Bool := decide (top < o) && decide (rbF top 85 o = top)
theorem rlI_lub : ∀ a, a < 5 → ∀ m, m < 5 → rlI (nI a) (nI m) = nI (lub (some a) m) := by decide +kernel
set_option maxHeartbeats 4000000 in
theorem lp_rb {d : Nat} {w : List va_E} {o u : Nat} (ho : o < 85) (hu : u < 85) : ∀ (f x : Nat), x ≤ f → x < 85 → AW r_isBelow d (.inl (some (.int (bI (decide (u < o) && decide (rbF u f x = u)))))) w (2, [some (.int (nI o)), some (.int (nI u)), some (.int (nI x))], [], w) := by
  intro f
  induction f with
  | zero =>
    intro x hx hx8
    refine aq_gn (n := 2) (c1 := (4, [some (.int (nI o)), some (.int (nI u)), some (.int (nI x))], [.int (nI u), .int (nI x)], w)) ok_r_isBelow rfl ?_
    refine aq_icmp_le ok_r_isBelow rfl (fun h => ?_) (fun h => ?_)
    · rw [rbF]
      refine aq_gn (n := 2) (c1 := (18, [some (.int (nI o)), some (.int (nI u)), some (.int (nI x))], [.int (nI u), .int (nI o)], w)) ok_r_isBelow rfl ?_
      refine aq_icmp_le ok_r_isBelow rfl (fun h2 => ?_) (fun h2 => ?_)
      · have hc := q_le h2 (by omega) (by omega)
        refine aq_gn (n := 1) (c1 := (31, [some (.int (nI o)), some (.int (nI u)), some (.int (nI x))], [.int (nI 0)], w)) ok_r_isBelow rfl ?_
        exact aq_ez ok_r_isBelow rfl rfl (by simp [show ¬ u < o by omega]; rfl) rfl
      · have hc := q_nle h2 (by omega) (by omega)
        refine aq_gn (n := 2) (c1 := (23, [some (.int (nI o)), some (.int (nI u)), some (.int (nI x))], [.int (nI u), .int (nI x)], w)) ok_r_isBelow rfl ?_
        refine aq_icmp_ne ok_r_isBelow rfl (fun h3 => ?_) (fun h3 => ?_)
        · have hd := q_ne h3
          refine aq_gn (n := 1) (c1 := (31, [some (.int (nI o)), some (.int (nI u)), some (.int (nI x))], [.int (nI 0)], w)) ok_r_isBelow rfl ?_
          exact aq_ez ok_r_isBelow rfl rfl (by simp [hd]; rfl) rfl
        · have hd := q_eq h3 (by omega) (by omega)
          refine aq_gn (n := 2) (c1 := (31, [some (.int (nI o)), some (.int (nI u)), some (.int (nI x))], [.int (nI 1)], w)) ok_r_isBelow rfl ?_
          exact aq_ez ok_r_isBelow rfl rfl (by simp [hc, hd]; rfl) rfl
    · exact absurd (nI_le (show x ≤ u by omega) (by omega)) h
  | succ f ih =>
    intro x hx hx8
    refine aq_gn (n := 2) (c1 := (4, [some (.int (nI o)), some (.int (nI u)), some (.int (nI x))], [.int (nI u), .int (nI x)], w)) ok_r_isBelow rfl ?_
    refine aq_icmp_le ok_r_isBelow rfl (fun h => ?_) (fun h => ?_)
    · have hb := q_le h (by omega) (by omega)
      rw [rbF, if_pos hb]
      refine aq_gn (n := 2) (c1 := (18, [some (.int (nI o)), some (.int (nI u)), some (.int (nI x))], [.int (nI u), .int (nI o)], w)) ok_r_isBelow rfl ?_
      refine aq_icmp_le ok_r_isBelow rfl (fun h2 => ?_) (fun h2 => ?_)
      · have hc := q_le h2 (by omega) (by omega)
        refine aq_gn (n := 1) (c1 := (31, [some (.int (nI o)), some (.int (nI u)), some (.int (nI x))], [.int (nI 0)], w)) ok_r_isBelow rfl ?_
        exact aq_ez ok_r_isBelow rfl rfl (by simp [show ¬ u < o by omega]; rfl) rfl
      · have hc := q_nle h2 (by omega) (by omega)
        refine aq_gn (n := 2) (c1 := (23, [some (.int (nI o)), some (.int (nI u)), some (.int (nI x))], [.int (nI u), .int (nI x)], w)) ok_r_isBelow rfl ?_
        refine aq_icmp_ne ok_r_isBelow rfl (fun h3 => ?_) (fun h3 => ?_)
        · have hd := q_ne h3
          refine aq_gn (n := 1) (c1 := (31, [some (.int (nI o)), some (.int (nI u)), some (.int (nI x))], [.int (nI 0)], w)) ok_r_isBelow rfl ?_
          exact aq_ez ok_r_isBelow rfl rfl (by simp [hd]; rfl) rfl
        · have hd := q_eq h3 (by omega) (by omega)
          refine aq_gn (n := 2) (c1 := (31, [some (.int (nI o)), some (.int (nI u)), some (.int (nI x))], [.int (nI 1)], w)) ok_r_isBelow rfl ?_
          exact aq_ez ok_r_isBelow rfl rfl (by simp [hc, hd]; rfl) rfl
    · have hc := q_nle h (by omega) (by omega)
      refine aq_go (n := 7) (c1 := (2, [some (.int (nI o)), some (.int (nI u)), some (.int (((nI x) - (nI 1)) / (nI 4)))], [], w)) (P := ¬ (nI 4) = 0) ok_r_isBelow rfl (by decide) ?_
      rw [dv4 x hx8 (by omega), rbF, if_neg (by omega)]
      exact ih _ (by omega) (by omega)
set_option maxHeartbeats 4000000 in
theorem rm_isBelow {d : Nat} {w : List va_E} {o u : Nat} (ho : o < 85) (hu : u < 85) : AM r_isBelow (d) (.inl (some (.int (bI (rb o u))))) [.int (nI o), .int (nI u)] (w) (w) := by
  refine aq_enter pl_r_isBelow (Nat.le_of_ble_eq_true rfl) ?_
  refine aq_gn (n := 2) (c1 := (2, [some (.int (nI o)), some (.int (nI u)), some (.int (nI o))], [], w)) ok_r_isBelow rfl ?_
  exact lp_rb ho hu 85 o (by omega) ho
def maF (he : Nat → Option Nat) (o : Nat) : Nat → Nat → Int32 → Option Nat → Option Nat
  | 0, _, _, a => a
  | f + 1, u, l, a => if mdI he u o < 0 then maF he o f (u + 1) l a else maF he o f (u + 1) (l + (-1)) (if l = 0 then some u else a)
def maq (M : MSt) (o : Nat) (x : Int32) (b : Bool) : Option Nat := if b then (if x < 0 ∨ nI (g_qs M o) ≤ x then none else some (g_qu M (60 * o + x.toNatClampNeg))) else maF (g_he M) o (g_n M) 0 x none
set_option maxHeartbeats 4000000 in
theorem rm_at_o {d : Nat} {M : MSt} {x y z : Int32} (hy : y < 0 ∨ nI 85 ≤ y) : AM r_at (d + 1) (.inl (some (.int (nI 0)))) [.ref 0, .int y, .int x, .int z] (wM M) (wM (m_cd M 1)) := by
  refine aq_enter pl_r_at (Nat.le_of_ble_eq_true rfl) ?_
  refine aq_gn (n := 2) (c1 := (2, [some (.ref 0), some (.int y), some (.int x), some (.int z), none, none, none], [.int y, .ref 0], wM M)) ok_r_at rfl ?_
  refine aq_callS (as := [.int y]) (st := [.ref 0]) ok_r_at rfl c1_r_isObject (rm_isObject y) rfl (Nat.le_of_ble_eq_true rfl) ?_
  rw [isT_out hy]
  refine aq_if_eq ok_r_at rfl (fun h2 => ?_) (fun h2 => ?_)
  · show AW r_at _ _ _ (12, [some (.ref 0), some (.int y), some (.int x), some (.int z), none, none, none], [.ref 0], mL (g_cd M) (g_n M) (g_pr M) (g_st M) (g_he M) (g_wt M) (g_wn M) (g_cv M) (g_qs M) (g_qu M) (g_v5 M) (g_v6 M) (g_v7 M))
    refine aq_go (n := 4) (c1 := (20, [some (.ref 0), some (.int y), some (.int x), some (.int z), none, none, none], [.int (nI 1)], mR (nI 1) (nI (g_n M)) (fun i => nI ((g_pr M) i)) (fun i => nI ((g_st M) i)) (fun i => oI ((g_he M) i)) (fun i => oI ((g_wt M) i)) (fun i => nI ((g_wn M) i)) (fun i => bI ((g_cv M) i)) (fun i => nI ((g_qs M) i)) (fun i => nI ((g_qu M) i)) (nI (g_v5 M)) (nI (g_v6 M)) (nI (g_v7 M)))) (P := aq_fi 1 0 = true) ok_r_at rfl fi1_0 ?_
    show AW r_at _ _ _ (20, [some (.ref 0), some (.int y), some (.int x), some (.int z), none, none, none], [.int (nI 1)], wM (m_cd M 1))
    refine aq_if_le ok_r_at rfl (fun hz => ?_) (fun hz => ?_)
    · exact absurd hz c_le1
    · refine aq_gn (n := 1) (c1 := (24, [some (.ref 0), some (.int y), some (.int x), some (.int z), none, none, none], [.int (nI 0)], wM (m_cd M 1))) ok_r_at rfl ?_
      exact aq_ei ok_r_at rfl rfl rfl rfl
  · exact absurd rfl h2
def maA (a : Option Nat) : Nat := a.getD 0
def maC (a : Option Nat) : Nat := match a with
  | none => 1
  | some _ => 0
set_option maxHeartbeats 4000000 in
theorem lp_at9 {d : Nat} {M : MSt} {a : Option Nat} {al : List (Option Value)} {x1 x2 x3 x5 x6 : Option Value} (hlt : ∀ x, a = some x → x < 60) : AW r_at d (.inl (some (.int (nI (maA (a)))))) (wM (m_cd M (maC (a)))) (114, [some (.ref 0), x1, x2, x3, some (.int (oI a)), x5, x6], [], wM M) := by
  refine aq_drop 6 ?_
  refine aq_drop 5 ?_
  refine aq_drop 3 ?_
  refine aq_drop 2 ?_
  refine aq_drop 1 ?_
  show AW r_at _ _ _ (114, [some (.ref 0), none, none, none, some (.int (oI a)), none, none], [], mL (g_cd M) (g_n M) (g_pr M) (g_st M) (g_he M) (g_wt M) (g_wn M) (g_cv M) (g_qs M) (g_qu M) (g_v5 M) (g_v6 M) (g_v7 M))
  refine aq_gn (n := 2) (c1 := (117, [some (.ref 0), none, none, none, some (.int (oI a)), none, none], [.int (oI a), .ref 0], mL (g_cd M) (g_n M) (g_pr M) (g_st M) (g_he M) (g_wt M) (g_wn M) (g_cv M) (g_qs M) (g_qu M) (g_v5 M) (g_v6 M) (g_v7 M))) ok_r_at rfl ?_
  refine aq_if_ge ok_r_at rfl (fun h9 => ?_) (fun h9 => ?_)
  · obtain ⟨t, hq⟩ := oI_ge h9
    refine aq_go (n := 4) (c1 := (132, [some (.ref 0), none, none, none, some (.int (oI a)), none, none], [.int (nI 0)], mR (nI 0) (nI (g_n M)) (fun i => nI ((g_pr M) i)) (fun i => nI ((g_st M) i)) (fun i => oI ((g_he M) i)) (fun i => oI ((g_wt M) i)) (fun i => nI ((g_wn M) i)) (fun i => bI ((g_cv M) i)) (fun i => nI ((g_qs M) i)) (fun i => nI ((g_qu M) i)) (nI (g_v5 M)) (nI (g_v6 M)) (nI (g_v7 M)))) (P := aq_fi 1 0 = true) ok_r_at rfl fi1_0 ?_
    show AW r_at _ _ _ (132, [some (.ref 0), none, none, none, some (.int (oI a)), none, none], [.int (nI 0)], wM (m_cd M 0))
    refine aq_if_le ok_r_at rfl (fun hz => ?_) (fun hz => ?_)
    · refine aq_gn (n := 1) (c1 := (141, [some (.ref 0), none, none, none, some (.int (oI a)), none, none], [.int (oI a)], wM (m_cd M 0))) ok_r_at rfl ?_
      exact aq_ei ok_r_at rfl rfl (by rw [hq]; rfl) (by rw [hq]; rfl)
    · exact absurd c_le0 hz
  · have hq := oI_nge h9 (fun x q => by have := hlt x q; omega)
    refine aq_go (n := 5) (c1 := (132, [some (.ref 0), none, none, none, some (.int (oI a)), none, none], [.int (nI 1)], mR (nI 1) (nI (g_n M)) (fun i => nI ((g_pr M) i)) (fun i => nI ((g_st M) i)) (fun i => oI ((g_he M) i)) (fun i => oI ((g_wt M) i)) (fun i => nI ((g_wn M) i)) (fun i => bI ((g_cv M) i)) (fun i => nI ((g_qs M) i)) (fun i => nI ((g_qu M) i)) (nI (g_v5 M)) (nI (g_v6 M)) (nI (g_v7 M)))) (P := aq_fi 1 0 = true) ok_r_at rfl fi1_0 ?_
    show AW r_at _ _ _ (132, [some (.ref 0), none, none, none, some (.int (oI a)), none, none], [.int (nI 1)], wM (m_cd M 1))
    refine aq_if_le ok_r_at rfl (fun hz => ?_) (fun hz => ?_)
    · exact absurd hz c_le1
    · refine aq_gn (n := 2) (c1 := (141, [some (.ref 0), none, none, none, some (.int (oI a)), none, none], [.int (nI 0)], wM (m_cd M 1))) ok_r_at rfl ?_
      exact aq_ei ok_r_at rfl rfl (by rw [hq]; rfl) (by rw [hq]; rfl)
theorem maF_lt {he : Nat → Option Nat} {o : Nat} : ∀ (f u : Nat) (l : Int32) (a : Option Nat), (∀ x, a = some x → x < u) → ∀ x, maF he o f u l a = some x → x < u + f := by
  intro f
  induction f with
  | zero => intro u l a h; exact h
  | succ f ih =>
    intro u l a h x q
    unfold maF at q
    split at q
    · have := ih (u + 1) l a (fun y z => by have := h y z; omega) x q; omega
    · have := ih (u + 1) _ _ (fun y z => by
        split at z
        · cases z; omega
        · have := h y z; omega) x q
      omega
set_option maxHeartbeats 4000000 in
theorem lp_at {d : Nat} {M : MSt} {o : Nat} {x2 x3 : Int32} (hn : g_n M ≤ 60) (ho : o < 85) : ∀ (f i : Nat), i + f = g_n M → ∀ (l : Int32) (a : Option Nat), (∀ x, a = some x → x < i) → AW r_at (d + 1) (.inl (some (.int (nI (maA (maF (g_he M) o f i l a)))))) (wM (m_cd M (maC (maF (g_he M) o f i l a)))) (72, [some (.ref 0), some (.int (nI o)), some (.int x2), some (.int x3), some (.int (oI a)), some (.int l), some (.int (nI i))], [], mL (g_cd M) (g_n M) (g_pr M) (g_st M) (g_he M) (g_wt M) (g_wn M) (g_cv M) (g_qs M) (g_qu M) (g_v5 M) (g_v6 M) (g_v7 M)) := by
  intro f
  induction f with
  | zero =>
    intro i hif l a ha
    refine aq_gn (n := 3) (c1 := (78, [some (.ref 0), some (.int (nI o)), some (.int x2), some (.int x3), some (.int (oI a)), some (.int l), some (.int (nI i))], [.int (nI (g_n M)), .int (nI i)], mL (g_cd M) (g_n M) (g_pr M) (g_st M) (g_he M) (g_wt M) (g_wn M) (g_cv M) (g_qs M) (g_qu M) (g_v5 M) (g_v6 M) (g_v7 M))) ok_r_at rfl ?_
    refine aq_icmp_ge ok_r_at rfl (fun h => ?_) (fun h => ?_)
    · exact lp_at9 (al := []) (fun x q => by have := ha x q; omega)
    · exact absurd (nI_le (show g_n M ≤ i by omega) (by omega)) h
  | succ f ih =>
    intro i hif l a ha
    refine aq_gn (n := 3) (c1 := (78, [some (.ref 0), some (.int (nI o)), some (.int x2), some (.int x3), some (.int (oI a)), some (.int l), some (.int (nI i))], [.int (nI (g_n M)), .int (nI i)], mL (g_cd M) (g_n M) (g_pr M) (g_st M) (g_he M) (g_wt M) (g_wn M) (g_cv M) (g_qs M) (g_qu M) (g_v5 M) (g_v6 M) (g_v7 M))) ok_r_at rfl ?_
    refine aq_icmp_ge ok_r_at rfl (fun h => ?_) (fun h => ?_)
    · exact absurd (q_le h (by omega) (by omega)) (by omega)
    · refine aq_gn (n := 3) (c1 := (85, [some (.ref 0), some (.int (nI o)), some (.int x2), some (.int x3), some (.int (oI a)), some (.int l), some (.int (nI i))], [.int (nI o), .int (nI i), .ref 0], wM M)) ok_r_at rfl ?_
      refine aq_callV (as := [.int (nI i), .int (nI o)]) (st := []) ok_r_at rfl c1_r_modeOf (rm_modeOfM (show i < 60 by omega) ho) rfl (Nat.le_of_ble_eq_true rfl) rfl rfl rfl ?_
      refine aq_if_lt ok_r_at rfl (fun h2 => ?_) (fun h2 => ?_)
      · refine aq_gn (n := 2) (c1 := (72, [some (.ref 0), some (.int (nI o)), some (.int x2), some (.int x3), some (.int (oI a)), some (.int l), some (.int ((nI i) + 1))], [], mL (g_cd M) (g_n M) (g_pr M) (g_st M) (g_he M) (g_wt M) (g_wn M) (g_cv M) (g_qs M) (g_qu M) (g_v5 M) (g_v6 M) (g_v7 M))) ok_r_at rfl ?_
        rw [nI_1]
        have e : maF (g_he M) o (f + 1) i l a = maF (g_he M) o f (i + 1) (l) (a) := by rw [maF, if_pos h2]
        rw [e]
        exact ih (i + 1) (by omega) _ _ (fun x q => by have := ha x q; omega)
      · refine aq_gn (n := 1) (c1 := (93, [some (.ref 0), some (.int (nI o)), some (.int x2), some (.int x3), some (.int (oI a)), some (.int l), some (.int (nI i))], [.int l], mL (g_cd M) (g_n M) (g_pr M) (g_st M) (g_he M) (g_wt M) (g_wn M) (g_cv M) (g_qs M) (g_qu M) (g_v5 M) (g_v6 M) (g_v7 M))) ok_r_at rfl ?_
        refine aq_if_ne ok_r_at rfl (fun h3 => ?_) (fun h3 => ?_)
        · refine aq_gn (n := 5) (c1 := (72, [some (.ref 0), some (.int (nI o)), some (.int x2), some (.int x3), some (.int (oI a)), some (.int (l + (-1))), some (.int ((nI i) + 1))], [], mL (g_cd M) (g_n M) (g_pr M) (g_st M) (g_he M) (g_wt M) (g_wn M) (g_cv M) (g_qs M) (g_qu M) (g_v5 M) (g_v6 M) (g_v7 M))) ok_r_at rfl ?_
          rw [nI_1]
          have e : maF (g_he M) o (f + 1) i l a = maF (g_he M) o f (i + 1) (l + (-1)) (a) := by rw [maF, if_neg h2, if_neg h3]
          rw [e]
          exact ih (i + 1) (by omega) _ _ (fun x q => by have := ha x q; omega)
        · refine aq_gn (n := 6) (c1 := (72, [some (.ref 0), some (.int (nI o)), some (.int x2), some (.int x3), some (.int (nI i)), some (.int (l + (-1))), some (.int ((nI i) + 1))], [], mL (g_cd M) (g_n M) (g_pr M) (g_st M) (g_he M) (g_wt M) (g_wn M) (g_cv M) (g_qs M) (g_qu M) (g_v5 M) (g_v6 M) (g_v7 M))) ok_r_at rfl ?_
          rw [nI_1]
          have e : maF (g_he M) o (f + 1) i l a = maF (g_he M) o f (i + 1) (l + (-1)) (some i) := by rw [maF, if_neg h2, if_pos h3]
          rw [e]
          exact ih (i + 1) (by omega) _ (some i) (fun x q => by cases q; omega)
theorem I_nat {x : Int32} {n : Nat} (h : ¬ x < 0) (hn : n < 2 ^ 31) (h2 : ¬ nI n ≤ x) : ∃ j, x = nI j ∧ j < n := by
  have h1 : 0 ≤ x.toInt := by
    rw [Int32.lt_iff_toInt_lt] at h
    have : (0 : Int32).toInt = 0 := rfl
    omega
  have h3 : x.toInt < n := by
    rw [Int32.le_iff_toInt_le, nI_toInt hn] at h2
    omega
  refine ⟨x.toInt.toNat, ?_, by omega⟩
  apply Int32.toInt_inj.mp
  rw [nI_toInt (by omega)]
  omega
set_option maxHeartbeats 4000000 in
theorem rm_at {d : Nat} {M : MSt} {o : Nat} {x : Int32} {b : Bool} (hM : WM M) (ho : o < 85) : AM r_at (d + 1) (.inl (some (.int (nI (maA (maq M o x b)))))) [.ref 0, .int (nI o), .int x, .int (bI b)] (wM M) (wM (m_cd M (maC (maq M o x b)))) := by
  refine aq_enter pl_r_at (Nat.le_of_ble_eq_true rfl) ?_
  refine aq_gn (n := 2) (c1 := (2, [some (.ref 0), some (.int (nI o)), some (.int x), some (.int (bI b)), none, none, none], [.int (nI o), .ref 0], wM M)) ok_r_at rfl ?_
  refine aq_callS (as := [.int (nI o)]) (st := [.ref 0]) ok_r_at rfl c1_r_isObject (rm_isObject (nI o)) rfl (Nat.le_of_ble_eq_true rfl) ?_
  rw [isT_in ho (by omega)]
  refine aq_if_eq ok_r_at rfl (fun h2 => ?_) (fun h2 => ?_)
  · exact absurd h2 bI_t
  · show AW r_at _ _ _ (8, [some (.ref 0), some (.int (nI o)), some (.int x), some (.int (bI b)), none, none, none], [.ref 0], mL (g_cd M) (g_n M) (g_pr M) (g_st M) (g_he M) (g_wt M) (g_wn M) (g_cv M) (g_qs M) (g_qu M) (g_v5 M) (g_v6 M) (g_v7 M))
    refine aq_go (n := 5) (c1 := (20, [some (.ref 0), some (.int (nI o)), some (.int x), some (.int (bI b)), none, none, none], [.int (nI 0)], mR (nI 0) (nI (g_n M)) (fun i => nI ((g_pr M) i)) (fun i => nI ((g_st M) i)) (fun i => oI ((g_he M) i)) (fun i => oI ((g_wt M) i)) (fun i => nI ((g_wn M) i)) (fun i => bI ((g_cv M) i)) (fun i => nI ((g_qs M) i)) (fun i => nI ((g_qu M) i)) (nI (g_v5 M)) (nI (g_v6 M)) (nI (g_v7 M)))) (P := aq_fi 1 0 = true) ok_r_at rfl fi1_0 ?_
    show AW r_at _ _ _ (20, [some (.ref 0), some (.int (nI o)), some (.int x), some (.int (bI b)), none, none, none], [.int (nI 0)], wM (m_cd M 0))
    refine aq_if_le ok_r_at rfl (fun hz => ?_) (fun hz => ?_)
    · refine aq_gn (n := 3) (c1 := (29, [some (.ref 0), some (.int (nI o)), some (.int x), some (.int (bI b)), some (.int (-1)), none, none], [.int (bI b)], wM (m_cd M 0))) ok_r_at rfl ?_
      refine aq_if_eq ok_r_at rfl (fun h3 => ?_) (fun h3 => ?_)
      · have hb := (bI_0 _).mp h3
        subst hb
        refine aq_gn (n := 4) (c1 := (72, [some (.ref 0), some (.int (nI o)), some (.int x), some (.int (bI false)), some (.int (-1)), some (.int x), some (.int (nI 0))], [], wM (m_cd M 0))) ok_r_at rfl ?_
        exact lp_at (M := m_cd M 0) hM.1 ho (g_n M) 0 (Nat.zero_add _) x none (fun x q => by cases q)
      · have hb : b = true := by cases b with | true => rfl | false => exact absurd rfl h3
        subst hb
        refine aq_gn (n := 1) (c1 := (33, [some (.ref 0), some (.int (nI o)), some (.int x), some (.int (bI true)), some (.int (-1)), none, none], [.int x], wM (m_cd M 0))) ok_r_at rfl ?_
        refine aq_if_lt ok_r_at rfl (fun h4 => ?_) (fun h4 => ?_)
        · refine aq_gn (n := 3) (c1 := (114, [some (.ref 0), some (.int (nI o)), some (.int x), some (.int (bI true)), some (.int (-1)), none, none], [], wM (m_cd M 0))) ok_r_at rfl ?_
          have e : maq M o x true = none := by rw [maq, if_pos rfl, if_pos (.inl h4)]
          rw [e]
          exact lp_at9 (M := m_cd M 0) (a := none) (al := []) (fun x q => by cases q)
        · show AW r_at _ _ _ (36, [some (.ref 0), some (.int (nI o)), some (.int x), some (.int (bI true)), some (.int (-1)), none, none], [], mL (g_cd (m_cd M 0)) (g_n (m_cd M 0)) (g_pr (m_cd M 0)) (g_st (m_cd M 0)) (g_he (m_cd M 0)) (g_wt (m_cd M 0)) (g_wn (m_cd M 0)) (g_cv (m_cd M 0)) (g_qs (m_cd M 0)) (g_qu (m_cd M 0)) (g_v5 (m_cd M 0)) (g_v6 (m_cd M 0)) (g_v7 (m_cd M 0)))
          refine aq_go (n := 5) (c1 := (43, [some (.ref 0), some (.int (nI o)), some (.int x), some (.int (bI true)), some (.int (-1)), none, none], [.int (nI ((g_qs (m_cd M 0)) (nI o).toNatClampNeg)), .int x], mL (g_cd (m_cd M 0)) (g_n (m_cd M 0)) (g_pr (m_cd M 0)) (g_st (m_cd M 0)) (g_he (m_cd M 0)) (g_wt (m_cd M 0)) (g_wn (m_cd M 0)) (g_cv (m_cd M 0)) (g_qs (m_cd M 0)) (g_qu (m_cd M 0)) (g_v5 (m_cd M 0)) (g_v6 (m_cd M 0)) (g_v7 (m_cd M 0)))) (P := vp_in (nI o) 85) ok_r_at rfl (inN ho (by omega)) ?_
          rw [clN (show o < 6000 by omega)]
          refine aq_icmp_ge ok_r_at rfl (fun h5 => ?_) (fun h5 => ?_)
          · show AW r_at _ _ _ (60, [some (.ref 0), some (.int (nI o)), some (.int x), some (.int (bI true)), some (.int (-1)), none, none], [], wM (m_cd M 0))
            refine aq_gn (n := 3) (c1 := (114, [some (.ref 0), some (.int (nI o)), some (.int x), some (.int (bI true)), some (.int (-1)), none, none], [], wM (m_cd M 0))) ok_r_at rfl ?_
            have e : maq M o x true = none := by rw [maq, if_pos rfl, if_pos (.inr h5)]
            rw [e]
            exact lp_at9 (M := m_cd M 0) (a := none) (al := []) (fun x q => by cases q)
          · obtain ⟨j, rfl, hj⟩ := I_nat h4 (show g_qs M o < 2 ^ 31 by have := hM.2.2.1 o; omega) h5
            show AW r_at _ _ _ (46, [some (.ref 0), some (.int (nI o)), some (.int (nI j)), some (.int (bI true)), some (.int (-1)), none, none], [], mL (g_cd (m_cd M 0)) (g_n (m_cd M 0)) (g_pr (m_cd M 0)) (g_st (m_cd M 0)) (g_he (m_cd M 0)) (g_wt (m_cd M 0)) (g_wn (m_cd M 0)) (g_cv (m_cd M 0)) (g_qs (m_cd M 0)) (g_qu (m_cd M 0)) (g_v5 (m_cd M 0)) (g_v6 (m_cd M 0)) (g_v7 (m_cd M 0)))
            have hj6 : j < 60 := by have := hM.2.2.1 o; omega
            refine aq_go (n := 11) (c1 := (114, [some (.ref 0), some (.int (nI o)), some (.int (nI j)), some (.int (bI true)), some (.int (nI ((g_qu (m_cd M 0)) (((nI 60) * (nI o)) + (nI j)).toNatClampNeg))), none, none], [], mL (g_cd (m_cd M 0)) (g_n (m_cd M 0)) (g_pr (m_cd M 0)) (g_st (m_cd M 0)) (g_he (m_cd M 0)) (g_wt (m_cd M 0)) (g_wn (m_cd M 0)) (g_cv (m_cd M 0)) (g_qs (m_cd M 0)) (g_qu (m_cd M 0)) (g_v5 (m_cd M 0)) (g_v6 (m_cd M 0)) (g_v7 (m_cd M 0)))) (P := vp_in (((nI 60) * (nI o)) + (nI j)) 5100) ok_r_at rfl (in6 ho hj6) ?_
            rw [cl6 ho hj6]
            have e : maq M o (nI j) true = some (g_qu M (60 * o + j)) := by rw [maq, if_pos rfl, if_neg (fun q => q.elim h4 h5), nI_clamp (by omega)]
            rw [e]
            exact lp_at9 (M := m_cd M 0) (a := some (g_qu M (60 * o + j))) (al := []) (fun x q => by cases q; exact hM.2.1 _)
    · exact absurd c_le0 hz
end
section
/-! THE REFERENCE: escalate, lock -/
def xwI (he : Nat → Option Nat) (t o i : Nat) : Bool := rb i o && !decide (mdI he t i < 0)
def xwF (he : Nat → Option Nat) (t o : Nat) : Nat → Nat → Bool → Nat → Bool × Nat
  | 0, _, w, c => (w, c)
  | f + 1, i, w, c => xwF he t o f (i + 1) (w || (xwI he t o i && rwI (mdI he t i))) (if xwI he t o i then c + 1 else c)
def xmF (t o : Nat) : Nat → Nat → (Nat → Option Nat) → (Nat → Option Nat)
  | 0, _, h => h
  | f + 1, i, h => xmF t o f (i + 1) (if xwI h t o i then va_up h (60 * i + t) none else h)
def xsF (t : Nat) : Nat → Nat → MSt → MSt
  | 0, _, M => M
  | f + 1, i, M => if g_he M (60 * i + t) = none then xsF t f (i + 1) (m_7 (ms (m_he M (va_up (g_he M) (60 * i + t) (some 0))) i).1 (ms (m_he M (va_up (g_he M) (60 * i + t) (some 0))) i).2) else xsF t f (i + 1) M
def xww (M : MSt) (t o : Nat) : Nat := lub (hv (g_he M (60 * o + t))) (if (xwF (g_he M) t o (84 - o) (o + 1) false 0).1 then 4 else 2)
def x_M (M : MSt) (t o w : Nat) : MSt := m_he M (xmF t o (84 - o) (o + 1) (va_up (g_he M) (60 * o + t) (some (w + 1))))
def xfin (M : MSt) (o : Nat) : MSt := m_7 (ms M o).1 (ms M o).2
def mesc (M : MSt) (t o : Nat) : MSt × Int32 := if ftF (g_he M) t o (nI (xww M t o)) (g_n M) 0 true then (xfin (xsF t (84 - o) (o + 1) (x_M M t o (xww M t o))) o, nI (xwF (g_he M) t o (84 - o) (o + 1) false 0).2) else (M, -1)
theorem msF_v7 {o : Nat} : ∀ (f g : Nat) (M : MSt), g_v7 (msF o f g M).1 = g_v7 M := by
  intro f
  induction f with
  | zero => intro g M; rfl
  | succ f ih =>
    intro g M
    unfold msF
    split
    · rw [ih]; rfl
    · rfl
theorem ms_v7 (M : MSt) (o : Nat) : g_v7 (ms M o).1 = g_v7 M := msF_v7 _ _ _
theorem ms_7 (M : MSt) (o : Nat) : (nI (g_v7 M)) + (nI (ms M o).2) = nI (g_v7 (m_7 (ms M o).1 (ms M o).2)) := by
  rw [nI_add]
  show _ = nI (g_v7 (ms M o).1 + (ms M o).2)
  rw [ms_v7]
theorem xmF_lt {t o : Nat} : ∀ (f i : Nat) (h : Nat → Option Nat), (∀ i x, h i = some x → x < 6) → ∀ j x, xmF t o f i h j = some x → x < 6 := by
  intro f
  induction f with
  | zero => intro i h hh; exact hh
  | succ f ih =>
    intro i h hh
    unfold xmF
    split
    · exact ih _ _ (va_up_ol hh (fun x q => by cases q))
    · exact ih _ _ hh
theorem WM_xsF {t : Nat} : ∀ (f i : Nat) (M : MSt), WM M → WM (xsF t f i M) := by
  intro f
  induction f with
  | zero => intro i M h; exact h
  | succ f ih =>
    intro i M h
    unfold xsF
    split
    · exact ih _ _ (WM_7 (WM_ms (WM_he0 h _) i) _)
    · exact ih _ _ h
theorem WM_xM {M : MSt} (h : WM M) (t o : Nat) {w : Nat} (hw : w < 5) : WM (x_M M t o w) := WM_he h (xmF_lt _ _ _ (va_up_ol h.2.2.2.2.2.2.2 (fun x q => by cases q; omega)))
theorem lub_lt {h : Option Nat} {m : Nat} (hh : ∀ x, h = some x → x < 5) (hm : m < 5) : lub h m < 5 := (lub_o hh hm).2
theorem xww_lt {M : MSt} (h : WM M) (t o : Nat) : xww M t o < 5 := lub_lt (hv_lt (h.2.2.2.2.2.2.2 _)) (by split <;> omega)
theorem WM_mesc {M : MSt} (h : WM M) (t o : Nat) : WM (mesc M t o).1 := by
  unfold mesc
  split
  · exact WM_7 (WM_ms (WM_xsF _ _ _ (WM_xM h t o (xww_lt h t o))) o) _
  · exact h
set_option maxHeartbeats 4000000 in
theorem lp_x1 {d : Nat} {M : MSt} {t o : Nat} {O : aq_O} {w' : List va_E} (ht : t < 60) (ho : o < 85) : ∀ (f i : Nat), i + f = 85 → ∀ (w : Bool) (c : Nat), AW r_escalate (d + 1) O w' (147, [some (.ref 0), some (.int (nI t)), some (.int (nI o)), some (.int (bI (xwF (g_he M) t o f i w c).1)), some (.int (nI (xwF (g_he M) t o f i w c).2)), none, none], [], wM M) → AW r_escalate (d + 1) O w' (65, [some (.ref 0), some (.int (nI t)), some (.int (nI o)), some (.int (bI w)), some (.int (nI c)), some (.int (nI i)), none], [], wM M) := by
  intro f
  induction f with
  | zero =>
    intro i hif w c K
    refine aq_gn (n := 2) (c1 := (69, [some (.ref 0), some (.int (nI t)), some (.int (nI o)), some (.int (bI w)), some (.int (nI c)), some (.int (nI i)), none], [.int (nI 85), .int (nI i)], wM M)) ok_r_escalate rfl ?_
    refine aq_icmp_ge ok_r_escalate rfl (fun h => ?_) (fun h => ?_)
    · refine aq_drop 5 ?_
      exact K
    · exact absurd (nI_le (show 85 ≤ i by omega) (by omega)) h
  | succ f ih =>
    intro i hif w c K
    refine aq_gn (n := 2) (c1 := (69, [some (.ref 0), some (.int (nI t)), some (.int (nI o)), some (.int (bI w)), some (.int (nI c)), some (.int (nI i)), none], [.int (nI 85), .int (nI i)], wM M)) ok_r_escalate rfl ?_
    refine aq_icmp_ge ok_r_escalate rfl (fun h => ?_) (fun h => ?_)
    · exact absurd (q_le h (by omega) (by omega)) (by omega)
    · refine aq_gn (n := 2) (c1 := (75, [some (.ref 0), some (.int (nI t)), some (.int (nI o)), some (.int (bI w)), some (.int (nI c)), some (.int (nI i)), none], [.int (nI o), .int (nI i)], wM M)) ok_r_escalate rfl ?_
      refine aq_callS (as := [.int (nI i), .int (nI o)]) (st := []) ok_r_escalate rfl c1_r_isBelow (rm_isBelow (show i < 85 by omega) ho) rfl (Nat.le_of_ble_eq_true rfl) ?_
      refine aq_if_eq ok_r_escalate rfl (fun h2 => ?_) (fun h2 => ?_)
      · have hb := (bI_0 _).mp h2
        refine aq_gn (n := 2) (c1 := (98, [some (.ref 0), some (.int (nI t)), some (.int (nI o)), some (.int (bI w)), some (.int (nI c)), some (.int (nI i)), some (.int (nI 0))], [], wM M)) ok_r_escalate rfl ?_
        have hx : xwI (g_he M) t o i = false := by unfold xwI; simp [hb]
        refine aq_gn (n := 1) (c1 := (99, [some (.ref 0), some (.int (nI t)), some (.int (nI o)), some (.int (bI w)), some (.int (nI c)), some (.int (nI i)), some (.int (nI 0))], [.int (bI w)], wM M)) ok_r_escalate rfl ?_
        refine aq_if_ne ok_r_escalate rfl (fun h5 => ?_) (fun h5 => ?_)
        · have hw : w = true := by cases w with | true => rfl | false => exact absurd rfl h5
          subst hw
          refine aq_gn (n := 5) (c1 := (130, [some (.ref 0), some (.int (nI t)), some (.int (nI o)), some (.int (nI 1)), some (.int (nI c)), some (.int (nI i)), some (.int (nI 0))], [.int (nI 0), .int (nI c)], wM M)) ok_r_escalate rfl ?_
          refine aq_if_eq ok_r_escalate rfl (fun h8 => ?_) (fun h8 => ?_)
          · refine aq_gn (n := 5) (c1 := (65, [some (.ref 0), some (.int (nI t)), some (.int (nI o)), some (.int (nI 1)), some (.int ((nI c) + (nI 0))), some (.int ((nI i) + 1)), some (.int (nI 0))], [], wM M)) ok_r_escalate rfl ?_
            rw [nI_add, nI_1]
            refine aq_drop 6 ?_
            have e : xwF (g_he M) t o (f + 1) i true c = xwF (g_he M) t o f (i + 1) true (c + 0) := by rw [xwF, hx]; rfl
            rw [e] at K
            exact ih (i + 1) (by omega) _ _ K
          · exact absurd rfl h8
        · have hw := (bI_0 _).mp h5
          subst hw
          refine aq_gn (n := 1) (c1 := (104, [some (.ref 0), some (.int (nI t)), some (.int (nI o)), some (.int (bI false)), some (.int (nI c)), some (.int (nI i)), some (.int (nI 0))], [.int (nI 0)], wM M)) ok_r_escalate rfl ?_
          refine aq_if_eq ok_r_escalate rfl (fun h6 => ?_) (fun h6 => ?_)
          · refine aq_gn (n := 4) (c1 := (130, [some (.ref 0), some (.int (nI t)), some (.int (nI o)), some (.int (nI 0)), some (.int (nI c)), some (.int (nI i)), some (.int (nI 0))], [.int (nI 0), .int (nI c)], wM M)) ok_r_escalate rfl ?_
            refine aq_if_eq ok_r_escalate rfl (fun h8 => ?_) (fun h8 => ?_)
            · refine aq_gn (n := 5) (c1 := (65, [some (.ref 0), some (.int (nI t)), some (.int (nI o)), some (.int (nI 0)), some (.int ((nI c) + (nI 0))), some (.int ((nI i) + 1)), some (.int (nI 0))], [], wM M)) ok_r_escalate rfl ?_
              rw [nI_add, nI_1]
              refine aq_drop 6 ?_
              have e : xwF (g_he M) t o (f + 1) i false c = xwF (g_he M) t o f (i + 1) false (c + 0) := by rw [xwF, hx]; rfl
              rw [e] at K
              exact ih (i + 1) (by omega) _ _ K
            · exact absurd rfl h8
          · exact absurd rfl h6
      · have hb : rb i o = true := by cases hy : rb i o with | true => rfl | false => exact absurd ((bI_0 _).mpr hy) h2
        refine aq_gn (n := 3) (c1 := (85, [some (.ref 0), some (.int (nI t)), some (.int (nI o)), some (.int (bI w)), some (.int (nI c)), some (.int (nI i)), none], [.int (nI i), .int (nI t), .ref 0], wM M)) ok_r_escalate rfl ?_
        refine aq_callV (as := [.int (nI t), .int (nI i)]) (st := []) ok_r_escalate rfl c1_r_modeOf (rm_modeOfM ht (show i < 85 by omega)) rfl (Nat.le_of_ble_eq_true rfl) rfl rfl rfl ?_
        refine aq_if_lt ok_r_escalate rfl (fun h3 => ?_) (fun h3 => ?_)
        · have hm := h3
          have hb : (rb i o && !decide (mdI (g_he M) t i < 0)) = false := by simp [hm]
          refine aq_gn (n := 2) (c1 := (98, [some (.ref 0), some (.int (nI t)), some (.int (nI o)), some (.int (bI w)), some (.int (nI c)), some (.int (nI i)), some (.int (nI 0))], [], wM M)) ok_r_escalate rfl ?_
          have hx : xwI (g_he M) t o i = false := by unfold xwI; simp [hb]
          refine aq_gn (n := 1) (c1 := (99, [some (.ref 0), some (.int (nI t)), some (.int (nI o)), some (.int (bI w)), some (.int (nI c)), some (.int (nI i)), some (.int (nI 0))], [.int (bI w)], wM M)) ok_r_escalate rfl ?_
          refine aq_if_ne ok_r_escalate rfl (fun h5 => ?_) (fun h5 => ?_)
          · have hw : w = true := by cases w with | true => rfl | false => exact absurd rfl h5
            subst hw
            refine aq_gn (n := 5) (c1 := (130, [some (.ref 0), some (.int (nI t)), some (.int (nI o)), some (.int (nI 1)), some (.int (nI c)), some (.int (nI i)), some (.int (nI 0))], [.int (nI 0), .int (nI c)], wM M)) ok_r_escalate rfl ?_
            refine aq_if_eq ok_r_escalate rfl (fun h8 => ?_) (fun h8 => ?_)
            · refine aq_gn (n := 5) (c1 := (65, [some (.ref 0), some (.int (nI t)), some (.int (nI o)), some (.int (nI 1)), some (.int ((nI c) + (nI 0))), some (.int ((nI i) + 1)), some (.int (nI 0))], [], wM M)) ok_r_escalate rfl ?_
              rw [nI_add, nI_1]
              refine aq_drop 6 ?_
              have e : xwF (g_he M) t o (f + 1) i true c = xwF (g_he M) t o f (i + 1) true (c + 0) := by rw [xwF, hx]; rfl
              rw [e] at K
              exact ih (i + 1) (by omega) _ _ K
            · exact absurd rfl h8
          · have hw := (bI_0 _).mp h5
            subst hw
            refine aq_gn (n := 1) (c1 := (104, [some (.ref 0), some (.int (nI t)), some (.int (nI o)), some (.int (bI false)), some (.int (nI c)), some (.int (nI i)), some (.int (nI 0))], [.int (nI 0)], wM M)) ok_r_escalate rfl ?_
            refine aq_if_eq ok_r_escalate rfl (fun h6 => ?_) (fun h6 => ?_)
            · refine aq_gn (n := 4) (c1 := (130, [some (.ref 0), some (.int (nI t)), some (.int (nI o)), some (.int (nI 0)), some (.int (nI c)), some (.int (nI i)), some (.int (nI 0))], [.int (nI 0), .int (nI c)], wM M)) ok_r_escalate rfl ?_
              refine aq_if_eq ok_r_escalate rfl (fun h8 => ?_) (fun h8 => ?_)
              · refine aq_gn (n := 5) (c1 := (65, [some (.ref 0), some (.int (nI t)), some (.int (nI o)), some (.int (nI 0)), some (.int ((nI c) + (nI 0))), some (.int ((nI i) + 1)), some (.int (nI 0))], [], wM M)) ok_r_escalate rfl ?_
                rw [nI_add, nI_1]
                refine aq_drop 6 ?_
                have e : xwF (g_he M) t o (f + 1) i false c = xwF (g_he M) t o f (i + 1) false (c + 0) := by rw [xwF, hx]; rfl
                rw [e] at K
                exact ih (i + 1) (by omega) _ _ K
              · exact absurd rfl h8
            · exact absurd rfl h6
        · have hm := h3
          refine aq_gn (n := 3) (c1 := (98, [some (.ref 0), some (.int (nI t)), some (.int (nI o)), some (.int (bI w)), some (.int (nI c)), some (.int (nI i)), some (.int (nI 1))], [], wM M)) ok_r_escalate rfl ?_
          have hx : xwI (g_he M) t o i = true := by unfold xwI; simp [hb, hm]
          refine aq_gn (n := 1) (c1 := (99, [some (.ref 0), some (.int (nI t)), some (.int (nI o)), some (.int (bI w)), some (.int (nI c)), some (.int (nI i)), some (.int (nI 1))], [.int (bI w)], wM M)) ok_r_escalate rfl ?_
          refine aq_if_ne ok_r_escalate rfl (fun h5 => ?_) (fun h5 => ?_)
          · have hw : w = true := by cases w with | true => rfl | false => exact absurd rfl h5
            subst hw
            refine aq_gn (n := 5) (c1 := (130, [some (.ref 0), some (.int (nI t)), some (.int (nI o)), some (.int (nI 1)), some (.int (nI c)), some (.int (nI i)), some (.int (nI 1))], [.int (nI 1), .int (nI c)], wM M)) ok_r_escalate rfl ?_
            refine aq_if_eq ok_r_escalate rfl (fun h8 => ?_) (fun h8 => ?_)
            · exact absurd h8 (by decide)
            · refine aq_gn (n := 6) (c1 := (65, [some (.ref 0), some (.int (nI t)), some (.int (nI o)), some (.int (nI 1)), some (.int ((nI c) + (nI 1))), some (.int ((nI i) + 1)), some (.int (nI 1))], [], wM M)) ok_r_escalate rfl ?_
              rw [nI_add, nI_1]
              refine aq_drop 6 ?_
              have e : xwF (g_he M) t o (f + 1) i true c = xwF (g_he M) t o f (i + 1) true (c + 1) := by rw [xwF, hx]; rfl
              rw [e] at K
              exact ih (i + 1) (by omega) _ _ K
          · have hw := (bI_0 _).mp h5
            subst hw
            refine aq_gn (n := 1) (c1 := (104, [some (.ref 0), some (.int (nI t)), some (.int (nI o)), some (.int (bI false)), some (.int (nI c)), some (.int (nI i)), some (.int (nI 1))], [.int (nI 1)], wM M)) ok_r_escalate rfl ?_
            refine aq_if_eq ok_r_escalate rfl (fun h6 => ?_) (fun h6 => ?_)
            · exact absurd h6 (by decide)
            · refine aq_gn (n := 3) (c1 := (111, [some (.ref 0), some (.int (nI t)), some (.int (nI o)), some (.int (bI false)), some (.int (nI c)), some (.int (nI i)), some (.int (nI 1))], [.int (nI i), .int (nI t), .ref 0], wM M)) ok_r_escalate rfl ?_
              refine aq_callV (as := [.int (nI t), .int (nI i)]) (st := []) ok_r_escalate rfl c1_r_modeOf (rm_modeOfM ht (show i < 85 by omega)) rfl (Nat.le_of_ble_eq_true rfl) rfl rfl rfl ?_
              refine aq_callS (as := [.int (mdI (g_he M) t i)]) (st := []) ok_r_escalate rfl c1_r_isWriting (rm_isWriting (mdI (g_he M) t i)) rfl (Nat.le_of_ble_eq_true rfl) ?_
              refine aq_if_eq ok_r_escalate rfl (fun h7 => ?_) (fun h7 => ?_)
              · have hw := (bI_0 _).mp h7
                refine aq_gn (n := 4) (c1 := (130, [some (.ref 0), some (.int (nI t)), some (.int (nI o)), some (.int (nI 0)), some (.int (nI c)), some (.int (nI i)), some (.int (nI 1))], [.int (nI 1), .int (nI c)], wM M)) ok_r_escalate rfl ?_
                refine aq_if_eq ok_r_escalate rfl (fun h8 => ?_) (fun h8 => ?_)
                · exact absurd h8 (by decide)
                · refine aq_gn (n := 6) (c1 := (65, [some (.ref 0), some (.int (nI t)), some (.int (nI o)), some (.int (nI 0)), some (.int ((nI c) + (nI 1))), some (.int ((nI i) + 1)), some (.int (nI 1))], [], wM M)) ok_r_escalate rfl ?_
                  rw [nI_add, nI_1]
                  refine aq_drop 6 ?_
                  have e : xwF (g_he M) t o (f + 1) i false c = xwF (g_he M) t o f (i + 1) false (c + 1) := by rw [xwF, hx]; simp [hw]
                  rw [e] at K
                  exact ih (i + 1) (by omega) _ _ K
              · have hw : rwI (mdI (g_he M) t i) = true := by cases hy : rwI (mdI (g_he M) t i) with | true => rfl | false => exact absurd ((bI_0 _).mpr hy) h7
                refine aq_gn (n := 5) (c1 := (130, [some (.ref 0), some (.int (nI t)), some (.int (nI o)), some (.int (nI 1)), some (.int (nI c)), some (.int (nI i)), some (.int (nI 1))], [.int (nI 1), .int (nI c)], wM M)) ok_r_escalate rfl ?_
                refine aq_if_eq ok_r_escalate rfl (fun h8 => ?_) (fun h8 => ?_)
                · exact absurd h8 (by decide)
                · refine aq_gn (n := 6) (c1 := (65, [some (.ref 0), some (.int (nI t)), some (.int (nI o)), some (.int (nI 1)), some (.int ((nI c) + (nI 1))), some (.int ((nI i) + 1)), some (.int (nI 1))], [], wM M)) ok_r_escalate rfl ?_
                  rw [nI_add, nI_1]
                  refine aq_drop 6 ?_
                  have e : xwF (g_he M) t o (f + 1) i false c = xwF (g_he M) t o f (i + 1) true (c + 1) := by rw [xwF, hx]; simp [hw]
                  rw [e] at K
                  exact ih (i + 1) (by omega) _ _ K
set_option maxHeartbeats 4000000 in
theorem lp_x2 {d : Nat} {M : MSt} {t o c : Nat} {x3 x5 : Int32} {O : aq_O} {w' : List va_E} (ht : t < 60) (ho : o < 85) : ∀ (f i : Nat), i + f = 85 → ∀ he : Nat → Option Nat, AW r_escalate (d + 1) O w' (245, [some (.ref 0), some (.int (nI t)), some (.int (nI o)), some (.int x3), some (.int (nI c)), some (.int x5), none], [], wM (m_he M (xmF t o f i he))) → AW r_escalate (d + 1) O w' (200, [some (.ref 0), some (.int (nI t)), some (.int (nI o)), some (.int x3), some (.int (nI c)), some (.int x5), some (.int (nI i))], [], wM (m_he M he)) := by
  intro f
  induction f with
  | zero =>
    intro i hif he K
    refine aq_gn (n := 2) (c1 := (204, [some (.ref 0), some (.int (nI t)), some (.int (nI o)), some (.int x3), some (.int (nI c)), some (.int x5), some (.int (nI i))], [.int (nI 85), .int (nI i)], wM (m_he M he))) ok_r_escalate rfl ?_
    refine aq_icmp_ge ok_r_escalate rfl (fun h => ?_) (fun h => ?_)
    · refine aq_drop 6 ?_
      exact K
    · exact absurd (nI_le (show 85 ≤ i by omega) (by omega)) h
  | succ f ih =>
    intro i hif he K
    refine aq_gn (n := 2) (c1 := (204, [some (.ref 0), some (.int (nI t)), some (.int (nI o)), some (.int x3), some (.int (nI c)), some (.int x5), some (.int (nI i))], [.int (nI 85), .int (nI i)], wM (m_he M he))) ok_r_escalate rfl ?_
    refine aq_icmp_ge ok_r_escalate rfl (fun h => ?_) (fun h => ?_)
    · exact absurd (q_le h (by omega) (by omega)) (by omega)
    · refine aq_gn (n := 2) (c1 := (210, [some (.ref 0), some (.int (nI t)), some (.int (nI o)), some (.int x3), some (.int (nI c)), some (.int x5), some (.int (nI i))], [.int (nI o), .int (nI i)], wM (m_he M he))) ok_r_escalate rfl ?_
      refine aq_callS (as := [.int (nI i), .int (nI o)]) (st := []) ok_r_escalate rfl c1_r_isBelow (rm_isBelow (show i < 85 by omega) ho) rfl (Nat.le_of_ble_eq_true rfl) ?_
      refine aq_if_eq ok_r_escalate rfl (fun h2 => ?_) (fun h2 => ?_)
      · have hb := (bI_0 _).mp h2
        refine aq_gn (n := 2) (c1 := (200, [some (.ref 0), some (.int (nI t)), some (.int (nI o)), some (.int x3), some (.int (nI c)), some (.int x5), some (.int ((nI i) + 1))], [], wM (m_he M he))) ok_r_escalate rfl ?_
        rw [nI_1]
        have e : xmF t o (f + 1) i he = xmF t o f (i + 1) he := by rw [xmF, show xwI he t o i = false by unfold xwI; simp [hb]]; rfl
        rw [e] at K
        exact ih (i + 1) (by omega) _ K
      · have hb : rb i o = true := by cases hy : rb i o with | true => rfl | false => exact absurd ((bI_0 _).mpr hy) h2
        refine aq_gn (n := 3) (c1 := (220, [some (.ref 0), some (.int (nI t)), some (.int (nI o)), some (.int x3), some (.int (nI c)), some (.int x5), some (.int (nI i))], [.int (nI i), .int (nI t), .ref 0], wM (m_he M he))) ok_r_escalate rfl ?_
        refine aq_callV (as := [.int (nI t), .int (nI i)]) (st := []) ok_r_escalate rfl c1_r_modeOf (rm_modeOfM (M := m_he M he) ht (show i < 85 by omega)) rfl (Nat.le_of_ble_eq_true rfl) rfl rfl rfl ?_
        refine aq_if_lt ok_r_escalate rfl (fun h3 => ?_) (fun h3 => ?_)
        · have h3 : mdI he t i < 0 := h3
          refine aq_gn (n := 2) (c1 := (200, [some (.ref 0), some (.int (nI t)), some (.int (nI o)), some (.int x3), some (.int (nI c)), some (.int x5), some (.int ((nI i) + 1))], [], wM (m_he M he))) ok_r_escalate rfl ?_
          rw [nI_1]
          have e : xmF t o (f + 1) i he = xmF t o f (i + 1) he := by rw [xmF, show xwI he t o i = false by unfold xwI; simp [h3]]; rfl
          rw [e] at K
          exact ih (i + 1) (by omega) _ K
        · have h3 : ¬ mdI he t i < 0 := h3
          show AW r_escalate _ _ _ (226, [some (.ref 0), some (.int (nI t)), some (.int (nI o)), some (.int x3), some (.int (nI c)), some (.int x5), some (.int (nI i))], [], mL (g_cd M) (g_n M) (g_pr M) (g_st M) he (g_wt M) (g_wn M) (g_cv M) (g_qs M) (g_qu M) (g_v5 M) (g_v6 M) (g_v7 M))
          refine aq_go (n := 11) (c1 := (200, [some (.ref 0), some (.int (nI t)), some (.int (nI o)), some (.int x3), some (.int (nI c)), some (.int x5), some (.int ((nI i) + 1))], [], mR (nI (g_cd M)) (nI (g_n M)) (fun ι => nI ((g_pr M) ι)) (fun ι => nI ((g_st M) ι)) (upd (fun ι => oI (he ι)) (((nI 60) * (nI i)) + (nI t)).toNatClampNeg (-1)) (fun ι => oI ((g_wt M) ι)) (fun ι => nI ((g_wn M) ι)) (fun ι => bI ((g_cv M) ι)) (fun ι => nI ((g_qs M) ι)) (fun ι => nI ((g_qu M) ι)) (nI (g_v5 M)) (nI (g_v6 M)) (nI (g_v7 M)))) (P := vp_in (((nI 60) * (nI i)) + (nI t)) 5100) ok_r_escalate rfl (in6 (show i < 85 by omega) ht) ?_
          rw [cl6 (show i < 85 by omega) ht, upd_m, nI_1]
          have e : xmF t o (f + 1) i he = xmF t o f (i + 1) (va_up he (60 * i + t) none) := by rw [xmF, show xwI he t o i = true by unfold xwI; simp [hb, h3]]; rfl
          rw [e] at K
          exact ih (i + 1) (by omega) _ K
set_option maxHeartbeats 4000000 in
theorem lp_x3 {d : Nat} {t o c : Nat} {x3 x5 : Int32} (ht : t < 60) (ho : o < 85) : ∀ (f i : Nat), i + f = 85 → ∀ M : MSt, WM M → AW r_escalate (d + 3) (.inl (some (.int (nI c)))) (wM (xfin (xsF t f i M) o)) (250, [some (.ref 0), some (.int (nI t)), some (.int (nI o)), some (.int x3), some (.int (nI c)), some (.int x5), some (.int (nI i))], [], mL (g_cd M) (g_n M) (g_pr M) (g_st M) (g_he M) (g_wt M) (g_wn M) (g_cv M) (g_qs M) (g_qu M) (g_v5 M) (g_v6 M) (g_v7 M)) := by
  intro f
  induction f with
  | zero =>
    intro i hif M hM
    refine aq_gn (n := 2) (c1 := (254, [some (.ref 0), some (.int (nI t)), some (.int (nI o)), some (.int x3), some (.int (nI c)), some (.int x5), some (.int (nI i))], [.int (nI 85), .int (nI i)], mL (g_cd M) (g_n M) (g_pr M) (g_st M) (g_he M) (g_wt M) (g_wn M) (g_cv M) (g_qs M) (g_qu M) (g_v5 M) (g_v6 M) (g_v7 M))) ok_r_escalate rfl ?_
    refine aq_icmp_ge ok_r_escalate rfl (fun h => ?_) (fun h => ?_)
    · show AW r_escalate _ _ _ (306, [some (.ref 0), some (.int (nI t)), some (.int (nI o)), some (.int x3), some (.int (nI c)), some (.int x5), some (.int (nI i))], [], mL (g_cd M) (g_n M) (g_pr M) (g_st M) (g_he M) (g_wt M) (g_wn M) (g_cv M) (g_qs M) (g_qu M) (g_v5 M) (g_v6 M) (g_v7 M))
      refine aq_gn (n := 5) (c1 := (313, [some (.ref 0), some (.int (nI t)), some (.int (nI o)), some (.int x3), some (.int (nI c)), some (.int x5), some (.int (nI i))], [.int (nI o), .ref 0, .int (nI (g_v7 M)), .ref 0], mL (g_cd M) (g_n M) (g_pr M) (g_st M) (g_he M) (g_wt M) (g_wn M) (g_cv M) (g_qs M) (g_qu M) (g_v5 M) (g_v6 M) (g_v7 M))) ok_r_escalate rfl ?_
      show AW r_escalate _ _ _ (313, [some (.ref 0), some (.int (nI t)), some (.int (nI o)), some (.int x3), some (.int (nI c)), some (.int x5), some (.int (nI i))], [.int (nI o), .ref 0, .int (nI (g_v7 M)), .ref 0], wM M)
      refine aq_callV (as := [.int (nI o)]) (st := [.int (nI (g_v7 M)), .ref 0]) ok_r_escalate rfl c1_r_serve (rm_serve hM ho) rfl (Nat.le_of_ble_eq_true rfl) rfl rfl rfl ?_
      show AW r_escalate _ _ _ (316, [some (.ref 0), some (.int (nI t)), some (.int (nI o)), some (.int x3), some (.int (nI c)), some (.int x5), some (.int (nI i))], [.int (nI (ms M o).2), .int (nI (g_v7 M)), .ref 0], mL (g_cd ((ms M o).1)) (g_n ((ms M o).1)) (g_pr ((ms M o).1)) (g_st ((ms M o).1)) (g_he ((ms M o).1)) (g_wt ((ms M o).1)) (g_wn ((ms M o).1)) (g_cv ((ms M o).1)) (g_qs ((ms M o).1)) (g_qu ((ms M o).1)) (g_v5 ((ms M o).1)) (g_v6 ((ms M o).1)) (g_v7 ((ms M o).1)))
      refine aq_go (n := 3) (c1 := (322, [some (.ref 0), some (.int (nI t)), some (.int (nI o)), some (.int x3), some (.int (nI c)), some (.int x5), some (.int (nI i))], [.int (nI c)], mR (nI (g_cd ((ms M o).1))) (nI (g_n ((ms M o).1))) (fun ι => nI ((g_pr ((ms M o).1)) ι)) (fun ι => nI ((g_st ((ms M o).1)) ι)) (fun ι => oI ((g_he ((ms M o).1)) ι)) (fun ι => oI ((g_wt ((ms M o).1)) ι)) (fun ι => nI ((g_wn ((ms M o).1)) ι)) (fun ι => bI ((g_cv ((ms M o).1)) ι)) (fun ι => nI ((g_qs ((ms M o).1)) ι)) (fun ι => nI ((g_qu ((ms M o).1)) ι)) (nI (g_v5 ((ms M o).1))) (nI (g_v6 ((ms M o).1))) ((nI (g_v7 M)) + (nI (ms M o).2)))) (P := aq_fi 1 12 = true) ok_r_escalate rfl fi1_12 ?_
      rw [ms_7]
      show AW r_escalate _ _ _ (322, [some (.ref 0), some (.int (nI t)), some (.int (nI o)), some (.int x3), some (.int (nI c)), some (.int x5), some (.int (nI i))], [.int (nI c)], wM (xfin M o))
      exact aq_ei ok_r_escalate rfl rfl rfl rfl
    · exact absurd (nI_le (show 85 ≤ i by omega) (by omega)) h
  | succ f ih =>
    intro i hif M hM
    refine aq_gn (n := 2) (c1 := (254, [some (.ref 0), some (.int (nI t)), some (.int (nI o)), some (.int x3), some (.int (nI c)), some (.int x5), some (.int (nI i))], [.int (nI 85), .int (nI i)], mL (g_cd M) (g_n M) (g_pr M) (g_st M) (g_he M) (g_wt M) (g_wn M) (g_cv M) (g_qs M) (g_qu M) (g_v5 M) (g_v6 M) (g_v7 M))) ok_r_escalate rfl ?_
    refine aq_icmp_ge ok_r_escalate rfl (fun h => ?_) (fun h => ?_)
    · exact absurd (q_le h (by omega) (by omega)) (by omega)
    · refine aq_go (n := 8) (c1 := (269, [some (.ref 0), some (.int (nI t)), some (.int (nI o)), some (.int x3), some (.int (nI c)), some (.int x5), some (.int (nI i))], [.int (oI ((g_he M) (((nI 60) * (nI i)) + (nI t)).toNatClampNeg))], mL (g_cd M) (g_n M) (g_pr M) (g_st M) (g_he M) (g_wt M) (g_wn M) (g_cv M) (g_qs M) (g_qu M) (g_v5 M) (g_v6 M) (g_v7 M))) (P := vp_in (((nI 60) * (nI i)) + (nI t)) 5100) ok_r_escalate rfl (in6 (show i < 85 by omega) ht) ?_
      rw [cl6 (show i < 85 by omega) ht]
      refine aq_if_ge ok_r_escalate rfl (fun h2 => ?_) (fun h2 => ?_)
      · obtain ⟨q, hq⟩ := oI_ge h2
        refine aq_gn (n := 2) (c1 := (250, [some (.ref 0), some (.int (nI t)), some (.int (nI o)), some (.int x3), some (.int (nI c)), some (.int x5), some (.int ((nI i) + 1))], [], mL (g_cd M) (g_n M) (g_pr M) (g_st M) (g_he M) (g_wt M) (g_wn M) (g_cv M) (g_qs M) (g_qu M) (g_v5 M) (g_v6 M) (g_v7 M))) ok_r_escalate rfl ?_
        rw [nI_1]
        have e : xsF t (f + 1) i M = xsF t f (i + 1) M := by rw [xsF, if_neg (by rw [hq]; intro q; cases q)]
        rw [e]
        exact ih (i + 1) (by omega) M hM
      · have hq := oI_nge h2 (fun x q => by have := hM.2.2.2.2.2.2.2 _ x q; omega)
        refine aq_go (n := 14) (c1 := (293, [some (.ref 0), some (.int (nI t)), some (.int (nI o)), some (.int x3), some (.int (nI c)), some (.int x5), some (.int (nI i))], [.int (nI i), .ref 0, .int (nI (g_v7 M)), .ref 0], mR (nI (g_cd M)) (nI (g_n M)) (fun ι => nI ((g_pr M) ι)) (fun ι => nI ((g_st M) ι)) (upd (fun ι => oI ((g_he M) ι)) (((nI 60) * (nI i)) + (nI t)).toNatClampNeg (nI 0)) (fun ι => oI ((g_wt M) ι)) (fun ι => nI ((g_wn M) ι)) (fun ι => bI ((g_cv M) ι)) (fun ι => nI ((g_qs M) ι)) (fun ι => nI ((g_qu M) ι)) (nI (g_v5 M)) (nI (g_v6 M)) (nI (g_v7 M)))) (P := vp_in (((nI 60) * (nI i)) + (nI t)) 5100) ok_r_escalate rfl (in6 (show i < 85 by omega) ht) ?_
        rw [cl6 (show i < 85 by omega) ht, upd_o]
        obtain ⟨Q, hQ⟩ : ∃ Q, Q = m_he M (va_up (g_he M) (60 * i + t) (some 0)) := ⟨_, rfl⟩
        have hWQ : WM Q := by rw [hQ]; exact WM_he0 hM _
        have e : xsF t (f + 1) i M = xsF t f (i + 1) (m_7 (ms Q i).1 (ms Q i).2) := by rw [xsF, if_pos hq, hQ]
        rw [e]
        show AW r_escalate _ _ _ (293, [some (.ref 0), some (.int (nI t)), some (.int (nI o)), some (.int x3), some (.int (nI c)), some (.int x5), some (.int (nI i))], [.int (nI i), .ref 0, .int (nI (g_v7 (m_he M (va_up (g_he M) (60 * i + t) (some 0))))), .ref 0], wM (m_he M (va_up (g_he M) (60 * i + t) (some 0))))
        rw [← hQ]
        refine aq_callV (as := [.int (nI i)]) (st := [.int (nI (g_v7 Q)), .ref 0]) ok_r_escalate rfl c1_r_serve (rm_serve hWQ (show i < 85 by omega)) rfl (Nat.le_of_ble_eq_true rfl) rfl rfl rfl ?_
        show AW r_escalate _ _ _ (296, [some (.ref 0), some (.int (nI t)), some (.int (nI o)), some (.int x3), some (.int (nI c)), some (.int x5), some (.int (nI i))], [.int (nI (ms Q i).2), .int (nI (g_v7 Q)), .ref 0], mL (g_cd ((ms Q i).1)) (g_n ((ms Q i).1)) (g_pr ((ms Q i).1)) (g_st ((ms Q i).1)) (g_he ((ms Q i).1)) (g_wt ((ms Q i).1)) (g_wn ((ms Q i).1)) (g_cv ((ms Q i).1)) (g_qs ((ms Q i).1)) (g_qu ((ms Q i).1)) (g_v5 ((ms Q i).1)) (g_v6 ((ms Q i).1)) (g_v7 ((ms Q i).1)))
        refine aq_go (n := 4) (c1 := (250, [some (.ref 0), some (.int (nI t)), some (.int (nI o)), some (.int x3), some (.int (nI c)), some (.int x5), some (.int ((nI i) + 1))], [], mR (nI (g_cd ((ms Q i).1))) (nI (g_n ((ms Q i).1))) (fun ι => nI ((g_pr ((ms Q i).1)) ι)) (fun ι => nI ((g_st ((ms Q i).1)) ι)) (fun ι => oI ((g_he ((ms Q i).1)) ι)) (fun ι => oI ((g_wt ((ms Q i).1)) ι)) (fun ι => nI ((g_wn ((ms Q i).1)) ι)) (fun ι => bI ((g_cv ((ms Q i).1)) ι)) (fun ι => nI ((g_qs ((ms Q i).1)) ι)) (fun ι => nI ((g_qu ((ms Q i).1)) ι)) (nI (g_v5 ((ms Q i).1))) (nI (g_v6 ((ms Q i).1))) ((nI (g_v7 Q)) + (nI (ms Q i).2)))) (P := aq_fi 1 12 = true) ok_r_escalate rfl fi1_12 ?_
        rw [ms_7, nI_1]
        exact ih (i + 1) (by omega) _ (WM_7 (WM_ms hWQ i) _)
set_option maxHeartbeats 4000000 in
theorem rm_escalate_t {d : Nat} {M : MSt} {x y : Int32} (hx : x < 0 ∨ nI (g_n M) ≤ x) : AM r_escalate (d + 1) (.inl (some (.int (nI 0)))) [.ref 0, .int x, .int y] (wM M) (wM (m_cd M 1)) := by
  refine aq_enter pl_r_escalate (Nat.le_of_ble_eq_true rfl) ?_
  refine aq_gn (n := 3) (c1 := (3, [some (.ref 0), some (.int x), some (.int y), none, none, none, none], [.int x, .ref 0, .ref 0], wM M)) ok_r_escalate rfl ?_
  refine aq_callV (as := [.int x]) (st := [.ref 0]) ok_r_escalate rfl c1_r_isTransaction (rm_isTransactionM x) rfl (Nat.le_of_ble_eq_true rfl) rfl rfl rfl ?_
  rw [isT_out hx]
  refine aq_if_eq ok_r_escalate rfl (fun h => ?_) (fun h => ?_)
  · show AW r_escalate _ _ _ (16, [some (.ref 0), some (.int x), some (.int y), none, none, none, none], [.ref 0], mL (g_cd M) (g_n M) (g_pr M) (g_st M) (g_he M) (g_wt M) (g_wn M) (g_cv M) (g_qs M) (g_qu M) (g_v5 M) (g_v6 M) (g_v7 M))
    refine aq_go (n := 5) (c1 := (50, [some (.ref 0), some (.int x), some (.int y), none, none, none, none], [.int (nI 1)], mR (nI 1) (nI (g_n M)) (fun ι => nI ((g_pr M) ι)) (fun ι => nI ((g_st M) ι)) (fun ι => oI ((g_he M) ι)) (fun ι => oI ((g_wt M) ι)) (fun ι => nI ((g_wn M) ι)) (fun ι => bI ((g_cv M) ι)) (fun ι => nI ((g_qs M) ι)) (fun ι => nI ((g_qu M) ι)) (nI (g_v5 M)) (nI (g_v6 M)) (nI (g_v7 M)))) (P := aq_fi 1 0 = true) ok_r_escalate rfl fi1_0 ?_
    show AW r_escalate _ _ _ (50, [some (.ref 0), some (.int x), some (.int y), none, none, none, none], [.int (nI 1)], wM (m_cd M 1))
    refine aq_if_le ok_r_escalate rfl (fun hz => ?_) (fun hz => ?_)
    · exact absurd hz c_le1
    · refine aq_gn (n := 1) (c1 := (54, [some (.ref 0), some (.int x), some (.int y), none, none, none, none], [.int (nI 0)], wM (m_cd M 1))) ok_r_escalate rfl ?_
      exact aq_ei ok_r_escalate rfl rfl rfl rfl
  · exact absurd rfl h
set_option maxHeartbeats 4000000 in
theorem rm_escalate_o {d : Nat} {M : MSt} {t : Nat} {y : Int32} (hM : WM M) (ht : t < g_n M) (hy : y < 0 ∨ nI 85 ≤ y) : AM r_escalate (d + 1) (.inl (some (.int (nI 0)))) [.ref 0, .int (nI t), .int y] (wM M) (wM (m_cd M 1)) := by
  refine aq_enter pl_r_escalate (Nat.le_of_ble_eq_true rfl) ?_
  have ht6 : t < 60 := Nat.lt_of_lt_of_le ht hM.1
  refine aq_gn (n := 3) (c1 := (3, [some (.ref 0), some (.int (nI t)), some (.int y), none, none, none, none], [.int (nI t), .ref 0, .ref 0], wM M)) ok_r_escalate rfl ?_
  refine aq_callV (as := [.int (nI t)]) (st := [.ref 0]) ok_r_escalate rfl c1_r_isTransaction (rm_isTransactionM (nI t)) rfl (Nat.le_of_ble_eq_true rfl) rfl rfl rfl ?_
  rw [isT_in ht (show g_n M < 2 ^ 31 by have := hM.1; omega)]
  refine aq_if_eq ok_r_escalate rfl (fun h => ?_) (fun h => ?_)
  · exact absurd h bI_t
  · refine aq_gn (n := 1) (c1 := (10, [some (.ref 0), some (.int (nI t)), some (.int y), none, none, none, none], [.int y, .ref 0], wM M)) ok_r_escalate rfl ?_
    refine aq_callS (as := [.int y]) (st := [.ref 0]) ok_r_escalate rfl c1_r_isObject (rm_isObject y) rfl (Nat.le_of_ble_eq_true rfl) ?_
    rw [isT_out hy]
    refine aq_if_ne ok_r_escalate rfl (fun h1 => ?_) (fun h1 => ?_)
    · exact absurd rfl h1
    · show AW r_escalate _ _ _ (16, [some (.ref 0), some (.int (nI t)), some (.int y), none, none, none, none], [.ref 0], mL (g_cd M) (g_n M) (g_pr M) (g_st M) (g_he M) (g_wt M) (g_wn M) (g_cv M) (g_qs M) (g_qu M) (g_v5 M) (g_v6 M) (g_v7 M))
      refine aq_go (n := 5) (c1 := (50, [some (.ref 0), some (.int (nI t)), some (.int y), none, none, none, none], [.int (nI 1)], mR (nI 1) (nI (g_n M)) (fun ι => nI ((g_pr M) ι)) (fun ι => nI ((g_st M) ι)) (fun ι => oI ((g_he M) ι)) (fun ι => oI ((g_wt M) ι)) (fun ι => nI ((g_wn M) ι)) (fun ι => bI ((g_cv M) ι)) (fun ι => nI ((g_qs M) ι)) (fun ι => nI ((g_qu M) ι)) (nI (g_v5 M)) (nI (g_v6 M)) (nI (g_v7 M)))) (P := aq_fi 1 0 = true) ok_r_escalate rfl fi1_0 ?_
      show AW r_escalate _ _ _ (50, [some (.ref 0), some (.int (nI t)), some (.int y), none, none, none, none], [.int (nI 1)], wM (m_cd M 1))
      refine aq_if_le ok_r_escalate rfl (fun hz => ?_) (fun hz => ?_)
      · exact absurd hz c_le1
      · refine aq_gn (n := 1) (c1 := (54, [some (.ref 0), some (.int (nI t)), some (.int y), none, none, none, none], [.int (nI 0)], wM (m_cd M 1))) ok_r_escalate rfl ?_
        exact aq_ei ok_r_escalate rfl rfl rfl rfl
set_option maxHeartbeats 4000000 in
theorem rm_escalate_a {d : Nat} {M : MSt} {t o : Nat} (hM : WM M) (ht : t < g_n M) (ho : o < 85) (hs : ¬ g_st M t = 0) : AM r_escalate (d + 1) (.inl (some (.int (nI 0)))) [.ref 0, .int (nI t), .int (nI o)] (wM M) (wM (m_cd M 2)) := by
  refine aq_enter pl_r_escalate (Nat.le_of_ble_eq_true rfl) ?_
  have ht6 : t < 60 := Nat.lt_of_lt_of_le ht hM.1
  refine aq_gn (n := 3) (c1 := (3, [some (.ref 0), some (.int (nI t)), some (.int (nI o)), none, none, none, none], [.int (nI t), .ref 0, .ref 0], wM M)) ok_r_escalate rfl ?_
  refine aq_callV (as := [.int (nI t)]) (st := [.ref 0]) ok_r_escalate rfl c1_r_isTransaction (rm_isTransactionM (nI t)) rfl (Nat.le_of_ble_eq_true rfl) rfl rfl rfl ?_
  rw [isT_in ht (show g_n M < 2 ^ 31 by have := hM.1; omega)]
  refine aq_if_eq ok_r_escalate rfl (fun h => ?_) (fun h => ?_)
  · exact absurd h bI_t
  · refine aq_gn (n := 1) (c1 := (10, [some (.ref 0), some (.int (nI t)), some (.int (nI o)), none, none, none, none], [.int (nI o), .ref 0], wM M)) ok_r_escalate rfl ?_
    refine aq_callS (as := [.int (nI o)]) (st := [.ref 0]) ok_r_escalate rfl c1_r_isObject (rm_isObject (nI o)) rfl (Nat.le_of_ble_eq_true rfl) ?_
    rw [isT_in ho (by omega)]
    refine aq_if_ne ok_r_escalate rfl (fun h1 => ?_) (fun h1 => ?_)
    · show AW r_escalate _ _ _ (20, [some (.ref 0), some (.int (nI t)), some (.int (nI o)), none, none, none, none], [.ref 0], mL (g_cd M) (g_n M) (g_pr M) (g_st M) (g_he M) (g_wt M) (g_wn M) (g_cv M) (g_qs M) (g_qu M) (g_v5 M) (g_v6 M) (g_v7 M))
      refine aq_go (n := 4) (c1 := (26, [some (.ref 0), some (.int (nI t)), some (.int (nI o)), none, none, none, none], [.int (nI ((g_st M) (nI t).toNatClampNeg)), .ref 0], mL (g_cd M) (g_n M) (g_pr M) (g_st M) (g_he M) (g_wt M) (g_wn M) (g_cv M) (g_qs M) (g_qu M) (g_v5 M) (g_v6 M) (g_v7 M))) (P := vp_in (nI t) 60) ok_r_escalate rfl (in60 ht6) ?_
      rw [cl60 ht6]
      refine aq_if_ne ok_r_escalate rfl (fun h3 => ?_) (fun h3 => ?_)
      · refine aq_go (n := 5) (c1 := (50, [some (.ref 0), some (.int (nI t)), some (.int (nI o)), none, none, none, none], [.int (nI 2)], mR (nI 2) (nI (g_n M)) (fun ι => nI ((g_pr M) ι)) (fun ι => nI ((g_st M) ι)) (fun ι => oI ((g_he M) ι)) (fun ι => oI ((g_wt M) ι)) (fun ι => nI ((g_wn M) ι)) (fun ι => bI ((g_cv M) ι)) (fun ι => nI ((g_qs M) ι)) (fun ι => nI ((g_qu M) ι)) (nI (g_v5 M)) (nI (g_v6 M)) (nI (g_v7 M)))) (P := aq_fi 1 0 = true) ok_r_escalate rfl fi1_0 ?_
        show AW r_escalate _ _ _ (50, [some (.ref 0), some (.int (nI t)), some (.int (nI o)), none, none, none, none], [.int (nI 2)], wM (m_cd M 2))
        refine aq_if_le ok_r_escalate rfl (fun hz => ?_) (fun hz => ?_)
        · exact absurd hz c_le2
        · refine aq_gn (n := 1) (c1 := (54, [some (.ref 0), some (.int (nI t)), some (.int (nI o)), none, none, none, none], [.int (nI 0)], wM (m_cd M 2))) ok_r_escalate rfl ?_
          exact aq_ei ok_r_escalate rfl rfl rfl rfl
      · exact absurd (q_eq (b := 0) h3 (by have := hM.2.2.2.2.1 t; omega) (by omega)) hs
    · exact absurd h1 bI_t
set_option maxHeartbeats 4000000 in
theorem rm_escalate_h {d : Nat} {M : MSt} {t o : Nat} (hM : WM M) (ht : t < g_n M) (ho : o < 85) (hs : g_st M t = 0) (hh : ¬ 0 ≤ mdI (g_he M) t o) : AM r_escalate (d + 1) (.inl (some (.int (nI 0)))) [.ref 0, .int (nI t), .int (nI o)] (wM M) (wM (m_cd M 2)) := by
  refine aq_enter pl_r_escalate (Nat.le_of_ble_eq_true rfl) ?_
  have ht6 : t < 60 := Nat.lt_of_lt_of_le ht hM.1
  refine aq_gn (n := 3) (c1 := (3, [some (.ref 0), some (.int (nI t)), some (.int (nI o)), none, none, none, none], [.int (nI t), .ref 0, .ref 0], wM M)) ok_r_escalate rfl ?_
  refine aq_callV (as := [.int (nI t)]) (st := [.ref 0]) ok_r_escalate rfl c1_r_isTransaction (rm_isTransactionM (nI t)) rfl (Nat.le_of_ble_eq_true rfl) rfl rfl rfl ?_
  rw [isT_in ht (show g_n M < 2 ^ 31 by have := hM.1; omega)]
  refine aq_if_eq ok_r_escalate rfl (fun h => ?_) (fun h => ?_)
  · exact absurd h bI_t
  · refine aq_gn (n := 1) (c1 := (10, [some (.ref 0), some (.int (nI t)), some (.int (nI o)), none, none, none, none], [.int (nI o), .ref 0], wM M)) ok_r_escalate rfl ?_
    refine aq_callS (as := [.int (nI o)]) (st := [.ref 0]) ok_r_escalate rfl c1_r_isObject (rm_isObject (nI o)) rfl (Nat.le_of_ble_eq_true rfl) ?_
    rw [isT_in ho (by omega)]
    refine aq_if_ne ok_r_escalate rfl (fun h1 => ?_) (fun h1 => ?_)
    · show AW r_escalate _ _ _ (20, [some (.ref 0), some (.int (nI t)), some (.int (nI o)), none, none, none, none], [.ref 0], mL (g_cd M) (g_n M) (g_pr M) (g_st M) (g_he M) (g_wt M) (g_wn M) (g_cv M) (g_qs M) (g_qu M) (g_v5 M) (g_v6 M) (g_v7 M))
      refine aq_go (n := 4) (c1 := (26, [some (.ref 0), some (.int (nI t)), some (.int (nI o)), none, none, none, none], [.int (nI ((g_st M) (nI t).toNatClampNeg)), .ref 0], mL (g_cd M) (g_n M) (g_pr M) (g_st M) (g_he M) (g_wt M) (g_wn M) (g_cv M) (g_qs M) (g_qu M) (g_v5 M) (g_v6 M) (g_v7 M))) (P := vp_in (nI t) 60) ok_r_escalate rfl (in60 ht6) ?_
      rw [cl60 ht6]
      refine aq_if_ne ok_r_escalate rfl (fun h3 => ?_) (fun h3 => ?_)
      · exact absurd (by rw [hs]; rfl) h3
      · show AW r_escalate _ _ _ (29, [some (.ref 0), some (.int (nI t)), some (.int (nI o)), none, none, none, none], [.ref 0], wM M)
        refine aq_gn (n := 3) (c1 := (32, [some (.ref 0), some (.int (nI t)), some (.int (nI o)), none, none, none, none], [.int (nI o), .int (nI t), .ref 0, .ref 0], wM M)) ok_r_escalate rfl ?_
        refine aq_callV (as := [.int (nI t), .int (nI o)]) (st := [.ref 0]) ok_r_escalate rfl c1_r_modeOf (rm_modeOfM ht6 ho) rfl (Nat.le_of_ble_eq_true rfl) rfl rfl rfl ?_
        show AW r_escalate _ _ _ (35, [some (.ref 0), some (.int (nI t)), some (.int (nI o)), none, none, none, none], [.int (mdI (g_he M) t o), .ref 0], mL (g_cd M) (g_n M) (g_pr M) (g_st M) (g_he M) (g_wt M) (g_wn M) (g_cv M) (g_qs M) (g_qu M) (g_v5 M) (g_v6 M) (g_v7 M))
        refine aq_if_ge ok_r_escalate rfl (fun h4 => ?_) (fun h4 => ?_)
        · exact absurd h4 hh
        · refine aq_go (n := 5) (c1 := (50, [some (.ref 0), some (.int (nI t)), some (.int (nI o)), none, none, none, none], [.int (nI 2)], mR (nI 2) (nI (g_n M)) (fun ι => nI ((g_pr M) ι)) (fun ι => nI ((g_st M) ι)) (fun ι => oI ((g_he M) ι)) (fun ι => oI ((g_wt M) ι)) (fun ι => nI ((g_wn M) ι)) (fun ι => bI ((g_cv M) ι)) (fun ι => nI ((g_qs M) ι)) (fun ι => nI ((g_qu M) ι)) (nI (g_v5 M)) (nI (g_v6 M)) (nI (g_v7 M)))) (P := aq_fi 1 0 = true) ok_r_escalate rfl fi1_0 ?_
          show AW r_escalate _ _ _ (50, [some (.ref 0), some (.int (nI t)), some (.int (nI o)), none, none, none, none], [.int (nI 2)], wM (m_cd M 2))
          refine aq_if_le ok_r_escalate rfl (fun hz => ?_) (fun hz => ?_)
          · exact absurd hz c_le2
          · refine aq_gn (n := 1) (c1 := (54, [some (.ref 0), some (.int (nI t)), some (.int (nI o)), none, none, none, none], [.int (nI 0)], wM (m_cd M 2))) ok_r_escalate rfl ?_
            exact aq_ei ok_r_escalate rfl rfl rfl rfl
    · exact absurd h1 bI_t
set_option maxHeartbeats 4000000 in
theorem rm_escalate {d : Nat} {M : MSt} {t o : Nat} (hM : WM M) (hN : WN M) (ht : t < g_n M) (ho : o < 85) (hs : g_st M t = 0) (hh : 0 ≤ mdI (g_he M) t o) : AM r_escalate (d + 3) (.inl (some (.int ((mesc (m_cd M 0) t o).2)))) [.ref 0, .int (nI t), .int (nI o)] (wM M) (wM (mesc (m_cd M 0) t o).1) := by
  refine aq_enter pl_r_escalate (Nat.le_of_ble_eq_true rfl) ?_
  have ht6 : t < 60 := Nat.lt_of_lt_of_le ht hM.1
  refine aq_gn (n := 3) (c1 := (3, [some (.ref 0), some (.int (nI t)), some (.int (nI o)), none, none, none, none], [.int (nI t), .ref 0, .ref 0], wM M)) ok_r_escalate rfl ?_
  refine aq_callV (as := [.int (nI t)]) (st := [.ref 0]) ok_r_escalate rfl c1_r_isTransaction (rm_isTransactionM (nI t)) rfl (Nat.le_of_ble_eq_true rfl) rfl rfl rfl ?_
  rw [isT_in ht (show g_n M < 2 ^ 31 by have := hM.1; omega)]
  refine aq_if_eq ok_r_escalate rfl (fun h => ?_) (fun h => ?_)
  · exact absurd h bI_t
  · refine aq_gn (n := 1) (c1 := (10, [some (.ref 0), some (.int (nI t)), some (.int (nI o)), none, none, none, none], [.int (nI o), .ref 0], wM M)) ok_r_escalate rfl ?_
    refine aq_callS (as := [.int (nI o)]) (st := [.ref 0]) ok_r_escalate rfl c1_r_isObject (rm_isObject (nI o)) rfl (Nat.le_of_ble_eq_true rfl) ?_
    rw [isT_in ho (by omega)]
    refine aq_if_ne ok_r_escalate rfl (fun h1 => ?_) (fun h1 => ?_)
    · show AW r_escalate _ _ _ (20, [some (.ref 0), some (.int (nI t)), some (.int (nI o)), none, none, none, none], [.ref 0], mL (g_cd M) (g_n M) (g_pr M) (g_st M) (g_he M) (g_wt M) (g_wn M) (g_cv M) (g_qs M) (g_qu M) (g_v5 M) (g_v6 M) (g_v7 M))
      refine aq_go (n := 4) (c1 := (26, [some (.ref 0), some (.int (nI t)), some (.int (nI o)), none, none, none, none], [.int (nI ((g_st M) (nI t).toNatClampNeg)), .ref 0], mL (g_cd M) (g_n M) (g_pr M) (g_st M) (g_he M) (g_wt M) (g_wn M) (g_cv M) (g_qs M) (g_qu M) (g_v5 M) (g_v6 M) (g_v7 M))) (P := vp_in (nI t) 60) ok_r_escalate rfl (in60 ht6) ?_
      rw [cl60 ht6]
      refine aq_if_ne ok_r_escalate rfl (fun h3 => ?_) (fun h3 => ?_)
      · exact absurd (by rw [hs]; rfl) h3
      · show AW r_escalate _ _ _ (29, [some (.ref 0), some (.int (nI t)), some (.int (nI o)), none, none, none, none], [.ref 0], wM M)
        refine aq_gn (n := 3) (c1 := (32, [some (.ref 0), some (.int (nI t)), some (.int (nI o)), none, none, none, none], [.int (nI o), .int (nI t), .ref 0, .ref 0], wM M)) ok_r_escalate rfl ?_
        refine aq_callV (as := [.int (nI t), .int (nI o)]) (st := [.ref 0]) ok_r_escalate rfl c1_r_modeOf (rm_modeOfM ht6 ho) rfl (Nat.le_of_ble_eq_true rfl) rfl rfl rfl ?_
        show AW r_escalate _ _ _ (35, [some (.ref 0), some (.int (nI t)), some (.int (nI o)), none, none, none, none], [.int (mdI (g_he M) t o), .ref 0], mL (g_cd M) (g_n M) (g_pr M) (g_st M) (g_he M) (g_wt M) (g_wn M) (g_cv M) (g_qs M) (g_qu M) (g_v5 M) (g_v6 M) (g_v7 M))
        refine aq_if_ge ok_r_escalate rfl (fun h4 => ?_) (fun h4 => ?_)
        · refine aq_go (n := 4) (c1 := (50, [some (.ref 0), some (.int (nI t)), some (.int (nI o)), none, none, none, none], [.int (nI 0)], mR (nI 0) (nI (g_n M)) (fun ι => nI ((g_pr M) ι)) (fun ι => nI ((g_st M) ι)) (fun ι => oI ((g_he M) ι)) (fun ι => oI ((g_wt M) ι)) (fun ι => nI ((g_wn M) ι)) (fun ι => bI ((g_cv M) ι)) (fun ι => nI ((g_qs M) ι)) (fun ι => nI ((g_qu M) ι)) (nI (g_v5 M)) (nI (g_v6 M)) (nI (g_v7 M)))) (P := aq_fi 1 0 = true) ok_r_escalate rfl fi1_0 ?_
          show AW r_escalate _ _ _ (50, [some (.ref 0), some (.int (nI t)), some (.int (nI o)), none, none, none, none], [.int (nI 0)], wM (m_cd M 0))
          refine aq_if_le ok_r_escalate rfl (fun hz => ?_) (fun hz => ?_)
          · refine aq_gn (n := 8) (c1 := (65, [some (.ref 0), some (.int (nI t)), some (.int (nI o)), some (.int (nI 0)), some (.int (nI 0)), some (.int ((nI o) + (nI 1))), none], [], wM (m_cd M 0))) ok_r_escalate rfl ?_
            rw [nI_add]
            refine lp_x1 (d := d + 2) (M := m_cd M 0) ht6 ho (84 - o) (o + 1) (by omega) false 0 ?_
            have hne := hN (60 * o + t)
            have hq := mdI_v hne
            show AW r_escalate _ _ _ (147, [some (.ref 0), some (.int (nI t)), some (.int (nI o)), some (.int (bI (xwF (g_he M) t o (84 - o) (o + 1) false 0).1)), some (.int (nI (xwF (g_he M) t o (84 - o) (o + 1) false 0).2)), none, none], [], wM (m_cd M 0))
            refine aq_gn (n := 3) (c1 := (150, [some (.ref 0), some (.int (nI t)), some (.int (nI o)), some (.int (bI (xwF (g_he M) t o (84 - o) (o + 1) false 0).1)), some (.int (nI (xwF (g_he M) t o (84 - o) (o + 1) false 0).2)), none, none], [.int (nI o), .int (nI t), .ref 0], wM (m_cd M 0))) ok_r_escalate rfl ?_
            refine aq_callV (as := [.int (nI t), .int (nI o)]) (st := []) ok_r_escalate rfl c1_r_modeOf (rm_modeOfM (M := m_cd M 0) ht6 ho) rfl (Nat.le_of_ble_eq_true rfl) rfl rfl rfl ?_
            refine aq_gn (n := 1) (c1 := (154, [some (.ref 0), some (.int (nI t)), some (.int (nI o)), some (.int (bI (xwF (g_he M) t o (84 - o) (o + 1) false 0).1)), some (.int (nI (xwF (g_he M) t o (84 - o) (o + 1) false 0).2)), none, none], [.int (bI (xwF (g_he M) t o (84 - o) (o + 1) false 0).1), .int (mdI (g_he M) t o)], wM (m_cd M 0))) ok_r_escalate rfl ?_
            refine aq_if_eq ok_r_escalate rfl (fun h6 => ?_) (fun h6 => ?_)
            · have hw := (bI_0 _).mp h6
              refine aq_gn (n := 1) (c1 := (162, [some (.ref 0), some (.int (nI t)), some (.int (nI o)), some (.int (bI (xwF (g_he M) t o (84 - o) (o + 1) false 0).1)), some (.int (nI (xwF (g_he M) t o (84 - o) (o + 1) false 0).2)), none, none], [.int (nI 2), .int (mdI (g_he M) t o)], wM (m_cd M 0))) ok_r_escalate rfl ?_
              have hx4 : lub (hv (g_he M (60 * o + t))) 2 = xww M t o := by rw [xww, hw]; rfl
              refine aq_callS (as := [.int (mdI (g_he M) t o), .int (nI 2)]) (st := []) ok_r_escalate rfl c1_r_leastAbove (rm_leastAbove (mdI (g_he M) t o) (nI 2)) rfl (Nat.le_of_ble_eq_true rfl) ?_
              have hr : rlI (mdI (g_he M) t o) (nI 2) = nI (xww M t o) := by
                rw [← hx4, hq]
                cases hc : hv (g_he M (60 * o + t)) with
                | none => rw [hq, hc] at hh; exact absurd hh (by decide)
                | some a => exact rlI_lub a (hv_lt (hM.2.2.2.2.2.2.2 _) a hc) 2 (by omega)
              have hX5 := xww_lt hM t o
              rw [hr]
              refine aq_gn (n := 5) (c1 := (172, [some (.ref 0), some (.int (nI t)), some (.int (nI o)), some (.int (bI (xwF (g_he M) t o (84 - o) (o + 1) false 0).1)), some (.int (nI (xwF (g_he M) t o (84 - o) (o + 1) false 0).2)), some (.int (nI (xww M t o))), none], [.int (nI (xww M t o)), .int (nI o), .int (nI t), .ref 0], wM (m_cd M 0))) ok_r_escalate rfl ?_
              refine aq_callV (as := [.int (nI t), .int (nI o), .int (nI (xww M t o))]) (st := []) ok_r_escalate rfl c1_r_fits (rm_fitsM (M := m_cd M 0) hM ht6 ho) rfl (Nat.le_of_ble_eq_true rfl) rfl rfl rfl ?_
              refine aq_if_ne ok_r_escalate rfl (fun h7 => ?_) (fun h7 => ?_)
              · have hf : ftF (g_he M) t o (nI (xww M t o)) (g_n M) 0 true = true := by cases hy : ftF (g_he M) t o (nI (xww M t o)) (g_n M) 0 true with | true => rfl | false => exact absurd ((bI_0 _).mpr hy) h7
                have e : mesc (m_cd M 0) t o = (xfin (xsF t (84 - o) (o + 1) (x_M (m_cd M 0) t o (xww M t o))) o, nI (xwF (g_he M) t o (84 - o) (o + 1) false 0).2) := by unfold mesc; exact if_pos hf
                rw [e]
                show AW r_escalate _ _ _ (180, [some (.ref 0), some (.int (nI t)), some (.int (nI o)), some (.int (bI (xwF (g_he M) t o (84 - o) (o + 1) false 0).1)), some (.int (nI (xwF (g_he M) t o (84 - o) (o + 1) false 0).2)), some (.int (nI (xww M t o))), none], [], mL (g_cd (m_cd M 0)) (g_n (m_cd M 0)) (g_pr (m_cd M 0)) (g_st (m_cd M 0)) (g_he (m_cd M 0)) (g_wt (m_cd M 0)) (g_wn (m_cd M 0)) (g_cv (m_cd M 0)) (g_qs (m_cd M 0)) (g_qu (m_cd M 0)) (g_v5 (m_cd M 0)) (g_v6 (m_cd M 0)) (g_v7 (m_cd M 0)))
                refine aq_go (n := 15) (c1 := (200, [some (.ref 0), some (.int (nI t)), some (.int (nI o)), some (.int (bI (xwF (g_he M) t o (84 - o) (o + 1) false 0).1)), some (.int (nI (xwF (g_he M) t o (84 - o) (o + 1) false 0).2)), some (.int (nI (xww M t o))), some (.int ((nI o) + (nI 1)))], [], mR (nI (g_cd (m_cd M 0))) (nI (g_n (m_cd M 0))) (fun ι => nI ((g_pr (m_cd M 0)) ι)) (fun ι => nI ((g_st (m_cd M 0)) ι)) (upd (fun ι => oI ((g_he (m_cd M 0)) ι)) (((nI 60) * (nI o)) + (nI t)).toNatClampNeg ((nI (xww M t o)) + (nI 1))) (fun ι => oI ((g_wt (m_cd M 0)) ι)) (fun ι => nI ((g_wn (m_cd M 0)) ι)) (fun ι => bI ((g_cv (m_cd M 0)) ι)) (fun ι => nI ((g_qs (m_cd M 0)) ι)) (fun ι => nI ((g_qu (m_cd M 0)) ι)) (nI (g_v5 (m_cd M 0))) (nI (g_v6 (m_cd M 0))) (nI (g_v7 (m_cd M 0))))) (P := vp_in (((nI 60) * (nI o)) + (nI t)) 5100) ok_r_escalate rfl (in6 ho ht6) ?_
                rw [cl6 ho ht6, show (nI (xww M t o)) + (nI 1) = nI (xww M t o + 1) from nI_add _ _, upd_o, nI_add]
                refine lp_x2 (d := d + 2) (M := m_cd M 0) ht6 ho (84 - o) (o + 1) (by omega) _ ?_
                obtain ⟨Q, hQ⟩ : ∃ Q, Q = x_M (m_cd M 0) t o (xww M t o) := ⟨_, rfl⟩
                have hWQ : WM Q := by rw [hQ]; exact WM_xM hM t o hX5
                show AW r_escalate _ _ _ (245, [some (.ref 0), some (.int (nI t)), some (.int (nI o)), some (.int (bI (xwF (g_he M) t o (84 - o) (o + 1) false 0).1)), some (.int (nI (xwF (g_he M) t o (84 - o) (o + 1) false 0).2)), some (.int (nI (xww M t o))), none], [], wM (x_M (m_cd M 0) t o (xww M t o)))
                rw [← hQ]
                refine aq_gn (n := 4) (c1 := (250, [some (.ref 0), some (.int (nI t)), some (.int (nI o)), some (.int (bI (xwF (g_he M) t o (84 - o) (o + 1) false 0).1)), some (.int (nI (xwF (g_he M) t o (84 - o) (o + 1) false 0).2)), some (.int (nI (xww M t o))), some (.int ((nI o) + (nI 1)))], [], wM Q)) ok_r_escalate rfl ?_
                rw [nI_add]
                exact lp_x3 ht6 ho (84 - o) (o + 1) (by omega) Q hWQ
              · have hf := (bI_0 _).mp h7
                have e : mesc (m_cd M 0) t o = (m_cd M 0, -1) := by unfold mesc; exact if_neg (by rw [show ftF (g_he (m_cd M 0)) t o (nI (xww (m_cd M 0) t o)) (g_n (m_cd M 0)) 0 true = false from hf]; exact fun q => by cases q)
                rw [e]
                refine aq_gn (n := 1) (c1 := (179, [some (.ref 0), some (.int (nI t)), some (.int (nI o)), some (.int (bI (xwF (g_he M) t o (84 - o) (o + 1) false 0).1)), some (.int (nI (xwF (g_he M) t o (84 - o) (o + 1) false 0).2)), some (.int (nI (xww M t o))), none], [.int (-1)], wM (m_cd M 0))) ok_r_escalate rfl ?_
                exact aq_ei ok_r_escalate rfl rfl rfl rfl
            · have hw : (xwF (g_he M) t o (84 - o) (o + 1) false 0).1 = true := by cases hy : (xwF (g_he M) t o (84 - o) (o + 1) false 0).1 with | true => rfl | false => exact absurd ((bI_0 _).mpr hy) h6
              refine aq_gn (n := 2) (c1 := (162, [some (.ref 0), some (.int (nI t)), some (.int (nI o)), some (.int (bI (xwF (g_he M) t o (84 - o) (o + 1) false 0).1)), some (.int (nI (xwF (g_he M) t o (84 - o) (o + 1) false 0).2)), none, none], [.int (nI 4), .int (mdI (g_he M) t o)], wM (m_cd M 0))) ok_r_escalate rfl ?_
              have hx4 : lub (hv (g_he M (60 * o + t))) 4 = xww M t o := by rw [xww, hw]; rfl
              refine aq_callS (as := [.int (mdI (g_he M) t o), .int (nI 4)]) (st := []) ok_r_escalate rfl c1_r_leastAbove (rm_leastAbove (mdI (g_he M) t o) (nI 4)) rfl (Nat.le_of_ble_eq_true rfl) ?_
              have hr : rlI (mdI (g_he M) t o) (nI 4) = nI (xww M t o) := by
                rw [← hx4, hq]
                cases hc : hv (g_he M (60 * o + t)) with
                | none => rw [hq, hc] at hh; exact absurd hh (by decide)
                | some a => exact rlI_lub a (hv_lt (hM.2.2.2.2.2.2.2 _) a hc) 4 (by omega)
              have hX5 := xww_lt hM t o
              rw [hr]
              refine aq_gn (n := 5) (c1 := (172, [some (.ref 0), some (.int (nI t)), some (.int (nI o)), some (.int (bI (xwF (g_he M) t o (84 - o) (o + 1) false 0).1)), some (.int (nI (xwF (g_he M) t o (84 - o) (o + 1) false 0).2)), some (.int (nI (xww M t o))), none], [.int (nI (xww M t o)), .int (nI o), .int (nI t), .ref 0], wM (m_cd M 0))) ok_r_escalate rfl ?_
              refine aq_callV (as := [.int (nI t), .int (nI o), .int (nI (xww M t o))]) (st := []) ok_r_escalate rfl c1_r_fits (rm_fitsM (M := m_cd M 0) hM ht6 ho) rfl (Nat.le_of_ble_eq_true rfl) rfl rfl rfl ?_
              refine aq_if_ne ok_r_escalate rfl (fun h7 => ?_) (fun h7 => ?_)
              · have hf : ftF (g_he M) t o (nI (xww M t o)) (g_n M) 0 true = true := by cases hy : ftF (g_he M) t o (nI (xww M t o)) (g_n M) 0 true with | true => rfl | false => exact absurd ((bI_0 _).mpr hy) h7
                have e : mesc (m_cd M 0) t o = (xfin (xsF t (84 - o) (o + 1) (x_M (m_cd M 0) t o (xww M t o))) o, nI (xwF (g_he M) t o (84 - o) (o + 1) false 0).2) := by unfold mesc; exact if_pos hf
                rw [e]
                show AW r_escalate _ _ _ (180, [some (.ref 0), some (.int (nI t)), some (.int (nI o)), some (.int (bI (xwF (g_he M) t o (84 - o) (o + 1) false 0).1)), some (.int (nI (xwF (g_he M) t o (84 - o) (o + 1) false 0).2)), some (.int (nI (xww M t o))), none], [], mL (g_cd (m_cd M 0)) (g_n (m_cd M 0)) (g_pr (m_cd M 0)) (g_st (m_cd M 0)) (g_he (m_cd M 0)) (g_wt (m_cd M 0)) (g_wn (m_cd M 0)) (g_cv (m_cd M 0)) (g_qs (m_cd M 0)) (g_qu (m_cd M 0)) (g_v5 (m_cd M 0)) (g_v6 (m_cd M 0)) (g_v7 (m_cd M 0)))
                refine aq_go (n := 15) (c1 := (200, [some (.ref 0), some (.int (nI t)), some (.int (nI o)), some (.int (bI (xwF (g_he M) t o (84 - o) (o + 1) false 0).1)), some (.int (nI (xwF (g_he M) t o (84 - o) (o + 1) false 0).2)), some (.int (nI (xww M t o))), some (.int ((nI o) + (nI 1)))], [], mR (nI (g_cd (m_cd M 0))) (nI (g_n (m_cd M 0))) (fun ι => nI ((g_pr (m_cd M 0)) ι)) (fun ι => nI ((g_st (m_cd M 0)) ι)) (upd (fun ι => oI ((g_he (m_cd M 0)) ι)) (((nI 60) * (nI o)) + (nI t)).toNatClampNeg ((nI (xww M t o)) + (nI 1))) (fun ι => oI ((g_wt (m_cd M 0)) ι)) (fun ι => nI ((g_wn (m_cd M 0)) ι)) (fun ι => bI ((g_cv (m_cd M 0)) ι)) (fun ι => nI ((g_qs (m_cd M 0)) ι)) (fun ι => nI ((g_qu (m_cd M 0)) ι)) (nI (g_v5 (m_cd M 0))) (nI (g_v6 (m_cd M 0))) (nI (g_v7 (m_cd M 0))))) (P := vp_in (((nI 60) * (nI o)) + (nI t)) 5100) ok_r_escalate rfl (in6 ho ht6) ?_
                rw [cl6 ho ht6, show (nI (xww M t o)) + (nI 1) = nI (xww M t o + 1) from nI_add _ _, upd_o, nI_add]
                refine lp_x2 (d := d + 2) (M := m_cd M 0) ht6 ho (84 - o) (o + 1) (by omega) _ ?_
                obtain ⟨Q, hQ⟩ : ∃ Q, Q = x_M (m_cd M 0) t o (xww M t o) := ⟨_, rfl⟩
                have hWQ : WM Q := by rw [hQ]; exact WM_xM hM t o hX5
                show AW r_escalate _ _ _ (245, [some (.ref 0), some (.int (nI t)), some (.int (nI o)), some (.int (bI (xwF (g_he M) t o (84 - o) (o + 1) false 0).1)), some (.int (nI (xwF (g_he M) t o (84 - o) (o + 1) false 0).2)), some (.int (nI (xww M t o))), none], [], wM (x_M (m_cd M 0) t o (xww M t o)))
                rw [← hQ]
                refine aq_gn (n := 4) (c1 := (250, [some (.ref 0), some (.int (nI t)), some (.int (nI o)), some (.int (bI (xwF (g_he M) t o (84 - o) (o + 1) false 0).1)), some (.int (nI (xwF (g_he M) t o (84 - o) (o + 1) false 0).2)), some (.int (nI (xww M t o))), some (.int ((nI o) + (nI 1)))], [], wM Q)) ok_r_escalate rfl ?_
                rw [nI_add]
                exact lp_x3 ht6 ho (84 - o) (o + 1) (by omega) Q hWQ
              · have hf := (bI_0 _).mp h7
                have e : mesc (m_cd M 0) t o = (m_cd M 0, -1) := by unfold mesc; exact if_neg (by rw [show ftF (g_he (m_cd M 0)) t o (nI (xww (m_cd M 0) t o)) (g_n (m_cd M 0)) 0 true = false from hf]; exact fun q => by cases q)
                rw [e]
                refine aq_gn (n := 1) (c1 := (179, [some (.ref 0), some (.int (nI t)), some (.int (nI o)), some (.int (bI (xwF (g_he M) t o (84 - o) (o + 1) false 0).1)), some (.int (nI (xwF (g_he M) t o (84 - o) (o + 1) false 0).2)), some (.int (nI (xww M t o))), none], [.int (-1)], wM (m_cd M 0))) ok_r_escalate rfl ?_
                exact aq_ei ok_r_escalate rfl rfl rfl rfl
          · exact absurd c_le0 hz
        · exact absurd hh h4
    · exact absurd h1 bI_t
end
