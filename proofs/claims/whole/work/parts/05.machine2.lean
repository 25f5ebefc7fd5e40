/-! THE MACHINE OF POSITIONS, 2: a method as a table, the steps that a program can do alone -/
/-- every word of the tables that holds in warmer tables too -/
def aq_TB : List Cond := lw_tbl.filter goodWord
theorem aq_TB_good : ∀ w ∈ aq_TB, (w.onTables && w.keeps) = true ∨ ∃ ty, w = .arrayClass ty := fun w h => good_of_word (List.mem_filter.mp h).2
theorem aq_good {ws : List Cond} (h : ∀ w ∈ ws, w ∈ aq_TB) : GoodIn aq_TB ws := fun w hw => ⟨h w hw, aq_TB_good w (h w hw)⟩
/-- words that a throw needs, that hold in warmer tables for another reason -/
def aq_cd (w : Cond) : Bool := match w with
  | .castable _ _ => true
  | .declares _ => true
  | _ => false
def aq_ext : List Cond := lw_tbl.filter aq_cd
/-- pc, instruction, its length, the next pc, its constant, its target -/
abbrev aq_J : Type := Instr × Nat × Nat × Int32 × Nat
abbrev aq_I : Type := Nat × aq_J
def aq_at : List aq_I → Nat → Option aq_J
  | [], _ => none
  | q :: r, pc => match Nat.beq q.1 pc with
    | true => some q.2
    | false => aq_at r pc
theorem aq_at_in : ∀ {t : List aq_I} {pc : Nat} {j : aq_J}, aq_at t pc = some j → (pc, j) ∈ t := by
  intro t
  induction t with
  | nil => intro pc j h; cases h
  | cons q r ih =>
    intro pc j h
    unfold aq_at at h
    split at h
    · rename_i hb
      have e := Nat.eq_of_beq_eq_true hb
      obtain ⟨a, b⟩ := q
      simp only [Option.some.injEq] at h
      subst h
      simp only at e
      subst e
      exact List.mem_cons_self
    · exact List.mem_cons_of_mem _ (ih h)
def aq_fd : List (Nat × Nat × Nat) → Nat → Option (Nat × Nat)
  | [], _ => none
  | q :: r, i => match Nat.beq q.1 i with
    | true => some q.2
    | false => aq_fd r i
theorem aq_fd_in : ∀ {t : List (Nat × Nat × Nat)} {i : Nat} {j : Nat × Nat}, aq_fd t i = some j → (i, j) ∈ t := by
  intro t
  induction t with
  | nil => intro pc j h; cases h
  | cons q r ih =>
    intro pc j h
    unfold aq_fd at h
    split at h
    · rename_i hb
      have e := Nat.eq_of_beq_eq_true hb
      obtain ⟨a, b⟩ := q
      simp only [Option.some.injEq] at h
      subst h
      simp only at e
      subst e
      exact List.mem_cons_self
    · exact List.mem_cons_of_mem _ (ih h)
def aq_lg : List (Nat × Int64) → Nat → Option Int64
  | [], _ => none
  | q :: r, i => match Nat.beq q.1 i with
    | true => some q.2
    | false => aq_lg r i
theorem aq_lg_in : ∀ {t : List (Nat × Int64)} {i : Nat} {j : Int64}, aq_lg t i = some j → (i, j) ∈ t := by
  intro t
  induction t with
  | nil => intro pc j h; cases h
  | cons q r ih =>
    intro pc j h
    unfold aq_lg at h
    split at h
    · rename_i hb
      have e := Nat.eq_of_beq_eq_true hb
      obtain ⟨a, b⟩ := q
      simp only [Option.some.injEq] at h
      subst h
      simp only at e
      subst e
      exact List.mem_cons_self
    · exact List.mem_cons_of_mem _ (ih h)
def aq_len (i : Instr) : Nat := match i with
  | .bipush _ | .iload _ | .lload _ | .aload _ | .istore _ | .lstore _ | .astore _ => 2
  | .sipush _ | .iinc _ _ | .getfield _ | .putfield _ | .goto _ | .ifCond _ _ | .if_icmp _ _ | .invokevirtual _ | .invokestatic _ | .invokespecial _ | .ldc2_w _ | .ldc_w _ | .new _ => 3
  | _ => 1
def aq_free (i : Instr) : Bool := match i with
  | .tableswitch _ _ _ _ | .lookupswitch _ _ | .ldc _ | .newarray _ => true
  | _ => false
def aq_okC (i : Instr) (k : Int32) : Bool := match i with
  | .iconst n => decide (Int32.ofInt n = k)
  | .bipush n => decide ((Int8.ofInt n).toInt32 = k)
  | .sipush n => decide ((Int16.ofInt n).toInt32 = k)
  | .iinc _ n => decide (Int32.ofInt n = k)
  | _ => true
def aq_okT (i : Instr) (pc tg : Nat) : Bool := match i with
  | .goto o => decide ((pc : Int) + o = (tg : Int))
  | .ifCond _ o => decide ((pc : Int) + o = (tg : Int))
  | .if_icmp _ o => decide ((pc : Int) + o = (tg : Int))
  | _ => true
def aq_ok1 (b : ByteArray) (q : aq_I) : Bool := decide (decode b q.1 = .ok (q.2.1, q.2.2.1)) && ((aq_free q.2.1 || Nat.beq q.2.2.1 (aq_len q.2.1)) && (Nat.beq q.2.2.2.1 (q.1 + q.2.2.1) && (aq_okC q.2.1 q.2.2.2.2.1 && aq_okT q.2.1 q.1 q.2.2.2.2.2)))
/-- a method: name, bytes, how many locals, what it returns; its instructions; its links to fields (entry, class, field); its long constants -/
abbrev aq_M : Type := MethodName × ByteArray × Nat × Option FieldType × List aq_I × List (Nat × Nat × Nat) × List (Nat × Int64)
abbrev aq_y (mi : aq_M) : MethodName := mi.1
abbrev aq_b (mi : aq_M) : ByteArray := mi.2.1
abbrev aq_n (mi : aq_M) : Nat := mi.2.2.1
abbrev aq_r (mi : aq_M) : Option FieldType := mi.2.2.2.1
abbrev aq_t (mi : aq_M) : List aq_I := mi.2.2.2.2.1
abbrev aq_f (mi : aq_M) : List (Nat × Nat × Nat) := mi.2.2.2.2.2.1
abbrev aq_j (mi : aq_M) : List (Nat × Int64) := mi.2.2.2.2.2.2
def aq_okF (own : String) (q : Nat × Nat × Nat) : Bool := match vwCl[q.2.1]? with
  | some r => decide (q.2.2 < r.2.2) && decide (Cond.fieldLink own q.1 (r.2.1 q.2.2).1 (r.2.1 q.2.2).2.1 (r.2.1 q.2.2).2.2.1 ∈ aq_TB)
  | none => false
def aq_okW (own : String) (q : aq_I) : Bool := match q.2.1 with
  | .ldc_w i => decide (Cond.constant own i q.2.2.2.2.1 ∈ aq_TB)
  | _ => true
def aq_okM (mi : aq_M) : Bool := ((aq_t mi).all (aq_ok1 (aq_b mi)) && (aq_t mi).all (aq_okW (aq_y mi).cls)) && ((aq_f mi).all (aq_okF (aq_y mi).cls) && (aq_j mi).all (fun q => decide (Cond.constantLong (aq_y mi).cls q.1 q.2 ∈ aq_TB)))
def aq_okK (r : vw_C) : Prop := (∀ w ∈ u_ws r.1 r.2.1 r.2.2, w ∈ aq_TB) ∧ (∀ k, k < r.2.2 → (parseFieldDescriptor (r.2.1 k).2.2.1).isSome = true) ∧ (∀ a, a < r.2.2 → ∀ b, b < r.2.2 → a ≠ b → (r.2.1 a).2.1 ≠ (r.2.1 b).2.1)
theorem aq_ok_at {mi : aq_M} (h : aq_okM mi = true) {pc : Nat} {j : aq_J} (ha : aq_at (aq_t mi) pc = some j) : decode (aq_b mi) pc = .ok (j.1, j.2.1) ∧ (aq_free j.1 = true ∨ j.2.1 = aq_len j.1) ∧ j.2.2.1 = pc + j.2.1 ∧ aq_okC j.1 j.2.2.2.1 = true ∧ aq_okT j.1 pc j.2.2.2.2 = true := by
  unfold aq_okM at h
  simp only [Bool.and_eq_true] at h
  have h1 := List.all_eq_true.mp h.1.1 _ (aq_at_in ha)
  unfold aq_ok1 at h1
  simp only [Bool.and_eq_true, Bool.or_eq_true, decide_eq_true_eq] at h1
  exact ⟨h1.1, h1.2.1.imp id (fun q => Nat.eq_of_beq_eq_true q), Nat.eq_of_beq_eq_true h1.2.2.1, h1.2.2.2.1, h1.2.2.2.2⟩
theorem aq_ok_f {mi : aq_M} (h : aq_okM mi = true) {i ci k : Nat} (ha : aq_fd (aq_f mi) i = some (ci, k)) : ∃ r : vw_C, vwCl[ci]? = some r ∧ k < r.2.2 ∧ Cond.fieldLink (aq_y mi).cls i (r.2.1 k).1 (r.2.1 k).2.1 (r.2.1 k).2.2.1 ∈ aq_TB := by
  unfold aq_okM at h
  simp only [Bool.and_eq_true] at h
  have h1 := List.all_eq_true.mp h.2.1 _ (aq_fd_in ha)
  unfold aq_okF at h1
  split at h1
  · rename_i r hr
    simp only [Bool.and_eq_true, decide_eq_true_eq] at h1
    exact ⟨r, hr, h1.1, h1.2⟩
  · cases h1
theorem aq_ok_j {mi : aq_M} (h : aq_okM mi = true) {i : Nat} {v : Int64} (ha : aq_lg (aq_j mi) i = some v) : Cond.constantLong (aq_y mi).cls i v ∈ aq_TB := by
  unfold aq_okM at h
  simp only [Bool.and_eq_true] at h
  have h1 := List.all_eq_true.mp h.2.2 _ (aq_lg_in ha)
  simpa using h1
theorem aq_ok_w {mi : aq_M} (h : aq_okM mi = true) {pc i len nx tg : Nat} {k : Int32} (ha : aq_at (aq_t mi) pc = some (.ldc_w i, len, nx, k, tg)) : Cond.constant (aq_y mi).cls i k ∈ aq_TB := by
  unfold aq_okM at h
  simp only [Bool.and_eq_true] at h
  have h1 := List.all_eq_true.mp h.1.2 _ (aq_at_in ha)
  simpa [aq_okW] using h1
/-- a configuration: pc, locals, stack, world -/
abbrev aq_C : Type := Nat × List (Option Value) × List Value × List va_E
abbrev aq_S : Type := Option (aq_C × Option Prop)
def aq_pp (P : Option Prop) : Prop := match P with
  | none => True
  | some p => p
def aq_b2 (f : Int32 → Int32 → Int32) (nx : Nat) (al : List (Option Value)) (st : List Value) (w : List va_E) : aq_S := match st with
  | .int y :: .int x :: r => some ((nx, al, .int (f x y) :: r, w), none)
  | _ => none
def aq_b2l (f : Int64 → Int64 → Int64) (nx : Nat) (al : List (Option Value)) (st : List Value) (w : List va_E) : aq_S := match st with
  | .long y :: .long x :: r => some ((nx, al, .long (f x y) :: r, w), none)
  | _ => none
def aq_shl (f : Int64 → Int32 → Int64) (nx : Nat) (al : List (Option Value)) (st : List Value) (w : List va_E) : aq_S := match st with
  | .int y :: .long x :: r => some ((nx, al, .long (f x y) :: r, w), none)
  | _ => none
def aq_cmp (nx : Nat) (al : List (Option Value)) (st : List Value) (w : List va_E) : aq_S := match st with
  | .long y :: .long x :: r => some ((nx, al, .int (lg_cmp x y) :: r, w), none)
  | _ => none
def aq_i2l (nx : Nat) (al : List (Option Value)) (st : List Value) (w : List va_E) : aq_S := match st with
  | .int x :: r => some ((nx, al, .long x.toInt64 :: r, w), none)
  | _ => none
def aq_l2i (nx : Nat) (al : List (Option Value)) (st : List Value) (w : List va_E) : aq_S := match st with
  | .long x :: r => some ((nx, al, .int x.toInt32 :: r, w), none)
  | _ => none
def aq_ldi (nx : Nat) (al : List (Option Value)) (st : List Value) (w : List va_E) (i : Nat) : aq_S := match al[i]? with
  | some (some (.int x)) => some ((nx, al, .int x :: st, w), none)
  | _ => none
def aq_ldl (nx : Nat) (al : List (Option Value)) (st : List Value) (w : List va_E) (i : Nat) : aq_S := match al[i]? with
  | some (some (.long x)) => some ((nx, al, .long x :: st, w), none)
  | _ => none
def aq_lda (nx : Nat) (al : List (Option Value)) (st : List Value) (w : List va_E) (i : Nat) : aq_S := match al[i]? with
  | some (some (.ref x)) => some ((nx, al, .ref x :: st, w), none)
  | _ => none
def aq_sti (nx : Nat) (al : List (Option Value)) (st : List Value) (w : List va_E) (i : Nat) : aq_S := match Nat.blt i al.length, st with
  | true, .int x :: r => some ((nx, aq_s1 al i (.int x), r, w), none)
  | _, _ => none
def aq_stl (nx : Nat) (al : List (Option Value)) (st : List Value) (w : List va_E) (i : Nat) : aq_S := match Nat.blt (i + 1) al.length, st with
  | true, .long x :: r => some ((nx, aq_s2 al i (.long x), r, w), none)
  | _, _ => none
def aq_sta (nx : Nat) (al : List (Option Value)) (st : List Value) (w : List va_E) (i : Nat) : aq_S := match Nat.blt i al.length, st with
  | true, .ref x :: r => some ((nx, aq_s1 al i (.ref x), r, w), none)
  | _, _ => none
def aq_inc (nx : Nat) (k : Int32) (al : List (Option Value)) (st : List Value) (w : List va_E) (i : Nat) : aq_S := match Nat.blt i al.length, al[i]? with
  | true, some (some (.int x)) => some ((nx, aq_s1 al i (.int (x + k)), st, w), none)
  | _, _ => none
def aq_dup (nx : Nat) (al : List (Option Value)) (st : List Value) (w : List va_E) : aq_S := match st with
  | .int x :: r => some ((nx, al, .int x :: .int x :: r, w), none)
  | .ref x :: r => some ((nx, al, .ref x :: .ref x :: r, w), none)
  | _ => none
def aq_pop (nx : Nat) (al : List (Option Value)) (st : List Value) (w : List va_E) : aq_S := match st with
  | .int _ :: r => some ((nx, al, r, w), none)
  | .ref _ :: r => some ((nx, al, r, w), none)
  | _ => none
def aq_dup2 (nx : Nat) (al : List (Option Value)) (st : List Value) (w : List va_E) : aq_S := match st with
  | .int x :: .ref y :: r => some ((nx, al, .int x :: .ref y :: .int x :: .ref y :: r, w), none)
  | .long x :: r => some ((nx, al, .long x :: .long x :: r, w), none)
  | _ => none
def aq_dx1 (nx : Nat) (al : List (Option Value)) (st : List Value) (w : List va_E) : aq_S := match st with
  | .int x :: .ref y :: r => some ((nx, al, .int x :: .ref y :: .int x :: r, w), none)
  | .int x :: .int y :: r => some ((nx, al, .int x :: .int y :: .int x :: r, w), none)
  | _ => none
def aq_gf (nx : Nat) (fo : Option (Nat × Nat)) (al : List (Option Value)) (st : List Value) (w : List va_E) : aq_S := match fo, st with
  | some (ci, k), .ref q :: r => match w[q]? with
    | some (.inr (c2, fs)) => match Nat.beq c2 ci, fs[k]? with
      | true, some v => some ((nx, al, v :: r, w), none)
      | _, _ => none
    | _ => none
  | _, _ => none
/-- is the field an int that may be written at any time -/
def aq_fi (ci k : Nat) : Bool := match vwCl[ci]? with
  | some r => !(r.2.1 k).2.2.2 && decide (parseFieldDescriptor (r.2.1 k).2.2.1 = some .int)
  | none => false
def aq_pf (nx : Nat) (fo : Option (Nat × Nat)) (al : List (Option Value)) (st : List Value) (w : List va_E) : aq_S := match fo, st with
  | some (ci, k), .int x :: .ref q :: r => match w[q]? with
    | some (.inr (c2, fs)) => match Nat.beq c2 ci, Nat.blt k fs.length with
      | true, true => some ((nx, al, r, w.set q (.inr (ci, fs.set k (.int x)))), some (aq_fi ci k = true))
      | _, _ => none
    | _ => none
  | _, _ => none
def aq_iald (nx : Nat) (al : List (Option Value)) (st : List Value) (w : List va_E) : aq_S := match st with
  | .int i :: .ref q :: r => match w[q]? with
    | some (.inl (t, n, .inl f)) => match t with
      | 0 => some ((nx, al, .int (f i.toNatClampNeg) :: r, w), some (vp_in i n))
      | _ => none
    | _ => none
  | _ => none
def aq_lald (nx : Nat) (al : List (Option Value)) (st : List Value) (w : List va_E) : aq_S := match st with
  | .int i :: .ref q :: r => match w[q]? with
    | some (.inl (t, n, .inr (.inl f))) => match t with
      | 1 => some ((nx, al, .long (f i.toNatClampNeg) :: r, w), some (vp_in i n))
      | _ => none
    | _ => none
  | _ => none
def aq_iast (nx : Nat) (al : List (Option Value)) (st : List Value) (w : List va_E) : aq_S := match st with
  | .int x :: .int i :: .ref q :: r => match w[q]? with
    | some (.inl (t, n, .inl f)) => match t with
      | 0 => some ((nx, al, r, w.set q (.inl (0, n, .inl (upd f i.toNatClampNeg x)))), some (vp_in i n))
      | _ => none
    | _ => none
  | _ => none
def aq_last (nx : Nat) (al : List (Option Value)) (st : List Value) (w : List va_E) : aq_S := match st with
  | .long x :: .int i :: .ref q :: r => match w[q]? with
    | some (.inl (t, n, .inr (.inl f))) => match t with
      | 1 => some ((nx, al, r, w.set q (.inl (1, n, .inr (.inl (vp_updL f i.toNatClampNeg x))))), some (vp_in i n))
      | _ => none
    | _ => none
  | _ => none
def aq_alen (nx : Nat) (al : List (Option Value)) (st : List Value) (w : List va_E) : aq_S := match st with
  | .ref q :: r => match w[q]? with
    | some (.inl (t, n, _)) => match t with
      | 0 => some ((nx, al, .int (nI n) :: r, w), none)
      | 1 => some ((nx, al, .int (nI n) :: r, w), none)
      | _ => none
    | _ => none
  | _ => none
def aq_div (nx : Nat) (al : List (Option Value)) (st : List Value) (w : List va_E) : aq_S := match st with
  | .int y :: .int x :: r => some ((nx, al, .int (x / y) :: r, w), some (¬ y = 0))
  | _ => none
def aq_zald (nx : Nat) (al : List (Option Value)) (st : List Value) (w : List va_E) : aq_S := match st with
  | .int i :: .ref q :: r => match w[q]? with
    | some (.inl (t, n, .inl f)) => match t with
      | 2 => some ((nx, al, .int (f i.toNatClampNeg) :: r, w), some (vp_in i n))
      | _ => none
    | _ => none
  | _ => none
def aq_zast (nx : Nat) (al : List (Option Value)) (st : List Value) (w : List va_E) : aq_S := match st with
  | .int x :: .int i :: .ref q :: r => match w[q]? with
    | some (.inl (t, n, .inl f)) => match t with
      | 2 => some ((nx, al, r, w.set q (.inl (2, n, .inl (upd f i.toNatClampNeg (vp_nar .boolean x))))), some (vp_in i n))
      | _ => none
    | _ => none
  | _ => none
def aq_lc (n : Fin 2) : Int64 := match n with
  | 0 => 0
  | 1 => 1
def aq_op (mi : aq_M) (nx tg : Nat) (k : Int32) (ins : Instr) (al : List (Option Value)) (st : List Value) (w : List va_E) : aq_S := match ins with
  | .iconst _ => some ((nx, al, .int k :: st, w), none)
  | .bipush _ => some ((nx, al, .int k :: st, w), none)
  | .sipush _ => some ((nx, al, .int k :: st, w), none)
  | .lconst n => some ((nx, al, .long (aq_lc n) :: st, w), none)
  | .ldc2_w i => match aq_lg (aq_j mi) i with
    | some v => some ((nx, al, .long v :: st, w), none)
    | none => none
  | .iload i => aq_ldi nx al st w i
  | .iload_n i => aq_ldi nx al st w i.val
  | .lload i => aq_ldl nx al st w i
  | .lload_n i => aq_ldl nx al st w i.val
  | .aload i => aq_lda nx al st w i
  | .aload_n i => aq_lda nx al st w i.val
  | .istore i => aq_sti nx al st w i
  | .istore_n i => aq_sti nx al st w i.val
  | .lstore i => aq_stl nx al st w i
  | .lstore_n i => aq_stl nx al st w i.val
  | .astore i => aq_sta nx al st w i
  | .astore_n i => aq_sta nx al st w i.val
  | .iinc i _ => aq_inc nx k al st w i
  | .iadd => aq_b2 (fun x y => x + y) nx al st w
  | .isub => aq_b2 (fun x y => x - y) nx al st w
  | .imul => aq_b2 (fun x y => x * y) nx al st w
  | .iand => aq_b2 (fun x y => x &&& y) nx al st w
  | .ior => aq_b2 (fun x y => x ||| y) nx al st w
  | .ixor => aq_b2 (fun x y => x ^^^ y) nx al st w
  | .iushr => aq_b2 (fun x y => (x.toUInt32 >>> (y.toUInt32 &&& Int32.toUInt32 31)).toInt32) nx al st w
  | .idiv => aq_div nx al st w
  | .ldc_w _ => some ((nx, al, .int k :: st, w), none)
  | .ladd => aq_b2l (fun x y => x + y) nx al st w
  | .lsub => aq_b2l (fun x y => x - y) nx al st w
  | .land => aq_b2l (fun x y => x &&& y) nx al st w
  | .lor => aq_b2l (fun x y => x ||| y) nx al st w
  | .lxor => aq_b2l (fun x y => x ^^^ y) nx al st w
  | .lshl => aq_shl (fun x y => x <<< (y.toInt64 &&& 63)) nx al st w
  | .lushr => aq_shl (fun x y => (x.toUInt64 >>> (y.toInt64.toUInt64 &&& Int64.toUInt64 63)).toInt64) nx al st w
  | .lshr => aq_shl (fun x y => x >>> (y.toInt64 &&& 63)) nx al st w
  | .lcmp => aq_cmp nx al st w
  | .i2l => aq_i2l nx al st w
  | .l2i => aq_l2i nx al st w
  | .dup => aq_dup nx al st w
  | .pop => aq_pop nx al st w
  | .dup2 => aq_dup2 nx al st w
  | .dup_x1 => aq_dx1 nx al st w
  | .getfield i => aq_gf nx (aq_fd (aq_f mi) i) al st w
  | .putfield i => aq_pf nx (aq_fd (aq_f mi) i) al st w
  | .iaload => aq_iald nx al st w
  | .laload => aq_lald nx al st w
  | .baload => aq_zald nx al st w
  | .bastore => aq_zast nx al st w
  | .iastore => aq_iast nx al st w
  | .lastore => aq_last nx al st w
  | .arraylength => aq_alen nx al st w
  | .goto _ => some ((tg, al, st, w), none)
  | _ => none
def aq_step (mi : aq_M) (c : aq_C) : aq_S := match aq_at (aq_t mi) c.1 with
  | none => none
  | some j => aq_op mi j.2.2.1 j.2.2.2.2 j.2.2.2.1 j.1 c.2.1 c.2.2.1 c.2.2.2
def aq_and (P Q : Option Prop) : Option Prop := match P, Q with
  | none, q => q
  | some p, none => some p
  | some p, some q => some (p ∧ q)
theorem aq_and_pp {P Q : Option Prop} (h : aq_pp (aq_and P Q)) : aq_pp P ∧ aq_pp Q := by
  cases P with
  | none => exact ⟨trivial, h⟩
  | some p => cases Q with
    | none => exact ⟨h, trivial⟩
    | some q => exact h
def aq_run (mi : aq_M) : Nat → aq_C → aq_S
  | 0, c => some (c, none)
  | n + 1, c => match aq_step mi c with
    | none => none
    | some (c1, P) => match aq_run mi n c1 with
      | none => none
      | some (c2, Q) => some (c2, aq_and P Q)
