/-! THE PURE MACHINE, I: values, locals, and what touches neither heap nor calls. A pure reference is a number; ad tells the address (none: null). -/
def z_cv (ad : Nat → Option Nat) (v : Value) : Value := match v with
  | .ref k => va_rf (ad k)
  | v => v
theorem z_cv_cat (ad : Nat → Option Nat) (v : Value) : (z_cv ad v).category = v.category := by
  cases v with
  | ref k => show (va_rf (ad k)).category = 1; cases ad k <;> rfl
  | _ => rfl
def z_lvm (ad : Nat → Option Nat) (lv : List (Nat × Value)) : List (Nat × Value) := lv.map (fun q => (q.1, z_cv ad q.2))
def z_get : List (Nat × Value) → Nat → Option Value
  | [], _ => none
  | q :: l, i => cond (Nat.beq q.1 i) (some q.2) (z_get l i)
def z_st1 (i : Nat) (v : Value) (lv : List (Nat × Value)) : List (Nat × Value) := (i, v) :: lv.filter (fun q => !(q.1 == i) && !(q.1 + 1 == i && q.2.category == 2))
def z_st2 (i : Nat) (v : Value) (lv : List (Nat × Value)) : List (Nat × Value) := (i, v) :: lv.filter (fun q => !(q.1 == i) && (!(q.1 == i + 1) && !(q.1 + 1 == i && q.2.category == 2)))
theorem z_get_in {lv : List (Nat × Value)} {i : Nat} {v : Value} (h : z_get lv i = some v) : (i, v) ∈ lv := by
  induction lv with
  | nil => cases h
  | cons q l ih =>
    rw [z_get] at h
    cases e : Nat.beq q.1 i with
    | true =>
      rw [e] at h
      obtain ⟨a, b⟩ := q
      have e1 : a = i := Nat.eq_of_beq_eq_true e
      cases h
      subst e1
      exact List.mem_cons_self
    | false =>
      rw [e] at h
      exact List.mem_cons_of_mem _ (ih h)
theorem z_get_at {ad : Nat → Option Nat} {lv : List (Nat × Value)} {ls : Array Slot} {nL i : Nat} {v : Value} (hl : lv_has ls nL (z_lvm ad lv)) (h : z_get lv i = some v) : ls[i]? = some (.val (z_cv ad v)) :=
  hl.2.2 (i, z_cv ad v) (List.mem_map.mpr ⟨(i, v), z_get_in h, rfl⟩)
theorem z_st1_m (ad : Nat → Option Nat) (i : Nat) (v : Value) (lv : List (Nat × Value)) : (i, z_cv ad v) :: (z_lvm ad lv).filter (fun q => !(q.1 == i) && !(q.1 + 1 == i && q.2.category == 2)) = z_lvm ad (z_st1 i v lv) := by
  unfold z_st1 z_lvm
  rw [List.map_cons, List.filter_map]
  congr 2
  refine List.filter_congr fun q _ => ?_
  simp [Function.comp, z_cv_cat]
theorem z_st2_m (ad : Nat → Option Nat) (i : Nat) (v : Value) (lv : List (Nat × Value)) : (i, z_cv ad v) :: (z_lvm ad lv).filter (fun q => !(q.1 == i) && (!(q.1 == i + 1) && !(q.1 + 1 == i && q.2.category == 2))) = z_lvm ad (z_st2 i v lv) := by
  unfold z_st2 z_lvm
  rw [List.map_cons, List.filter_map]
  congr 2
  refine List.filter_congr fun q _ => ?_
  simp [Function.comp, z_cv_cat]
theorem z_st1_in {i : Nat} {v : Value} {lv : List (Nat × Value)} {P : Value → Prop} (hv : P v) (h : ∀ q ∈ lv, P q.2) : ∀ q ∈ z_st1 i v lv, P q.2 := by
  intro q hq
  rcases List.mem_cons.mp hq with rfl | hq
  · exact hv
  · exact h q (List.mem_filter.mp hq).1
theorem z_st2_in {i : Nat} {v : Value} {lv : List (Nat × Value)} {P : Value → Prop} (hv : P v) (h : ∀ q ∈ lv, P q.2) : ∀ q ∈ z_st2 i v lv, P q.2 := by
  intro q hq
  rcases List.mem_cons.mp hq with rfl | hq
  · exact hv
  · exact h q (List.mem_filter.mp hq).1
def z_cmp (c : Jvm.ClassFile.Cond) (x y : Int32) : Bool := match c with
  | .eq => decide (x = y)
  | .ne => !decide (x = y)
  | .lt => decide (x < y)
  | .ge => decide (y ≤ x)
  | .gt => decide (y < x)
  | .le => decide (x ≤ y)
def z_tg (pc : Nat) (off : Int) : Option Nat := if 0 ≤ (pc : Int) + off then some ((pc : Int) + off).toNat else none
theorem z_tg_ok {pc t : Nat} {off : Int} (h : z_tg pc off = some t) : (pc : Int) + off = (t : Int) := by
  unfold z_tg at h
  split at h
  · rename_i h0
    cases h
    exact (Int.toNat_of_nonneg h0).symm
  · cases h
abbrev zR : Type := Nat × List (Nat × Value) × List Value

/-- the lengths of the instructions that z_loc takes -/
def z_len (i : Instr) (len : Nat) : Prop := match i with
  | .iconst _ => len = 1
  | .bipush _ => len = 2
  | .sipush _ => len = 3
  | .lconst _ => len = 1
  | .fconst _ => len = 1
  | .dconst _ => len = 1
  | .aconst_null => len = 1
  | .iload _ => len = 2
  | .iload_n _ => len = 1
  | .lload _ => len = 2
  | .lload_n _ => len = 1
  | .fload _ => len = 2
  | .fload_n _ => len = 1
  | .dload _ => len = 2
  | .dload_n _ => len = 1
  | .aload _ => len = 2
  | .aload_n _ => len = 1
  | .istore _ => len = 2
  | .istore_n _ => len = 1
  | .lstore _ => len = 2
  | .lstore_n _ => len = 1
  | .fstore _ => len = 2
  | .fstore_n _ => len = 1
  | .dstore _ => len = 2
  | .dstore_n _ => len = 1
  | .astore _ => len = 2
  | .astore_n _ => len = 1
  | .iinc _ _ => len = 3
  | .iadd => len = 1
  | .isub => len = 1
  | .imul => len = 1
  | .iand => len = 1
  | .ior => len = 1
  | .ishl => len = 1
  | .ishr => len = 1
  | .iushr => len = 1
  | .idiv => len = 1
  | .irem => len = 1
  | .ladd => len = 1
  | .lsub => len = 1
  | .lmul => len = 1
  | .ldiv => len = 1
  | .lcmp => len = 1
  | .fcmp _ => len = 1
  | .dcmp _ => len = 1
  | .i2l => len = 1
  | .i2b => len = 1
  | .i2c => len = 1
  | .i2d => len = 1
  | .l2f => len = 1
  | .f2d => len = 1
  | .fdiv => len = 1
  | .ddiv => len = 1
  | .dup => len = 1
  | .dup2 => len = 1
  | .pop => len = 1
  | .goto _ => len = 3
  | .if_icmp _ _ => len = 3
  | .ifCond _ _ => len = 3
  | _ => True
/-- the targets of branches are the table's -/
def z_tgt (i : Instr) (pc a : Nat) : Prop := match i with
  | .goto off => (pc : Int) + off = (a : Int)
  | .if_icmp _ off => (pc : Int) + off = (a : Int)
  | .ifCond _ off => (pc : Int) + off = (a : Int)
  | _ => True
/-- one local instruction: where it goes, the locals, the stack -/
def z_loc (i : Instr) (pc a nL : Nat) (lv : List (Nat × Value)) (st : List Value) : Option zR := match i with
  | .iconst n => some (pc + 1, lv, .int (Int32.ofInt n) :: st)
  | .bipush n => some (pc + 2, lv, .int (Int8.ofInt n).toInt32 :: st)
  | .sipush n => some (pc + 3, lv, .int (Int16.ofInt n).toInt32 :: st)
  | .lconst n => some (pc + 1, lv, .long (Int64.ofNat (n : Nat)) :: st)
  | .fconst n => match n with | 0 => some (pc + 1, lv, .float FP.fconst0 :: st) | _ => none
  | .dconst n => match n with | 0 => some (pc + 1, lv, .double FP.dconst0 :: st) | _ => none
  | .aconst_null => some (pc + 1, lv, .null :: st)
  | .iload i => match z_get lv i with | some (.int x) => some (pc + 2, lv, .int x :: st) | _ => none
  | .iload_n i => match z_get lv i with | some (.int x) => some (pc + 1, lv, .int x :: st) | _ => none
  | .lload i => match z_get lv i with | some (.long x) => some (pc + 2, lv, .long x :: st) | _ => none
  | .lload_n i => match z_get lv i with | some (.long x) => some (pc + 1, lv, .long x :: st) | _ => none
  | .fload i => match z_get lv i with | some (.float x) => some (pc + 2, lv, .float x :: st) | _ => none
  | .fload_n i => match z_get lv i with | some (.float x) => some (pc + 1, lv, .float x :: st) | _ => none
  | .dload i => match z_get lv i with | some (.double x) => some (pc + 2, lv, .double x :: st) | _ => none
  | .dload_n i => match z_get lv i with | some (.double x) => some (pc + 1, lv, .double x :: st) | _ => none
  | .aload i => match z_get lv i with | some (.ref x) => some (pc + 2, lv, .ref x :: st) | some .null => some (pc + 2, lv, .null :: st) | _ => none
  | .aload_n i => match z_get lv i with | some (.ref x) => some (pc + 1, lv, .ref x :: st) | some .null => some (pc + 1, lv, .null :: st) | _ => none
  | .istore i => match st with | .int x :: r => if i < nL then some (pc + 2, z_st1 i (.int x) lv, r) else none | _ => none
  | .istore_n i => match st with | .int x :: r => if (i : Nat) < nL then some (pc + 1, z_st1 i (.int x) lv, r) else none | _ => none
  | .lstore i => match st with | .long x :: r => if i + 1 < nL then some (pc + 2, z_st2 i (.long x) lv, r) else none | _ => none
  | .lstore_n i => match st with | .long x :: r => if (i : Nat) + 1 < nL then some (pc + 1, z_st2 i (.long x) lv, r) else none | _ => none
  | .fstore i => match st with | .float x :: r => if i < nL then some (pc + 2, z_st1 i (.float x) lv, r) else none | _ => none
  | .fstore_n i => match st with | .float x :: r => if (i : Nat) < nL then some (pc + 1, z_st1 i (.float x) lv, r) else none | _ => none
  | .dstore i => match st with | .double x :: r => if i + 1 < nL then some (pc + 2, z_st2 i (.double x) lv, r) else none | _ => none
  | .dstore_n i => match st with | .double x :: r => if (i : Nat) + 1 < nL then some (pc + 1, z_st2 i (.double x) lv, r) else none | _ => none
  | .astore i => match st with | .ref x :: r => if (i : Nat) < nL then some (pc + 2, z_st1 i (.ref x) lv, r) else none | .null :: r => if (i : Nat) < nL then some (pc + 2, z_st1 i .null lv, r) else none | _ => none
  | .astore_n i => match st with | .ref x :: r => if (i : Nat) < nL then some (pc + 1, z_st1 i (.ref x) lv, r) else none | .null :: r => if (i : Nat) < nL then some (pc + 1, z_st1 i .null lv, r) else none | _ => none
  | .iinc i n => match z_get lv i with | some (.int x) => if i < nL then some (pc + 3, z_st1 i (.int (x + Int32.ofInt n)) lv, st) else none | _ => none
  | .iadd => match st with | .int y :: .int x :: r => some (pc + 1, lv, .int (x + y) :: r) | _ => none
  | .isub => match st with | .int y :: .int x :: r => some (pc + 1, lv, .int (x - y) :: r) | _ => none
  | .imul => match st with | .int y :: .int x :: r => some (pc + 1, lv, .int (x * y) :: r) | _ => none
  | .iand => match st with | .int y :: .int x :: r => some (pc + 1, lv, .int (x &&& y) :: r) | _ => none
  | .ior => match st with | .int y :: .int x :: r => some (pc + 1, lv, .int (x ||| y) :: r) | _ => none
  | .ishl => match st with | .int y :: .int x :: r => some (pc + 1, lv, .int (x <<< (y &&& 31)) :: r) | _ => none
  | .ishr => match st with | .int y :: .int x :: r => some (pc + 1, lv, .int (x >>> (y &&& 31)) :: r) | _ => none
  | .iushr => match st with | .int y :: .int x :: r => some (pc + 1, lv, .int ((x.toUInt32 >>> (y.toUInt32 &&& Int32.toUInt32 31)).toInt32) :: r) | _ => none
  | .idiv => match st with | .int y :: .int x :: r => if y = 0 then none else some (pc + 1, lv, .int (x / y) :: r) | _ => none
  | .irem => match st with | .int y :: .int x :: r => if y = 0 then none else some (pc + 1, lv, .int (x - x / y * y) :: r) | _ => none
  | .ladd => match st with | .long y :: .long x :: r => some (pc + 1, lv, .long (x + y) :: r) | _ => none
  | .lsub => match st with | .long y :: .long x :: r => some (pc + 1, lv, .long (x - y) :: r) | _ => none
  | .lmul => match st with | .long y :: .long x :: r => some (pc + 1, lv, .long (x * y) :: r) | _ => none
  | .ldiv => match st with | .long y :: .long x :: r => if y = 0 then none else some (pc + 1, lv, .long (x / y) :: r) | _ => none
  | .lcmp => match st with | .long y :: .long x :: r => some (pc + 1, lv, .int (lg_cmp x y) :: r) | _ => none
  | .fcmp op => match st with | .float y :: .float x :: r => some (pc + 1, lv, .int (Op.cmpValue (FP.fcmp x y) op) :: r) | _ => none
  | .dcmp op => match st with | .double y :: .double x :: r => some (pc + 1, lv, .int (Op.cmpValue (FP.dcmp x y) op) :: r) | _ => none
  | .i2l => match st with | .int x :: r => some (pc + 1, lv, .long x.toInt64 :: r) | _ => none
  | .i2b => match st with | .int x :: r => some (pc + 1, lv, .int x.toInt8.toInt32 :: r) | _ => none
  | .i2c => match st with | .int x :: r => some (pc + 1, lv, .int (x.toUInt32 % 65536).toInt32 :: r) | _ => none
  | .i2d => match st with | .int x :: r => some (pc + 1, lv, .double (FP.i2d x) :: r) | _ => none
  | .l2f => match st with | .long x :: r => some (pc + 1, lv, .float (FP.l2f x) :: r) | _ => none
  | .f2d => match st with | .float x :: r => if FP.f2d x &&& 0x7fffffffffffffff ≤ 0x7ff0000000000000 then some (pc + 1, lv, .double (FP.f2d x) :: r) else none | _ => none
  | .fdiv => match st with | .float y :: .float x :: r => if FP.fdiv x y &&& 0x7fffffff ≤ 0x7f800000 then some (pc + 1, lv, .float (FP.fdiv x y) :: r) else none | _ => none
  | .ddiv => match st with | .double y :: .double x :: r => if FP.ddiv x y &&& 0x7fffffffffffffff ≤ 0x7ff0000000000000 then some (pc + 1, lv, .double (FP.ddiv x y) :: r) else none | _ => none
  | .dup => match st with | v :: r => if v.category = 1 then some (pc + 1, lv, v :: v :: r) else none | _ => none
  | .dup2 => match st with | v :: r => if v.category = 2 then some (pc + 1, lv, v :: v :: r) else (match r with | u :: r2 => if v.category = 1 ∧ u.category = 1 then some (pc + 1, lv, v :: u :: v :: u :: r2) else none | _ => none) | _ => none
  | .pop => match st with | v :: r => if v.category = 1 then some (pc + 1, lv, r) else none | _ => none
  | .goto off => some (a, lv, st)
  | .if_icmp c0 off => match st with | .int y :: .int x :: r => (match z_cmp c0 x y with | true => some (a, lv, r) | false => some (pc + 3, lv, r)) | _ => none
  | .ifCond c0 off => match st with | .int x :: r => (match z_cmp c0 x 0 with | true => some (a, lv, r) | false => some (pc + 3, lv, r)) | _ => none
  | .tableswitch dflt lo hi offs => match st with | .int x :: r => if x.toInt < lo ∨ hi < x.toInt then (match z_tg pc dflt with | some t => some (t, lv, r) | none => none) else (match offs[(x.toInt - lo).toNat]? with | some off => (match z_tg pc off with | some t => some (t, lv, r) | none => none) | none => none) | _ => none
  | .lookupswitch dflt ps => match st with | .int x :: r => if (ps.toList.zip (ps.toList.drop 1)).all (fun (a, next) => a.1 < next.1) = true then (match z_tg pc (Op.lookupswitch.offset ps.toList dflt x.toInt) with | some t => some (t, lv, r) | none => none) else none | _ => none
  | _ => none
section ZL
variable {p : Program} {l : Launch} {e : Env} {R : Room} {s : State} {m : MethodId} {args : Array Value} {below : List Frame} {meth : Method} {c : Code} {H : Heap} {locs : List Loc} {cells slots : Nat} {Q : State → Prop}
variable {cc : ByteArray} {pc : Nat} {ls : Array Slot}
set_option maxHeartbeats 4000000 in
theorem z_loc_ok {i : Instr} {len a nL pc2 : Nat} {ad : Nat → Option Nat} {lv lv2 : List (Nat × Value)} {st st2 : List Value} (h : z_loc i pc a nL lv st = some (pc2, lv2, st2)) (hd : decode cc pc = .ok (i, len)) (hn : z_len i len) (ht : z_tgt i pc a) (hx : p.tables.exec = Jvm.exec) (hb : c.code = cc) (hl : lv_has ls nL (z_lvm ad lv))
    (k : ∀ ls2 : Array Slot, lv_has ls2 nL (z_lvm ad lv2) → W p l e R s m args below meth c H locs cells slots Q (F0 m pc2 ls2 (st2.map (z_cv ad)))) : W p l e R s m args below meth c H locs cells slots Q (F0 m pc ls (st.map (z_cv ad))) := by
  cases i
  case iconst n =>
    simp only [z_len] at hn
    subst hn
    simp only [z_loc] at h
    cases h
    exact lv_iconst hx hb hd rfl (k _ hl)
  case bipush n =>
    simp only [z_len] at hn
    subst hn
    simp only [z_loc] at h
    cases h
    exact lv_bipush hx hb hd rfl (k _ hl)
  case sipush n =>
    simp only [z_len] at hn
    subst hn
    simp only [z_loc] at h
    cases h
    exact lv_sipush hx hb hd rfl (k _ hl)
  case lconst n =>
    simp only [z_len] at hn
    subst hn
    simp only [z_loc] at h
    cases h
    exact lv_lconst hx hb hd rfl (k _ hl)
  case fconst n =>
    simp only [z_len] at hn
    subst hn
    simp only [z_loc] at h
    split at h
    · cases h
      exact lv_fconst0 hx hb hd (k _ hl)
    · cases h
  case dconst n =>
    simp only [z_len] at hn
    subst hn
    simp only [z_loc] at h
    split at h
    · cases h
      exact lv_dconst0 hx hb hd (k _ hl)
    · cases h
  case aconst_null =>
    simp only [z_len] at hn
    subst hn
    simp only [z_loc] at h
    cases h
    exact lv_null hx hb hd (k _ hl)
  case iload i =>
    simp only [z_len] at hn
    subst hn
    simp only [z_loc] at h
    split at h
    · rename_i e
      cases h
      exact lv_iload hx hb hd (z_get_at hl e) (k _ hl)
    · cases h
  case iload_n i =>
    simp only [z_len] at hn
    subst hn
    simp only [z_loc] at h
    split at h
    · rename_i e
      cases h
      exact lv_iload_n hx hb hd rfl (z_get_at hl e) (k _ hl)
    · cases h
  case lload i =>
    simp only [z_len] at hn
    subst hn
    simp only [z_loc] at h
    split at h
    · rename_i e
      cases h
      exact lv_lload hx hb hd (z_get_at hl e) (k _ hl)
    · cases h
  case lload_n i =>
    simp only [z_len] at hn
    subst hn
    simp only [z_loc] at h
    split at h
    · rename_i e
      cases h
      exact lv_lload_n hx hb hd rfl (z_get_at hl e) (k _ hl)
    · cases h
  case fload i =>
    simp only [z_len] at hn
    subst hn
    simp only [z_loc] at h
    split at h
    · rename_i e
      cases h
      exact lv_fload hx hb hd (z_get_at hl e) (k _ hl)
    · cases h
  case fload_n i =>
    simp only [z_len] at hn
    subst hn
    simp only [z_loc] at h
    split at h
    · rename_i e
      cases h
      exact lv_fload_n hx hb hd rfl (z_get_at hl e) (k _ hl)
    · cases h
  case dload i =>
    simp only [z_len] at hn
    subst hn
    simp only [z_loc] at h
    split at h
    · rename_i e
      cases h
      exact lv_dload hx hb hd (z_get_at hl e) (k _ hl)
    · cases h
  case dload_n i =>
    simp only [z_len] at hn
    subst hn
    simp only [z_loc] at h
    split at h
    · rename_i e
      cases h
      exact lv_dload_n hx hb hd rfl (z_get_at hl e) (k _ hl)
    · cases h
  case aload i =>
    simp only [z_len] at hn
    subst hn
    simp only [z_loc] at h
    split at h
    · rename_i x eq0
      cases h
      have e1 := z_get_at hl eq0
      have k1 := k _ hl
      change ls[_]? = some (Slot.val (va_rf (ad x))) at e1
      change W p l e R s m args below meth c H locs cells slots Q (F0 m _ ls (va_rf (ad x) :: _)) at k1
      cases hx2 : ad x with
      | none => rw [hx2] at e1 k1; exact lv_aloadN hx hb hd e1 k1
      | some a => rw [hx2] at e1 k1; exact lv_aload hx hb hd e1 k1
    · rename_i e
      cases h
      exact lv_aloadN hx hb hd (z_get_at hl e) (k _ hl)
    · cases h
  case aload_n i =>
    simp only [z_len] at hn
    subst hn
    simp only [z_loc] at h
    split at h
    · rename_i x eq0
      cases h
      have e1 := z_get_at hl eq0
      have k1 := k _ hl
      change ls[_]? = some (Slot.val (va_rf (ad x))) at e1
      change W p l e R s m args below meth c H locs cells slots Q (F0 m _ ls (va_rf (ad x) :: _)) at k1
      cases hx2 : ad x with
      | none => rw [hx2] at e1 k1; exact lv_aload_nN hx hb hd rfl e1 k1
      | some a => rw [hx2] at e1 k1; exact lv_aload_n hx hb hd rfl e1 k1
    · rename_i e
      cases h
      exact lv_aload_nN hx hb hd rfl (z_get_at hl e) (k _ hl)
    · cases h
  case istore i =>
    simp only [z_len] at hn
    subst hn
    simp only [z_loc] at h
    split at h
    · rename_i x r
      split at h
      · rename_i hi
        cases h
        exact lv_istore hx hb hd hl hi (z_st1_m ad i (.int x) lv) (fun ls hl => k ls hl)
      · cases h
    · cases h
  case istore_n i =>
    simp only [z_len] at hn
    subst hn
    simp only [z_loc] at h
    split at h
    · rename_i x r
      split at h
      · rename_i hi
        cases h
        exact lv_istore_n hx hb hd rfl hl hi (z_st1_m ad i (.int x) lv) (fun ls hl => k ls hl)
      · cases h
    · cases h
  case lstore i =>
    simp only [z_len] at hn
    subst hn
    simp only [z_loc] at h
    split at h
    · rename_i x r
      split at h
      · rename_i hi
        cases h
        exact lv_lstore hx hb hd hl hi (z_st2_m ad i (.long x) lv) (fun ls hl => k ls hl)
      · cases h
    · cases h
  case lstore_n i =>
    simp only [z_len] at hn
    subst hn
    simp only [z_loc] at h
    split at h
    · rename_i x r
      split at h
      · rename_i hi
        cases h
        exact lv_lstore_n hx hb hd rfl hl hi (z_st2_m ad i (.long x) lv) (fun ls hl => k ls hl)
      · cases h
    · cases h
  case fstore i =>
    simp only [z_len] at hn
    subst hn
    simp only [z_loc] at h
    split at h
    · rename_i x r
      split at h
      · rename_i hi
        cases h
        exact lv_fstore hx hb hd hl hi (z_st1_m ad i (.float x) lv) (fun ls hl => k ls hl)
      · cases h
    · cases h
  case fstore_n i =>
    simp only [z_len] at hn
    subst hn
    simp only [z_loc] at h
    split at h
    · rename_i x r
      split at h
      · rename_i hi
        cases h
        exact lv_fstore_n hx hb hd rfl hl hi (z_st1_m ad i (.float x) lv) (fun ls hl => k ls hl)
      · cases h
    · cases h
  case dstore i =>
    simp only [z_len] at hn
    subst hn
    simp only [z_loc] at h
    split at h
    · rename_i x r
      split at h
      · rename_i hi
        cases h
        exact lv_dstore hx hb hd hl hi (z_st2_m ad i (.double x) lv) (fun ls hl => k ls hl)
      · cases h
    · cases h
  case dstore_n i =>
    simp only [z_len] at hn
    subst hn
    simp only [z_loc] at h
    split at h
    · rename_i x r
      split at h
      · rename_i hi
        cases h
        exact lv_dstore_n hx hb hd rfl hl hi (z_st2_m ad i (.double x) lv) (fun ls hl => k ls hl)
      · cases h
    · cases h
  case astore i =>
    simp only [z_len] at hn
    subst hn
    simp only [z_loc] at h
    split at h
    · rename_i x r
      split at h
      · rename_i hi
        cases h
        have e2 := z_st1_m ad i (.ref x) lv
        change (_, va_rf (ad x)) :: _ = _ at e2
        change W p l e R s m args below meth c H locs cells slots Q (F0 m pc ls (va_rf (ad x) :: _))
        cases hx2 : ad x with
        | none => rw [hx2] at e2; exact lv_astoreN hx hb hd hl hi e2 (fun ls hl => k ls hl)
        | some a => rw [hx2] at e2; exact lv_astore hx hb hd hl hi e2 (fun ls hl => k ls hl)
      · cases h
    · split at h
      · rename_i hi
        cases h
        exact lv_astoreN hx hb hd hl hi (z_st1_m ad _ .null lv) (fun ls hl => k ls hl)
      · cases h
    · cases h
  case astore_n i =>
    simp only [z_len] at hn
    subst hn
    simp only [z_loc] at h
    split at h
    · rename_i x r
      split at h
      · rename_i hi
        cases h
        have e2 := z_st1_m ad i (.ref x) lv
        change (_, va_rf (ad x)) :: _ = _ at e2
        change W p l e R s m args below meth c H locs cells slots Q (F0 m pc ls (va_rf (ad x) :: _))
        cases hx2 : ad x with
        | none => rw [hx2] at e2; exact lv_astore_nN hx hb hd rfl hl hi e2 (fun ls hl => k ls hl)
        | some a => rw [hx2] at e2; exact lv_astore_n hx hb hd rfl hl hi e2 (fun ls hl => k ls hl)
      · cases h
    · split at h
      · rename_i hi
        cases h
        exact lv_astore_nN hx hb hd rfl hl hi (z_st1_m ad _ .null lv) (fun ls hl => k ls hl)
      · cases h
    · cases h
  case iinc i n =>
    simp only [z_len] at hn
    subst hn
    simp only [z_loc] at h
    split at h
    · rename_i x e
      split at h
      · rename_i hi
        cases h
        obtain ⟨k0, hk0⟩ := List.getElem?_of_mem (List.mem_map.mpr ⟨(i, Value.int x), z_get_in e, rfl⟩ : (i, z_cv ad (.int x)) ∈ z_lvm ad lv)
        exact lv_iinc hx hb hd hl hk0 rfl hi (z_st1_m ad i (.int (x + Int32.ofInt n)) lv) (fun ls hl => k ls hl)
      · cases h
    · cases h
  case iadd =>
    simp only [z_len] at hn
    subst hn
    simp only [z_loc] at h
    split at h
    · cases h
      exact lv_iadd hx hb hd (k _ hl)
    · cases h
  case isub =>
    simp only [z_len] at hn
    subst hn
    simp only [z_loc] at h
    split at h
    · cases h
      exact lv_isub hx hb hd (k _ hl)
    · cases h
  case imul =>
    simp only [z_len] at hn
    subst hn
    simp only [z_loc] at h
    split at h
    · cases h
      exact lv_imul hx hb hd (k _ hl)
    · cases h
  case iand =>
    simp only [z_len] at hn
    subst hn
    simp only [z_loc] at h
    split at h
    · cases h
      exact lv_iand hx hb hd (k _ hl)
    · cases h
  case ior =>
    simp only [z_len] at hn
    subst hn
    simp only [z_loc] at h
    split at h
    · cases h
      exact lv_ior hx hb hd (k _ hl)
    · cases h
  case ishl =>
    simp only [z_len] at hn
    subst hn
    simp only [z_loc] at h
    split at h
    · cases h
      exact lv_ishl hx hb hd (k _ hl)
    · cases h
  case ishr =>
    simp only [z_len] at hn
    subst hn
    simp only [z_loc] at h
    split at h
    · cases h
      exact lv_ishr hx hb hd (k _ hl)
    · cases h
  case iushr =>
    simp only [z_len] at hn
    subst hn
    simp only [z_loc] at h
    split at h
    · cases h
      exact lv_iushr hx hb hd rfl (k _ hl)
    · cases h
  case idiv =>
    simp only [z_len] at hn
    subst hn
    simp only [z_loc] at h
    split at h
    · split at h
      · cases h
      · rename_i hy
        cases h
        exact lv_idiv hx hb hd hy (k _ hl)
    · cases h
  case irem =>
    simp only [z_len] at hn
    subst hn
    simp only [z_loc] at h
    split at h
    · split at h
      · cases h
      · rename_i hy
        cases h
        exact lv_irem hx hb hd hy (k _ hl)
    · cases h
  case ladd =>
    simp only [z_len] at hn
    subst hn
    simp only [z_loc] at h
    split at h
    · cases h
      exact lv_ladd hx hb hd (k _ hl)
    · cases h
  case lsub =>
    simp only [z_len] at hn
    subst hn
    simp only [z_loc] at h
    split at h
    · cases h
      exact lv_lsub hx hb hd (k _ hl)
    · cases h
  case lmul =>
    simp only [z_len] at hn
    subst hn
    simp only [z_loc] at h
    split at h
    · cases h
      exact lv_lmul hx hb hd (k _ hl)
    · cases h
  case ldiv =>
    simp only [z_len] at hn
    subst hn
    simp only [z_loc] at h
    split at h
    · split at h
      · cases h
      · rename_i hy
        cases h
        exact lv_ldiv hx hb hd hy (k _ hl)
    · cases h
  case lcmp =>
    simp only [z_len] at hn
    subst hn
    simp only [z_loc] at h
    split at h
    · cases h
      exact W.lcmp hx hb hd (k _ hl)
    · cases h
  case fcmp op =>
    simp only [z_len] at hn
    subst hn
    simp only [z_loc] at h
    split at h
    · cases h
      exact lv_fcmp hx hb hd (k _ hl)
    · cases h
  case dcmp op =>
    simp only [z_len] at hn
    subst hn
    simp only [z_loc] at h
    split at h
    · cases h
      exact lv_dcmp hx hb hd (k _ hl)
    · cases h
  case i2l =>
    simp only [z_len] at hn
    subst hn
    simp only [z_loc] at h
    split at h
    · cases h
      exact lv_i2l hx hb hd rfl (k _ hl)
    · cases h
  case i2b =>
    simp only [z_len] at hn
    subst hn
    simp only [z_loc] at h
    split at h
    · cases h
      exact lv_i2b hx hb hd rfl (k _ hl)
    · cases h
  case i2c =>
    simp only [z_len] at hn
    subst hn
    simp only [z_loc] at h
    split at h
    · cases h
      exact lv_i2c hx hb hd rfl (k _ hl)
    · cases h
  case i2d =>
    simp only [z_len] at hn
    subst hn
    simp only [z_loc] at h
    split at h
    · cases h
      exact lv_i2d hx hb hd (k _ hl)
    · cases h
  case l2f =>
    simp only [z_len] at hn
    subst hn
    simp only [z_loc] at h
    split at h
    · cases h
      exact lv_l2f hx hb hd (k _ hl)
    · cases h
  case f2d =>
    simp only [z_len] at hn
    subst hn
    simp only [z_loc] at h
    split at h
    · split at h
      · rename_i hn
        cases h
        exact lv_f2d hx hb hd hn (k _ hl)
      · cases h
    · cases h
  case fdiv =>
    simp only [z_len] at hn
    subst hn
    simp only [z_loc] at h
    split at h
    · split at h
      · rename_i hn
        cases h
        exact lv_fdiv hx hb hd hn (k _ hl)
      · cases h
    · cases h
  case ddiv =>
    simp only [z_len] at hn
    subst hn
    simp only [z_loc] at h
    split at h
    · split at h
      · rename_i hn
        cases h
        exact lv_ddiv hx hb hd hn (k _ hl)
      · cases h
    · cases h
  case dup =>
    simp only [z_len] at hn
    subst hn
    simp only [z_loc] at h
    split at h
    · split at h
      · rename_i hc
        cases h
        exact lv_dup hx hb hd ((z_cv_cat ad _).trans hc) (k _ hl)
      · cases h
    · cases h
  case dup2 =>
    simp only [z_len] at hn
    subst hn
    simp only [z_loc] at h
    split at h
    · split at h
      · rename_i hc
        cases h
        exact lv_dup2_2 hx hb hd ((z_cv_cat ad _).trans hc) (k _ hl)
      · split at h
        · split at h
          · rename_i hc
            cases h
            exact lv_dup2_11 hx hb hd ((z_cv_cat ad _).trans hc.1) ((z_cv_cat ad _).trans hc.2) (k _ hl)
          · cases h
        · cases h
    · cases h
  case pop =>
    simp only [z_len] at hn
    subst hn
    simp only [z_loc] at h
    split at h
    · split at h
      · rename_i hc
        cases h
        exact lv_pop hx hb hd ((z_cv_cat ad _).trans hc) (k _ hl)
      · cases h
    · cases h
  case goto off =>
    simp only [z_len] at hn
    subst hn
    simp only [z_tgt] at ht
    simp only [z_loc] at h
    cases h
    exact lv_goto hx hb hd ht (k _ hl)
  case if_icmp c0 off =>
    simp only [z_len] at hn
    subst hn
    simp only [z_tgt] at ht
    simp only [z_loc] at h
    split at h
    · rename_i y x r
      cases c0 with
      | eq =>
        refine lv_icmp_eq hx hb hd ht (fun q => ?_) (fun q => ?_)
        · rw [show z_cmp .eq x y = true from decide_eq_true q] at h; cases h; exact k _ hl
        · rw [show z_cmp .eq x y = false from decide_eq_false q] at h; cases h; exact k _ hl
      | ne =>
        refine lv_icmp_ne hx hb hd ht (fun q => ?_) (fun q => ?_)
        · rw [show z_cmp .ne x y = true by simp [z_cmp, q]] at h; cases h; exact k _ hl
        · rw [show z_cmp .ne x y = false by simp [z_cmp, q]] at h; cases h; exact k _ hl
      | lt =>
        refine lv_icmp_lt hx hb hd ht (fun q => ?_) (fun q => ?_)
        · rw [show z_cmp .lt x y = true from decide_eq_true q] at h; cases h; exact k _ hl
        · rw [show z_cmp .lt x y = false from decide_eq_false q] at h; cases h; exact k _ hl
      | ge =>
        refine lv_icmp_ge hx hb hd ht (fun q => ?_) (fun q => ?_)
        · rw [show z_cmp .ge x y = true from decide_eq_true q] at h; cases h; exact k _ hl
        · rw [show z_cmp .ge x y = false from decide_eq_false q] at h; cases h; exact k _ hl
      | gt =>
        refine lv_icmp_gt hx hb hd ht (fun q => ?_) (fun q => ?_)
        · rw [show z_cmp .gt x y = true from decide_eq_true q] at h; cases h; exact k _ hl
        · rw [show z_cmp .gt x y = false from decide_eq_false q] at h; cases h; exact k _ hl
      | le =>
        refine lv_icmp_le hx hb hd ht (fun q => ?_) (fun q => ?_)
        · rw [show z_cmp .le x y = true from decide_eq_true q] at h; cases h; exact k _ hl
        · rw [show z_cmp .le x y = false from decide_eq_false q] at h; cases h; exact k _ hl
    · cases h
  case ifCond c0 off =>
    simp only [z_len] at hn
    subst hn
    simp only [z_tgt] at ht
    simp only [z_loc] at h
    split at h
    · rename_i x r
      cases c0 with
      | eq =>
        refine lv_if_eq hx hb hd ht (fun q => ?_) (fun q => ?_)
        · rw [show z_cmp .eq x 0 = true from decide_eq_true q] at h; cases h; exact k _ hl
        · rw [show z_cmp .eq x 0 = false from decide_eq_false q] at h; cases h; exact k _ hl
      | ne =>
        refine lv_if_ne hx hb hd ht (fun q => ?_) (fun q => ?_)
        · rw [show z_cmp .ne x 0 = true by simp [z_cmp, q]] at h; cases h; exact k _ hl
        · rw [show z_cmp .ne x 0 = false by simp [z_cmp, q]] at h; cases h; exact k _ hl
      | lt =>
        refine lv_if_lt hx hb hd ht (fun q => ?_) (fun q => ?_)
        · rw [show z_cmp .lt x 0 = true from decide_eq_true q] at h; cases h; exact k _ hl
        · rw [show z_cmp .lt x 0 = false from decide_eq_false q] at h; cases h; exact k _ hl
      | ge =>
        refine lv_if_ge hx hb hd ht (fun q => ?_) (fun q => ?_)
        · rw [show z_cmp .ge x 0 = true from decide_eq_true q] at h; cases h; exact k _ hl
        · rw [show z_cmp .ge x 0 = false from decide_eq_false q] at h; cases h; exact k _ hl
      | gt =>
        refine lv_if_gt hx hb hd ht (fun q => ?_) (fun q => ?_)
        · rw [show z_cmp .gt x 0 = true from decide_eq_true q] at h; cases h; exact k _ hl
        · rw [show z_cmp .gt x 0 = false from decide_eq_false q] at h; cases h; exact k _ hl
      | le =>
        refine lv_if_le hx hb hd ht (fun q => ?_) (fun q => ?_)
        · rw [show z_cmp .le x 0 = true from decide_eq_true q] at h; cases h; exact k _ hl
        · rw [show z_cmp .le x 0 = false from decide_eq_false q] at h; cases h; exact k _ hl
    · cases h
  case tableswitch dflt lo hi offs =>
    simp only [z_loc] at h
    split at h
    · split at h
      · rename_i hq
        split at h
        · rename_i e2
          cases h
          exact lv_tableOut hx hb hd hq (z_tg_ok e2) (k _ hl)
        · cases h
      · rename_i hq
        split at h
        · rename_i e3
          split at h
          · rename_i e2
            cases h
            exact lv_tableIn hx hb hd (fun z => hq (Or.inl z)) (fun z => hq (Or.inr z)) e3 (z_tg_ok e2) (k _ hl)
          · cases h
        · cases h
    · cases h
  case lookupswitch dflt ps =>
    simp only [z_loc] at h
    split at h
    · split at h
      · rename_i hq
        split at h
        · rename_i e2
          cases h
          exact lv_lookup hx hb hd hq rfl (z_tg_ok e2) (k _ hl)
        · cases h
      · cases h
    · cases h
  all_goals (simp [z_loc] at h)
end ZL
