/-! DECODINGS READ OFF THE BYTES, in one walk. -/
abbrev zdR : Type := Jvm.ClassFile.Decoder Nat
def zdu : zdR := Jvm.ClassFile.Reader.u1
theorem zdb {cc : ByteArray} {p : Nat} {b : UInt8} {r : List UInt8} (hL : cc.data.toList.drop p = b :: r) : zdu cc p = .ok (b.toNat, p + 1) := by
  have hlen := congrArg List.length hL
  rw [List.length_drop, List.length_cons] at hlen
  have hp : p < cc.size := by
    show p < cc.data.toList.length
    omega
  have hb : cc[p] = b := by
    have h1 : cc.data.toList[p]? = some b := by
      have h2 := congrArg (fun l : List UInt8 => l[0]?) hL
      rw [List.getElem?_drop] at h2
      exact h2
    exact (List.getElem?_eq_some_iff.mp h1).2
  have e : zdu cc p = (if h : p < cc.size then (do set (p + 1); pure (cc[p]).toNat : zdR) else throw (Jvm.ClassFile.HasTruncated.truncated p)) cc p := rfl
  rw [e, dif_pos hp, hb]
  rfl
theorem zdn {cc : ByteArray} {p : Nat} {b : UInt8} {r : List UInt8} (hL : cc.data.toList.drop p = b :: r) : cc.data.toList.drop (p + 1) = r := by
  rw [← List.drop_drop, hL]
  rfl
theorem zdk {K : Nat → Jvm.ClassFile.Decoder Instr} {n m : Nat} {i : Instr} {cc : ByteArray} {pc : Nat} (hI : Jvm.ClassFile.Decoder.instr pc = (zdu >>= K)) (h : zdu cc pc = .ok (n, pc + 1)) (hk : K n cc (pc + 1) = .ok (i, pc + m)) : decode cc pc = .ok (i, m) := by
  have e : Jvm.ClassFile.Decoder.instr pc cc pc = .ok (i, pc + m) := by
    rw [hI]
    show Except.bind (zdu cc pc) _ = _
    rw [h]
    exact hk
  unfold decode
  show Except.bind (Jvm.ClassFile.Decoder.instr pc cc pc) _ = _
  rw [e]
  show Except.ok (i, pc + m - pc) = _
  rw [Nat.add_sub_cancel_left]
theorem zd_u1 {f : Nat → Instr} {cc : ByteArray} {p b : Nat} (h : zdu cc p = .ok (b, p + 1)) : (zdu >>= fun x => (pure (f x) : Jvm.ClassFile.Decoder Instr)) cc p = .ok (f b, p + 1) := by
  show Except.bind (zdu cc p) _ = _
  rw [h]
  rfl
theorem zd_s1 {f : Int → Instr} {cc : ByteArray} {p b : Nat} (h : zdu cc p = .ok (b, p + 1)) : (Jvm.ClassFile.Reader.s1 >>= fun x => (pure (f x) : Jvm.ClassFile.Decoder Instr)) cc p = .ok (f (Jvm.ClassFile.Reader.signed 8 b), p + 1) := by
  show Except.bind (Except.bind (zdu cc p) _) _ = _
  rw [h]
  rfl
theorem zd_u2 {f : Nat → Instr} {cc : ByteArray} {p b c : Nat} (h : zdu cc p = .ok (b, p + 1)) (h2 : zdu cc (p + 1) = .ok (c, p + 2)) : (Jvm.ClassFile.Reader.u2 >>= fun x => (pure (f x) : Jvm.ClassFile.Decoder Instr)) cc p = .ok (f (b * 256 + c), p + 2) := by
  show Except.bind (Except.bind (zdu cc p) _) _ = _
  rw [h]
  show Except.bind (Except.bind (zdu cc (p + 1)) _) _ = _
  rw [h2]
  rfl
theorem zd_s2 {f : Int → Instr} {cc : ByteArray} {p b c : Nat} (h : zdu cc p = .ok (b, p + 1)) (h2 : zdu cc (p + 1) = .ok (c, p + 2)) : (Jvm.ClassFile.Reader.s2 >>= fun x => (pure (f x) : Jvm.ClassFile.Decoder Instr)) cc p = .ok (f (Jvm.ClassFile.Reader.signed 16 (b * 256 + c)), p + 2) := by
  show Except.bind (Except.bind (Except.bind (zdu cc p) _) _) _ = _
  rw [h]
  show Except.bind (Except.bind (Except.bind (zdu cc (p + 1)) _) _) _ = _
  rw [h2]
  rfl
theorem zd_ii {cc : ByteArray} {p b c : Nat} (h : zdu cc p = .ok (b, p + 1)) (h2 : zdu cc (p + 1) = .ok (c, p + 2)) : (zdu >>= fun x => Jvm.ClassFile.Reader.s1 >>= fun y => (pure (.iinc x y) : Jvm.ClassFile.Decoder Instr)) cc p = .ok (.iinc b (Jvm.ClassFile.Reader.signed 8 c), p + 2) := by
  show Except.bind (zdu cc p) _ = _
  rw [h]
  show Except.bind (Except.bind (zdu cc (p + 1)) _) _ = _
  rw [h2]
  rfl
/-- what the leaves of the tree say -/
def zdP (L : List UInt8) (i : Instr) (len : Nat) : Prop := ∀ (cc : ByteArray) (pc : Nat), cc.data.toList.drop pc = L → decode cc pc = .ok (i, len)
def zD1 (n : Nat) (I : Instr) : Prop := ∀ (cc : ByteArray) (pc : Nat), zdu cc pc = .ok (n, pc + 1) → decode cc pc = .ok (I, 1)
def zD2 (n : Nat) (f : Nat → Instr) : Prop := ∀ (cc : ByteArray) (pc b : Nat), zdu cc pc = .ok (n, pc + 1) → zdu cc (pc + 1) = .ok (b, pc + 1 + 1) → decode cc pc = .ok (f b, 2)
def zD3 (n : Nat) (f : Nat → Instr) : Prop := ∀ (cc : ByteArray) (pc b c : Nat), zdu cc pc = .ok (n, pc + 1) → zdu cc (pc + 1) = .ok (b, pc + 1 + 1) → zdu cc (pc + 1 + 1) = .ok (c, pc + 1 + 2) → decode cc pc = .ok (f (b * 256 + c), 3)
def zD4 (n : Nat) (f : Int → Instr) : Prop := ∀ (cc : ByteArray) (pc b c : Nat), zdu cc pc = .ok (n, pc + 1) → zdu cc (pc + 1) = .ok (b, pc + 1 + 1) → zdu cc (pc + 1 + 1) = .ok (c, pc + 1 + 2) → decode cc pc = .ok (f (Jvm.ClassFile.Reader.signed 16 (b * 256 + c)), 3)
def zl1 (n : Nat) (I : Instr) (op : Nat) (i : Instr) (len : Nat) : Bool := Nat.beq op n && (Nat.beq len 1 && decide (i = I))
def zl2 (n : Nat) (f : Nat → Instr) (op : Nat) (r : List UInt8) (i : Instr) (len : Nat) : Bool := Nat.beq op n && (Nat.beq len 2 && (match r with | b :: _ => decide (i = f b.toNat) | [] => false))
def zl3 (n : Nat) (f : Nat → Instr) (op : Nat) (r : List UInt8) (i : Instr) (len : Nat) : Bool := Nat.beq op n && (Nat.beq len 3 && (match r with | b :: c :: _ => decide (i = f (b.toNat * 256 + c.toNat)) | _ => false))
def zl4 (n : Nat) (f : Int → Instr) (op : Nat) (r : List UInt8) (i : Instr) (len : Nat) : Bool := Nat.beq op n && (Nat.beq len 3 && (match r with | b :: c :: _ => decide (i = f (Jvm.ClassFile.Reader.signed 16 (b.toNat * 256 + c.toNat))) | _ => false))
def zl5 (op : Nat) (r : List UInt8) (i : Instr) (len : Nat) : Bool := Nat.beq op 16 && (Nat.beq len 2 && (match r with | b :: _ => decide (i = .bipush (Jvm.ClassFile.Reader.signed 8 b.toNat)) | [] => false))
def zl6 (op : Nat) (r : List UInt8) (i : Instr) (len : Nat) : Bool := Nat.beq op 132 && (Nat.beq len 3 && (match r with | b :: c :: _ => decide (i = .iinc b.toNat (Jvm.ClassFile.Reader.signed 8 c.toNat)) | _ => false))
section ZDL
variable {op len n : Nat} {a : UInt8} {r : List UInt8} {i : Instr}
theorem zl1_ok {I : Instr} (hD : zD1 n I) (h : zl1 n I a.toNat i len = true) : zdP (a :: r) i len := by
  intro cc pc hL
  obtain ⟨g1, g2⟩ := z_and h
  obtain ⟨g3, g4⟩ := z_and g2
  have h1 := Nat.eq_of_beq_eq_true g1
  have h2 := Nat.eq_of_beq_eq_true g3
  have h3 := of_decide_eq_true g4
  subst h2; subst h3
  have := zdb hL
  rw [h1] at this
  exact hD cc pc this
theorem zl2_ok {f : Nat → Instr} (hD : zD2 n f) (h : zl2 n f a.toNat r i len = true) : zdP (a :: r) i len := by
  intro cc pc hL
  obtain ⟨g1, g2⟩ := z_and h
  obtain ⟨g3, g4⟩ := z_and g2
  have h1 := Nat.eq_of_beq_eq_true g1
  have h2 := Nat.eq_of_beq_eq_true g3
  cases r with
  | nil => cases g4
  | cons b r =>
    have h3 := of_decide_eq_true g4
    subst h2; subst h3
    have := zdb hL
    rw [h1] at this
    exact hD cc pc _ this (zdb (zdn hL))
theorem zl3_ok {f : Nat → Instr} (hD : zD3 n f) (h : zl3 n f a.toNat r i len = true) : zdP (a :: r) i len := by
  intro cc pc hL
  obtain ⟨g1, g2⟩ := z_and h
  obtain ⟨g3, g4⟩ := z_and g2
  have h1 := Nat.eq_of_beq_eq_true g1
  have h2 := Nat.eq_of_beq_eq_true g3
  cases r with
  | nil => cases g4
  | cons b r => cases r with
    | nil => cases g4
    | cons c r =>
      have h3 := of_decide_eq_true g4
      subst h2; subst h3
      have := zdb hL
      rw [h1] at this
      exact hD cc pc _ _ this (zdb (zdn hL)) (zdb (zdn (zdn hL)))
theorem zl4_ok {f : Int → Instr} (hD : zD4 n f) (h : zl4 n f a.toNat r i len = true) : zdP (a :: r) i len := by
  intro cc pc hL
  obtain ⟨g1, g2⟩ := z_and h
  obtain ⟨g3, g4⟩ := z_and g2
  have h1 := Nat.eq_of_beq_eq_true g1
  have h2 := Nat.eq_of_beq_eq_true g3
  cases r with
  | nil => cases g4
  | cons b r => cases r with
    | nil => cases g4
    | cons c r =>
      have h3 := of_decide_eq_true g4
      subst h2; subst h3
      have := zdb hL
      rw [h1] at this
      exact hD cc pc _ _ this (zdb (zdn hL)) (zdb (zdn (zdn hL)))
theorem zl5_ok (h : zl5 a.toNat r i len = true) : zdP (a :: r) i len := by
  intro cc pc hL
  obtain ⟨g1, g2⟩ := z_and h
  obtain ⟨g3, g4⟩ := z_and g2
  have h1 := Nat.eq_of_beq_eq_true g1
  have h2 := Nat.eq_of_beq_eq_true g3
  cases r with
  | nil => cases g4
  | cons b r =>
    have h3 := of_decide_eq_true g4
    subst h2; subst h3
    have := zdb hL
    rw [h1] at this
    exact zdk rfl this (zd_s1 (f := .bipush) (zdb (zdn hL)))
theorem zl6_ok (h : zl6 a.toNat r i len = true) : zdP (a :: r) i len := by
  intro cc pc hL
  obtain ⟨g1, g2⟩ := z_and h
  obtain ⟨g3, g4⟩ := z_and g2
  have h1 := Nat.eq_of_beq_eq_true g1
  have h2 := Nat.eq_of_beq_eq_true g3
  cases r with
  | nil => cases g4
  | cons b r => cases r with
    | nil => cases g4
    | cons c r =>
      have h3 := of_decide_eq_true g4
      subst h2; subst h3
      have := zdb hL
      rw [h1] at this
      exact zdk rfl this (zd_ii (zdb (zdn hL)) (zdb (zdn (zdn hL))))
theorem zcd {c x y : Bool} {P : Prop} (h : cond c x y = true) (h1 : x = true → P) (h2 : y = true → P) : P := by
  cases c with
  | true => exact h1 h
  | false => exact h2 h
end ZDL
theorem zD_1 : zD1 1 (.aconst_null) := fun _ _ h => zdk rfl h rfl
theorem zD_2 : zD1 2 (.iconst (-1)) := fun _ _ h => zdk rfl h rfl
theorem zD_3 : zD1 3 (.iconst 0) := fun _ _ h => zdk rfl h rfl
theorem zD_4 : zD1 4 (.iconst 1) := fun _ _ h => zdk rfl h rfl
theorem zD_5 : zD1 5 (.iconst 2) := fun _ _ h => zdk rfl h rfl
theorem zD_6 : zD1 6 (.iconst 3) := fun _ _ h => zdk rfl h rfl
theorem zD_7 : zD1 7 (.iconst 4) := fun _ _ h => zdk rfl h rfl
theorem zD_8 : zD1 8 (.iconst 5) := fun _ _ h => zdk rfl h rfl
theorem zD_9 : zD1 9 (.lconst 0) := fun _ _ h => zdk rfl h rfl
theorem zD_10 : zD1 10 (.lconst 1) := fun _ _ h => zdk rfl h rfl
theorem zD_11 : zD1 11 (.fconst 0) := fun _ _ h => zdk rfl h rfl
theorem zD_14 : zD1 14 (.dconst 0) := fun _ _ h => zdk rfl h rfl
theorem zD_26 : zD1 26 (.iload_n 0) := fun _ _ h => zdk rfl h rfl
theorem zD_30 : zD1 30 (.lload_n 0) := fun _ _ h => zdk rfl h rfl
theorem zD_34 : zD1 34 (.fload_n 0) := fun _ _ h => zdk rfl h rfl
theorem zD_38 : zD1 38 (.dload_n 0) := fun _ _ h => zdk rfl h rfl
theorem zD_42 : zD1 42 (.aload_n 0) := fun _ _ h => zdk rfl h rfl
theorem zD_59 : zD1 59 (.istore_n 0) := fun _ _ h => zdk rfl h rfl
theorem zD_63 : zD1 63 (.lstore_n 0) := fun _ _ h => zdk rfl h rfl
theorem zD_67 : zD1 67 (.fstore_n 0) := fun _ _ h => zdk rfl h rfl
theorem zD_71 : zD1 71 (.dstore_n 0) := fun _ _ h => zdk rfl h rfl
theorem zD_75 : zD1 75 (.astore_n 0) := fun _ _ h => zdk rfl h rfl
theorem zD_27 : zD1 27 (.iload_n 1) := fun _ _ h => zdk rfl h rfl
theorem zD_31 : zD1 31 (.lload_n 1) := fun _ _ h => zdk rfl h rfl
theorem zD_35 : zD1 35 (.fload_n 1) := fun _ _ h => zdk rfl h rfl
theorem zD_39 : zD1 39 (.dload_n 1) := fun _ _ h => zdk rfl h rfl
theorem zD_43 : zD1 43 (.aload_n 1) := fun _ _ h => zdk rfl h rfl
theorem zD_60 : zD1 60 (.istore_n 1) := fun _ _ h => zdk rfl h rfl
theorem zD_64 : zD1 64 (.lstore_n 1) := fun _ _ h => zdk rfl h rfl
theorem zD_68 : zD1 68 (.fstore_n 1) := fun _ _ h => zdk rfl h rfl
theorem zD_72 : zD1 72 (.dstore_n 1) := fun _ _ h => zdk rfl h rfl
theorem zD_76 : zD1 76 (.astore_n 1) := fun _ _ h => zdk rfl h rfl
theorem zD_28 : zD1 28 (.iload_n 2) := fun _ _ h => zdk rfl h rfl
theorem zD_32 : zD1 32 (.lload_n 2) := fun _ _ h => zdk rfl h rfl
theorem zD_36 : zD1 36 (.fload_n 2) := fun _ _ h => zdk rfl h rfl
theorem zD_40 : zD1 40 (.dload_n 2) := fun _ _ h => zdk rfl h rfl
theorem zD_44 : zD1 44 (.aload_n 2) := fun _ _ h => zdk rfl h rfl
theorem zD_61 : zD1 61 (.istore_n 2) := fun _ _ h => zdk rfl h rfl
theorem zD_65 : zD1 65 (.lstore_n 2) := fun _ _ h => zdk rfl h rfl
theorem zD_69 : zD1 69 (.fstore_n 2) := fun _ _ h => zdk rfl h rfl
theorem zD_73 : zD1 73 (.dstore_n 2) := fun _ _ h => zdk rfl h rfl
theorem zD_77 : zD1 77 (.astore_n 2) := fun _ _ h => zdk rfl h rfl
theorem zD_29 : zD1 29 (.iload_n 3) := fun _ _ h => zdk rfl h rfl
theorem zD_33 : zD1 33 (.lload_n 3) := fun _ _ h => zdk rfl h rfl
theorem zD_37 : zD1 37 (.fload_n 3) := fun _ _ h => zdk rfl h rfl
theorem zD_41 : zD1 41 (.dload_n 3) := fun _ _ h => zdk rfl h rfl
theorem zD_45 : zD1 45 (.aload_n 3) := fun _ _ h => zdk rfl h rfl
theorem zD_62 : zD1 62 (.istore_n 3) := fun _ _ h => zdk rfl h rfl
theorem zD_66 : zD1 66 (.lstore_n 3) := fun _ _ h => zdk rfl h rfl
theorem zD_70 : zD1 70 (.fstore_n 3) := fun _ _ h => zdk rfl h rfl
theorem zD_74 : zD1 74 (.dstore_n 3) := fun _ _ h => zdk rfl h rfl
theorem zD_78 : zD1 78 (.astore_n 3) := fun _ _ h => zdk rfl h rfl
theorem zD_46 : zD1 46 (.iaload) := fun _ _ h => zdk rfl h rfl
theorem zD_47 : zD1 47 (.laload) := fun _ _ h => zdk rfl h rfl
theorem zD_50 : zD1 50 (.aaload) := fun _ _ h => zdk rfl h rfl
theorem zD_51 : zD1 51 (.baload) := fun _ _ h => zdk rfl h rfl
theorem zD_52 : zD1 52 (.caload) := fun _ _ h => zdk rfl h rfl
theorem zD_79 : zD1 79 (.iastore) := fun _ _ h => zdk rfl h rfl
theorem zD_80 : zD1 80 (.lastore) := fun _ _ h => zdk rfl h rfl
theorem zD_83 : zD1 83 (.aastore) := fun _ _ h => zdk rfl h rfl
theorem zD_84 : zD1 84 (.bastore) := fun _ _ h => zdk rfl h rfl
theorem zD_85 : zD1 85 (.castore) := fun _ _ h => zdk rfl h rfl
theorem zD_87 : zD1 87 (.pop) := fun _ _ h => zdk rfl h rfl
theorem zD_89 : zD1 89 (.dup) := fun _ _ h => zdk rfl h rfl
theorem zD_92 : zD1 92 (.dup2) := fun _ _ h => zdk rfl h rfl
theorem zD_96 : zD1 96 (.iadd) := fun _ _ h => zdk rfl h rfl
theorem zD_97 : zD1 97 (.ladd) := fun _ _ h => zdk rfl h rfl
theorem zD_100 : zD1 100 (.isub) := fun _ _ h => zdk rfl h rfl
theorem zD_101 : zD1 101 (.lsub) := fun _ _ h => zdk rfl h rfl
theorem zD_104 : zD1 104 (.imul) := fun _ _ h => zdk rfl h rfl
theorem zD_105 : zD1 105 (.lmul) := fun _ _ h => zdk rfl h rfl
theorem zD_108 : zD1 108 (.idiv) := fun _ _ h => zdk rfl h rfl
theorem zD_109 : zD1 109 (.ldiv) := fun _ _ h => zdk rfl h rfl
theorem zD_110 : zD1 110 (.fdiv) := fun _ _ h => zdk rfl h rfl
theorem zD_111 : zD1 111 (.ddiv) := fun _ _ h => zdk rfl h rfl
theorem zD_112 : zD1 112 (.irem) := fun _ _ h => zdk rfl h rfl
theorem zD_120 : zD1 120 (.ishl) := fun _ _ h => zdk rfl h rfl
theorem zD_122 : zD1 122 (.ishr) := fun _ _ h => zdk rfl h rfl
theorem zD_124 : zD1 124 (.iushr) := fun _ _ h => zdk rfl h rfl
theorem zD_126 : zD1 126 (.iand) := fun _ _ h => zdk rfl h rfl
theorem zD_128 : zD1 128 (.ior) := fun _ _ h => zdk rfl h rfl
theorem zD_133 : zD1 133 (.i2l) := fun _ _ h => zdk rfl h rfl
theorem zD_135 : zD1 135 (.i2d) := fun _ _ h => zdk rfl h rfl
theorem zD_137 : zD1 137 (.l2f) := fun _ _ h => zdk rfl h rfl
theorem zD_141 : zD1 141 (.f2d) := fun _ _ h => zdk rfl h rfl
theorem zD_145 : zD1 145 (.i2b) := fun _ _ h => zdk rfl h rfl
theorem zD_146 : zD1 146 (.i2c) := fun _ _ h => zdk rfl h rfl
theorem zD_148 : zD1 148 (.lcmp) := fun _ _ h => zdk rfl h rfl
theorem zD_172 : zD1 172 (.ireturn) := fun _ _ h => zdk rfl h rfl
theorem zD_173 : zD1 173 (.lreturn) := fun _ _ h => zdk rfl h rfl
theorem zD_174 : zD1 174 (.freturn) := fun _ _ h => zdk rfl h rfl
theorem zD_175 : zD1 175 (.dreturn) := fun _ _ h => zdk rfl h rfl
theorem zD_176 : zD1 176 (.areturn) := fun _ _ h => zdk rfl h rfl
theorem zD_177 : zD1 177 (.return_) := fun _ _ h => zdk rfl h rfl
theorem zD_190 : zD1 190 (.arraylength) := fun _ _ h => zdk rfl h rfl
theorem zD_149 : zD1 149 (.fcmp .l) := fun _ _ h => zdk rfl h rfl
theorem zD_150 : zD1 150 (.fcmp .g) := fun _ _ h => zdk rfl h rfl
theorem zD_151 : zD1 151 (.dcmp .l) := fun _ _ h => zdk rfl h rfl
theorem zD_152 : zD1 152 (.dcmp .g) := fun _ _ h => zdk rfl h rfl
theorem zD_18 : zD2 18 .ldc := fun _ _ _ h h1 => zdk rfl h (zd_u1 (f := .ldc) h1)
theorem zD_21 : zD2 21 .iload := fun _ _ _ h h1 => zdk rfl h (zd_u1 (f := .iload) h1)
theorem zD_22 : zD2 22 .lload := fun _ _ _ h h1 => zdk rfl h (zd_u1 (f := .lload) h1)
theorem zD_23 : zD2 23 .fload := fun _ _ _ h h1 => zdk rfl h (zd_u1 (f := .fload) h1)
theorem zD_24 : zD2 24 .dload := fun _ _ _ h h1 => zdk rfl h (zd_u1 (f := .dload) h1)
theorem zD_25 : zD2 25 .aload := fun _ _ _ h h1 => zdk rfl h (zd_u1 (f := .aload) h1)
theorem zD_54 : zD2 54 .istore := fun _ _ _ h h1 => zdk rfl h (zd_u1 (f := .istore) h1)
theorem zD_55 : zD2 55 .lstore := fun _ _ _ h h1 => zdk rfl h (zd_u1 (f := .lstore) h1)
theorem zD_56 : zD2 56 .fstore := fun _ _ _ h h1 => zdk rfl h (zd_u1 (f := .fstore) h1)
theorem zD_57 : zD2 57 .dstore := fun _ _ _ h h1 => zdk rfl h (zd_u1 (f := .dstore) h1)
theorem zD_58 : zD2 58 .astore := fun _ _ _ h h1 => zdk rfl h (zd_u1 (f := .astore) h1)
theorem zD_19 : zD3 19 .ldc_w := fun _ _ _ _ h h1 h2 => zdk rfl h (zd_u2 (f := .ldc_w) h1 h2)
theorem zD_20 : zD3 20 .ldc2_w := fun _ _ _ _ h h1 h2 => zdk rfl h (zd_u2 (f := .ldc2_w) h1 h2)
theorem zD_178 : zD3 178 .getstatic := fun _ _ _ _ h h1 h2 => zdk rfl h (zd_u2 (f := .getstatic) h1 h2)
theorem zD_180 : zD3 180 .getfield := fun _ _ _ _ h h1 h2 => zdk rfl h (zd_u2 (f := .getfield) h1 h2)
theorem zD_181 : zD3 181 .putfield := fun _ _ _ _ h h1 h2 => zdk rfl h (zd_u2 (f := .putfield) h1 h2)
theorem zD_182 : zD3 182 .invokevirtual := fun _ _ _ _ h h1 h2 => zdk rfl h (zd_u2 (f := .invokevirtual) h1 h2)
theorem zD_183 : zD3 183 .invokespecial := fun _ _ _ _ h h1 h2 => zdk rfl h (zd_u2 (f := .invokespecial) h1 h2)
theorem zD_184 : zD3 184 .invokestatic := fun _ _ _ _ h h1 h2 => zdk rfl h (zd_u2 (f := .invokestatic) h1 h2)
theorem zD_187 : zD3 187 .new := fun _ _ _ _ h h1 h2 => zdk rfl h (zd_u2 (f := .new) h1 h2)
theorem zD_189 : zD3 189 .anewarray := fun _ _ _ _ h h1 h2 => zdk rfl h (zd_u2 (f := .anewarray) h1 h2)
theorem zD_17 : zD4 17 (fun x => .sipush x) := fun _ _ _ _ h h1 h2 => zdk rfl h (zd_s2 (f := fun x => .sipush x) h1 h2)
theorem zD_166 : zD4 166 (fun x => .if_acmp .ne x) := fun _ _ _ _ h h1 h2 => zdk rfl h (zd_s2 (f := fun x => .if_acmp .ne x) h1 h2)
theorem zD_167 : zD4 167 (fun x => .goto x) := fun _ _ _ _ h h1 h2 => zdk rfl h (zd_s2 (f := fun x => .goto x) h1 h2)
theorem zD_198 : zD4 198 (fun x => .ifnull x) := fun _ _ _ _ h h1 h2 => zdk rfl h (zd_s2 (f := fun x => .ifnull x) h1 h2)
theorem zD_199 : zD4 199 (fun x => .ifnonnull x) := fun _ _ _ _ h h1 h2 => zdk rfl h (zd_s2 (f := fun x => .ifnonnull x) h1 h2)
theorem zD_153 : zD4 153 (fun x => .ifCond .eq x) := fun _ _ _ _ h h1 h2 => zdk rfl h (zd_s2 (f := fun x => .ifCond .eq x) h1 h2)
theorem zD_159 : zD4 159 (fun x => .if_icmp .eq x) := fun _ _ _ _ h h1 h2 => zdk rfl h (zd_s2 (f := fun x => .if_icmp .eq x) h1 h2)
theorem zD_154 : zD4 154 (fun x => .ifCond .ne x) := fun _ _ _ _ h h1 h2 => zdk rfl h (zd_s2 (f := fun x => .ifCond .ne x) h1 h2)
theorem zD_160 : zD4 160 (fun x => .if_icmp .ne x) := fun _ _ _ _ h h1 h2 => zdk rfl h (zd_s2 (f := fun x => .if_icmp .ne x) h1 h2)
theorem zD_155 : zD4 155 (fun x => .ifCond .lt x) := fun _ _ _ _ h h1 h2 => zdk rfl h (zd_s2 (f := fun x => .ifCond .lt x) h1 h2)
theorem zD_161 : zD4 161 (fun x => .if_icmp .lt x) := fun _ _ _ _ h h1 h2 => zdk rfl h (zd_s2 (f := fun x => .if_icmp .lt x) h1 h2)
theorem zD_156 : zD4 156 (fun x => .ifCond .ge x) := fun _ _ _ _ h h1 h2 => zdk rfl h (zd_s2 (f := fun x => .ifCond .ge x) h1 h2)
theorem zD_162 : zD4 162 (fun x => .if_icmp .ge x) := fun _ _ _ _ h h1 h2 => zdk rfl h (zd_s2 (f := fun x => .if_icmp .ge x) h1 h2)
theorem zD_157 : zD4 157 (fun x => .ifCond .gt x) := fun _ _ _ _ h h1 h2 => zdk rfl h (zd_s2 (f := fun x => .ifCond .gt x) h1 h2)
theorem zD_163 : zD4 163 (fun x => .if_icmp .gt x) := fun _ _ _ _ h h1 h2 => zdk rfl h (zd_s2 (f := fun x => .if_icmp .gt x) h1 h2)
theorem zD_158 : zD4 158 (fun x => .ifCond .le x) := fun _ _ _ _ h h1 h2 => zdk rfl h (zd_s2 (f := fun x => .ifCond .le x) h1 h2)
theorem zD_164 : zD4 164 (fun x => .if_icmp .le x) := fun _ _ _ _ h h1 h2 => zdk rfl h (zd_s2 (f := fun x => .if_icmp .le x) h1 h2)
def zdt (op : Nat) (r : List UInt8) (i : Instr) (len : Nat) : Bool := cond (Nat.ble op 75) (cond (Nat.ble op 37) (cond (Nat.ble op 20) (cond (Nat.ble op 8) (cond (Nat.ble op 4) (cond (Nat.ble op 2) (cond (Nat.ble op 1) (zl1 1 (.aconst_null) op i len) (zl1 2 (.iconst (-1)) op i len)) (cond (Nat.ble op 3) (zl1 3 (.iconst 0) op i len) (zl1 4 (.iconst 1) op i len))) (cond (Nat.ble op 6) (cond (Nat.ble op 5) (zl1 5 (.iconst 2) op i len) (zl1 6 (.iconst 3) op i len)) (cond (Nat.ble op 7) (zl1 7 (.iconst 4) op i len) (zl1 8 (.iconst 5) op i len)))) (cond (Nat.ble op 14) (cond (Nat.ble op 10) (cond (Nat.ble op 9) (zl1 9 (.lconst 0) op i len) (zl1 10 (.lconst 1) op i len)) (cond (Nat.ble op 11) (zl1 11 (.fconst 0) op i len) (zl1 14 (.dconst 0) op i len))) (cond (Nat.ble op 17) (cond (Nat.ble op 16) (zl5 op r i len) (zl4 17 (fun x => .sipush x) op r i len)) (cond (Nat.ble op 18) (zl2 18 .ldc op r i len) (cond (Nat.ble op 19) (zl3 19 .ldc_w op r i len) (zl3 20 .ldc2_w op r i len)))))) (cond (Nat.ble op 28) (cond (Nat.ble op 24) (cond (Nat.ble op 22) (cond (Nat.ble op 21) (zl2 21 .iload op r i len) (zl2 22 .lload op r i len)) (cond (Nat.ble op 23) (zl2 23 .fload op r i len) (zl2 24 .dload op r i len))) (cond (Nat.ble op 26) (cond (Nat.ble op 25) (zl2 25 .aload op r i len) (zl1 26 (.iload_n 0) op i len)) (cond (Nat.ble op 27) (zl1 27 (.iload_n 1) op i len) (zl1 28 (.iload_n 2) op i len)))) (cond (Nat.ble op 32) (cond (Nat.ble op 30) (cond (Nat.ble op 29) (zl1 29 (.iload_n 3) op i len) (zl1 30 (.lload_n 0) op i len)) (cond (Nat.ble op 31) (zl1 31 (.lload_n 1) op i len) (zl1 32 (.lload_n 2) op i len))) (cond (Nat.ble op 34) (cond (Nat.ble op 33) (zl1 33 (.lload_n 3) op i len) (zl1 34 (.fload_n 0) op i len)) (cond (Nat.ble op 35) (zl1 35 (.fload_n 1) op i len) (cond (Nat.ble op 36) (zl1 36 (.fload_n 2) op i len) (zl1 37 (.fload_n 3) op i len))))))) (cond (Nat.ble op 57) (cond (Nat.ble op 45) (cond (Nat.ble op 41) (cond (Nat.ble op 39) (cond (Nat.ble op 38) (zl1 38 (.dload_n 0) op i len) (zl1 39 (.dload_n 1) op i len)) (cond (Nat.ble op 40) (zl1 40 (.dload_n 2) op i len) (zl1 41 (.dload_n 3) op i len))) (cond (Nat.ble op 43) (cond (Nat.ble op 42) (zl1 42 (.aload_n 0) op i len) (zl1 43 (.aload_n 1) op i len)) (cond (Nat.ble op 44) (zl1 44 (.aload_n 2) op i len) (zl1 45 (.aload_n 3) op i len)))) (cond (Nat.ble op 51) (cond (Nat.ble op 47) (cond (Nat.ble op 46) (zl1 46 (.iaload) op i len) (zl1 47 (.laload) op i len)) (cond (Nat.ble op 50) (zl1 50 (.aaload) op i len) (zl1 51 (.baload) op i len))) (cond (Nat.ble op 54) (cond (Nat.ble op 52) (zl1 52 (.caload) op i len) (zl2 54 .istore op r i len)) (cond (Nat.ble op 55) (zl2 55 .lstore op r i len) (cond (Nat.ble op 56) (zl2 56 .fstore op r i len) (zl2 57 .dstore op r i len)))))) (cond (Nat.ble op 66) (cond (Nat.ble op 61) (cond (Nat.ble op 59) (cond (Nat.ble op 58) (zl2 58 .astore op r i len) (zl1 59 (.istore_n 0) op i len)) (cond (Nat.ble op 60) (zl1 60 (.istore_n 1) op i len) (zl1 61 (.istore_n 2) op i len))) (cond (Nat.ble op 63) (cond (Nat.ble op 62) (zl1 62 (.istore_n 3) op i len) (zl1 63 (.lstore_n 0) op i len)) (cond (Nat.ble op 64) (zl1 64 (.lstore_n 1) op i len) (cond (Nat.ble op 65) (zl1 65 (.lstore_n 2) op i len) (zl1 66 (.lstore_n 3) op i len))))) (cond (Nat.ble op 70) (cond (Nat.ble op 68) (cond (Nat.ble op 67) (zl1 67 (.fstore_n 0) op i len) (zl1 68 (.fstore_n 1) op i len)) (cond (Nat.ble op 69) (zl1 69 (.fstore_n 2) op i len) (zl1 70 (.fstore_n 3) op i len))) (cond (Nat.ble op 72) (cond (Nat.ble op 71) (zl1 71 (.dstore_n 0) op i len) (zl1 72 (.dstore_n 1) op i len)) (cond (Nat.ble op 73) (zl1 73 (.dstore_n 2) op i len) (cond (Nat.ble op 74) (zl1 74 (.dstore_n 3) op i len) (zl1 75 (.astore_n 0) op i len)))))))) (cond (Nat.ble op 148) (cond (Nat.ble op 105) (cond (Nat.ble op 85) (cond (Nat.ble op 79) (cond (Nat.ble op 77) (cond (Nat.ble op 76) (zl1 76 (.astore_n 1) op i len) (zl1 77 (.astore_n 2) op i len)) (cond (Nat.ble op 78) (zl1 78 (.astore_n 3) op i len) (zl1 79 (.iastore) op i len))) (cond (Nat.ble op 83) (cond (Nat.ble op 80) (zl1 80 (.lastore) op i len) (zl1 83 (.aastore) op i len)) (cond (Nat.ble op 84) (zl1 84 (.bastore) op i len) (zl1 85 (.castore) op i len)))) (cond (Nat.ble op 96) (cond (Nat.ble op 89) (cond (Nat.ble op 87) (zl1 87 (.pop) op i len) (zl1 89 (.dup) op i len)) (cond (Nat.ble op 92) (zl1 92 (.dup2) op i len) (zl1 96 (.iadd) op i len))) (cond (Nat.ble op 100) (cond (Nat.ble op 97) (zl1 97 (.ladd) op i len) (zl1 100 (.isub) op i len)) (cond (Nat.ble op 101) (zl1 101 (.lsub) op i len) (cond (Nat.ble op 104) (zl1 104 (.imul) op i len) (zl1 105 (.lmul) op i len)))))) (cond (Nat.ble op 126) (cond (Nat.ble op 111) (cond (Nat.ble op 109) (cond (Nat.ble op 108) (zl1 108 (.idiv) op i len) (zl1 109 (.ldiv) op i len)) (cond (Nat.ble op 110) (zl1 110 (.fdiv) op i len) (zl1 111 (.ddiv) op i len))) (cond (Nat.ble op 120) (cond (Nat.ble op 112) (zl1 112 (.irem) op i len) (zl1 120 (.ishl) op i len)) (cond (Nat.ble op 122) (zl1 122 (.ishr) op i len) (cond (Nat.ble op 124) (zl1 124 (.iushr) op i len) (zl1 126 (.iand) op i len))))) (cond (Nat.ble op 135) (cond (Nat.ble op 132) (cond (Nat.ble op 128) (zl1 128 (.ior) op i len) (zl6 op r i len)) (cond (Nat.ble op 133) (zl1 133 (.i2l) op i len) (zl1 135 (.i2d) op i len))) (cond (Nat.ble op 141) (cond (Nat.ble op 137) (zl1 137 (.l2f) op i len) (zl1 141 (.f2d) op i len)) (cond (Nat.ble op 145) (zl1 145 (.i2b) op i len) (cond (Nat.ble op 146) (zl1 146 (.i2c) op i len) (zl1 148 (.lcmp) op i len))))))) (cond (Nat.ble op 166) (cond (Nat.ble op 156) (cond (Nat.ble op 152) (cond (Nat.ble op 150) (cond (Nat.ble op 149) (zl1 149 (.fcmp .l) op i len) (zl1 150 (.fcmp .g) op i len)) (cond (Nat.ble op 151) (zl1 151 (.dcmp .l) op i len) (zl1 152 (.dcmp .g) op i len))) (cond (Nat.ble op 154) (cond (Nat.ble op 153) (zl4 153 (fun x => .ifCond .eq x) op r i len) (zl4 154 (fun x => .ifCond .ne x) op r i len)) (cond (Nat.ble op 155) (zl4 155 (fun x => .ifCond .lt x) op r i len) (zl4 156 (fun x => .ifCond .ge x) op r i len)))) (cond (Nat.ble op 160) (cond (Nat.ble op 158) (cond (Nat.ble op 157) (zl4 157 (fun x => .ifCond .gt x) op r i len) (zl4 158 (fun x => .ifCond .le x) op r i len)) (cond (Nat.ble op 159) (zl4 159 (fun x => .if_icmp .eq x) op r i len) (zl4 160 (fun x => .if_icmp .ne x) op r i len))) (cond (Nat.ble op 162) (cond (Nat.ble op 161) (zl4 161 (fun x => .if_icmp .lt x) op r i len) (zl4 162 (fun x => .if_icmp .ge x) op r i len)) (cond (Nat.ble op 163) (zl4 163 (fun x => .if_icmp .gt x) op r i len) (cond (Nat.ble op 164) (zl4 164 (fun x => .if_icmp .le x) op r i len) (zl4 166 (fun x => .if_acmp .ne x) op r i len)))))) (cond (Nat.ble op 180) (cond (Nat.ble op 174) (cond (Nat.ble op 172) (cond (Nat.ble op 167) (zl4 167 (fun x => .goto x) op r i len) (zl1 172 (.ireturn) op i len)) (cond (Nat.ble op 173) (zl1 173 (.lreturn) op i len) (zl1 174 (.freturn) op i len))) (cond (Nat.ble op 176) (cond (Nat.ble op 175) (zl1 175 (.dreturn) op i len) (zl1 176 (.areturn) op i len)) (cond (Nat.ble op 177) (zl1 177 (.return_) op i len) (cond (Nat.ble op 178) (zl3 178 .getstatic op r i len) (zl3 180 .getfield op r i len))))) (cond (Nat.ble op 184) (cond (Nat.ble op 182) (cond (Nat.ble op 181) (zl3 181 .putfield op r i len) (zl3 182 .invokevirtual op r i len)) (cond (Nat.ble op 183) (zl3 183 .invokespecial op r i len) (zl3 184 .invokestatic op r i len))) (cond (Nat.ble op 189) (cond (Nat.ble op 187) (zl3 187 .new op r i len) (zl3 189 .anewarray op r i len)) (cond (Nat.ble op 190) (zl1 190 (.arraylength) op i len) (cond (Nat.ble op 198) (zl4 198 (fun x => .ifnull x) op r i len) (zl4 199 (fun x => .ifnonnull x) op r i len))))))))
set_option maxRecDepth 100000 in
theorem zdt_ok {a : UInt8} {r : List UInt8} {i : Instr} {len : Nat} (h : zdt a.toNat r i len = true) : zdP (a :: r) i len := zcd h (fun h => zcd h (fun h => zcd h (fun h => zcd h (fun h => zcd h (fun h => zcd h (fun h => zcd h (fun h => zl1_ok zD_1 h) (fun h => zl1_ok zD_2 h)) (fun h => zcd h (fun h => zl1_ok zD_3 h) (fun h => zl1_ok zD_4 h))) (fun h => zcd h (fun h => zcd h (fun h => zl1_ok zD_5 h) (fun h => zl1_ok zD_6 h)) (fun h => zcd h (fun h => zl1_ok zD_7 h) (fun h => zl1_ok zD_8 h)))) (fun h => zcd h (fun h => zcd h (fun h => zcd h (fun h => zl1_ok zD_9 h) (fun h => zl1_ok zD_10 h)) (fun h => zcd h (fun h => zl1_ok zD_11 h) (fun h => zl1_ok zD_14 h))) (fun h => zcd h (fun h => zcd h (fun h => zl5_ok h) (fun h => zl4_ok zD_17 h)) (fun h => zcd h (fun h => zl2_ok zD_18 h) (fun h => zcd h (fun h => zl3_ok zD_19 h) (fun h => zl3_ok zD_20 h)))))) (fun h => zcd h (fun h => zcd h (fun h => zcd h (fun h => zcd h (fun h => zl2_ok zD_21 h) (fun h => zl2_ok zD_22 h)) (fun h => zcd h (fun h => zl2_ok zD_23 h) (fun h => zl2_ok zD_24 h))) (fun h => zcd h (fun h => zcd h (fun h => zl2_ok zD_25 h) (fun h => zl1_ok zD_26 h)) (fun h => zcd h (fun h => zl1_ok zD_27 h) (fun h => zl1_ok zD_28 h)))) (fun h => zcd h (fun h => zcd h (fun h => zcd h (fun h => zl1_ok zD_29 h) (fun h => zl1_ok zD_30 h)) (fun h => zcd h (fun h => zl1_ok zD_31 h) (fun h => zl1_ok zD_32 h))) (fun h => zcd h (fun h => zcd h (fun h => zl1_ok zD_33 h) (fun h => zl1_ok zD_34 h)) (fun h => zcd h (fun h => zl1_ok zD_35 h) (fun h => zcd h (fun h => zl1_ok zD_36 h) (fun h => zl1_ok zD_37 h))))))) (fun h => zcd h (fun h => zcd h (fun h => zcd h (fun h => zcd h (fun h => zcd h (fun h => zl1_ok zD_38 h) (fun h => zl1_ok zD_39 h)) (fun h => zcd h (fun h => zl1_ok zD_40 h) (fun h => zl1_ok zD_41 h))) (fun h => zcd h (fun h => zcd h (fun h => zl1_ok zD_42 h) (fun h => zl1_ok zD_43 h)) (fun h => zcd h (fun h => zl1_ok zD_44 h) (fun h => zl1_ok zD_45 h)))) (fun h => zcd h (fun h => zcd h (fun h => zcd h (fun h => zl1_ok zD_46 h) (fun h => zl1_ok zD_47 h)) (fun h => zcd h (fun h => zl1_ok zD_50 h) (fun h => zl1_ok zD_51 h))) (fun h => zcd h (fun h => zcd h (fun h => zl1_ok zD_52 h) (fun h => zl2_ok zD_54 h)) (fun h => zcd h (fun h => zl2_ok zD_55 h) (fun h => zcd h (fun h => zl2_ok zD_56 h) (fun h => zl2_ok zD_57 h)))))) (fun h => zcd h (fun h => zcd h (fun h => zcd h (fun h => zcd h (fun h => zl2_ok zD_58 h) (fun h => zl1_ok zD_59 h)) (fun h => zcd h (fun h => zl1_ok zD_60 h) (fun h => zl1_ok zD_61 h))) (fun h => zcd h (fun h => zcd h (fun h => zl1_ok zD_62 h) (fun h => zl1_ok zD_63 h)) (fun h => zcd h (fun h => zl1_ok zD_64 h) (fun h => zcd h (fun h => zl1_ok zD_65 h) (fun h => zl1_ok zD_66 h))))) (fun h => zcd h (fun h => zcd h (fun h => zcd h (fun h => zl1_ok zD_67 h) (fun h => zl1_ok zD_68 h)) (fun h => zcd h (fun h => zl1_ok zD_69 h) (fun h => zl1_ok zD_70 h))) (fun h => zcd h (fun h => zcd h (fun h => zl1_ok zD_71 h) (fun h => zl1_ok zD_72 h)) (fun h => zcd h (fun h => zl1_ok zD_73 h) (fun h => zcd h (fun h => zl1_ok zD_74 h) (fun h => zl1_ok zD_75 h)))))))) (fun h => zcd h (fun h => zcd h (fun h => zcd h (fun h => zcd h (fun h => zcd h (fun h => zcd h (fun h => zl1_ok zD_76 h) (fun h => zl1_ok zD_77 h)) (fun h => zcd h (fun h => zl1_ok zD_78 h) (fun h => zl1_ok zD_79 h))) (fun h => zcd h (fun h => zcd h (fun h => zl1_ok zD_80 h) (fun h => zl1_ok zD_83 h)) (fun h => zcd h (fun h => zl1_ok zD_84 h) (fun h => zl1_ok zD_85 h)))) (fun h => zcd h (fun h => zcd h (fun h => zcd h (fun h => zl1_ok zD_87 h) (fun h => zl1_ok zD_89 h)) (fun h => zcd h (fun h => zl1_ok zD_92 h) (fun h => zl1_ok zD_96 h))) (fun h => zcd h (fun h => zcd h (fun h => zl1_ok zD_97 h) (fun h => zl1_ok zD_100 h)) (fun h => zcd h (fun h => zl1_ok zD_101 h) (fun h => zcd h (fun h => zl1_ok zD_104 h) (fun h => zl1_ok zD_105 h)))))) (fun h => zcd h (fun h => zcd h (fun h => zcd h (fun h => zcd h (fun h => zl1_ok zD_108 h) (fun h => zl1_ok zD_109 h)) (fun h => zcd h (fun h => zl1_ok zD_110 h) (fun h => zl1_ok zD_111 h))) (fun h => zcd h (fun h => zcd h (fun h => zl1_ok zD_112 h) (fun h => zl1_ok zD_120 h)) (fun h => zcd h (fun h => zl1_ok zD_122 h) (fun h => zcd h (fun h => zl1_ok zD_124 h) (fun h => zl1_ok zD_126 h))))) (fun h => zcd h (fun h => zcd h (fun h => zcd h (fun h => zl1_ok zD_128 h) (fun h => zl6_ok h)) (fun h => zcd h (fun h => zl1_ok zD_133 h) (fun h => zl1_ok zD_135 h))) (fun h => zcd h (fun h => zcd h (fun h => zl1_ok zD_137 h) (fun h => zl1_ok zD_141 h)) (fun h => zcd h (fun h => zl1_ok zD_145 h) (fun h => zcd h (fun h => zl1_ok zD_146 h) (fun h => zl1_ok zD_148 h))))))) (fun h => zcd h (fun h => zcd h (fun h => zcd h (fun h => zcd h (fun h => zcd h (fun h => zl1_ok zD_149 h) (fun h => zl1_ok zD_150 h)) (fun h => zcd h (fun h => zl1_ok zD_151 h) (fun h => zl1_ok zD_152 h))) (fun h => zcd h (fun h => zcd h (fun h => zl4_ok zD_153 h) (fun h => zl4_ok zD_154 h)) (fun h => zcd h (fun h => zl4_ok zD_155 h) (fun h => zl4_ok zD_156 h)))) (fun h => zcd h (fun h => zcd h (fun h => zcd h (fun h => zl4_ok zD_157 h) (fun h => zl4_ok zD_158 h)) (fun h => zcd h (fun h => zl4_ok zD_159 h) (fun h => zl4_ok zD_160 h))) (fun h => zcd h (fun h => zcd h (fun h => zl4_ok zD_161 h) (fun h => zl4_ok zD_162 h)) (fun h => zcd h (fun h => zl4_ok zD_163 h) (fun h => zcd h (fun h => zl4_ok zD_164 h) (fun h => zl4_ok zD_166 h)))))) (fun h => zcd h (fun h => zcd h (fun h => zcd h (fun h => zcd h (fun h => zl4_ok zD_167 h) (fun h => zl1_ok zD_172 h)) (fun h => zcd h (fun h => zl1_ok zD_173 h) (fun h => zl1_ok zD_174 h))) (fun h => zcd h (fun h => zcd h (fun h => zl1_ok zD_175 h) (fun h => zl1_ok zD_176 h)) (fun h => zcd h (fun h => zl1_ok zD_177 h) (fun h => zcd h (fun h => zl3_ok zD_178 h) (fun h => zl3_ok zD_180 h))))) (fun h => zcd h (fun h => zcd h (fun h => zcd h (fun h => zl3_ok zD_181 h) (fun h => zl3_ok zD_182 h)) (fun h => zcd h (fun h => zl3_ok zD_183 h) (fun h => zl3_ok zD_184 h))) (fun h => zcd h (fun h => zcd h (fun h => zl3_ok zD_187 h) (fun h => zl3_ok zD_189 h)) (fun h => zcd h (fun h => zl1_ok zD_190 h) (fun h => zcd h (fun h => zl4_ok zD_198 h) (fun h => zl4_ok zD_199 h))))))))
def zwk : List zE → List UInt8 → Nat → Bool
  | [], _, _ => true
  | q :: l, L, p => Nat.ble p q.1 && (match L.drop (q.1 - p) with
    | [] => false
    | a :: r => zdt a.toNat r q.2.1 q.2.2.1 && zwk l (a :: r) q.1)
theorem zwk_ok {cc : ByteArray} : ∀ (l : List zE) (L : List UInt8) (p : Nat), cc.data.toList.drop p = L → zwk l L p = true → ∀ q ∈ l, decode cc q.1 = Except.ok (q.2.1, q.2.2.1) := by
  intro l
  induction l with
  | nil => intro L p _ _ q hq; exact absurd hq List.not_mem_nil
  | cons q0 l ih =>
    intro L p hL h
    rw [zwk] at h
    obtain ⟨h1, h2⟩ := z_and h
    have h1 : p ≤ q0.1 := Nat.le_of_ble_eq_true h1
    have hd : cc.data.toList.drop q0.1 = L.drop (q0.1 - p) := by
      rw [← hL, List.drop_drop]
      congr 1
      omega
    cases e : L.drop (q0.1 - p) with
    | nil => rw [e] at h2; cases h2
    | cons a r =>
      rw [e] at h2 hd
      obtain ⟨h3, h4⟩ := z_and h2
      exact List.forall_mem_cons.mpr ⟨zdt_ok h3 cc q0.1 hd, ih (a :: r) q0.1 hd h4⟩
theorem zdw {cc : ByteArray} {l : List zE} (h : zwk l cc.data.toList 0 = true) : ∀ q ∈ l, decode cc q.1 = Except.ok (q.2.1, q.2.2.1) := zwk_ok l cc.data.toList 0 rfl h
