section
/-! A new object's fields. -/
theorem zn_0 : ∀ j, j < 7 → defaultValue (za_fty 0 j) = vp_V (za_fresh 0) j := by decide +kernel
theorem zm_0 : ∀ v ∈ za_fresh 0, v = .null ∨ v = .int 0 := by decide +kernel
theorem zn_1 : ∀ j, j < 2 → defaultValue (za_fty 1 j) = vp_V (za_fresh 1) j := by decide +kernel
theorem zm_1 : ∀ v ∈ za_fresh 1, v = .null ∨ v = .int 0 := by decide +kernel
theorem zn_2 : ∀ j, j < 12 → defaultValue (za_fty 2 j) = vp_V (za_fresh 2) j := by decide +kernel
theorem zm_2 : ∀ v ∈ za_fresh 2, v = .null ∨ v = .int 0 := by decide +kernel
theorem zn_3 : ∀ j, j < 4 → defaultValue (za_fty 3 j) = vp_V (za_fresh 3) j := by decide +kernel
theorem zm_3 : ∀ v ∈ za_fresh 3, v = .null ∨ v = .int 0 := by decide +kernel
theorem zn_4 : ∀ j, j < 2 → defaultValue (za_fty 4 j) = vp_V (za_fresh 4) j := by decide +kernel
theorem zm_4 : ∀ v ∈ za_fresh 4, v = .null ∨ v = .int 0 := by decide +kernel
theorem zn_5 : ∀ j, j < 24 → defaultValue (za_fty 5 j) = vp_V (za_fresh 5) j := by decide +kernel
theorem zm_5 : ∀ v ∈ za_fresh 5, v = .null ∨ v = .int 0 := by decide +kernel
end
section
/-! THE CHECK in bulk: what the kernel can see of an entry by itself; the rest by a table of each class. -/
def z_lb (i : Instr) (len : Nat) : Bool := match i with
  | .iconst _ => Nat.beq len 1
  | .bipush _ => Nat.beq len 2
  | .sipush _ => Nat.beq len 3
  | .lconst _ => Nat.beq len 1
  | .fconst _ => Nat.beq len 1
  | .dconst _ => Nat.beq len 1
  | .aconst_null => Nat.beq len 1
  | .iload _ => Nat.beq len 2
  | .iload_n _ => Nat.beq len 1
  | .lload _ => Nat.beq len 2
  | .lload_n _ => Nat.beq len 1
  | .fload _ => Nat.beq len 2
  | .fload_n _ => Nat.beq len 1
  | .dload _ => Nat.beq len 2
  | .dload_n _ => Nat.beq len 1
  | .aload _ => Nat.beq len 2
  | .aload_n _ => Nat.beq len 1
  | .istore _ => Nat.beq len 2
  | .istore_n _ => Nat.beq len 1
  | .lstore _ => Nat.beq len 2
  | .lstore_n _ => Nat.beq len 1
  | .fstore _ => Nat.beq len 2
  | .fstore_n _ => Nat.beq len 1
  | .dstore _ => Nat.beq len 2
  | .dstore_n _ => Nat.beq len 1
  | .astore _ => Nat.beq len 2
  | .astore_n _ => Nat.beq len 1
  | .iinc _ _ => Nat.beq len 3
  | .iadd => Nat.beq len 1
  | .isub => Nat.beq len 1
  | .imul => Nat.beq len 1
  | .iand => Nat.beq len 1
  | .ior => Nat.beq len 1
  | .ishl => Nat.beq len 1
  | .ishr => Nat.beq len 1
  | .idiv => Nat.beq len 1
  | .irem => Nat.beq len 1
  | .ladd => Nat.beq len 1
  | .lsub => Nat.beq len 1
  | .lmul => Nat.beq len 1
  | .ldiv => Nat.beq len 1
  | .lcmp => Nat.beq len 1
  | .fcmp _ => Nat.beq len 1
  | .dcmp _ => Nat.beq len 1
  | .i2l => Nat.beq len 1
  | .i2b => Nat.beq len 1
  | .i2c => Nat.beq len 1
  | .i2d => Nat.beq len 1
  | .l2f => Nat.beq len 1
  | .f2d => Nat.beq len 1
  | .fdiv => Nat.beq len 1
  | .ddiv => Nat.beq len 1
  | .dup => Nat.beq len 1
  | .dup2 => Nat.beq len 1
  | .pop => Nat.beq len 1
  | .goto _ => Nat.beq len 3
  | .if_icmp _ _ => Nat.beq len 3
  | .ifCond _ _ => Nat.beq len 3
  | _ => true
theorem z_lb_ok {i : Instr} {len : Nat} (h : z_lb i len = true) : z_len i len := by
  cases i <;> first | exact Nat.eq_of_beq_eq_true h | exact True.intro
def z_tb (i : Instr) (pc a : Nat) : Bool := match i with
  | .goto off => decide ((pc : Int) + off = (a : Int))
  | .if_icmp _ off => decide ((pc : Int) + off = (a : Int))
  | .ifCond _ off => decide ((pc : Int) + off = (a : Int))
  | _ => true
theorem z_tb_ok {i : Instr} {pc a : Nat} (h : z_tb i pc a = true) : z_tgt i pc a := by
  cases i <;> first
    | exact True.intro
    | (have h2 : decide ((pc : Int) + _ = (a : Int)) = true := h
       have h3 := of_decide_eq_true h2
       exact h3)
def z_e1 (i : Instr) (len pc a : Nat) : Bool := match i with
  | .arraylength => Nat.beq len 1
  | .iaload => Nat.beq len 1
  | .baload => Nat.beq len 1
  | .caload => Nat.beq len 1
  | .laload => Nat.beq len 1
  | .aaload => Nat.beq len 1
  | .iastore => Nat.beq len 1
  | .bastore => Nat.beq len 1
  | .castore => Nat.beq len 1
  | .lastore => Nat.beq len 1
  | .aastore => Nat.beq len 1
  | .ifnull off => Nat.beq len 3 && decide ((pc : Int) + off = (a : Int))
  | .ifnonnull off => Nat.beq len 3 && decide ((pc : Int) + off = (a : Int))
  | .if_acmp _ off => Nat.beq len 3 && decide ((pc : Int) + off = (a : Int))
  | _ => false
theorem z_e1_ok {cl scl : List vw_C} {tf : List FieldType} {nw : List Cond} {T : zT} {own nm : String} {Ts : List Cond} {i : Instr} {len pc a b : Nat} (h : z_e1 i len pc a = true) : z_okh cl scl tf nw T own nm Ts i len pc a b := by
  cases i <;> first
    | exact Nat.eq_of_beq_eq_true h
    | exact ⟨Nat.eq_of_beq_eq_true (z_and h).1, of_decide_eq_true (z_and h).2⟩
    | exact (Bool.false_ne_true h).elim
def z_ez (q : zE) : Bool := match q with
  | (pc, i, len, a, b) => match z_kind i a b with
    | 0 => z_lb i len && z_tb i pc a
    | 1 => z_e1 i len pc a
    | 4 => Nat.beq len 1
    | 5 => (match i with
      | .return_ => Nat.beq len 1
      | _ => false)
    | _ => false
theorem z_ez_ok {T : zT} {P : zP} {M : zM} {nm : MethodName} {cc : ByteArray} {q : zE} (d : decode cc q.1 = .ok (q.2.1, q.2.2.1)) (h : z_ez q = true) : z_oke' T P M nm cc q := by
  obtain ⟨pc, i, len, a, b⟩ := q
  unfold z_ez at h
  dsimp only at h d
  split at h
  · rename_i hk
    exact zo_l d hk (z_lb_ok (z_and h).1) (z_tb_ok (z_and h).2)
  · rename_i hk
    exact zo_h d hk (z_e1_ok h)
  · rename_i hk
    have e := Nat.eq_of_beq_eq_true h
    subst e
    exact zo_r d hk
  · split at h
    · have e := Nat.eq_of_beq_eq_true h
      subst e
      exact zo_e d
    · cases h
  · cases h
abbrev zTE : Type := Instr × Nat × Nat × Nat
def z_hok (T : zT) (P : zP) (M : zM) (own : String) (x : zTE) : Prop := ∀ (nm : String) (pc : Nat), match z_kind x.1 x.2.2.1 x.2.2.2 with
  | 1 => z_okh M.2.2.2.2.2.1 M.2.2.2.2.2.2.1 M.2.2.2.2.2.2.2 M.2.2.2.2.1 T own nm M.2.2.2.1 x.1 x.2.1 pc x.2.2.1 x.2.2.2
  | 2 => x.2.1 = 3 ∧ z_okv P M own x.1 x.2.2.1 x.2.2.2
  | 7 => x.2.1 = 3 ∧ z_okn P M own x.1 x.2.2.1 x.2.2.2
  | 3 => x.2.1 = 3 ∧ z_oks P M own x.1 x.2.2.1 x.2.2.2
  | _ => False
section ZPK
variable {T : zT} {P : zP} {M : zM} {own : String} {len a b : Nat} {i : Instr}
theorem zp_h (hk : z_kind i a b = 1) (h : ∀ (nm : String) (pc : Nat), z_okh M.2.2.2.2.2.1 M.2.2.2.2.2.2.1 M.2.2.2.2.2.2.2 M.2.2.2.2.1 T own nm M.2.2.2.1 i len pc a b) : z_hok T P M own (i, len, a, b) := by
  intro nm pc
  dsimp only
  rw [hk]
  exact h nm pc
theorem zp_v (hk : z_kind i a b = 2) (h : z_okv P M own i a b) : z_hok T P M own (i, 3, a, b) := by
  intro nm pc
  dsimp only
  rw [hk]
  exact ⟨rfl, h⟩
theorem zp_n (hk : z_kind i a b = 7) (h : z_okn P M own i a b) : z_hok T P M own (i, 3, a, b) := by
  intro nm pc
  dsimp only
  rw [hk]
  exact ⟨rfl, h⟩
theorem zp_s (hk : z_kind i a b = 3) (h : z_oks P M own i a b) : z_hok T P M own (i, 3, a, b) := by
  intro nm pc
  dsimp only
  rw [hk]
  exact ⟨rfl, h⟩
end ZPK
def z_sm (q : zE) (x : zTE) : Bool := Nat.beq q.2.2.2.2 x.2.2.2 && (Nat.beq q.2.2.2.1 x.2.2.1 && (Nat.beq q.2.2.1 x.2.1 && decide (q.2.1 = x.1)))
def z_bz (TB : List zTE) (q : zE) : Bool := z_ez q || TB.any (z_sm q)
section ZBK
variable {T : zT} {P : zP} {M : zM} {own : String} {TB : List zTE} {nm : MethodName} {cc : ByteArray} {l H : List zE}
theorem z_bz_ok (ht : ∀ x ∈ TB, z_hok T P M own x) (hn : nm.cls = own) {q : zE} (d : decode cc q.1 = .ok (q.2.1, q.2.2.1)) (h : z_bz TB q = true) : z_oke' T P M nm cc q := by
  unfold z_bz at h
  rcases Bool.or_eq_true_iff.mp h with h | h
  · exact z_ez_ok d h
  · obtain ⟨x, hx, hs⟩ := List.any_eq_true.mp h
    subst hn
    obtain ⟨pc, i, len, a, b⟩ := q
    obtain ⟨i2, len2, a2, b2⟩ := x
    obtain ⟨s1, s2⟩ := z_and hs
    obtain ⟨s2, s3⟩ := z_and s2
    obtain ⟨s3, s4⟩ := z_and s3
    have t1 : b = b2 := Nat.eq_of_beq_eq_true s1
    have t2 : a = a2 := Nat.eq_of_beq_eq_true s2
    have t3 : len = len2 := Nat.eq_of_beq_eq_true s3
    have t4 : i = i2 := of_decide_eq_true s4
    subst t1; subst t2; subst t3; subst t4
    have o := ht _ hx nm.name pc
    dsimp only at o d
    split at o
    · rename_i hk
      exact zo_h d hk o
    · rename_i hk
      obtain ⟨o1, o2⟩ := o
      subst o1
      exact zo_v d hk o2
    · rename_i hk
      obtain ⟨o1, o2⟩ := o
      subst o1
      exact zo_n d hk o2
    · rename_i hk
      obtain ⟨o1, o2⟩ := o
      subst o1
      exact zo_s d hk o2
    · exact o.elim
theorem z_bulk0 (ht : ∀ x ∈ TB, z_hok T P M own x) (hn : nm.cls = own) (d : ∀ q ∈ l, decode cc q.1 = .ok (q.2.1, q.2.2.1)) (e : l.all (z_bz TB) = true) : ∀ q ∈ l, z_oke' T P M nm cc q := fun q hq => z_bz_ok ht hn (d q hq) (List.all_eq_true.mp e q hq)
theorem z_bulk (ht : ∀ x ∈ TB, z_hok T P M own x) (hn : nm.cls = own) (d : ∀ q ∈ l, decode cc q.1 = .ok (q.2.1, q.2.2.1)) (e : l.filter (fun q => !z_bz TB q) = H) (f : ∀ q ∈ H, z_oke' T P M nm cc q) : ∀ q ∈ l, z_oke' T P M nm cc q := fun q hq => by
  cases hb : z_bz TB q with
  | true => exact z_bz_ok ht hn (d q hq) hb
  | false =>
    refine f q ?_
    rw [← e]
    exact List.mem_filter.mpr ⟨hq, by rw [hb]; rfl⟩
end ZBK
theorem zdd_of {cc : ByteArray} {l : List zE} (h : (l.all fun q => decide (decode cc q.1 = Except.ok (q.2.1, q.2.2.1))) = true) : ∀ q ∈ l, decode cc q.1 = Except.ok (q.2.1, q.2.2.1) := fun q hq => of_decide_eq_true (List.all_eq_true.mp h q hq)
theorem z_fap {α : Type} {Q : α → Prop} {l1 l2 : List α} (h1 : ∀ q ∈ l1, Q q) (h2 : ∀ q ∈ l2, Q q) : ∀ q ∈ l1 ++ l2, Q q := fun q hq => (List.mem_append.mp hq).elim (h1 q) (h2 q)
def zTB_0 : List zTE := [(.getstatic 63, 3, 0, 12), (.getfield 59, 3, 51, 0), (.invokevirtual 66, 3, 57, 3)]
set_option maxRecDepth 100000 in
theorem zTBk_0 (xs : List Int32) : ∀ x ∈ zTB_0, z_hok (za_T xs) za_P za_M "LyndonBench$Command" x :=
  z_fc (zp_h rfl (fun _ _ => ⟨rfl, _, rfl, zw_425⟩)) <|
  z_fc (zp_h rfl (fun _ _ => ⟨rfl, Nat.le_of_ble_eq_true rfl, _, _, _, Or.inr ⟨Nat.le_of_ble_eq_true rfl, rfl⟩, Nat.le_of_ble_eq_true rfl, zw_1863⟩)) <|
  z_fc (zp_v rfl ⟨rfl, zd_57, zw_397, Nat.le_of_ble_eq_true rfl, ⟨_, Or.inl ⟨Nat.le_of_ble_eq_true rfl, rfl⟩, rfl⟩, zw_427, zw_398⟩) <|
  z_fn
def zTB_1 : List zTE := [(.invokespecial 3, 3, 9999, 0), (.anewarray 9, 3, 105, 0), (.putfield 17, 3, 1, 1), (.getfield 11, 3, 1, 0), (.new 9, 3, 3, 4), (.invokespecial 21, 3, 28, 0), (.getfield 17, 3, 1, 1), (.invokevirtual 22, 3, 3, 0), (.invokevirtual 25, 3, 30, 1)]
set_option maxRecDepth 100000 in
theorem zTBk_1 (xs : List Int32) : ∀ x ∈ zTB_1, z_hok (za_T xs) za_P za_M "LyndonBench$History" x :=
  z_fc (zp_h rfl (fun _ _ => ⟨rfl, zw_197, zw_145, zw_146⟩)) <|
  z_fc (zp_h rfl (fun _ _ => ⟨rfl, ⟨Nat.le_of_ble_eq_true rfl, Nat.le_of_ble_eq_true rfl⟩, _, rfl, zw_198, by decide +kernel⟩)) <|
  z_fc (zp_h rfl (fun _ _ => ⟨rfl, Nat.le_of_ble_eq_true rfl, _, _, _, rfl, Nat.le_of_ble_eq_true rfl, zw_202, Or.inl rfl⟩)) <|
  z_fc (zp_h rfl (fun _ _ => ⟨rfl, Nat.le_of_ble_eq_true rfl, _, _, _, Or.inl ⟨Nat.le_of_ble_eq_true rfl, rfl⟩, Nat.le_of_ble_eq_true rfl, zw_201⟩)) <|
  z_fc (zp_h rfl (fun _ _ => ⟨rfl, Nat.le_of_ble_eq_true rfl, _, _, rfl, zn_3, zm_3, zw_198, zw_148, zw_119⟩)) <|
  z_fc (zp_n rfl ⟨rfl, zd_28, rfl, rfl, zw_150, Or.inl zw_200⟩) <|
  z_fc (zp_h rfl (fun _ _ => ⟨rfl, Nat.le_of_ble_eq_true rfl, _, _, _, Or.inl ⟨Nat.le_of_ble_eq_true rfl, rfl⟩, Nat.le_of_ble_eq_true rfl, zw_202⟩)) <|
  z_fc (zp_v rfl ⟨rfl, zd_3, zw_595, Nat.le_of_ble_eq_true rfl, ⟨_, Or.inl ⟨Nat.le_of_ble_eq_true rfl, rfl⟩, rfl⟩, zw_593, zw_22⟩) <|
  z_fc (zp_v rfl ⟨rfl, zd_30, zw_598, Nat.le_of_ble_eq_true rfl, ⟨_, Or.inl ⟨Nat.le_of_ble_eq_true rfl, rfl⟩, rfl⟩, zw_597, zw_599⟩) <|
  z_fn
def zTB_2 : List zTE := [(.invokespecial 3, 3, 9999, 0), (.new 9, 3, 4, 2), (.invokespecial 11, 3, 42, 1), (.new 20, 3, 3, 4), (.invokespecial 22, 3, 28, 0), (.putfield 27, 3, 2, 2), (.putfield 31, 3, 2, 3), (.putfield 34, 3, 2, 4), (.putfield 37, 3, 2, 5), (.putfield 40, 3, 2, 6), (.putfield 43, 3, 2, 7), (.putfield 46, 3, 2, 8), (.putfield 49, 3, 2, 9), (.newarray .int, 2, 0, 0), (.invokevirtual 59, 3, 7, 0), (.ldc 63, 2, 0, 0), (.invokevirtual 64, 3, 25, 0), (.getfield 34, 3, 2, 4), (.getfield 49, 3, 2, 9), (.invokevirtual 67, 3, 10, 0), (.invokevirtual 70, 3, 8, 0), (.invokevirtual 73, 3, 24, 1), (.getfield 14, 3, 2, 0), (.getfield 37, 3, 2, 5), (.getfield 40, 3, 2, 6), (.ldc 77, 2, 1, 33), (.invokevirtual 79, 3, 57, 3), (.invokevirtual 83, 3, 22, 2), (.invokevirtual 87, 3, 21, 1), (.getfield 23, 3, 2, 1), (.getfield 43, 3, 2, 7), (.invokevirtual 90, 3, 29, 1), (.invokestatic 93, 3, 0, 3), (.getstatic 99, 3, 0, 11), (.invokevirtual 103, 3, 9, 0), (.getfield 46, 3, 2, 8), (.getstatic 106, 3, 0, 15), (.invokevirtual 111, 3, 293, 1000), (.invokevirtual 115, 3, 11, 1), (.invokevirtual 119, 3, 12, 0), (.invokevirtual 122, 3, 13, 0), (.invokevirtual 125, 3, 14, 0), (.invokevirtual 128, 3, 15, 0), (.invokevirtual 131, 3, 16, 0), (.invokevirtual 134, 3, 17, 0), (.invokevirtual 137, 3, 18, 0), (.invokevirtual 140, 3, 19, 0), (.invokevirtual 143, 3, 20, 0), (.getfield 52, 3, 2, 10), (.getfield 56, 3, 2, 11), (.invokevirtual 146, 3, 43, 1), (.invokevirtual 150, 3, 31, 1), (.getfield 153, 3, 3, 1), (.getfield 156, 3, 4, 1), (.invokevirtual 159, 3, 23, 1), (.invokevirtual 162, 3, 52, 1), (.invokevirtual 165, 3, 49, 3), (.invokevirtual 169, 3, 53, 2), (.invokevirtual 173, 3, 55, 1), (.invokevirtual 176, 3, 54, 2), (.invokevirtual 179, 3, 72, 0), (.invokevirtual 182, 3, 41, 1), (.invokevirtual 185, 3, 32, 0), (.invokevirtual 188, 3, 75, 2), (.invokevirtual 191, 3, 63, 1), (.invokevirtual 194, 3, 59, 1), (.invokevirtual 197, 3, 35, 1), (.invokevirtual 200, 3, 36, 3), (.getfield 203, 3, 3, 3), (.invokevirtual 206, 3, 37, 1), (.invokevirtual 209, 3, 39, 0), (.invokevirtual 212, 3, 40, 0), (.invokestatic 215, 3, 27, 1), (.invokevirtual 218, 3, 26, 0)]
set_option maxRecDepth 100000 in
theorem zTBk_2 (xs : List Int32) : ∀ x ∈ zTB_2, z_hok (za_T xs) za_P za_M "LyndonBench$Script" x :=
  z_fc (zp_h rfl (fun _ _ => ⟨rfl, zw_214, zw_145, zw_146⟩)) <|
  z_fc (zp_h rfl (fun _ _ => ⟨rfl, Nat.le_of_ble_eq_true rfl, _, _, rfl, zn_4, zm_4, zw_215, zw_154, zw_120⟩)) <|
  z_fc (zp_n rfl ⟨rfl, zd_42, rfl, rfl, zw_156, Or.inl zw_216⟩) <|
  z_fc (zp_h rfl (fun _ _ => ⟨rfl, Nat.le_of_ble_eq_true rfl, _, _, rfl, zn_3, zm_3, zw_217, zw_148, zw_119⟩)) <|
  z_fc (zp_n rfl ⟨rfl, zd_28, rfl, rfl, zw_150, Or.inl zw_218⟩) <|
  z_fc (zp_h rfl (fun _ _ => ⟨rfl, Nat.le_of_ble_eq_true rfl, _, _, _, rfl, Nat.le_of_ble_eq_true rfl, zw_223, Or.inl rfl⟩)) <|
  z_fc (zp_h rfl (fun _ _ => ⟨rfl, Nat.le_of_ble_eq_true rfl, _, _, _, rfl, Nat.le_of_ble_eq_true rfl, zw_225, Or.inl rfl⟩)) <|
  z_fc (zp_h rfl (fun _ _ => ⟨rfl, Nat.le_of_ble_eq_true rfl, _, _, _, rfl, Nat.le_of_ble_eq_true rfl, zw_227, Or.inl rfl⟩)) <|
  z_fc (zp_h rfl (fun _ _ => ⟨rfl, Nat.le_of_ble_eq_true rfl, _, _, _, rfl, Nat.le_of_ble_eq_true rfl, zw_228, Or.inl rfl⟩)) <|
  z_fc (zp_h rfl (fun _ _ => ⟨rfl, Nat.le_of_ble_eq_true rfl, _, _, _, rfl, Nat.le_of_ble_eq_true rfl, zw_229, Or.inl rfl⟩)) <|
  z_fc (zp_h rfl (fun _ _ => ⟨rfl, Nat.le_of_ble_eq_true rfl, _, _, _, rfl, Nat.le_of_ble_eq_true rfl, zw_230, Or.inl rfl⟩)) <|
  z_fc (zp_h rfl (fun _ _ => ⟨rfl, Nat.le_of_ble_eq_true rfl, _, _, _, rfl, Nat.le_of_ble_eq_true rfl, zw_231, Or.inl rfl⟩)) <|
  z_fc (zp_h rfl (fun _ _ => ⟨rfl, Nat.le_of_ble_eq_true rfl, _, _, _, rfl, Nat.le_of_ble_eq_true rfl, zw_232, Or.inl rfl⟩)) <|
  z_fc (zp_h rfl (fun _ _ => ⟨rfl, zw_260⟩)) <|
  z_fc (zp_v rfl ⟨rfl, zd_7, zw_381, Nat.le_of_ble_eq_true rfl, ⟨_, Or.inl ⟨Nat.le_of_ble_eq_true rfl, rfl⟩, rfl⟩, zw_379, zw_0⟩) <|
  z_fc (zp_h rfl (fun _ _ => ⟨rfl, Or.inl ⟨rfl, _, rfl, zw_413⟩⟩)) <|
  z_fc (zp_v rfl ⟨rfl, zd_25, zw_385, Nat.le_of_ble_eq_true rfl, ⟨_, Or.inl ⟨Nat.le_of_ble_eq_true rfl, rfl⟩, rfl⟩, zw_383, zw_1⟩) <|
  z_fc (zp_h rfl (fun _ _ => ⟨rfl, Nat.le_of_ble_eq_true rfl, _, _, _, Or.inl ⟨Nat.le_of_ble_eq_true rfl, rfl⟩, Nat.le_of_ble_eq_true rfl, zw_227⟩)) <|
  z_fc (zp_h rfl (fun _ _ => ⟨rfl, Nat.le_of_ble_eq_true rfl, _, _, _, Or.inl ⟨Nat.le_of_ble_eq_true rfl, rfl⟩, Nat.le_of_ble_eq_true rfl, zw_232⟩)) <|
  z_fc (zp_v rfl ⟨rfl, zd_10, zw_416, Nat.le_of_ble_eq_true rfl, ⟨_, Or.inl ⟨Nat.le_of_ble_eq_true rfl, rfl⟩, rfl⟩, zw_414, zw_6⟩) <|
  z_fc (zp_v rfl ⟨rfl, zd_8, zw_420, Nat.le_of_ble_eq_true rfl, ⟨_, Or.inl ⟨Nat.le_of_ble_eq_true rfl, rfl⟩, rfl⟩, zw_418, zw_7⟩) <|
  z_fc (zp_v rfl ⟨rfl, zd_24, zw_402, Nat.le_of_ble_eq_true rfl, ⟨_, Or.inl ⟨Nat.le_of_ble_eq_true rfl, rfl⟩, rfl⟩, zw_400, zw_3⟩) <|
  z_fc (zp_h rfl (fun _ _ => ⟨rfl, Nat.le_of_ble_eq_true rfl, _, _, _, Or.inl ⟨Nat.le_of_ble_eq_true rfl, rfl⟩, Nat.le_of_ble_eq_true rfl, zw_219⟩)) <|
  z_fc (zp_h rfl (fun _ _ => ⟨rfl, Nat.le_of_ble_eq_true rfl, _, _, _, Or.inl ⟨Nat.le_of_ble_eq_true rfl, rfl⟩, Nat.le_of_ble_eq_true rfl, zw_228⟩)) <|
  z_fc (zp_h rfl (fun _ _ => ⟨rfl, Nat.le_of_ble_eq_true rfl, _, _, _, Or.inl ⟨Nat.le_of_ble_eq_true rfl, rfl⟩, Nat.le_of_ble_eq_true rfl, zw_229⟩)) <|
  z_fc (zp_h rfl (fun _ _ => ⟨rfl, Or.inr ⟨rfl, _, rfl, rfl, rfl⟩⟩)) <|
  z_fc (zp_v rfl ⟨rfl, zd_57, zw_397, Nat.le_of_ble_eq_true rfl, ⟨_, Or.inl ⟨Nat.le_of_ble_eq_true rfl, rfl⟩, rfl⟩, zw_396, zw_398⟩) <|
  z_fc (zp_v rfl ⟨rfl, zd_22, zw_406, Nat.le_of_ble_eq_true rfl, ⟨_, Or.inl ⟨Nat.le_of_ble_eq_true rfl, rfl⟩, rfl⟩, zw_404, zw_4⟩) <|
  z_fc (zp_v rfl ⟨rfl, zd_21, zw_410, Nat.le_of_ble_eq_true rfl, ⟨_, Or.inl ⟨Nat.le_of_ble_eq_true rfl, rfl⟩, rfl⟩, zw_408, zw_5⟩) <|
  z_fc (zp_h rfl (fun _ _ => ⟨rfl, Nat.le_of_ble_eq_true rfl, _, _, _, Or.inl ⟨Nat.le_of_ble_eq_true rfl, rfl⟩, Nat.le_of_ble_eq_true rfl, zw_221⟩)) <|
  z_fc (zp_h rfl (fun _ _ => ⟨rfl, Nat.le_of_ble_eq_true rfl, _, _, _, Or.inl ⟨Nat.le_of_ble_eq_true rfl, rfl⟩, Nat.le_of_ble_eq_true rfl, zw_230⟩)) <|
  z_fc (zp_v rfl ⟨rfl, zd_29, zw_264, Nat.le_of_ble_eq_true rfl, ⟨_, Or.inl ⟨Nat.le_of_ble_eq_true rfl, rfl⟩, rfl⟩, zw_412, zw_265⟩) <|
  z_fc (zp_s rfl ⟨zd_0, zw_422, zw_423⟩) <|
  z_fc (zp_h rfl (fun _ _ => ⟨rfl, _, rfl, zw_428⟩)) <|
  z_fc (zp_v rfl ⟨rfl, zd_9, zw_432, Nat.le_of_ble_eq_true rfl, ⟨_, Or.inl ⟨Nat.le_of_ble_eq_true rfl, rfl⟩, rfl⟩, zw_430, zw_8⟩) <|
  z_fc (zp_h rfl (fun _ _ => ⟨rfl, Nat.le_of_ble_eq_true rfl, _, _, _, Or.inl ⟨Nat.le_of_ble_eq_true rfl, rfl⟩, Nat.le_of_ble_eq_true rfl, zw_231⟩)) <|
  z_fc (zp_h rfl (fun _ _ => ⟨rfl, _, rfl, zw_434⟩)) <|
  z_fc (zp_n rfl ⟨rfl, zd_293, zw_440, Nat.le_of_ble_eq_true rfl, _, Or.inr ⟨Nat.le_of_ble_eq_true rfl, rfl⟩, ⟨"LyndonBench$Command", "ordinal", "()I"⟩, rfl, zw_436, zw_437, zw_439⟩) <|
  z_fc (zp_v rfl ⟨rfl, zd_11, zw_444, Nat.le_of_ble_eq_true rfl, ⟨_, Or.inl ⟨Nat.le_of_ble_eq_true rfl, rfl⟩, rfl⟩, zw_442, zw_9⟩) <|
  z_fc (zp_v rfl ⟨rfl, zd_12, zw_461, Nat.le_of_ble_eq_true rfl, ⟨_, Or.inl ⟨Nat.le_of_ble_eq_true rfl, rfl⟩, rfl⟩, zw_459, zw_11⟩) <|
  z_fc (zp_v rfl ⟨rfl, zd_13, zw_465, Nat.le_of_ble_eq_true rfl, ⟨_, Or.inl ⟨Nat.le_of_ble_eq_true rfl, rfl⟩, rfl⟩, zw_463, zw_12⟩) <|
  z_fc (zp_v rfl ⟨rfl, zd_14, zw_478, Nat.le_of_ble_eq_true rfl, ⟨_, Or.inl ⟨Nat.le_of_ble_eq_true rfl, rfl⟩, rfl⟩, zw_476, zw_14⟩) <|
  z_fc (zp_v rfl ⟨rfl, zd_15, zw_490, Nat.le_of_ble_eq_true rfl, ⟨_, Or.inl ⟨Nat.le_of_ble_eq_true rfl, rfl⟩, rfl⟩, zw_488, zw_15⟩) <|
  z_fc (zp_v rfl ⟨rfl, zd_16, zw_495, Nat.le_of_ble_eq_true rfl, ⟨_, Or.inl ⟨Nat.le_of_ble_eq_true rfl, rfl⟩, rfl⟩, zw_493, zw_16⟩) <|
  z_fc (zp_v rfl ⟨rfl, zd_17, zw_507, Nat.le_of_ble_eq_true rfl, ⟨_, Or.inl ⟨Nat.le_of_ble_eq_true rfl, rfl⟩, rfl⟩, zw_505, zw_18⟩) <|
  z_fc (zp_v rfl ⟨rfl, zd_18, zw_533, Nat.le_of_ble_eq_true rfl, ⟨_, Or.inl ⟨Nat.le_of_ble_eq_true rfl, rfl⟩, rfl⟩, zw_531, zw_19⟩) <|
  z_fc (zp_v rfl ⟨rfl, zd_19, zw_555, Nat.le_of_ble_eq_true rfl, ⟨_, Or.inl ⟨Nat.le_of_ble_eq_true rfl, rfl⟩, rfl⟩, zw_553, zw_20⟩) <|
  z_fc (zp_v rfl ⟨rfl, zd_20, zw_573, Nat.le_of_ble_eq_true rfl, ⟨_, Or.inl ⟨Nat.le_of_ble_eq_true rfl, rfl⟩, rfl⟩, zw_571, zw_21⟩) <|
  z_fc (zp_h rfl (fun _ _ => ⟨rfl, Nat.le_of_ble_eq_true rfl, _, _, _, Or.inl ⟨Nat.le_of_ble_eq_true rfl, rfl⟩, Nat.le_of_ble_eq_true rfl, zw_233⟩)) <|
  z_fc (zp_h rfl (fun _ _ => ⟨rfl, Nat.le_of_ble_eq_true rfl, _, _, _, Or.inl ⟨Nat.le_of_ble_eq_true rfl, rfl⟩, Nat.le_of_ble_eq_true rfl, zw_234⟩)) <|
  z_fc (zp_v rfl ⟨rfl, zd_43, zw_338, Nat.le_of_ble_eq_true rfl, ⟨_, Or.inl ⟨Nat.le_of_ble_eq_true rfl, rfl⟩, rfl⟩, zw_387, zw_339⟩) <|
  z_fc (zp_v rfl ⟨rfl, zd_31, zw_447, Nat.le_of_ble_eq_true rfl, ⟨_, Or.inl ⟨Nat.le_of_ble_eq_true rfl, rfl⟩, rfl⟩, zw_446, zw_448⟩) <|
  z_fc (zp_h rfl (fun _ _ => ⟨rfl, Nat.le_of_ble_eq_true rfl, _, _, _, Or.inl ⟨Nat.le_of_ble_eq_true rfl, rfl⟩, Nat.le_of_ble_eq_true rfl, zw_178⟩)) <|
  z_fc (zp_h rfl (fun _ _ => ⟨rfl, Nat.le_of_ble_eq_true rfl, _, _, _, Or.inl ⟨Nat.le_of_ble_eq_true rfl, rfl⟩, Nat.le_of_ble_eq_true rfl, zw_166⟩)) <|
  z_fc (zp_v rfl ⟨rfl, zd_23, zw_452, Nat.le_of_ble_eq_true rfl, ⟨_, Or.inl ⟨Nat.le_of_ble_eq_true rfl, rfl⟩, rfl⟩, zw_450, zw_10⟩) <|
  z_fc (zp_v rfl ⟨rfl, zd_52, zw_455, Nat.le_of_ble_eq_true rfl, ⟨_, Or.inl ⟨Nat.le_of_ble_eq_true rfl, rfl⟩, rfl⟩, zw_454, zw_456⟩) <|
  z_fc (zp_v rfl ⟨rfl, zd_49, zw_334, Nat.le_of_ble_eq_true rfl, ⟨_, Or.inl ⟨Nat.le_of_ble_eq_true rfl, rfl⟩, rfl⟩, zw_458, zw_335⟩) <|
  z_fc (zp_v rfl ⟨rfl, zd_53, zw_468, Nat.le_of_ble_eq_true rfl, ⟨_, Or.inl ⟨Nat.le_of_ble_eq_true rfl, rfl⟩, rfl⟩, zw_467, zw_469⟩) <|
  z_fc (zp_v rfl ⟨rfl, zd_55, zw_481, Nat.le_of_ble_eq_true rfl, ⟨_, Or.inl ⟨Nat.le_of_ble_eq_true rfl, rfl⟩, rfl⟩, zw_480, zw_482⟩) <|
  z_fc (zp_v rfl ⟨rfl, zd_54, zw_485, Nat.le_of_ble_eq_true rfl, ⟨_, Or.inl ⟨Nat.le_of_ble_eq_true rfl, rfl⟩, rfl⟩, zw_492, zw_486⟩) <|
  z_fc (zp_v rfl ⟨rfl, zd_72, zw_498, Nat.le_of_ble_eq_true rfl, ⟨_, Or.inl ⟨Nat.le_of_ble_eq_true rfl, rfl⟩, rfl⟩, zw_497, zw_499⟩) <|
  z_fc (zp_v rfl ⟨rfl, zd_41, zw_510, Nat.le_of_ble_eq_true rfl, ⟨_, Or.inl ⟨Nat.le_of_ble_eq_true rfl, rfl⟩, rfl⟩, zw_509, zw_511⟩) <|
  z_fc (zp_v rfl ⟨rfl, zd_32, zw_523, Nat.le_of_ble_eq_true rfl, ⟨_, Or.inl ⟨Nat.le_of_ble_eq_true rfl, rfl⟩, rfl⟩, zw_526, zw_524⟩) <|
  z_fc (zp_v rfl ⟨rfl, zd_75, zw_528, Nat.le_of_ble_eq_true rfl, ⟨_, Or.inl ⟨Nat.le_of_ble_eq_true rfl, rfl⟩, rfl⟩, zw_527, zw_529⟩) <|
  z_fc (zp_v rfl ⟨rfl, zd_63, zw_536, Nat.le_of_ble_eq_true rfl, ⟨_, Or.inl ⟨Nat.le_of_ble_eq_true rfl, rfl⟩, rfl⟩, zw_535, zw_537⟩) <|
  z_fc (zp_v rfl ⟨rfl, zd_59, zw_518, Nat.le_of_ble_eq_true rfl, ⟨_, Or.inl ⟨Nat.le_of_ble_eq_true rfl, rfl⟩, rfl⟩, zw_547, zw_519⟩) <|
  z_fc (zp_v rfl ⟨rfl, zd_35, zw_549, Nat.le_of_ble_eq_true rfl, ⟨_, Or.inl ⟨Nat.le_of_ble_eq_true rfl, rfl⟩, rfl⟩, zw_548, zw_550⟩) <|
  z_fc (zp_v rfl ⟨rfl, zd_36, zw_330, Nat.le_of_ble_eq_true rfl, ⟨_, Or.inl ⟨Nat.le_of_ble_eq_true rfl, rfl⟩, rfl⟩, zw_552, zw_331⟩) <|
  z_fc (zp_h rfl (fun _ _ => ⟨rfl, Nat.le_of_ble_eq_true rfl, _, _, _, Or.inl ⟨Nat.le_of_ble_eq_true rfl, rfl⟩, Nat.le_of_ble_eq_true rfl, zw_182⟩)) <|
  z_fc (zp_v rfl ⟨rfl, zd_37, zw_558, Nat.le_of_ble_eq_true rfl, ⟨_, Or.inl ⟨Nat.le_of_ble_eq_true rfl, rfl⟩, rfl⟩, zw_557, zw_559⟩) <|
  z_fc (zp_v rfl ⟨rfl, zd_39, zw_576, Nat.le_of_ble_eq_true rfl, ⟨_, Or.inl ⟨Nat.le_of_ble_eq_true rfl, rfl⟩, rfl⟩, zw_575, zw_577⟩) <|
  z_fc (zp_v rfl ⟨rfl, zd_40, zw_580, Nat.le_of_ble_eq_true rfl, ⟨_, Or.inl ⟨Nat.le_of_ble_eq_true rfl, rfl⟩, rfl⟩, zw_579, zw_581⟩) <|
  z_fc (zp_s rfl ⟨zd_27, zw_388, zw_389⟩) <|
  z_fc (zp_v rfl ⟨rfl, zd_26, zw_393, Nat.le_of_ble_eq_true rfl, ⟨_, Or.inl ⟨Nat.le_of_ble_eq_true rfl, rfl⟩, rfl⟩, zw_391, zw_2⟩) <|
  z_fn
def zTB_3 : List zTE := [(.invokespecial 3, 3, 9999, 0), (.putfield 9, 3, 3, 0), (.new 15, 3, 4, 2), (.invokespecial 17, 3, 42, 1), (.anewarray 15, 3, 104, 0), (.putfield 28, 3, 3, 3), (.getfield 24, 3, 3, 2), (.getfield 20, 3, 3, 1), (.invokevirtual 31, 3, 45, 0), (.getfield 9, 3, 3, 0), (.invokevirtual 34, 3, 51, 1), (.getfield 28, 3, 3, 3), (.invokevirtual 38, 3, 34, 1), (.getfield 42, 3, 4, 1), (.invokevirtual 45, 3, 36, 3), (.invokevirtual 49, 3, 56, 1), (.invokevirtual 53, 3, 49, 3), (.invokevirtual 56, 3, 58, 5), (.invokevirtual 60, 3, 38, 1), (.invokevirtual 64, 3, 62, 0), (.invokevirtual 68, 3, 43, 1), (.invokevirtual 71, 3, 32, 0)]
set_option maxRecDepth 100000 in
theorem zTBk_3 (xs : List Int32) : ∀ x ∈ zTB_3, z_hok (za_T xs) za_P za_M "LyndonBench$State" x :=
  z_fc (zp_h rfl (fun _ _ => ⟨rfl, zw_152, zw_145, zw_146⟩)) <|
  z_fc (zp_h rfl (fun _ _ => ⟨rfl, Nat.le_of_ble_eq_true rfl, _, _, _, rfl, Nat.le_of_ble_eq_true rfl, zw_174, Or.inl rfl⟩)) <|
  z_fc (zp_h rfl (fun _ _ => ⟨rfl, Nat.le_of_ble_eq_true rfl, _, _, rfl, zn_4, zm_4, zw_153, zw_154, zw_120⟩)) <|
  z_fc (zp_n rfl ⟨rfl, zd_42, rfl, rfl, zw_156, Or.inl zw_155⟩) <|
  z_fc (zp_h rfl (fun _ _ => ⟨rfl, ⟨Nat.le_of_ble_eq_true rfl, Nat.le_of_ble_eq_true rfl⟩, _, rfl, zw_153, by decide +kernel⟩)) <|
  z_fc (zp_h rfl (fun _ _ => ⟨rfl, Nat.le_of_ble_eq_true rfl, _, _, _, rfl, Nat.le_of_ble_eq_true rfl, zw_180, Or.inl rfl⟩)) <|
  z_fc (zp_h rfl (fun _ _ => ⟨rfl, Nat.le_of_ble_eq_true rfl, _, _, _, Or.inl ⟨Nat.le_of_ble_eq_true rfl, rfl⟩, Nat.le_of_ble_eq_true rfl, zw_179⟩)) <|
  z_fc (zp_h rfl (fun _ _ => ⟨rfl, Nat.le_of_ble_eq_true rfl, _, _, _, Or.inl ⟨Nat.le_of_ble_eq_true rfl, rfl⟩, Nat.le_of_ble_eq_true rfl, zw_176⟩)) <|
  z_fc (zp_v rfl ⟨rfl, zd_45, zw_268, Nat.le_of_ble_eq_true rfl, ⟨_, Or.inl ⟨Nat.le_of_ble_eq_true rfl, rfl⟩, rfl⟩, zw_267, zw_269⟩) <|
  z_fc (zp_h rfl (fun _ _ => ⟨rfl, Nat.le_of_ble_eq_true rfl, _, _, _, Or.inl ⟨Nat.le_of_ble_eq_true rfl, rfl⟩, Nat.le_of_ble_eq_true rfl, zw_174⟩)) <|
  z_fc (zp_v rfl ⟨rfl, zd_51, zw_566, Nat.le_of_ble_eq_true rfl, ⟨_, Or.inl ⟨Nat.le_of_ble_eq_true rfl, rfl⟩, rfl⟩, zw_565, zw_567⟩) <|
  z_fc (zp_h rfl (fun _ _ => ⟨rfl, Nat.le_of_ble_eq_true rfl, _, _, _, Or.inl ⟨Nat.le_of_ble_eq_true rfl, rfl⟩, Nat.le_of_ble_eq_true rfl, zw_180⟩)) <|
  z_fc (zp_v rfl ⟨rfl, zd_34, zw_562, Nat.le_of_ble_eq_true rfl, ⟨_, Or.inl ⟨Nat.le_of_ble_eq_true rfl, rfl⟩, rfl⟩, zw_561, zw_563⟩) <|
  z_fc (zp_h rfl (fun _ _ => ⟨rfl, Nat.le_of_ble_eq_true rfl, _, _, _, Or.inl ⟨Nat.le_of_ble_eq_true rfl, rfl⟩, Nat.le_of_ble_eq_true rfl, zw_165⟩)) <|
  z_fc (zp_v rfl ⟨rfl, zd_36, zw_330, Nat.le_of_ble_eq_true rfl, ⟨_, Or.inl ⟨Nat.le_of_ble_eq_true rfl, rfl⟩, rfl⟩, zw_601, zw_331⟩) <|
  z_fc (zp_v rfl ⟨rfl, zd_56, zw_887, Nat.le_of_ble_eq_true rfl, ⟨_, Or.inl ⟨Nat.le_of_ble_eq_true rfl, rfl⟩, rfl⟩, zw_886, zw_888⟩) <|
  z_fc (zp_v rfl ⟨rfl, zd_49, zw_334, Nat.le_of_ble_eq_true rfl, ⟨_, Or.inl ⟨Nat.le_of_ble_eq_true rfl, rfl⟩, rfl⟩, zw_333, zw_335⟩) <|
  z_fc (zp_v rfl ⟨rfl, zd_58, zw_544, Nat.le_of_ble_eq_true rfl, ⟨_, Or.inl ⟨Nat.le_of_ble_eq_true rfl, rfl⟩, rfl⟩, zw_587, zw_545⟩) <|
  z_fc (zp_v rfl ⟨rfl, zd_38, zw_584, Nat.le_of_ble_eq_true rfl, ⟨_, Or.inl ⟨Nat.le_of_ble_eq_true rfl, rfl⟩, rfl⟩, zw_583, zw_585⟩) <|
  z_fc (zp_v rfl ⟨rfl, zd_62, zw_514, Nat.le_of_ble_eq_true rfl, ⟨_, Or.inl ⟨Nat.le_of_ble_eq_true rfl, rfl⟩, rfl⟩, zw_513, zw_515⟩) <|
  z_fc (zp_v rfl ⟨rfl, zd_43, zw_338, Nat.le_of_ble_eq_true rfl, ⟨_, Or.inl ⟨Nat.le_of_ble_eq_true rfl, rfl⟩, rfl⟩, zw_521, zw_339⟩) <|
  z_fc (zp_v rfl ⟨rfl, zd_32, zw_523, Nat.le_of_ble_eq_true rfl, ⟨_, Or.inl ⟨Nat.le_of_ble_eq_true rfl, rfl⟩, rfl⟩, zw_522, zw_524⟩) <|
  z_fn
def zTB_4 : List zTE := [(.invokespecial 3, 3, 9999, 0), (.putfield 9, 3, 4, 1), (.invokestatic 15, 3, 9998, 0), (.newarray .byte, 2, 0, 0), (.getfield 9, 3, 4, 1), (.getfield 21, 3, 4, 0), (.invokevirtual 25, 3, 46, 1), (.invokevirtual 29, 3, 294, 0), (.invokevirtual 35, 3, 295, 1), (.invokevirtual 39, 3, 43, 1), (.invokevirtual 43, 3, 45, 0), (.invokevirtual 46, 3, 49, 3), (.invokevirtual 50, 3, 44, 2), (.invokevirtual 54, 3, 52, 1), (.invokevirtual 57, 3, 54, 2), (.invokevirtual 60, 3, 58, 5), (.invokevirtual 64, 3, 59, 1), (.invokevirtual 67, 3, 60, 2), (.invokevirtual 70, 3, 69, 1), (.invokevirtual 74, 3, 70, 0), (.invokevirtual 77, 3, 73, 1)]
set_option maxRecDepth 100000 in
theorem zTBk_4 (xs : List Int32) : ∀ x ∈ zTB_4, z_hok (za_T xs) za_P za_M "LyndonBench$Word" x :=
  z_fc (zp_h rfl (fun _ _ => ⟨rfl, zw_158, zw_145, zw_146⟩)) <|
  z_fc (zp_h rfl (fun _ _ => ⟨rfl, Nat.le_of_ble_eq_true rfl, _, _, _, rfl, Nat.le_of_ble_eq_true rfl, zw_163, Or.inl rfl⟩)) <|
  z_fc (zp_h rfl (fun _ _ => ⟨rfl, zw_159, zw_160, zw_121, zw_161⟩)) <|
  z_fc (zp_h rfl (fun _ _ => ⟨rfl, zw_172⟩)) <|
  z_fc (zp_h rfl (fun _ _ => ⟨rfl, Nat.le_of_ble_eq_true rfl, _, _, _, Or.inl ⟨Nat.le_of_ble_eq_true rfl, rfl⟩, Nat.le_of_ble_eq_true rfl, zw_163⟩)) <|
  z_fc (zp_h rfl (fun _ _ => ⟨rfl, Nat.le_of_ble_eq_true rfl, _, _, _, Or.inl ⟨Nat.le_of_ble_eq_true rfl, rfl⟩, Nat.le_of_ble_eq_true rfl, zw_162⟩)) <|
  z_fc (zp_v rfl ⟨rfl, zd_46, zw_325, Nat.le_of_ble_eq_true rfl, ⟨_, Or.inl ⟨Nat.le_of_ble_eq_true rfl, rfl⟩, rfl⟩, zw_324, zw_326⟩) <|
  z_fc (zp_v rfl ⟨rfl, zd_294, zw_277, Nat.le_of_ble_eq_true rfl, ⟨_, Or.inr ⟨Nat.le_of_ble_eq_true rfl, rfl⟩, rfl⟩, zw_276, zw_278⟩) <|
  z_fc (zp_v rfl ⟨rfl, zd_295, zw_287, Nat.le_of_ble_eq_true rfl, ⟨_, Or.inr ⟨Nat.le_of_ble_eq_true rfl, rfl⟩, rfl⟩, zw_286, zw_288⟩) <|
  z_fc (zp_v rfl ⟨rfl, zd_43, zw_338, Nat.le_of_ble_eq_true rfl, ⟨_, Or.inl ⟨Nat.le_of_ble_eq_true rfl, rfl⟩, rfl⟩, zw_337, zw_339⟩) <|
  z_fc (zp_v rfl ⟨rfl, zd_45, zw_268, Nat.le_of_ble_eq_true rfl, ⟨_, Or.inl ⟨Nat.le_of_ble_eq_true rfl, rfl⟩, rfl⟩, zw_569, zw_269⟩) <|
  z_fc (zp_v rfl ⟨rfl, zd_49, zw_334, Nat.le_of_ble_eq_true rfl, ⟨_, Or.inl ⟨Nat.le_of_ble_eq_true rfl, rfl⟩, rfl⟩, zw_570, zw_335⟩) <|
  z_fc (zp_v rfl ⟨rfl, zd_44, zw_473, Nat.le_of_ble_eq_true rfl, ⟨_, Or.inl ⟨Nat.le_of_ble_eq_true rfl, rfl⟩, rfl⟩, zw_471, zw_13⟩) <|
  z_fc (zp_v rfl ⟨rfl, zd_52, zw_455, Nat.le_of_ble_eq_true rfl, ⟨_, Or.inl ⟨Nat.le_of_ble_eq_true rfl, rfl⟩, rfl⟩, zw_475, zw_456⟩) <|
  z_fc (zp_v rfl ⟨rfl, zd_54, zw_485, Nat.le_of_ble_eq_true rfl, ⟨_, Or.inl ⟨Nat.le_of_ble_eq_true rfl, rfl⟩, rfl⟩, zw_484, zw_486⟩) <|
  z_fc (zp_v rfl ⟨rfl, zd_58, zw_544, Nat.le_of_ble_eq_true rfl, ⟨_, Or.inl ⟨Nat.le_of_ble_eq_true rfl, rfl⟩, rfl⟩, zw_543, zw_545⟩) <|
  z_fc (zp_v rfl ⟨rfl, zd_59, zw_518, Nat.le_of_ble_eq_true rfl, ⟨_, Or.inl ⟨Nat.le_of_ble_eq_true rfl, rfl⟩, rfl⟩, zw_517, zw_519⟩) <|
  z_fc (zp_v rfl ⟨rfl, zd_60, zw_540, Nat.le_of_ble_eq_true rfl, ⟨_, Or.inl ⟨Nat.le_of_ble_eq_true rfl, rfl⟩, rfl⟩, zw_539, zw_541⟩) <|
  z_fc (zp_v rfl ⟨rfl, zd_69, zw_688, Nat.le_of_ble_eq_true rfl, ⟨_, Or.inl ⟨Nat.le_of_ble_eq_true rfl, rfl⟩, rfl⟩, zw_686, zw_23⟩) <|
  z_fc (zp_v rfl ⟨rfl, zd_70, zw_683, Nat.le_of_ble_eq_true rfl, ⟨_, Or.inl ⟨Nat.le_of_ble_eq_true rfl, rfl⟩, rfl⟩, zw_682, zw_684⟩) <|
  z_fc (zp_v rfl ⟨rfl, zd_73, zw_503, Nat.le_of_ble_eq_true rfl, ⟨_, Or.inl ⟨Nat.le_of_ble_eq_true rfl, rfl⟩, rfl⟩, zw_501, zw_17⟩) <|
  z_fn
def zTB_5 : List zTE := [(.invokespecial 3, 3, 9999, 0), (.new 9, 3, 3, 4), (.invokespecial 11, 3, 28, 0), (.new 16, 3, 1, 2), (.invokespecial 18, 3, 1, 0), (.putfield 26, 3, 0, 3), (.new 30, 3, 2, 12), (.invokespecial 32, 3, 5, 0), (.new 37, 3, 4, 2), (.invokespecial 39, 3, 42, 1), (.getfield 12, 3, 0, 0), (.invokevirtual 49, 3, 29, 1), (.getfield 52, 3, 3, 1), (.ldc 55, 2, 1, 0), (.invokevirtual 57, 3, 48, 1), (.getfield 46, 3, 0, 6), (.ldc 61, 2, 1, 1), (.invokevirtual 63, 3, 36, 3), (.getfield 33, 3, 0, 4), (.getfield 67, 3, 2, 0), (.getfield 70, 3, 4, 1), (.invokevirtual 74, 3, 47, 1), (.invokevirtual 83, 3, 52, 1), (.invokevirtual 86, 3, 6, 0), (.invokevirtual 90, 3, 45, 0), (.getfield 19, 3, 0, 1), (.invokevirtual 92, 3, 2, 1), (.getfield 96, 3, 2, 1), (.invokevirtual 99, 3, 30, 1), (.invokevirtual 104, 3, 33, 1), (.getfield 113, 3, 3, 0), (.putfield 113, 3, 3, 0), (.invokevirtual 116, 3, 43, 1), (.invokevirtual 120, 3, 31, 1), (.invokevirtual 125, 3, 49, 3), (.invokevirtual 128, 3, 136, 1), (.invokevirtual 131, 3, 46, 1), (.invokevirtual 134, 3, 61, 0), (.invokevirtual 138, 3, 137, 1), (.invokevirtual 141, 3, 138, 2), (.invokevirtual 145, 3, 53, 2), (.invokevirtual 148, 3, 55, 1), (.invokevirtual 151, 3, 54, 2), (.invokevirtual 156, 3, 72, 0), (.invokevirtual 161, 3, 41, 1), (.invokevirtual 166, 3, 32, 0), (.invokevirtual 169, 3, 75, 2), (.invokevirtual 172, 3, 140, 1), (.invokevirtual 175, 3, 59, 1), (.invokevirtual 178, 3, 35, 1), (.getfield 183, 3, 3, 3), (.invokevirtual 188, 3, 34, 1), (.invokevirtual 197, 3, 37, 1), (.invokevirtual 200, 3, 39, 0), (.invokevirtual 205, 3, 40, 0), (.invokevirtual 208, 3, 4, 1), (.getfield 212, 3, 1, 1), (.getfield 23, 3, 0, 2), (.getfield 26, 3, 0, 3), (.putfield 212, 3, 1, 1), (.getfield 220, 3, 2, 2), (.getfield 223, 3, 2, 3), (.invokevirtual 226, 3, 58, 5), (.invokevirtual 230, 3, 66, 2), (.invokevirtual 234, 3, 64, 1), (.invokevirtual 237, 3, 65, 0), (.invokevirtual 240, 3, 51, 1), (.invokestatic 243, 3, 141, 2), (.invokevirtual 247, 3, 145, 2), (.invokevirtual 250, 3, 62, 0), (.invokevirtual 253, 3, 71, 0), (.invokevirtual 256, 3, 68, 0), (.invokevirtual 259, 3, 70, 0), (.invokevirtual 262, 3, 74, 1), (.invokevirtual 265, 3, 139, 1), (.getstatic 268, 3, 0, 13), (.invokestatic 272, 3, 142, 3), (.getstatic 276, 3, 0, 14), (.invokevirtual 281, 3, 146, 2), (.invokevirtual 286, 3, 38, 1), (.invokevirtual 289, 3, 67, 2), (.getfield 42, 3, 0, 5), (.invokevirtual 292, 3, 50, 1), (.invokevirtual 303, 3, 63, 1), (.ldc2_w 308, 3, 0, 1), (.invokestatic 310, 3, 143, 2), (.invokevirtual 314, 3, 144, 0)]
set_option maxRecDepth 100000 in
theorem zTBk_5 (xs : List Int32) : ∀ x ∈ zTB_5, z_hok (za_T xs) za_P za_M "LyndonBench" x :=
  z_fc (zp_h rfl (fun _ _ => ⟨rfl, zw_144, zw_145, zw_146⟩)) <|
  z_fc (zp_h rfl (fun _ _ => ⟨rfl, Nat.le_of_ble_eq_true rfl, _, _, rfl, zn_3, zm_3, zw_147, zw_148, zw_119⟩)) <|
  z_fc (zp_n rfl ⟨rfl, zd_28, rfl, rfl, zw_150, Or.inl zw_149⟩) <|
  z_fc (zp_h rfl (fun _ _ => ⟨rfl, Nat.le_of_ble_eq_true rfl, _, _, rfl, zn_1, zm_1, zw_192, zw_193, zw_122⟩)) <|
  z_fc (zp_n rfl ⟨rfl, zd_1, rfl, rfl, zw_195, Or.inl zw_194⟩) <|
  z_fc (zp_h rfl (fun _ _ => ⟨rfl, Nat.le_of_ble_eq_true rfl, _, _, _, rfl, Nat.le_of_ble_eq_true rfl, zw_344, Or.inl rfl⟩)) <|
  z_fc (zp_h rfl (fun _ _ => ⟨rfl, Nat.le_of_ble_eq_true rfl, _, _, rfl, zn_2, zm_2, zw_209, zw_210, zw_123⟩)) <|
  z_fc (zp_n rfl ⟨rfl, zd_5, rfl, rfl, zw_212, Or.inr ⟨"LyndonBench", by decide +kernel⟩⟩) <|
  z_fc (zp_h rfl (fun _ _ => ⟨rfl, Nat.le_of_ble_eq_true rfl, _, _, rfl, zn_4, zm_4, zw_261, zw_154, zw_120⟩)) <|
  z_fc (zp_n rfl ⟨rfl, zd_42, rfl, rfl, zw_156, Or.inl zw_262⟩) <|
  z_fc (zp_h rfl (fun _ _ => ⟨rfl, Nat.le_of_ble_eq_true rfl, _, _, _, Or.inl ⟨Nat.le_of_ble_eq_true rfl, rfl⟩, Nat.le_of_ble_eq_true rfl, zw_341⟩)) <|
  z_fc (zp_v rfl ⟨rfl, zd_29, zw_264, Nat.le_of_ble_eq_true rfl, ⟨_, Or.inl ⟨Nat.le_of_ble_eq_true rfl, rfl⟩, rfl⟩, zw_263, zw_265⟩) <|
  z_fc (zp_h rfl (fun _ _ => ⟨rfl, Nat.le_of_ble_eq_true rfl, _, _, _, Or.inl ⟨Nat.le_of_ble_eq_true rfl, rfl⟩, Nat.le_of_ble_eq_true rfl, zw_177⟩)) <|
  z_fc (zp_h rfl (fun _ _ => ⟨rfl, Or.inr ⟨rfl, _, rfl, rfl, rfl⟩⟩)) <|
  z_fc (zp_v rfl ⟨rfl, zd_48, zw_273, Nat.le_of_ble_eq_true rfl, ⟨_, Or.inl ⟨Nat.le_of_ble_eq_true rfl, rfl⟩, rfl⟩, zw_272, zw_274⟩) <|
  z_fc (zp_h rfl (fun _ _ => ⟨rfl, Nat.le_of_ble_eq_true rfl, _, _, _, Or.inl ⟨Nat.le_of_ble_eq_true rfl, rfl⟩, Nat.le_of_ble_eq_true rfl, zw_347⟩)) <|
  z_fc (zp_h rfl (fun _ _ => ⟨rfl, Or.inr ⟨rfl, _, rfl, rfl, rfl⟩⟩)) <|
  z_fc (zp_v rfl ⟨rfl, zd_36, zw_330, Nat.le_of_ble_eq_true rfl, ⟨_, Or.inl ⟨Nat.le_of_ble_eq_true rfl, rfl⟩, rfl⟩, zw_329, zw_331⟩) <|
  z_fc (zp_h rfl (fun _ _ => ⟨rfl, Nat.le_of_ble_eq_true rfl, _, _, _, Or.inl ⟨Nat.le_of_ble_eq_true rfl, rfl⟩, Nat.le_of_ble_eq_true rfl, zw_345⟩)) <|
  z_fc (zp_h rfl (fun _ _ => ⟨rfl, Nat.le_of_ble_eq_true rfl, _, _, _, Or.inl ⟨Nat.le_of_ble_eq_true rfl, rfl⟩, Nat.le_of_ble_eq_true rfl, zw_220⟩)) <|
  z_fc (zp_h rfl (fun _ _ => ⟨rfl, Nat.le_of_ble_eq_true rfl, _, _, _, Or.inl ⟨Nat.le_of_ble_eq_true rfl, rfl⟩, Nat.le_of_ble_eq_true rfl, zw_164⟩)) <|
  z_fc (zp_v rfl ⟨rfl, zd_47, zw_368, Nat.le_of_ble_eq_true rfl, ⟨_, Or.inl ⟨Nat.le_of_ble_eq_true rfl, rfl⟩, rfl⟩, zw_367, zw_369⟩) <|
  z_fc (zp_v rfl ⟨rfl, zd_52, zw_455, Nat.le_of_ble_eq_true rfl, ⟨_, Or.inl ⟨Nat.le_of_ble_eq_true rfl, rfl⟩, rfl⟩, zw_872, zw_456⟩) <|
  z_fc (zp_v rfl ⟨rfl, zd_6, zw_376, Nat.le_of_ble_eq_true rfl, ⟨_, Or.inl ⟨Nat.le_of_ble_eq_true rfl, rfl⟩, rfl⟩, zw_375, zw_377⟩) <|
  z_fc (zp_v rfl ⟨rfl, zd_45, zw_268, Nat.le_of_ble_eq_true rfl, ⟨_, Or.inl ⟨Nat.le_of_ble_eq_true rfl, rfl⟩, rfl⟩, zw_588, zw_269⟩) <|
  z_fc (zp_h rfl (fun _ _ => ⟨rfl, Nat.le_of_ble_eq_true rfl, _, _, _, Or.inl ⟨Nat.le_of_ble_eq_true rfl, rfl⟩, Nat.le_of_ble_eq_true rfl, zw_342⟩)) <|
  z_fc (zp_v rfl ⟨rfl, zd_2, zw_590, Nat.le_of_ble_eq_true rfl, ⟨_, Or.inl ⟨Nat.le_of_ble_eq_true rfl, rfl⟩, rfl⟩, zw_589, zw_591⟩) <|
  z_fc (zp_h rfl (fun _ _ => ⟨rfl, Nat.le_of_ble_eq_true rfl, _, _, _, Or.inl ⟨Nat.le_of_ble_eq_true rfl, rfl⟩, Nat.le_of_ble_eq_true rfl, zw_222⟩)) <|
  z_fc (zp_v rfl ⟨rfl, zd_30, zw_598, Nat.le_of_ble_eq_true rfl, ⟨_, Or.inl ⟨Nat.le_of_ble_eq_true rfl, rfl⟩, rfl⟩, zw_602, zw_599⟩) <|
  z_fc (zp_v rfl ⟨rfl, zd_33, zw_883, Nat.le_of_ble_eq_true rfl, ⟨_, Or.inl ⟨Nat.le_of_ble_eq_true rfl, rfl⟩, rfl⟩, zw_882, zw_884⟩) <|
  z_fc (zp_h rfl (fun _ _ => ⟨rfl, Nat.le_of_ble_eq_true rfl, _, _, _, Or.inl ⟨Nat.le_of_ble_eq_true rfl, rfl⟩, Nat.le_of_ble_eq_true rfl, zw_175⟩)) <|
  z_fc (zp_h rfl (fun _ _ => ⟨rfl, Nat.le_of_ble_eq_true rfl, _, _, _, rfl, Nat.le_of_ble_eq_true rfl, zw_175, Or.inl rfl⟩)) <|
  z_fc (zp_v rfl ⟨rfl, zd_43, zw_338, Nat.le_of_ble_eq_true rfl, ⟨_, Or.inl ⟨Nat.le_of_ble_eq_true rfl, rfl⟩, rfl⟩, zw_648, zw_339⟩) <|
  z_fc (zp_v rfl ⟨rfl, zd_31, zw_447, Nat.le_of_ble_eq_true rfl, ⟨_, Or.inl ⟨Nat.le_of_ble_eq_true rfl, rfl⟩, rfl⟩, zw_913, zw_448⟩) <|
  z_fc (zp_v rfl ⟨rfl, zd_49, zw_334, Nat.le_of_ble_eq_true rfl, ⟨_, Or.inl ⟨Nat.le_of_ble_eq_true rfl, rfl⟩, rfl⟩, zw_787, zw_335⟩) <|
  z_fc (zp_v rfl ⟨rfl, zd_136, zw_924, Nat.le_of_ble_eq_true rfl, ⟨_, Or.inl ⟨Nat.le_of_ble_eq_true rfl, rfl⟩, rfl⟩, zw_922, zw_25⟩) <|
  z_fc (zp_v rfl ⟨rfl, zd_46, zw_325, Nat.le_of_ble_eq_true rfl, ⟨_, Or.inl ⟨Nat.le_of_ble_eq_true rfl, rfl⟩, rfl⟩, zw_786, zw_326⟩) <|
  z_fc (zp_v rfl ⟨rfl, zd_61, zw_609, Nat.le_of_ble_eq_true rfl, ⟨_, Or.inl ⟨Nat.le_of_ble_eq_true rfl, rfl⟩, rfl⟩, zw_608, zw_610⟩) <|
  z_fc (zp_v rfl ⟨rfl, zd_137, zw_936, Nat.le_of_ble_eq_true rfl, ⟨_, Or.inl ⟨Nat.le_of_ble_eq_true rfl, rfl⟩, rfl⟩, zw_934, zw_26⟩) <|
  z_fc (zp_v rfl ⟨rfl, zd_138, zw_948, Nat.le_of_ble_eq_true rfl, ⟨_, Or.inl ⟨Nat.le_of_ble_eq_true rfl, rfl⟩, rfl⟩, zw_946, zw_27⟩) <|
  z_fc (zp_v rfl ⟨rfl, zd_53, zw_468, Nat.le_of_ble_eq_true rfl, ⟨_, Or.inl ⟨Nat.le_of_ble_eq_true rfl, rfl⟩, rfl⟩, zw_951, zw_469⟩) <|
  z_fc (zp_v rfl ⟨rfl, zd_55, zw_481, Nat.le_of_ble_eq_true rfl, ⟨_, Or.inl ⟨Nat.le_of_ble_eq_true rfl, rfl⟩, rfl⟩, zw_959, zw_482⟩) <|
  z_fc (zp_v rfl ⟨rfl, zd_54, zw_485, Nat.le_of_ble_eq_true rfl, ⟨_, Or.inl ⟨Nat.le_of_ble_eq_true rfl, rfl⟩, rfl⟩, zw_607, zw_486⟩) <|
  z_fc (zp_v rfl ⟨rfl, zd_72, zw_498, Nat.le_of_ble_eq_true rfl, ⟨_, Or.inl ⟨Nat.le_of_ble_eq_true rfl, rfl⟩, rfl⟩, zw_690, zw_499⟩) <|
  z_fc (zp_v rfl ⟨rfl, zd_41, zw_510, Nat.le_of_ble_eq_true rfl, ⟨_, Or.inl ⟨Nat.le_of_ble_eq_true rfl, rfl⟩, rfl⟩, zw_976, zw_511⟩) <|
  z_fc (zp_v rfl ⟨rfl, zd_32, zw_523, Nat.le_of_ble_eq_true rfl, ⟨_, Or.inl ⟨Nat.le_of_ble_eq_true rfl, rfl⟩, rfl⟩, zw_978, zw_524⟩) <|
  z_fc (zp_v rfl ⟨rfl, zd_75, zw_528, Nat.le_of_ble_eq_true rfl, ⟨_, Or.inl ⟨Nat.le_of_ble_eq_true rfl, rfl⟩, rfl⟩, zw_979, zw_529⟩) <|
  z_fc (zp_v rfl ⟨rfl, zd_140, zw_990, Nat.le_of_ble_eq_true rfl, ⟨_, Or.inl ⟨Nat.le_of_ble_eq_true rfl, rfl⟩, rfl⟩, zw_988, zw_28⟩) <|
  z_fc (zp_v rfl ⟨rfl, zd_59, zw_518, Nat.le_of_ble_eq_true rfl, ⟨_, Or.inl ⟨Nat.le_of_ble_eq_true rfl, rfl⟩, rfl⟩, zw_707, zw_519⟩) <|
  z_fc (zp_v rfl ⟨rfl, zd_35, zw_549, Nat.le_of_ble_eq_true rfl, ⟨_, Or.inl ⟨Nat.le_of_ble_eq_true rfl, rfl⟩, rfl⟩, zw_1009, zw_550⟩) <|
  z_fc (zp_h rfl (fun _ _ => ⟨rfl, Nat.le_of_ble_eq_true rfl, _, _, _, Or.inl ⟨Nat.le_of_ble_eq_true rfl, rfl⟩, Nat.le_of_ble_eq_true rfl, zw_181⟩)) <|
  z_fc (zp_v rfl ⟨rfl, zd_34, zw_562, Nat.le_of_ble_eq_true rfl, ⟨_, Or.inl ⟨Nat.le_of_ble_eq_true rfl, rfl⟩, rfl⟩, zw_745, zw_563⟩) <|
  z_fc (zp_v rfl ⟨rfl, zd_37, zw_558, Nat.le_of_ble_eq_true rfl, ⟨_, Or.inl ⟨Nat.le_of_ble_eq_true rfl, rfl⟩, rfl⟩, zw_1027, zw_559⟩) <|
  z_fc (zp_v rfl ⟨rfl, zd_39, zw_576, Nat.le_of_ble_eq_true rfl, ⟨_, Or.inl ⟨Nat.le_of_ble_eq_true rfl, rfl⟩, rfl⟩, zw_1035, zw_577⟩) <|
  z_fc (zp_v rfl ⟨rfl, zd_40, zw_580, Nat.le_of_ble_eq_true rfl, ⟨_, Or.inl ⟨Nat.le_of_ble_eq_true rfl, rfl⟩, rfl⟩, zw_1037, zw_581⟩) <|
  z_fc (zp_v rfl ⟨rfl, zd_4, zw_617, Nat.le_of_ble_eq_true rfl, ⟨_, Or.inl ⟨Nat.le_of_ble_eq_true rfl, rfl⟩, rfl⟩, zw_616, zw_618⟩) <|
  z_fc (zp_h rfl (fun _ _ => ⟨rfl, Nat.le_of_ble_eq_true rfl, _, _, _, Or.inl ⟨Nat.le_of_ble_eq_true rfl, rfl⟩, Nat.le_of_ble_eq_true rfl, zw_203⟩)) <|
  z_fc (zp_h rfl (fun _ _ => ⟨rfl, Nat.le_of_ble_eq_true rfl, _, _, _, Or.inl ⟨Nat.le_of_ble_eq_true rfl, rfl⟩, Nat.le_of_ble_eq_true rfl, zw_343⟩)) <|
  z_fc (zp_h rfl (fun _ _ => ⟨rfl, Nat.le_of_ble_eq_true rfl, _, _, _, Or.inl ⟨Nat.le_of_ble_eq_true rfl, rfl⟩, Nat.le_of_ble_eq_true rfl, zw_344⟩)) <|
  z_fc (zp_h rfl (fun _ _ => ⟨rfl, Nat.le_of_ble_eq_true rfl, _, _, _, rfl, Nat.le_of_ble_eq_true rfl, zw_203, Or.inl rfl⟩)) <|
  z_fc (zp_h rfl (fun _ _ => ⟨rfl, Nat.le_of_ble_eq_true rfl, _, _, _, Or.inl ⟨Nat.le_of_ble_eq_true rfl, rfl⟩, Nat.le_of_ble_eq_true rfl, zw_224⟩)) <|
  z_fc (zp_h rfl (fun _ _ => ⟨rfl, Nat.le_of_ble_eq_true rfl, _, _, _, Or.inl ⟨Nat.le_of_ble_eq_true rfl, rfl⟩, Nat.le_of_ble_eq_true rfl, zw_226⟩)) <|
  z_fc (zp_v rfl ⟨rfl, zd_58, zw_544, Nat.le_of_ble_eq_true rfl, ⟨_, Or.inl ⟨Nat.le_of_ble_eq_true rfl, rfl⟩, rfl⟩, zw_746, zw_545⟩) <|
  z_fc (zp_v rfl ⟨rfl, zd_66, zw_783, Nat.le_of_ble_eq_true rfl, ⟨_, Or.inl ⟨Nat.le_of_ble_eq_true rfl, rfl⟩, rfl⟩, zw_782, zw_784⟩) <|
  z_fc (zp_v rfl ⟨rfl, zd_64, zw_658, Nat.le_of_ble_eq_true rfl, ⟨_, Or.inl ⟨Nat.le_of_ble_eq_true rfl, rfl⟩, rfl⟩, zw_657, zw_659⟩) <|
  z_fc (zp_v rfl ⟨rfl, zd_65, zw_666, Nat.le_of_ble_eq_true rfl, ⟨_, Or.inl ⟨Nat.le_of_ble_eq_true rfl, rfl⟩, rfl⟩, zw_665, zw_667⟩) <|
  z_fc (zp_v rfl ⟨rfl, zd_51, zw_566, Nat.le_of_ble_eq_true rfl, ⟨_, Or.inl ⟨Nat.le_of_ble_eq_true rfl, rfl⟩, rfl⟩, zw_1097, zw_567⟩) <|
  z_fc (zp_s rfl ⟨zd_141, zw_1112, zw_1113⟩) <|
  z_fc (zp_v rfl ⟨rfl, zd_145, zw_1118, Nat.le_of_ble_eq_true rfl, ⟨_, Or.inl ⟨Nat.le_of_ble_eq_true rfl, rfl⟩, rfl⟩, zw_1116, zw_29⟩) <|
  z_fc (zp_v rfl ⟨rfl, zd_62, zw_514, Nat.le_of_ble_eq_true rfl, ⟨_, Or.inl ⟨Nat.le_of_ble_eq_true rfl, rfl⟩, rfl⟩, zw_673, zw_515⟩) <|
  z_fc (zp_v rfl ⟨rfl, zd_71, zw_679, Nat.le_of_ble_eq_true rfl, ⟨_, Or.inl ⟨Nat.le_of_ble_eq_true rfl, rfl⟩, rfl⟩, zw_678, zw_680⟩) <|
  z_fc (zp_v rfl ⟨rfl, zd_68, zw_700, Nat.le_of_ble_eq_true rfl, ⟨_, Or.inl ⟨Nat.le_of_ble_eq_true rfl, rfl⟩, rfl⟩, zw_699, zw_701⟩) <|
  z_fc (zp_v rfl ⟨rfl, zd_70, zw_683, Nat.le_of_ble_eq_true rfl, ⟨_, Or.inl ⟨Nat.le_of_ble_eq_true rfl, rfl⟩, rfl⟩, zw_720, zw_684⟩) <|
  z_fc (zp_v rfl ⟨rfl, zd_74, zw_730, Nat.le_of_ble_eq_true rfl, ⟨_, Or.inl ⟨Nat.le_of_ble_eq_true rfl, rfl⟩, rfl⟩, zw_729, zw_731⟩) <|
  z_fc (zp_v rfl ⟨rfl, zd_139, zw_1133, Nat.le_of_ble_eq_true rfl, ⟨_, Or.inl ⟨Nat.le_of_ble_eq_true rfl, rfl⟩, rfl⟩, zw_1131, zw_31⟩) <|
  z_fc (zp_h rfl (fun _ _ => ⟨rfl, _, rfl, zw_760⟩)) <|
  z_fc (zp_s rfl ⟨zd_142, zw_762, zw_763⟩) <|
  z_fc (zp_h rfl (fun _ _ => ⟨rfl, _, rfl, zw_768⟩)) <|
  z_fc (zp_v rfl ⟨rfl, zd_146, zw_1153, Nat.le_of_ble_eq_true rfl, ⟨_, Or.inl ⟨Nat.le_of_ble_eq_true rfl, rfl⟩, rfl⟩, zw_1151, zw_32⟩) <|
  z_fc (zp_v rfl ⟨rfl, zd_38, zw_584, Nat.le_of_ble_eq_true rfl, ⟨_, Or.inl ⟨Nat.le_of_ble_eq_true rfl, rfl⟩, rfl⟩, zw_751, zw_585⟩) <|
  z_fc (zp_v rfl ⟨rfl, zd_67, zw_775, Nat.le_of_ble_eq_true rfl, ⟨_, Or.inl ⟨Nat.le_of_ble_eq_true rfl, rfl⟩, rfl⟩, zw_774, zw_776⟩) <|
  z_fc (zp_h rfl (fun _ _ => ⟨rfl, Nat.le_of_ble_eq_true rfl, _, _, _, Or.inl ⟨Nat.le_of_ble_eq_true rfl, rfl⟩, Nat.le_of_ble_eq_true rfl, zw_346⟩)) <|
  z_fc (zp_v rfl ⟨rfl, zd_50, zw_789, Nat.le_of_ble_eq_true rfl, ⟨_, Or.inl ⟨Nat.le_of_ble_eq_true rfl, rfl⟩, rfl⟩, zw_788, zw_790⟩) <|
  z_fc (zp_v rfl ⟨rfl, zd_63, zw_536, Nat.le_of_ble_eq_true rfl, ⟨_, Or.inl ⟨Nat.le_of_ble_eq_true rfl, rfl⟩, rfl⟩, zw_992, zw_537⟩) <|
  z_fc (zp_h rfl (fun _ _ => ⟨rfl, _, rfl, zw_1115⟩)) <|
  z_fc (zp_s rfl ⟨zd_143, zw_765, zw_766⟩) <|
  z_fc (zp_v rfl ⟨rfl, zd_144, zw_1122, Nat.le_of_ble_eq_true rfl, ⟨_, Or.inl ⟨Nat.le_of_ble_eq_true rfl, rfl⟩, rfl⟩, zw_1120, zw_30⟩) <|
  z_fn
def zTB_6 : List zTE := [(.invokespecial 1, 3, 9999, 0), (.newarray .int, 2, 0, 0), (.putfield 34, 3, 5, 13), (.newarray .char, 2, 0, 0), (.ldc 45, 2, 1, 34), (.invokevirtual 47, 3, 195, 1), (.invokevirtual 51, 3, 221, 0), (.putfield 55, 3, 5, 17), (.getfield 7, 3, 5, 0), (.invokestatic 58, 3, 148, 3), (.invokevirtual 62, 3, 153, 4), (.putfield 66, 3, 5, 14), (.getfield 66, 3, 5, 14), (.getfield 28, 3, 5, 8), (.getfield 31, 3, 5, 9), (.invokevirtual 69, 3, 158, 2), (.invokevirtual 73, 3, 155, 0), (.invokevirtual 76, 3, 159, 0), (.invokevirtual 80, 3, 161, 1), (.invokevirtual 84, 3, 162, 0), (.invokevirtual 87, 3, 163, 0), (.invokevirtual 90, 3, 167, 2), (.invokevirtual 94, 3, 173, 1), (.invokevirtual 98, 3, 156, 1), (.invokevirtual 102, 3, 175, 0), (.invokevirtual 105, 3, 160, 0), (.invokevirtual 108, 3, 157, 1), (.invokevirtual 111, 3, 168, 0), (.invokevirtual 114, 3, 179, 1), (.invokevirtual 117, 3, 165, 0), (.invokevirtual 120, 3, 182, 1), (.invokevirtual 123, 3, 185, 2), (.invokevirtual 126, 3, 190, 0), (.invokevirtual 129, 3, 154, 2), (.invokevirtual 132, 3, 192, 1), (.invokestatic 135, 3, 9998, 0), (.invokevirtual 140, 3, 294, 0), (.getfield 25, 3, 5, 7), (.getfield 145, 3, 5, 11), (.invokevirtual 148, 3, 295, 1), (.putfield 145, 3, 5, 11), (.getfield 152, 3, 5, 20), (.putfield 155, 3, 5, 19), (.getfield 155, 3, 5, 19), (.putfield 152, 3, 5, 20), (.putfield 158, 3, 5, 18), (.invokestatic 161, 3, 196, 1), (.getfield 158, 3, 5, 18), (.putfield 164, 3, 5, 21), (.getfield 164, 3, 5, 21), (.getfield 167, 3, 5, 12), (.putfield 167, 3, 5, 12), (.invokevirtual 170, 3, 199, 1), (.invokevirtual 174, 3, 200, 1), (.getfield 42, 3, 5, 23), (.invokevirtual 177, 3, 197, 0), (.invokevirtual 180, 3, 151, 1), (.invokevirtual 183, 3, 203, 1), (.invokevirtual 186, 3, 202, 1), (.invokevirtual 190, 3, 201, 3), (.invokevirtual 193, 3, 177, 1), (.invokevirtual 196, 3, 178, 2), (.invokevirtual 199, 3, 180, 0), (.invokevirtual 202, 3, 181, 0), (.invokevirtual 205, 3, 183, 1), (.invokevirtual 208, 3, 184, 1), (.invokevirtual 211, 3, 187, 0), (.invokevirtual 214, 3, 186, 1), (.invokevirtual 217, 3, 188, 1), (.invokevirtual 220, 3, 189, 1), (.invokevirtual 223, 3, 191, 0), (.invokevirtual 226, 3, 193, 0), (.invokevirtual 229, 3, 218, 1), (.ldc 232, 2, 1, 35), (.invokevirtual 233, 3, 198, 1), (.ldc 237, 2, 1, 36), (.ldc 239, 2, 1, 37), (.ldc 241, 2, 1, 38), (.ldc 243, 2, 1, 39), (.ldc 245, 2, 1, 40), (.invokevirtual 247, 3, 217, 0), (.ldc 250, 2, 1, 41), (.ldc 251, 2, 1, 42), (.ldc 252, 2, 1, 43), (.ldc 254, 2, 1, 44), (.ldc_w 256, 3, 1, 45), (.ldc_w 258, 3, 1, 46), (.invokevirtual 260, 3, 216, 0), (.invokevirtual 263, 3, 215, 1), (.getfield 266, 3, 5, 22), (.putfield 266, 3, 5, 22), (.invokevirtual 269, 3, 219, 1), (.invokevirtual 272, 3, 204, 0), (.invokevirtual 275, 3, 205, 0), (.invokevirtual 278, 3, 206, 0), (.invokevirtual 281, 3, 207, 0), (.invokevirtual 284, 3, 208, 0), (.invokevirtual 287, 3, 209, 0), (.invokevirtual 290, 3, 210, 0), (.invokevirtual 293, 3, 211, 0), (.invokevirtual 296, 3, 212, 0), (.invokevirtual 299, 3, 213, 0), (.invokevirtual 302, 3, 214, 0), (.ldc_w 305, 3, 1, 47), (.invokevirtual 307, 3, 220, 0), (.getfield 310, 3, 5, 10), (.invokevirtual 313, 3, 223, 1), (.getfield 22, 3, 5, 6), (.putfield 310, 3, 5, 10), (.invokevirtual 316, 3, 149, 1), (.getfield 13, 3, 5, 1), (.getfield 319, 3, 5, 4), (.getfield 16, 3, 5, 2), (.putfield 319, 3, 5, 4), (.invokevirtual 322, 3, 225, 0), (.invokevirtual 325, 3, 226, 1), (.invokevirtual 328, 3, 194, 1), (.invokevirtual 331, 3, 150, 2), (.invokevirtual 334, 3, 176, 1), (.invokevirtual 337, 3, 152, 1), (.putfield 340, 3, 5, 5), (.getfield 19, 3, 5, 3), (.getfield 340, 3, 5, 5), (.getfield 34, 3, 5, 13), (.invokevirtual 344, 3, 247, 1), (.invokevirtual 347, 3, 251, 2), (.invokevirtual 350, 3, 254, 1), (.invokevirtual 353, 3, 257, 2), (.invokevirtual 356, 3, 258, 2), (.invokevirtual 359, 3, 170, 1), (.invokevirtual 362, 3, 264, 2), (.invokevirtual 365, 3, 171, 2), (.invokevirtual 369, 3, 164, 0), (.invokevirtual 372, 3, 172, 0), (.invokevirtual 375, 3, 166, 0), (.invokevirtual 378, 3, 169, 1), (.invokevirtual 381, 3, 174, 1), (.ldc2_w 384, 3, 0, 2), (.getfield 38, 3, 5, 15), (.getfield 386, 3, 5, 16), (.putfield 386, 3, 5, 16), (.invokevirtual 389, 3, 289, 1), (.invokevirtual 392, 3, 288, 1), (.invokevirtual 395, 3, 290, 2)]
set_option maxRecDepth 100000 in
theorem zTBk_6 (xs : List Int32) : ∀ x ∈ zTB_6, z_hok (za_T xs) za_P za_M "LyndonBenchModel" x :=
  z_fc (zp_h rfl (fun _ _ => ⟨rfl, zw_1175, zw_145, zw_146⟩)) <|
  z_fc (zp_h rfl (fun _ _ => ⟨rfl, zw_260⟩)) <|
  z_fc (zp_h rfl (fun _ _ => ⟨rfl, Nat.le_of_ble_eq_true rfl, _, _, _, rfl, Nat.le_of_ble_eq_true rfl, zw_1447, Or.inl rfl⟩)) <|
  z_fc (zp_h rfl (fun _ _ => ⟨rfl, zw_1507⟩)) <|
  z_fc (zp_h rfl (fun _ _ => ⟨rfl, Or.inr ⟨rfl, _, rfl, rfl, rfl⟩⟩)) <|
  z_fc (zp_v rfl ⟨rfl, zd_195, zw_1179, Nat.le_of_ble_eq_true rfl, ⟨_, Or.inl ⟨Nat.le_of_ble_eq_true rfl, rfl⟩, rfl⟩, zw_1177, zw_33⟩) <|
  z_fc (zp_v rfl ⟨rfl, zd_221, zw_1185, Nat.le_of_ble_eq_true rfl, ⟨_, Or.inl ⟨Nat.le_of_ble_eq_true rfl, rfl⟩, rfl⟩, zw_1183, zw_34⟩) <|
  z_fc (zp_h rfl (fun _ _ => ⟨rfl, Nat.le_of_ble_eq_true rfl, _, _, _, rfl, Nat.le_of_ble_eq_true rfl, zw_1451, Or.inl rfl⟩)) <|
  z_fc (zp_h rfl (fun _ _ => ⟨rfl, Nat.le_of_ble_eq_true rfl, _, _, _, Or.inl ⟨Nat.le_of_ble_eq_true rfl, rfl⟩, Nat.le_of_ble_eq_true rfl, zw_1434⟩)) <|
  z_fc (zp_s rfl ⟨zd_148, zw_1215, zw_1216⟩) <|
  z_fc (zp_v rfl ⟨rfl, zd_153, zw_1428, Nat.le_of_ble_eq_true rfl, ⟨_, Or.inl ⟨Nat.le_of_ble_eq_true rfl, rfl⟩, rfl⟩, zw_1426, zw_90⟩) <|
  z_fc (zp_h rfl (fun _ _ => ⟨rfl, Nat.le_of_ble_eq_true rfl, _, _, _, rfl, Nat.le_of_ble_eq_true rfl, zw_1448, Or.inl rfl⟩)) <|
  z_fc (zp_h rfl (fun _ _ => ⟨rfl, Nat.le_of_ble_eq_true rfl, _, _, _, Or.inl ⟨Nat.le_of_ble_eq_true rfl, rfl⟩, Nat.le_of_ble_eq_true rfl, zw_1448⟩)) <|
  z_fc (zp_h rfl (fun _ _ => ⟨rfl, Nat.le_of_ble_eq_true rfl, _, _, _, Or.inl ⟨Nat.le_of_ble_eq_true rfl, rfl⟩, Nat.le_of_ble_eq_true rfl, zw_1442⟩)) <|
  z_fc (zp_h rfl (fun _ _ => ⟨rfl, Nat.le_of_ble_eq_true rfl, _, _, _, Or.inl ⟨Nat.le_of_ble_eq_true rfl, rfl⟩, Nat.le_of_ble_eq_true rfl, zw_1443⟩)) <|
  z_fc (zp_v rfl ⟨rfl, zd_158, zw_1296, Nat.le_of_ble_eq_true rfl, ⟨_, Or.inl ⟨Nat.le_of_ble_eq_true rfl, rfl⟩, rfl⟩, zw_1294, zw_57⟩) <|
  z_fc (zp_v rfl ⟨rfl, zd_155, zw_1276, Nat.le_of_ble_eq_true rfl, ⟨_, Or.inl ⟨Nat.le_of_ble_eq_true rfl, rfl⟩, rfl⟩, zw_1274, zw_52⟩) <|
  z_fc (zp_v rfl ⟨rfl, zd_159, zw_1292, Nat.le_of_ble_eq_true rfl, ⟨_, Or.inl ⟨Nat.le_of_ble_eq_true rfl, rfl⟩, rfl⟩, zw_1290, zw_56⟩) <|
  z_fc (zp_v rfl ⟨rfl, zd_161, zw_1360, Nat.le_of_ble_eq_true rfl, ⟨_, Or.inl ⟨Nat.le_of_ble_eq_true rfl, rfl⟩, rfl⟩, zw_1358, zw_73⟩) <|
  z_fc (zp_v rfl ⟨rfl, zd_162, zw_1356, Nat.le_of_ble_eq_true rfl, ⟨_, Or.inl ⟨Nat.le_of_ble_eq_true rfl, rfl⟩, rfl⟩, zw_1354, zw_72⟩) <|
  z_fc (zp_v rfl ⟨rfl, zd_163, zw_1364, Nat.le_of_ble_eq_true rfl, ⟨_, Or.inl ⟨Nat.le_of_ble_eq_true rfl, rfl⟩, rfl⟩, zw_1362, zw_74⟩) <|
  z_fc (zp_v rfl ⟨rfl, zd_167, zw_1340, Nat.le_of_ble_eq_true rfl, ⟨_, Or.inl ⟨Nat.le_of_ble_eq_true rfl, rfl⟩, rfl⟩, zw_1338, zw_68⟩) <|
  z_fc (zp_v rfl ⟨rfl, zd_173, zw_1779, Nat.le_of_ble_eq_true rfl, ⟨_, Or.inl ⟨Nat.le_of_ble_eq_true rfl, rfl⟩, rfl⟩, zw_1777, zw_112⟩) <|
  z_fc (zp_v rfl ⟨rfl, zd_156, zw_1432, Nat.le_of_ble_eq_true rfl, ⟨_, Or.inl ⟨Nat.le_of_ble_eq_true rfl, rfl⟩, rfl⟩, zw_1430, zw_91⟩) <|
  z_fc (zp_v rfl ⟨rfl, zd_175, zw_1268, Nat.le_of_ble_eq_true rfl, ⟨_, Or.inl ⟨Nat.le_of_ble_eq_true rfl, rfl⟩, rfl⟩, zw_1266, zw_50⟩) <|
  z_fc (zp_v rfl ⟨rfl, zd_160, zw_1288, Nat.le_of_ble_eq_true rfl, ⟨_, Or.inl ⟨Nat.le_of_ble_eq_true rfl, rfl⟩, rfl⟩, zw_1286, zw_55⟩) <|
  z_fc (zp_v rfl ⟨rfl, zd_157, zw_1316, Nat.le_of_ble_eq_true rfl, ⟨_, Or.inl ⟨Nat.le_of_ble_eq_true rfl, rfl⟩, rfl⟩, zw_1314, zw_62⟩) <|
  z_fc (zp_v rfl ⟨rfl, zd_168, zw_1336, Nat.le_of_ble_eq_true rfl, ⟨_, Or.inl ⟨Nat.le_of_ble_eq_true rfl, rfl⟩, rfl⟩, zw_1334, zw_67⟩) <|
  z_fc (zp_v rfl ⟨rfl, zd_179, zw_1312, Nat.le_of_ble_eq_true rfl, ⟨_, Or.inl ⟨Nat.le_of_ble_eq_true rfl, rfl⟩, rfl⟩, zw_1310, zw_61⟩) <|
  z_fc (zp_v rfl ⟨rfl, zd_165, zw_1352, Nat.le_of_ble_eq_true rfl, ⟨_, Or.inl ⟨Nat.le_of_ble_eq_true rfl, rfl⟩, rfl⟩, zw_1350, zw_71⟩) <|
  z_fc (zp_v rfl ⟨rfl, zd_182, zw_1368, Nat.le_of_ble_eq_true rfl, ⟨_, Or.inl ⟨Nat.le_of_ble_eq_true rfl, rfl⟩, rfl⟩, zw_1366, zw_75⟩) <|
  z_fc (zp_v rfl ⟨rfl, zd_185, zw_1384, Nat.le_of_ble_eq_true rfl, ⟨_, Or.inl ⟨Nat.le_of_ble_eq_true rfl, rfl⟩, rfl⟩, zw_1382, zw_79⟩) <|
  z_fc (zp_v rfl ⟨rfl, zd_190, zw_1412, Nat.le_of_ble_eq_true rfl, ⟨_, Or.inl ⟨Nat.le_of_ble_eq_true rfl, rfl⟩, rfl⟩, zw_1410, zw_86⟩) <|
  z_fc (zp_v rfl ⟨rfl, zd_154, zw_1424, Nat.le_of_ble_eq_true rfl, ⟨_, Or.inl ⟨Nat.le_of_ble_eq_true rfl, rfl⟩, rfl⟩, zw_1422, zw_89⟩) <|
  z_fc (zp_v rfl ⟨rfl, zd_192, zw_1420, Nat.le_of_ble_eq_true rfl, ⟨_, Or.inl ⟨Nat.le_of_ble_eq_true rfl, rfl⟩, rfl⟩, zw_1418, zw_88⟩) <|
  z_fc (zp_h rfl (fun _ _ => ⟨rfl, zw_1544, zw_160, zw_121, zw_161⟩)) <|
  z_fc (zp_v rfl ⟨rfl, zd_294, zw_277, Nat.le_of_ble_eq_true rfl, ⟨_, Or.inr ⟨Nat.le_of_ble_eq_true rfl, rfl⟩, rfl⟩, zw_1181, zw_278⟩) <|
  z_fc (zp_h rfl (fun _ _ => ⟨rfl, Nat.le_of_ble_eq_true rfl, _, _, _, Or.inl ⟨Nat.le_of_ble_eq_true rfl, rfl⟩, Nat.le_of_ble_eq_true rfl, zw_1441⟩)) <|
  z_fc (zp_h rfl (fun _ _ => ⟨rfl, Nat.le_of_ble_eq_true rfl, _, _, _, Or.inl ⟨Nat.le_of_ble_eq_true rfl, rfl⟩, Nat.le_of_ble_eq_true rfl, zw_1445⟩)) <|
  z_fc (zp_v rfl ⟨rfl, zd_295, zw_287, Nat.le_of_ble_eq_true rfl, ⟨_, Or.inr ⟨Nat.le_of_ble_eq_true rfl, rfl⟩, rfl⟩, zw_1182, zw_288⟩) <|
  z_fc (zp_h rfl (fun _ _ => ⟨rfl, Nat.le_of_ble_eq_true rfl, _, _, _, rfl, Nat.le_of_ble_eq_true rfl, zw_1445, Or.inl rfl⟩)) <|
  z_fc (zp_h rfl (fun _ _ => ⟨rfl, Nat.le_of_ble_eq_true rfl, _, _, _, Or.inl ⟨Nat.le_of_ble_eq_true rfl, rfl⟩, Nat.le_of_ble_eq_true rfl, zw_1454⟩)) <|
  z_fc (zp_h rfl (fun _ _ => ⟨rfl, Nat.le_of_ble_eq_true rfl, _, _, _, rfl, Nat.le_of_ble_eq_true rfl, zw_1453, Or.inl rfl⟩)) <|
  z_fc (zp_h rfl (fun _ _ => ⟨rfl, Nat.le_of_ble_eq_true rfl, _, _, _, Or.inl ⟨Nat.le_of_ble_eq_true rfl, rfl⟩, Nat.le_of_ble_eq_true rfl, zw_1453⟩)) <|
  z_fc (zp_h rfl (fun _ _ => ⟨rfl, Nat.le_of_ble_eq_true rfl, _, _, _, rfl, Nat.le_of_ble_eq_true rfl, zw_1454, Or.inl rfl⟩)) <|
  z_fc (zp_h rfl (fun _ _ => ⟨rfl, Nat.le_of_ble_eq_true rfl, _, _, _, rfl, Nat.le_of_ble_eq_true rfl, zw_1452, Or.inl rfl⟩)) <|
  z_fc (zp_s rfl ⟨zd_196, zw_1191, zw_1192⟩) <|
  z_fc (zp_h rfl (fun _ _ => ⟨rfl, Nat.le_of_ble_eq_true rfl, _, _, _, Or.inl ⟨Nat.le_of_ble_eq_true rfl, rfl⟩, Nat.le_of_ble_eq_true rfl, zw_1452⟩)) <|
  z_fc (zp_h rfl (fun _ _ => ⟨rfl, Nat.le_of_ble_eq_true rfl, _, _, _, rfl, Nat.le_of_ble_eq_true rfl, zw_1455, Or.inl rfl⟩)) <|
  z_fc (zp_h rfl (fun _ _ => ⟨rfl, Nat.le_of_ble_eq_true rfl, _, _, _, Or.inl ⟨Nat.le_of_ble_eq_true rfl, rfl⟩, Nat.le_of_ble_eq_true rfl, zw_1455⟩)) <|
  z_fc (zp_h rfl (fun _ _ => ⟨rfl, Nat.le_of_ble_eq_true rfl, _, _, _, Or.inl ⟨Nat.le_of_ble_eq_true rfl, rfl⟩, Nat.le_of_ble_eq_true rfl, zw_1446⟩)) <|
  z_fc (zp_h rfl (fun _ _ => ⟨rfl, Nat.le_of_ble_eq_true rfl, _, _, _, rfl, Nat.le_of_ble_eq_true rfl, zw_1446, Or.inl rfl⟩)) <|
  z_fc (zp_v rfl ⟨rfl, zd_199, zw_1205, Nat.le_of_ble_eq_true rfl, ⟨_, Or.inl ⟨Nat.le_of_ble_eq_true rfl, rfl⟩, rfl⟩, zw_1203, zw_38⟩) <|
  z_fc (zp_v rfl ⟨rfl, zd_200, zw_1213, Nat.le_of_ble_eq_true rfl, ⟨_, Or.inl ⟨Nat.le_of_ble_eq_true rfl, rfl⟩, rfl⟩, zw_1211, zw_40⟩) <|
  z_fc (zp_h rfl (fun _ _ => ⟨rfl, Nat.le_of_ble_eq_true rfl, _, _, _, Or.inl ⟨Nat.le_of_ble_eq_true rfl, rfl⟩, Nat.le_of_ble_eq_true rfl, zw_1457⟩)) <|
  z_fc (zp_v rfl ⟨rfl, zd_197, zw_1189, Nat.le_of_ble_eq_true rfl, ⟨_, Or.inl ⟨Nat.le_of_ble_eq_true rfl, rfl⟩, rfl⟩, zw_1187, zw_35⟩) <|
  z_fc (zp_v rfl ⟨rfl, zd_151, zw_1260, Nat.le_of_ble_eq_true rfl, ⟨_, Or.inl ⟨Nat.le_of_ble_eq_true rfl, rfl⟩, rfl⟩, zw_1258, zw_48⟩) <|
  z_fc (zp_v rfl ⟨rfl, zd_203, zw_1256, Nat.le_of_ble_eq_true rfl, ⟨_, Or.inl ⟨Nat.le_of_ble_eq_true rfl, rfl⟩, rfl⟩, zw_1254, zw_47⟩) <|
  z_fc (zp_v rfl ⟨rfl, zd_202, zw_1264, Nat.le_of_ble_eq_true rfl, ⟨_, Or.inl ⟨Nat.le_of_ble_eq_true rfl, rfl⟩, rfl⟩, zw_1262, zw_49⟩) <|
  z_fc (zp_v rfl ⟨rfl, zd_201, zw_1209, Nat.le_of_ble_eq_true rfl, ⟨_, Or.inl ⟨Nat.le_of_ble_eq_true rfl, rfl⟩, rfl⟩, zw_1207, zw_39⟩) <|
  z_fc (zp_v rfl ⟨rfl, zd_177, zw_1284, Nat.le_of_ble_eq_true rfl, ⟨_, Or.inl ⟨Nat.le_of_ble_eq_true rfl, rfl⟩, rfl⟩, zw_1282, zw_54⟩) <|
  z_fc (zp_v rfl ⟨rfl, zd_178, zw_1304, Nat.le_of_ble_eq_true rfl, ⟨_, Or.inl ⟨Nat.le_of_ble_eq_true rfl, rfl⟩, rfl⟩, zw_1302, zw_59⟩) <|
  z_fc (zp_v rfl ⟨rfl, zd_180, zw_1324, Nat.le_of_ble_eq_true rfl, ⟨_, Or.inl ⟨Nat.le_of_ble_eq_true rfl, rfl⟩, rfl⟩, zw_1322, zw_64⟩) <|
  z_fc (zp_v rfl ⟨rfl, zd_181, zw_1332, Nat.le_of_ble_eq_true rfl, ⟨_, Or.inl ⟨Nat.le_of_ble_eq_true rfl, rfl⟩, rfl⟩, zw_1330, zw_66⟩) <|
  z_fc (zp_v rfl ⟨rfl, zd_183, zw_1348, Nat.le_of_ble_eq_true rfl, ⟨_, Or.inl ⟨Nat.le_of_ble_eq_true rfl, rfl⟩, rfl⟩, zw_1346, zw_70⟩) <|
  z_fc (zp_v rfl ⟨rfl, zd_184, zw_1372, Nat.le_of_ble_eq_true rfl, ⟨_, Or.inl ⟨Nat.le_of_ble_eq_true rfl, rfl⟩, rfl⟩, zw_1370, zw_76⟩) <|
  z_fc (zp_v rfl ⟨rfl, zd_187, zw_1380, Nat.le_of_ble_eq_true rfl, ⟨_, Or.inl ⟨Nat.le_of_ble_eq_true rfl, rfl⟩, rfl⟩, zw_1378, zw_78⟩) <|
  z_fc (zp_v rfl ⟨rfl, zd_186, zw_1388, Nat.le_of_ble_eq_true rfl, ⟨_, Or.inl ⟨Nat.le_of_ble_eq_true rfl, rfl⟩, rfl⟩, zw_1386, zw_80⟩) <|
  z_fc (zp_v rfl ⟨rfl, zd_188, zw_1392, Nat.le_of_ble_eq_true rfl, ⟨_, Or.inl ⟨Nat.le_of_ble_eq_true rfl, rfl⟩, rfl⟩, zw_1390, zw_81⟩) <|
  z_fc (zp_v rfl ⟨rfl, zd_189, zw_1400, Nat.le_of_ble_eq_true rfl, ⟨_, Or.inl ⟨Nat.le_of_ble_eq_true rfl, rfl⟩, rfl⟩, zw_1398, zw_83⟩) <|
  z_fc (zp_v rfl ⟨rfl, zd_191, zw_1408, Nat.le_of_ble_eq_true rfl, ⟨_, Or.inl ⟨Nat.le_of_ble_eq_true rfl, rfl⟩, rfl⟩, zw_1406, zw_85⟩) <|
  z_fc (zp_v rfl ⟨rfl, zd_193, zw_1416, Nat.le_of_ble_eq_true rfl, ⟨_, Or.inl ⟨Nat.le_of_ble_eq_true rfl, rfl⟩, rfl⟩, zw_1414, zw_87⟩) <|
  z_fc (zp_v rfl ⟨rfl, zd_218, zw_1220, Nat.le_of_ble_eq_true rfl, ⟨_, Or.inl ⟨Nat.le_of_ble_eq_true rfl, rfl⟩, rfl⟩, zw_1218, zw_41⟩) <|
  z_fc (zp_h rfl (fun _ _ => ⟨rfl, Or.inr ⟨rfl, _, rfl, rfl, rfl⟩⟩)) <|
  z_fc (zp_v rfl ⟨rfl, zd_198, zw_1201, Nat.le_of_ble_eq_true rfl, ⟨_, Or.inl ⟨Nat.le_of_ble_eq_true rfl, rfl⟩, rfl⟩, zw_1199, zw_37⟩) <|
  z_fc (zp_h rfl (fun _ _ => ⟨rfl, Or.inr ⟨rfl, _, rfl, rfl, rfl⟩⟩)) <|
  z_fc (zp_h rfl (fun _ _ => ⟨rfl, Or.inr ⟨rfl, _, rfl, rfl, rfl⟩⟩)) <|
  z_fc (zp_h rfl (fun _ _ => ⟨rfl, Or.inr ⟨rfl, _, rfl, rfl, rfl⟩⟩)) <|
  z_fc (zp_h rfl (fun _ _ => ⟨rfl, Or.inr ⟨rfl, _, rfl, rfl, rfl⟩⟩)) <|
  z_fc (zp_h rfl (fun _ _ => ⟨rfl, Or.inr ⟨rfl, _, rfl, rfl, rfl⟩⟩)) <|
  z_fc (zp_v rfl ⟨rfl, zd_217, zw_1234, Nat.le_of_ble_eq_true rfl, ⟨_, Or.inl ⟨Nat.le_of_ble_eq_true rfl, rfl⟩, rfl⟩, zw_1232, zw_43⟩) <|
  z_fc (zp_h rfl (fun _ _ => ⟨rfl, Or.inr ⟨rfl, _, rfl, rfl, rfl⟩⟩)) <|
  z_fc (zp_h rfl (fun _ _ => ⟨rfl, Or.inr ⟨rfl, _, rfl, rfl, rfl⟩⟩)) <|
  z_fc (zp_h rfl (fun _ _ => ⟨rfl, Or.inr ⟨rfl, _, rfl, rfl, rfl⟩⟩)) <|
  z_fc (zp_h rfl (fun _ _ => ⟨rfl, Or.inr ⟨rfl, _, rfl, rfl, rfl⟩⟩)) <|
  z_fc (zp_h rfl (fun _ _ => ⟨rfl, _, rfl, rfl, rfl⟩)) <|
  z_fc (zp_h rfl (fun _ _ => ⟨rfl, _, rfl, rfl, rfl⟩)) <|
  z_fc (zp_v rfl ⟨rfl, zd_216, zw_1224, Nat.le_of_ble_eq_true rfl, ⟨_, Or.inl ⟨Nat.le_of_ble_eq_true rfl, rfl⟩, rfl⟩, zw_1222, zw_42⟩) <|
  z_fc (zp_v rfl ⟨rfl, zd_215, zw_1244, Nat.le_of_ble_eq_true rfl, ⟨_, Or.inl ⟨Nat.le_of_ble_eq_true rfl, rfl⟩, rfl⟩, zw_1242, zw_44⟩) <|
  z_fc (zp_h rfl (fun _ _ => ⟨rfl, Nat.le_of_ble_eq_true rfl, _, _, _, Or.inl ⟨Nat.le_of_ble_eq_true rfl, rfl⟩, Nat.le_of_ble_eq_true rfl, zw_1456⟩)) <|
  z_fc (zp_h rfl (fun _ _ => ⟨rfl, Nat.le_of_ble_eq_true rfl, _, _, _, rfl, Nat.le_of_ble_eq_true rfl, zw_1456, Or.inl rfl⟩)) <|
  z_fc (zp_v rfl ⟨rfl, zd_219, zw_1248, Nat.le_of_ble_eq_true rfl, ⟨_, Or.inl ⟨Nat.le_of_ble_eq_true rfl, rfl⟩, rfl⟩, zw_1246, zw_45⟩) <|
  z_fc (zp_v rfl ⟨rfl, zd_204, zw_1252, Nat.le_of_ble_eq_true rfl, ⟨_, Or.inl ⟨Nat.le_of_ble_eq_true rfl, rfl⟩, rfl⟩, zw_1250, zw_46⟩) <|
  z_fc (zp_v rfl ⟨rfl, zd_205, zw_1272, Nat.le_of_ble_eq_true rfl, ⟨_, Or.inl ⟨Nat.le_of_ble_eq_true rfl, rfl⟩, rfl⟩, zw_1270, zw_51⟩) <|
  z_fc (zp_v rfl ⟨rfl, zd_206, zw_1280, Nat.le_of_ble_eq_true rfl, ⟨_, Or.inl ⟨Nat.le_of_ble_eq_true rfl, rfl⟩, rfl⟩, zw_1278, zw_53⟩) <|
  z_fc (zp_v rfl ⟨rfl, zd_207, zw_1300, Nat.le_of_ble_eq_true rfl, ⟨_, Or.inl ⟨Nat.le_of_ble_eq_true rfl, rfl⟩, rfl⟩, zw_1298, zw_58⟩) <|
  z_fc (zp_v rfl ⟨rfl, zd_208, zw_1308, Nat.le_of_ble_eq_true rfl, ⟨_, Or.inl ⟨Nat.le_of_ble_eq_true rfl, rfl⟩, rfl⟩, zw_1306, zw_60⟩) <|
  z_fc (zp_v rfl ⟨rfl, zd_209, zw_1320, Nat.le_of_ble_eq_true rfl, ⟨_, Or.inl ⟨Nat.le_of_ble_eq_true rfl, rfl⟩, rfl⟩, zw_1318, zw_63⟩) <|
  z_fc (zp_v rfl ⟨rfl, zd_210, zw_1328, Nat.le_of_ble_eq_true rfl, ⟨_, Or.inl ⟨Nat.le_of_ble_eq_true rfl, rfl⟩, rfl⟩, zw_1326, zw_65⟩) <|
  z_fc (zp_v rfl ⟨rfl, zd_211, zw_1344, Nat.le_of_ble_eq_true rfl, ⟨_, Or.inl ⟨Nat.le_of_ble_eq_true rfl, rfl⟩, rfl⟩, zw_1342, zw_69⟩) <|
  z_fc (zp_v rfl ⟨rfl, zd_212, zw_1376, Nat.le_of_ble_eq_true rfl, ⟨_, Or.inl ⟨Nat.le_of_ble_eq_true rfl, rfl⟩, rfl⟩, zw_1374, zw_77⟩) <|
  z_fc (zp_v rfl ⟨rfl, zd_213, zw_1396, Nat.le_of_ble_eq_true rfl, ⟨_, Or.inl ⟨Nat.le_of_ble_eq_true rfl, rfl⟩, rfl⟩, zw_1394, zw_82⟩) <|
  z_fc (zp_v rfl ⟨rfl, zd_214, zw_1404, Nat.le_of_ble_eq_true rfl, ⟨_, Or.inl ⟨Nat.le_of_ble_eq_true rfl, rfl⟩, rfl⟩, zw_1402, zw_84⟩) <|
  z_fc (zp_h rfl (fun _ _ => ⟨rfl, _, rfl, rfl, rfl⟩)) <|
  z_fc (zp_v rfl ⟨rfl, zd_220, zw_1196, Nat.le_of_ble_eq_true rfl, ⟨_, Or.inl ⟨Nat.le_of_ble_eq_true rfl, rfl⟩, rfl⟩, zw_1194, zw_36⟩) <|
  z_fc (zp_h rfl (fun _ _ => ⟨rfl, Nat.le_of_ble_eq_true rfl, _, _, _, Or.inl ⟨Nat.le_of_ble_eq_true rfl, rfl⟩, Nat.le_of_ble_eq_true rfl, zw_1444⟩)) <|
  z_fc (zp_v rfl ⟨rfl, zd_223, zw_1514, Nat.le_of_ble_eq_true rfl, ⟨_, Or.inl ⟨Nat.le_of_ble_eq_true rfl, rfl⟩, rfl⟩, zw_1512, zw_92⟩) <|
  z_fc (zp_h rfl (fun _ _ => ⟨rfl, Nat.le_of_ble_eq_true rfl, _, _, _, Or.inl ⟨Nat.le_of_ble_eq_true rfl, rfl⟩, Nat.le_of_ble_eq_true rfl, zw_1440⟩)) <|
  z_fc (zp_h rfl (fun _ _ => ⟨rfl, Nat.le_of_ble_eq_true rfl, _, _, _, rfl, Nat.le_of_ble_eq_true rfl, zw_1444, Or.inl rfl⟩)) <|
  z_fc (zp_v rfl ⟨rfl, zd_149, zw_1522, Nat.le_of_ble_eq_true rfl, ⟨_, Or.inl ⟨Nat.le_of_ble_eq_true rfl, rfl⟩, rfl⟩, zw_1520, zw_93⟩) <|
  z_fc (zp_h rfl (fun _ _ => ⟨rfl, Nat.le_of_ble_eq_true rfl, _, _, _, Or.inl ⟨Nat.le_of_ble_eq_true rfl, rfl⟩, Nat.le_of_ble_eq_true rfl, zw_1435⟩)) <|
  z_fc (zp_h rfl (fun _ _ => ⟨rfl, Nat.le_of_ble_eq_true rfl, _, _, _, Or.inl ⟨Nat.le_of_ble_eq_true rfl, rfl⟩, Nat.le_of_ble_eq_true rfl, zw_1438⟩)) <|
  z_fc (zp_h rfl (fun _ _ => ⟨rfl, Nat.le_of_ble_eq_true rfl, _, _, _, Or.inl ⟨Nat.le_of_ble_eq_true rfl, rfl⟩, Nat.le_of_ble_eq_true rfl, zw_1436⟩)) <|
  z_fc (zp_h rfl (fun _ _ => ⟨rfl, Nat.le_of_ble_eq_true rfl, _, _, _, rfl, Nat.le_of_ble_eq_true rfl, zw_1438, Or.inl rfl⟩)) <|
  z_fc (zp_v rfl ⟨rfl, zd_225, zw_1530, Nat.le_of_ble_eq_true rfl, ⟨_, Or.inl ⟨Nat.le_of_ble_eq_true rfl, rfl⟩, rfl⟩, zw_1528, zw_94⟩) <|
  z_fc (zp_v rfl ⟨rfl, zd_226, zw_1534, Nat.le_of_ble_eq_true rfl, ⟨_, Or.inl ⟨Nat.le_of_ble_eq_true rfl, rfl⟩, rfl⟩, zw_1532, zw_95⟩) <|
  z_fc (zp_v rfl ⟨rfl, zd_194, zw_1542, Nat.le_of_ble_eq_true rfl, ⟨_, Or.inl ⟨Nat.le_of_ble_eq_true rfl, rfl⟩, rfl⟩, zw_1540, zw_96⟩) <|
  z_fc (zp_v rfl ⟨rfl, zd_150, zw_1547, Nat.le_of_ble_eq_true rfl, ⟨_, Or.inl ⟨Nat.le_of_ble_eq_true rfl, rfl⟩, rfl⟩, zw_1545, zw_97⟩) <|
  z_fc (zp_v rfl ⟨rfl, zd_176, zw_1559, Nat.le_of_ble_eq_true rfl, ⟨_, Or.inl ⟨Nat.le_of_ble_eq_true rfl, rfl⟩, rfl⟩, zw_1557, zw_98⟩) <|
  z_fc (zp_v rfl ⟨rfl, zd_152, zw_1599, Nat.le_of_ble_eq_true rfl, ⟨_, Or.inl ⟨Nat.le_of_ble_eq_true rfl, rfl⟩, rfl⟩, zw_1597, zw_99⟩) <|
  z_fc (zp_h rfl (fun _ _ => ⟨rfl, Nat.le_of_ble_eq_true rfl, _, _, _, rfl, Nat.le_of_ble_eq_true rfl, zw_1439, Or.inl rfl⟩)) <|
  z_fc (zp_h rfl (fun _ _ => ⟨rfl, Nat.le_of_ble_eq_true rfl, _, _, _, Or.inl ⟨Nat.le_of_ble_eq_true rfl, rfl⟩, Nat.le_of_ble_eq_true rfl, zw_1437⟩)) <|
  z_fc (zp_h rfl (fun _ _ => ⟨rfl, Nat.le_of_ble_eq_true rfl, _, _, _, Or.inl ⟨Nat.le_of_ble_eq_true rfl, rfl⟩, Nat.le_of_ble_eq_true rfl, zw_1439⟩)) <|
  z_fc (zp_h rfl (fun _ _ => ⟨rfl, Nat.le_of_ble_eq_true rfl, _, _, _, Or.inl ⟨Nat.le_of_ble_eq_true rfl, rfl⟩, Nat.le_of_ble_eq_true rfl, zw_1447⟩)) <|
  z_fc (zp_v rfl ⟨rfl, zd_247, zw_1635, Nat.le_of_ble_eq_true rfl, ⟨_, Or.inl ⟨Nat.le_of_ble_eq_true rfl, rfl⟩, rfl⟩, zw_1633, zw_100⟩) <|
  z_fc (zp_v rfl ⟨rfl, zd_251, zw_1651, Nat.le_of_ble_eq_true rfl, ⟨_, Or.inl ⟨Nat.le_of_ble_eq_true rfl, rfl⟩, rfl⟩, zw_1649, zw_101⟩) <|
  z_fc (zp_v rfl ⟨rfl, zd_254, zw_1663, Nat.le_of_ble_eq_true rfl, ⟨_, Or.inl ⟨Nat.le_of_ble_eq_true rfl, rfl⟩, rfl⟩, zw_1661, zw_102⟩) <|
  z_fc (zp_v rfl ⟨rfl, zd_257, zw_1679, Nat.le_of_ble_eq_true rfl, ⟨_, Or.inl ⟨Nat.le_of_ble_eq_true rfl, rfl⟩, rfl⟩, zw_1677, zw_104⟩) <|
  z_fc (zp_v rfl ⟨rfl, zd_258, zw_1675, Nat.le_of_ble_eq_true rfl, ⟨_, Or.inl ⟨Nat.le_of_ble_eq_true rfl, rfl⟩, rfl⟩, zw_1673, zw_103⟩) <|
  z_fc (zp_v rfl ⟨rfl, zd_170, zw_1703, Nat.le_of_ble_eq_true rfl, ⟨_, Or.inl ⟨Nat.le_of_ble_eq_true rfl, rfl⟩, rfl⟩, zw_1701, zw_105⟩) <|
  z_fc (zp_v rfl ⟨rfl, zd_264, zw_1707, Nat.le_of_ble_eq_true rfl, ⟨_, Or.inl ⟨Nat.le_of_ble_eq_true rfl, rfl⟩, rfl⟩, zw_1705, zw_106⟩) <|
  z_fc (zp_v rfl ⟨rfl, zd_171, zw_1711, Nat.le_of_ble_eq_true rfl, ⟨_, Or.inl ⟨Nat.le_of_ble_eq_true rfl, rfl⟩, rfl⟩, zw_1709, zw_107⟩) <|
  z_fc (zp_v rfl ⟨rfl, zd_164, zw_1731, Nat.le_of_ble_eq_true rfl, ⟨_, Or.inl ⟨Nat.le_of_ble_eq_true rfl, rfl⟩, rfl⟩, zw_1729, zw_108⟩) <|
  z_fc (zp_v rfl ⟨rfl, zd_172, zw_1747, Nat.le_of_ble_eq_true rfl, ⟨_, Or.inl ⟨Nat.le_of_ble_eq_true rfl, rfl⟩, rfl⟩, zw_1745, zw_109⟩) <|
  z_fc (zp_v rfl ⟨rfl, zd_166, zw_1755, Nat.le_of_ble_eq_true rfl, ⟨_, Or.inl ⟨Nat.le_of_ble_eq_true rfl, rfl⟩, rfl⟩, zw_1753, zw_110⟩) <|
  z_fc (zp_v rfl ⟨rfl, zd_169, zw_1767, Nat.le_of_ble_eq_true rfl, ⟨_, Or.inl ⟨Nat.le_of_ble_eq_true rfl, rfl⟩, rfl⟩, zw_1765, zw_111⟩) <|
  z_fc (zp_v rfl ⟨rfl, zd_174, zw_1787, Nat.le_of_ble_eq_true rfl, ⟨_, Or.inl ⟨Nat.le_of_ble_eq_true rfl, rfl⟩, rfl⟩, zw_1785, zw_113⟩) <|
  z_fc (zp_h rfl (fun _ _ => ⟨rfl, _, rfl, zw_1821⟩)) <|
  z_fc (zp_h rfl (fun _ _ => ⟨rfl, Nat.le_of_ble_eq_true rfl, _, _, _, Or.inl ⟨Nat.le_of_ble_eq_true rfl, rfl⟩, Nat.le_of_ble_eq_true rfl, zw_1449⟩)) <|
  z_fc (zp_h rfl (fun _ _ => ⟨rfl, Nat.le_of_ble_eq_true rfl, _, _, _, Or.inl ⟨Nat.le_of_ble_eq_true rfl, rfl⟩, Nat.le_of_ble_eq_true rfl, zw_1450⟩)) <|
  z_fc (zp_h rfl (fun _ _ => ⟨rfl, Nat.le_of_ble_eq_true rfl, _, _, _, rfl, Nat.le_of_ble_eq_true rfl, zw_1450, Or.inl rfl⟩)) <|
  z_fc (zp_v rfl ⟨rfl, zd_289, zw_1840, Nat.le_of_ble_eq_true rfl, ⟨_, Or.inl ⟨Nat.le_of_ble_eq_true rfl, rfl⟩, rfl⟩, zw_1838, zw_116⟩) <|
  z_fc (zp_v rfl ⟨rfl, zd_288, zw_1836, Nat.le_of_ble_eq_true rfl, ⟨_, Or.inl ⟨Nat.le_of_ble_eq_true rfl, rfl⟩, rfl⟩, zw_1834, zw_115⟩) <|
  z_fc (zp_v rfl ⟨rfl, zd_290, zw_1832, Nat.le_of_ble_eq_true rfl, ⟨_, Or.inl ⟨Nat.le_of_ble_eq_true rfl, rfl⟩, rfl⟩, zw_1830, zw_114⟩) <|
  z_fn
def zTB_7 : List zTE := [(.getfield 7, 3, 51, 1)]
set_option maxRecDepth 100000 in
theorem zTBk_7 (xs : List Int32) : ∀ x ∈ zTB_7, z_hok (za_T xs) za_P za_M "java/lang/Enum" x :=
  z_fc (zp_h rfl (fun _ _ => ⟨rfl, Nat.le_of_ble_eq_true rfl, _, _, _, Or.inr ⟨Nat.le_of_ble_eq_true rfl, rfl⟩, Nat.le_of_ble_eq_true rfl, zw_1864⟩)) <|
  z_fn
def zTB_8 : List zTE := [(.getfield 9, 3, 50, 0), (.invokevirtual 335, 3, 296, 0), (.invokevirtual 492, 3, 297, 0), (.invokestatic 495, 3, 299, 2), (.getstatic 38, 3, 0, 16), (.getfield 15, 3, 50, 1), (.getstatic 1053, 3, 0, 17), (.invokestatic 1059, 3, 300, 3)]
set_option maxRecDepth 100000 in
theorem zTBk_8 (xs : List Int32) : ∀ x ∈ zTB_8, z_hok (za_T xs) za_P za_M "java/lang/String" x :=
  z_fc (zp_h rfl (fun _ _ => ⟨rfl, Nat.le_of_ble_eq_true rfl, _, _, _, Or.inr ⟨Nat.le_of_ble_eq_true rfl, rfl⟩, Nat.le_of_ble_eq_true rfl, zw_1861⟩)) <|
  z_fc (zp_v rfl ⟨rfl, zd_296, zw_281, Nat.le_of_ble_eq_true rfl, ⟨_, Or.inr ⟨Nat.le_of_ble_eq_true rfl, rfl⟩, rfl⟩, zw_280, zw_282⟩) <|
  z_fc (zp_v rfl ⟨rfl, zd_297, zw_291, Nat.le_of_ble_eq_true rfl, ⟨_, Or.inr ⟨Nat.le_of_ble_eq_true rfl, rfl⟩, rfl⟩, zw_290, zw_292⟩) <|
  z_fc (zp_s rfl ⟨zd_299, zw_294, zw_295⟩) <|
  z_fc (zp_h rfl (fun _ _ => ⟨rfl, _, rfl, zw_284⟩)) <|
  z_fc (zp_h rfl (fun _ _ => ⟨rfl, Nat.le_of_ble_eq_true rfl, _, _, _, Or.inr ⟨Nat.le_of_ble_eq_true rfl, rfl⟩, Nat.le_of_ble_eq_true rfl, zw_1862⟩)) <|
  z_fc (zp_h rfl (fun _ _ => ⟨rfl, _, rfl, zw_300⟩)) <|
  z_fc (zp_s rfl ⟨zd_300, zw_302, zw_303⟩) <|
  z_fn
def zTB_9 : List zTE := [(.invokestatic 9, 3, 298, 2)]
set_option maxRecDepth 100000 in
theorem zTBk_9 (xs : List Int32) : ∀ x ∈ zTB_9, z_hok (za_T xs) za_P za_M "java/lang/StringLatin1" x :=
  z_fc (zp_s rfl ⟨zd_298, zw_297, zw_298⟩) <|
  z_fn
def zTB_10 : List zTE := [(.invokevirtual 7, 3, 78, 1), (.invokevirtual 15, 3, 80, 1), (.invokevirtual 20, 3, 81, 0), (.invokevirtual 24, 3, 82, 1), (.invokevirtual 27, 3, 83, 1), (.invokevirtual 30, 3, 84, 2), (.invokevirtual 34, 3, 85, 1), (.invokevirtual 37, 3, 87, 0), (.invokevirtual 40, 3, 88, 1), (.invokevirtual 43, 3, 89, 1), (.invokevirtual 48, 3, 90, 0), (.invokevirtual 51, 3, 91, 1), (.invokevirtual 54, 3, 92, 0), (.invokevirtual 57, 3, 96, 0), (.invokevirtual 62, 3, 102, 4), (.invokevirtual 66, 3, 104, 1), (.invokevirtual 69, 3, 105, 1), (.invokevirtual 72, 3, 106, 1), (.invokevirtual 75, 3, 109, 1), (.invokevirtual 78, 3, 110, 1), (.invokevirtual 81, 3, 111, 1), (.invokevirtual 84, 3, 123, 1), (.invokevirtual 88, 3, 124, 1), (.invokevirtual 91, 3, 125, 2), (.invokevirtual 94, 3, 127, 1), (.invokevirtual 97, 3, 128, 2), (.new 8, 3, 0, 7), (.invokespecial 100, 3, 76, 0), (.new 101, 3, 5, 24), (.invokespecial 103, 3, 147, 0), (.newarray .long, 2, 0, 0), (.invokevirtual 104, 3, 77, 5), (.invokevirtual 108, 3, 222, 5), (.invokestatic 109, 3, 301, 3), (.invokevirtual 114, 3, 224, 1), (.invokevirtual 115, 3, 79, 0), (.invokevirtual 118, 3, 227, 0), (.invokestatic 119, 3, 302, 3), (.invokevirtual 121, 3, 228, 1), (.invokestatic 122, 3, 303, 2), (.invokevirtual 125, 3, 229, 0), (.invokestatic 126, 3, 304, 3), (.invokevirtual 128, 3, 230, 1), (.invokestatic 129, 3, 305, 3), (.invokevirtual 131, 3, 231, 1), (.invokestatic 132, 3, 306, 4), (.invokevirtual 135, 3, 232, 2), (.invokestatic 136, 3, 307, 3), (.invokevirtual 138, 3, 233, 1), (.invokevirtual 139, 3, 86, 0), (.invokevirtual 142, 3, 234, 0), (.invokestatic 143, 3, 308, 2), (.invokevirtual 145, 3, 235, 0), (.invokestatic 146, 3, 309, 3), (.invokevirtual 148, 3, 236, 1), (.invokestatic 149, 3, 310, 3), (.invokevirtual 151, 3, 237, 1), (.invokestatic 152, 3, 311, 2), (.invokevirtual 154, 3, 238, 0), (.invokestatic 155, 3, 312, 3), (.invokevirtual 157, 3, 239, 1), (.invokestatic 158, 3, 313, 2), (.invokevirtual 160, 3, 240, 0), (.invokevirtual 161, 3, 93, 0), (.invokevirtual 164, 3, 241, 0), (.invokevirtual 165, 3, 94, 0), (.invokevirtual 168, 3, 242, 0), (.invokevirtual 169, 3, 95, 0), (.invokevirtual 172, 3, 243, 0), (.invokestatic 173, 3, 314, 2), (.invokevirtual 175, 3, 244, 0), (.invokevirtual 176, 3, 97, 0), (.invokevirtual 179, 3, 245, 0), (.invokevirtual 180, 3, 98, 0), (.invokevirtual 183, 3, 246, 0), (.invokevirtual 184, 3, 99, 0), (.invokevirtual 187, 3, 248, 0), (.invokevirtual 188, 3, 100, 0), (.invokevirtual 191, 3, 249, 0), (.invokevirtual 192, 3, 101, 1), (.invokevirtual 195, 3, 250, 1), (.invokestatic 196, 3, 315, 6), (.invokevirtual 199, 3, 252, 4), (.invokevirtual 200, 3, 103, 0), (.invokevirtual 203, 3, 253, 0), (.invokestatic 204, 3, 316, 3), (.invokevirtual 206, 3, 255, 1), (.invokestatic 207, 3, 317, 3), (.invokevirtual 209, 3, 256, 1), (.invokestatic 210, 3, 318, 3), (.invokevirtual 212, 3, 259, 1), (.invokevirtual 213, 3, 107, 1), (.invokevirtual 216, 3, 260, 1), (.invokevirtual 217, 3, 108, 0), (.invokevirtual 220, 3, 261, 0), (.invokestatic 221, 3, 319, 3), (.invokevirtual 223, 3, 262, 1), (.invokestatic 224, 3, 320, 3), (.invokevirtual 226, 3, 263, 1), (.invokestatic 227, 3, 321, 3), (.invokevirtual 229, 3, 265, 1), (.invokevirtual 230, 3, 112, 0), (.invokevirtual 234, 3, 266, 0), (.invokevirtual 235, 3, 113, 0), (.invokevirtual 238, 3, 267, 0), (.invokevirtual 239, 3, 114, 0), (.invokevirtual 242, 3, 268, 0), (.invokevirtual 243, 3, 115, 0), (.invokevirtual 246, 3, 269, 0), (.invokevirtual 247, 3, 116, 0), (.invokevirtual 250, 3, 270, 0), (.invokevirtual 251, 3, 117, 0), (.invokevirtual 254, 3, 271, 0), (.invokevirtual 255, 3, 118, 0), (.invokevirtual 258, 3, 272, 0), (.invokevirtual 259, 3, 119, 0), (.invokevirtual 262, 3, 273, 0), (.invokevirtual 263, 3, 120, 0), (.invokevirtual 266, 3, 274, 0), (.invokevirtual 267, 3, 121, 0), (.invokevirtual 270, 3, 275, 0), (.invokevirtual 271, 3, 122, 0), (.invokevirtual 274, 3, 276, 0), (.invokestatic 275, 3, 322, 3), (.invokevirtual 277, 3, 277, 1), (.invokestatic 278, 3, 323, 3), (.invokevirtual 280, 3, 278, 1), (.invokestatic 281, 3, 324, 4), (.invokevirtual 283, 3, 279, 2), (.invokevirtual 284, 3, 126, 0), (.invokevirtual 287, 3, 280, 0), (.invokestatic 288, 3, 325, 3), (.invokevirtual 290, 3, 281, 1), (.invokestatic 291, 3, 326, 4), (.invokevirtual 293, 3, 282, 2), (.invokevirtual 294, 3, 129, 0), (.invokevirtual 297, 3, 283, 0), (.invokevirtual 298, 3, 130, 0), (.invokevirtual 301, 3, 284, 0), (.invokevirtual 302, 3, 131, 0), (.invokevirtual 306, 3, 285, 0), (.invokevirtual 307, 3, 132, 0), (.invokevirtual 311, 3, 286, 0), (.invokevirtual 312, 3, 133, 0), (.invokevirtual 315, 3, 287, 0), (.invokevirtual 316, 3, 134, 0), (.invokevirtual 319, 3, 291, 0), (.invokevirtual 320, 3, 135, 1), (.invokevirtual 323, 3, 292, 1)]
set_option maxRecDepth 100000 in
theorem zTBk_10 (xs : List Int32) : ∀ x ∈ zTB_10, z_hok (za_T xs) za_P za_M "LyndonBenchLaw" x :=
  z_fc (zp_v rfl ⟨rfl, zd_78, zw_801, Nat.le_of_ble_eq_true rfl, ⟨_, Or.inl ⟨Nat.le_of_ble_eq_true rfl, rfl⟩, rfl⟩, zw_800, zw_802⟩) <|
  z_fc (zp_v rfl ⟨rfl, zd_80, zw_878, Nat.le_of_ble_eq_true rfl, ⟨_, Or.inl ⟨Nat.le_of_ble_eq_true rfl, rfl⟩, rfl⟩, zw_877, zw_879⟩) <|
  z_fc (zp_v rfl ⟨rfl, zd_81, zw_910, Nat.le_of_ble_eq_true rfl, ⟨_, Or.inl ⟨Nat.le_of_ble_eq_true rfl, rfl⟩, rfl⟩, zw_909, zw_911⟩) <|
  z_fc (zp_v rfl ⟨rfl, zd_82, zw_919, Nat.le_of_ble_eq_true rfl, ⟨_, Or.inl ⟨Nat.le_of_ble_eq_true rfl, rfl⟩, rfl⟩, zw_918, zw_920⟩) <|
  z_fc (zp_v rfl ⟨rfl, zd_83, zw_931, Nat.le_of_ble_eq_true rfl, ⟨_, Or.inl ⟨Nat.le_of_ble_eq_true rfl, rfl⟩, rfl⟩, zw_930, zw_932⟩) <|
  z_fc (zp_v rfl ⟨rfl, zd_84, zw_943, Nat.le_of_ble_eq_true rfl, ⟨_, Or.inl ⟨Nat.le_of_ble_eq_true rfl, rfl⟩, rfl⟩, zw_942, zw_944⟩) <|
  z_fc (zp_v rfl ⟨rfl, zd_85, zw_956, Nat.le_of_ble_eq_true rfl, ⟨_, Or.inl ⟨Nat.le_of_ble_eq_true rfl, rfl⟩, rfl⟩, zw_955, zw_957⟩) <|
  z_fc (zp_v rfl ⟨rfl, zd_87, zw_964, Nat.le_of_ble_eq_true rfl, ⟨_, Or.inl ⟨Nat.le_of_ble_eq_true rfl, rfl⟩, rfl⟩, zw_963, zw_965⟩) <|
  z_fc (zp_v rfl ⟨rfl, zd_88, zw_972, Nat.le_of_ble_eq_true rfl, ⟨_, Or.inl ⟨Nat.le_of_ble_eq_true rfl, rfl⟩, rfl⟩, zw_971, zw_973⟩) <|
  z_fc (zp_v rfl ⟨rfl, zd_89, zw_985, Nat.le_of_ble_eq_true rfl, ⟨_, Or.inl ⟨Nat.le_of_ble_eq_true rfl, rfl⟩, rfl⟩, zw_984, zw_986⟩) <|
  z_fc (zp_v rfl ⟨rfl, zd_90, zw_1015, Nat.le_of_ble_eq_true rfl, ⟨_, Or.inl ⟨Nat.le_of_ble_eq_true rfl, rfl⟩, rfl⟩, zw_1014, zw_1016⟩) <|
  z_fc (zp_v rfl ⟨rfl, zd_91, zw_1023, Nat.le_of_ble_eq_true rfl, ⟨_, Or.inl ⟨Nat.le_of_ble_eq_true rfl, rfl⟩, rfl⟩, zw_1022, zw_1024⟩) <|
  z_fc (zp_v rfl ⟨rfl, zd_92, zw_1032, Nat.le_of_ble_eq_true rfl, ⟨_, Or.inl ⟨Nat.le_of_ble_eq_true rfl, rfl⟩, rfl⟩, zw_1031, zw_1033⟩) <|
  z_fc (zp_v rfl ⟨rfl, zd_96, zw_1043, Nat.le_of_ble_eq_true rfl, ⟨_, Or.inl ⟨Nat.le_of_ble_eq_true rfl, rfl⟩, rfl⟩, zw_1042, zw_1044⟩) <|
  z_fc (zp_v rfl ⟨rfl, zd_102, zw_1066, Nat.le_of_ble_eq_true rfl, ⟨_, Or.inl ⟨Nat.le_of_ble_eq_true rfl, rfl⟩, rfl⟩, zw_1065, zw_1067⟩) <|
  z_fc (zp_v rfl ⟨rfl, zd_104, zw_1073, Nat.le_of_ble_eq_true rfl, ⟨_, Or.inl ⟨Nat.le_of_ble_eq_true rfl, rfl⟩, rfl⟩, zw_1072, zw_1074⟩) <|
  z_fc (zp_v rfl ⟨rfl, zd_105, zw_1080, Nat.le_of_ble_eq_true rfl, ⟨_, Or.inl ⟨Nat.le_of_ble_eq_true rfl, rfl⟩, rfl⟩, zw_1079, zw_1081⟩) <|
  z_fc (zp_v rfl ⟨rfl, zd_106, zw_1087, Nat.le_of_ble_eq_true rfl, ⟨_, Or.inl ⟨Nat.le_of_ble_eq_true rfl, rfl⟩, rfl⟩, zw_1086, zw_1088⟩) <|
  z_fc (zp_v rfl ⟨rfl, zd_109, zw_1094, Nat.le_of_ble_eq_true rfl, ⟨_, Or.inl ⟨Nat.le_of_ble_eq_true rfl, rfl⟩, rfl⟩, zw_1093, zw_1095⟩) <|
  z_fc (zp_v rfl ⟨rfl, zd_110, zw_1102, Nat.le_of_ble_eq_true rfl, ⟨_, Or.inl ⟨Nat.le_of_ble_eq_true rfl, rfl⟩, rfl⟩, zw_1101, zw_1103⟩) <|
  z_fc (zp_v rfl ⟨rfl, zd_111, zw_1109, Nat.le_of_ble_eq_true rfl, ⟨_, Or.inl ⟨Nat.le_of_ble_eq_true rfl, rfl⟩, rfl⟩, zw_1108, zw_1110⟩) <|
  z_fc (zp_v rfl ⟨rfl, zd_123, zw_1128, Nat.le_of_ble_eq_true rfl, ⟨_, Or.inl ⟨Nat.le_of_ble_eq_true rfl, rfl⟩, rfl⟩, zw_1127, zw_1129⟩) <|
  z_fc (zp_v rfl ⟨rfl, zd_124, zw_1140, Nat.le_of_ble_eq_true rfl, ⟨_, Or.inl ⟨Nat.le_of_ble_eq_true rfl, rfl⟩, rfl⟩, zw_1139, zw_1141⟩) <|
  z_fc (zp_v rfl ⟨rfl, zd_125, zw_1147, Nat.le_of_ble_eq_true rfl, ⟨_, Or.inl ⟨Nat.le_of_ble_eq_true rfl, rfl⟩, rfl⟩, zw_1146, zw_1148⟩) <|
  z_fc (zp_v rfl ⟨rfl, zd_127, zw_1160, Nat.le_of_ble_eq_true rfl, ⟨_, Or.inl ⟨Nat.le_of_ble_eq_true rfl, rfl⟩, rfl⟩, zw_1159, zw_1161⟩) <|
  z_fc (zp_v rfl ⟨rfl, zd_128, zw_1167, Nat.le_of_ble_eq_true rfl, ⟨_, Or.inl ⟨Nat.le_of_ble_eq_true rfl, rfl⟩, rfl⟩, zw_1166, zw_1168⟩) <|
  z_fc (zp_h rfl (fun _ _ => ⟨rfl, Nat.le_of_ble_eq_true rfl, _, _, rfl, zn_0, zm_0, zw_139, zw_140, zw_118⟩)) <|
  z_fc (zp_n rfl ⟨rfl, zd_76, rfl, rfl, zw_142, Or.inl zw_141⟩) <|
  z_fc (zp_h rfl (fun _ _ => ⟨rfl, Nat.le_of_ble_eq_true rfl, _, _, rfl, zn_5, zm_5, zw_1170, zw_1171, zw_128⟩)) <|
  z_fc (zp_n rfl ⟨rfl, zd_147, rfl, rfl, zw_1173, Or.inl zw_1172⟩) <|
  z_fc (zp_h rfl (fun _ _ => ⟨rfl, zw_1846⟩)) <|
  z_fc (zp_v rfl ⟨rfl, zd_77, zw_364, Nat.le_of_ble_eq_true rfl, ⟨_, Or.inl ⟨Nat.le_of_ble_eq_true rfl, rfl⟩, rfl⟩, zw_363, zw_365⟩) <|
  z_fc (zp_v rfl ⟨rfl, zd_222, zw_1509, Nat.le_of_ble_eq_true rfl, ⟨_, Or.inl ⟨Nat.le_of_ble_eq_true rfl, rfl⟩, rfl⟩, zw_1508, zw_1510⟩) <|
  z_fc (zp_s rfl ⟨zd_301, zw_796, zw_797⟩) <|
  z_fc (zp_v rfl ⟨rfl, zd_224, zw_1517, Nat.le_of_ble_eq_true rfl, ⟨_, Or.inl ⟨Nat.le_of_ble_eq_true rfl, rfl⟩, rfl⟩, zw_1516, zw_1518⟩) <|
  z_fc (zp_v rfl ⟨rfl, zd_79, zw_372, Nat.le_of_ble_eq_true rfl, ⟨_, Or.inl ⟨Nat.le_of_ble_eq_true rfl, rfl⟩, rfl⟩, zw_371, zw_373⟩) <|
  z_fc (zp_v rfl ⟨rfl, zd_227, zw_1525, Nat.le_of_ble_eq_true rfl, ⟨_, Or.inl ⟨Nat.le_of_ble_eq_true rfl, rfl⟩, rfl⟩, zw_1524, zw_1526⟩) <|
  z_fc (zp_s rfl ⟨zd_302, zw_873, zw_874⟩) <|
  z_fc (zp_v rfl ⟨rfl, zd_228, zw_1537, Nat.le_of_ble_eq_true rfl, ⟨_, Or.inl ⟨Nat.le_of_ble_eq_true rfl, rfl⟩, rfl⟩, zw_1536, zw_1538⟩) <|
  z_fc (zp_s rfl ⟨zd_303, zw_906, zw_907⟩) <|
  z_fc (zp_v rfl ⟨rfl, zd_229, zw_1550, Nat.le_of_ble_eq_true rfl, ⟨_, Or.inl ⟨Nat.le_of_ble_eq_true rfl, rfl⟩, rfl⟩, zw_1549, zw_1551⟩) <|
  z_fc (zp_s rfl ⟨zd_304, zw_915, zw_916⟩) <|
  z_fc (zp_v rfl ⟨rfl, zd_230, zw_1554, Nat.le_of_ble_eq_true rfl, ⟨_, Or.inl ⟨Nat.le_of_ble_eq_true rfl, rfl⟩, rfl⟩, zw_1553, zw_1555⟩) <|
  z_fc (zp_s rfl ⟨zd_305, zw_927, zw_928⟩) <|
  z_fc (zp_v rfl ⟨rfl, zd_231, zw_1562, Nat.le_of_ble_eq_true rfl, ⟨_, Or.inl ⟨Nat.le_of_ble_eq_true rfl, rfl⟩, rfl⟩, zw_1561, zw_1563⟩) <|
  z_fc (zp_s rfl ⟨zd_306, zw_939, zw_940⟩) <|
  z_fc (zp_v rfl ⟨rfl, zd_232, zw_1566, Nat.le_of_ble_eq_true rfl, ⟨_, Or.inl ⟨Nat.le_of_ble_eq_true rfl, rfl⟩, rfl⟩, zw_1565, zw_1567⟩) <|
  z_fc (zp_s rfl ⟨zd_307, zw_952, zw_953⟩) <|
  z_fc (zp_v rfl ⟨rfl, zd_233, zw_1570, Nat.le_of_ble_eq_true rfl, ⟨_, Or.inl ⟨Nat.le_of_ble_eq_true rfl, rfl⟩, rfl⟩, zw_1569, zw_1571⟩) <|
  z_fc (zp_v rfl ⟨rfl, zd_86, zw_604, Nat.le_of_ble_eq_true rfl, ⟨_, Or.inl ⟨Nat.le_of_ble_eq_true rfl, rfl⟩, rfl⟩, zw_603, zw_605⟩) <|
  z_fc (zp_v rfl ⟨rfl, zd_234, zw_1574, Nat.le_of_ble_eq_true rfl, ⟨_, Or.inl ⟨Nat.le_of_ble_eq_true rfl, rfl⟩, rfl⟩, zw_1573, zw_1575⟩) <|
  z_fc (zp_s rfl ⟨zd_308, zw_960, zw_961⟩) <|
  z_fc (zp_v rfl ⟨rfl, zd_235, zw_1578, Nat.le_of_ble_eq_true rfl, ⟨_, Or.inl ⟨Nat.le_of_ble_eq_true rfl, rfl⟩, rfl⟩, zw_1577, zw_1579⟩) <|
  z_fc (zp_s rfl ⟨zd_309, zw_968, zw_969⟩) <|
  z_fc (zp_v rfl ⟨rfl, zd_236, zw_1582, Nat.le_of_ble_eq_true rfl, ⟨_, Or.inl ⟨Nat.le_of_ble_eq_true rfl, rfl⟩, rfl⟩, zw_1581, zw_1583⟩) <|
  z_fc (zp_s rfl ⟨zd_310, zw_980, zw_981⟩) <|
  z_fc (zp_v rfl ⟨rfl, zd_237, zw_1586, Nat.le_of_ble_eq_true rfl, ⟨_, Or.inl ⟨Nat.le_of_ble_eq_true rfl, rfl⟩, rfl⟩, zw_1585, zw_1587⟩) <|
  z_fc (zp_s rfl ⟨zd_311, zw_1011, zw_1012⟩) <|
  z_fc (zp_v rfl ⟨rfl, zd_238, zw_1590, Nat.le_of_ble_eq_true rfl, ⟨_, Or.inl ⟨Nat.le_of_ble_eq_true rfl, rfl⟩, rfl⟩, zw_1589, zw_1591⟩) <|
  z_fc (zp_s rfl ⟨zd_312, zw_1019, zw_1020⟩) <|
  z_fc (zp_v rfl ⟨rfl, zd_239, zw_1594, Nat.le_of_ble_eq_true rfl, ⟨_, Or.inl ⟨Nat.le_of_ble_eq_true rfl, rfl⟩, rfl⟩, zw_1593, zw_1595⟩) <|
  z_fc (zp_s rfl ⟨zd_313, zw_1028, zw_1029⟩) <|
  z_fc (zp_v rfl ⟨rfl, zd_240, zw_1602, Nat.le_of_ble_eq_true rfl, ⟨_, Or.inl ⟨Nat.le_of_ble_eq_true rfl, rfl⟩, rfl⟩, zw_1601, zw_1603⟩) <|
  z_fc (zp_v rfl ⟨rfl, zd_93, zw_613, Nat.le_of_ble_eq_true rfl, ⟨_, Or.inl ⟨Nat.le_of_ble_eq_true rfl, rfl⟩, rfl⟩, zw_612, zw_614⟩) <|
  z_fc (zp_v rfl ⟨rfl, zd_241, zw_1606, Nat.le_of_ble_eq_true rfl, ⟨_, Or.inl ⟨Nat.le_of_ble_eq_true rfl, rfl⟩, rfl⟩, zw_1605, zw_1607⟩) <|
  z_fc (zp_v rfl ⟨rfl, zd_94, zw_621, Nat.le_of_ble_eq_true rfl, ⟨_, Or.inl ⟨Nat.le_of_ble_eq_true rfl, rfl⟩, rfl⟩, zw_620, zw_622⟩) <|
  z_fc (zp_v rfl ⟨rfl, zd_242, zw_1610, Nat.le_of_ble_eq_true rfl, ⟨_, Or.inl ⟨Nat.le_of_ble_eq_true rfl, rfl⟩, rfl⟩, zw_1609, zw_1611⟩) <|
  z_fc (zp_v rfl ⟨rfl, zd_95, zw_625, Nat.le_of_ble_eq_true rfl, ⟨_, Or.inl ⟨Nat.le_of_ble_eq_true rfl, rfl⟩, rfl⟩, zw_624, zw_626⟩) <|
  z_fc (zp_v rfl ⟨rfl, zd_243, zw_1614, Nat.le_of_ble_eq_true rfl, ⟨_, Or.inl ⟨Nat.le_of_ble_eq_true rfl, rfl⟩, rfl⟩, zw_1613, zw_1615⟩) <|
  z_fc (zp_s rfl ⟨zd_314, zw_1038, zw_1039⟩) <|
  z_fc (zp_v rfl ⟨rfl, zd_244, zw_1618, Nat.le_of_ble_eq_true rfl, ⟨_, Or.inl ⟨Nat.le_of_ble_eq_true rfl, rfl⟩, rfl⟩, zw_1617, zw_1619⟩) <|
  z_fc (zp_v rfl ⟨rfl, zd_97, zw_629, Nat.le_of_ble_eq_true rfl, ⟨_, Or.inl ⟨Nat.le_of_ble_eq_true rfl, rfl⟩, rfl⟩, zw_628, zw_630⟩) <|
  z_fc (zp_v rfl ⟨rfl, zd_245, zw_1622, Nat.le_of_ble_eq_true rfl, ⟨_, Or.inl ⟨Nat.le_of_ble_eq_true rfl, rfl⟩, rfl⟩, zw_1621, zw_1623⟩) <|
  z_fc (zp_v rfl ⟨rfl, zd_98, zw_633, Nat.le_of_ble_eq_true rfl, ⟨_, Or.inl ⟨Nat.le_of_ble_eq_true rfl, rfl⟩, rfl⟩, zw_632, zw_634⟩) <|
  z_fc (zp_v rfl ⟨rfl, zd_246, zw_1626, Nat.le_of_ble_eq_true rfl, ⟨_, Or.inl ⟨Nat.le_of_ble_eq_true rfl, rfl⟩, rfl⟩, zw_1625, zw_1627⟩) <|
  z_fc (zp_v rfl ⟨rfl, zd_99, zw_637, Nat.le_of_ble_eq_true rfl, ⟨_, Or.inl ⟨Nat.le_of_ble_eq_true rfl, rfl⟩, rfl⟩, zw_636, zw_638⟩) <|
  z_fc (zp_v rfl ⟨rfl, zd_248, zw_1630, Nat.le_of_ble_eq_true rfl, ⟨_, Or.inl ⟨Nat.le_of_ble_eq_true rfl, rfl⟩, rfl⟩, zw_1629, zw_1631⟩) <|
  z_fc (zp_v rfl ⟨rfl, zd_100, zw_641, Nat.le_of_ble_eq_true rfl, ⟨_, Or.inl ⟨Nat.le_of_ble_eq_true rfl, rfl⟩, rfl⟩, zw_640, zw_642⟩) <|
  z_fc (zp_v rfl ⟨rfl, zd_249, zw_1638, Nat.le_of_ble_eq_true rfl, ⟨_, Or.inl ⟨Nat.le_of_ble_eq_true rfl, rfl⟩, rfl⟩, zw_1637, zw_1639⟩) <|
  z_fc (zp_v rfl ⟨rfl, zd_101, zw_645, Nat.le_of_ble_eq_true rfl, ⟨_, Or.inl ⟨Nat.le_of_ble_eq_true rfl, rfl⟩, rfl⟩, zw_644, zw_646⟩) <|
  z_fc (zp_v rfl ⟨rfl, zd_250, zw_1642, Nat.le_of_ble_eq_true rfl, ⟨_, Or.inl ⟨Nat.le_of_ble_eq_true rfl, rfl⟩, rfl⟩, zw_1641, zw_1643⟩) <|
  z_fc (zp_s rfl ⟨zd_315, zw_1062, zw_1063⟩) <|
  z_fc (zp_v rfl ⟨rfl, zd_252, zw_1646, Nat.le_of_ble_eq_true rfl, ⟨_, Or.inl ⟨Nat.le_of_ble_eq_true rfl, rfl⟩, rfl⟩, zw_1645, zw_1647⟩) <|
  z_fc (zp_v rfl ⟨rfl, zd_103, zw_650, Nat.le_of_ble_eq_true rfl, ⟨_, Or.inl ⟨Nat.le_of_ble_eq_true rfl, rfl⟩, rfl⟩, zw_649, zw_651⟩) <|
  z_fc (zp_v rfl ⟨rfl, zd_253, zw_1654, Nat.le_of_ble_eq_true rfl, ⟨_, Or.inl ⟨Nat.le_of_ble_eq_true rfl, rfl⟩, rfl⟩, zw_1653, zw_1655⟩) <|
  z_fc (zp_s rfl ⟨zd_316, zw_1069, zw_1070⟩) <|
  z_fc (zp_v rfl ⟨rfl, zd_255, zw_1658, Nat.le_of_ble_eq_true rfl, ⟨_, Or.inl ⟨Nat.le_of_ble_eq_true rfl, rfl⟩, rfl⟩, zw_1657, zw_1659⟩) <|
  z_fc (zp_s rfl ⟨zd_317, zw_1076, zw_1077⟩) <|
  z_fc (zp_v rfl ⟨rfl, zd_256, zw_1666, Nat.le_of_ble_eq_true rfl, ⟨_, Or.inl ⟨Nat.le_of_ble_eq_true rfl, rfl⟩, rfl⟩, zw_1665, zw_1667⟩) <|
  z_fc (zp_s rfl ⟨zd_318, zw_1083, zw_1084⟩) <|
  z_fc (zp_v rfl ⟨rfl, zd_259, zw_1670, Nat.le_of_ble_eq_true rfl, ⟨_, Or.inl ⟨Nat.le_of_ble_eq_true rfl, rfl⟩, rfl⟩, zw_1669, zw_1671⟩) <|
  z_fc (zp_v rfl ⟨rfl, zd_107, zw_654, Nat.le_of_ble_eq_true rfl, ⟨_, Or.inl ⟨Nat.le_of_ble_eq_true rfl, rfl⟩, rfl⟩, zw_653, zw_655⟩) <|
  z_fc (zp_v rfl ⟨rfl, zd_260, zw_1682, Nat.le_of_ble_eq_true rfl, ⟨_, Or.inl ⟨Nat.le_of_ble_eq_true rfl, rfl⟩, rfl⟩, zw_1681, zw_1683⟩) <|
  z_fc (zp_v rfl ⟨rfl, zd_108, zw_662, Nat.le_of_ble_eq_true rfl, ⟨_, Or.inl ⟨Nat.le_of_ble_eq_true rfl, rfl⟩, rfl⟩, zw_661, zw_663⟩) <|
  z_fc (zp_v rfl ⟨rfl, zd_261, zw_1686, Nat.le_of_ble_eq_true rfl, ⟨_, Or.inl ⟨Nat.le_of_ble_eq_true rfl, rfl⟩, rfl⟩, zw_1685, zw_1687⟩) <|
  z_fc (zp_s rfl ⟨zd_319, zw_1090, zw_1091⟩) <|
  z_fc (zp_v rfl ⟨rfl, zd_262, zw_1690, Nat.le_of_ble_eq_true rfl, ⟨_, Or.inl ⟨Nat.le_of_ble_eq_true rfl, rfl⟩, rfl⟩, zw_1689, zw_1691⟩) <|
  z_fc (zp_s rfl ⟨zd_320, zw_1098, zw_1099⟩) <|
  z_fc (zp_v rfl ⟨rfl, zd_263, zw_1694, Nat.le_of_ble_eq_true rfl, ⟨_, Or.inl ⟨Nat.le_of_ble_eq_true rfl, rfl⟩, rfl⟩, zw_1693, zw_1695⟩) <|
  z_fc (zp_s rfl ⟨zd_321, zw_1105, zw_1106⟩) <|
  z_fc (zp_v rfl ⟨rfl, zd_265, zw_1698, Nat.le_of_ble_eq_true rfl, ⟨_, Or.inl ⟨Nat.le_of_ble_eq_true rfl, rfl⟩, rfl⟩, zw_1697, zw_1699⟩) <|
  z_fc (zp_v rfl ⟨rfl, zd_112, zw_670, Nat.le_of_ble_eq_true rfl, ⟨_, Or.inl ⟨Nat.le_of_ble_eq_true rfl, rfl⟩, rfl⟩, zw_669, zw_671⟩) <|
  z_fc (zp_v rfl ⟨rfl, zd_266, zw_1714, Nat.le_of_ble_eq_true rfl, ⟨_, Or.inl ⟨Nat.le_of_ble_eq_true rfl, rfl⟩, rfl⟩, zw_1713, zw_1715⟩) <|
  z_fc (zp_v rfl ⟨rfl, zd_113, zw_675, Nat.le_of_ble_eq_true rfl, ⟨_, Or.inl ⟨Nat.le_of_ble_eq_true rfl, rfl⟩, rfl⟩, zw_674, zw_676⟩) <|
  z_fc (zp_v rfl ⟨rfl, zd_267, zw_1718, Nat.le_of_ble_eq_true rfl, ⟨_, Or.inl ⟨Nat.le_of_ble_eq_true rfl, rfl⟩, rfl⟩, zw_1717, zw_1719⟩) <|
  z_fc (zp_v rfl ⟨rfl, zd_114, zw_692, Nat.le_of_ble_eq_true rfl, ⟨_, Or.inl ⟨Nat.le_of_ble_eq_true rfl, rfl⟩, rfl⟩, zw_691, zw_693⟩) <|
  z_fc (zp_v rfl ⟨rfl, zd_268, zw_1722, Nat.le_of_ble_eq_true rfl, ⟨_, Or.inl ⟨Nat.le_of_ble_eq_true rfl, rfl⟩, rfl⟩, zw_1721, zw_1723⟩) <|
  z_fc (zp_v rfl ⟨rfl, zd_115, zw_696, Nat.le_of_ble_eq_true rfl, ⟨_, Or.inl ⟨Nat.le_of_ble_eq_true rfl, rfl⟩, rfl⟩, zw_695, zw_697⟩) <|
  z_fc (zp_v rfl ⟨rfl, zd_269, zw_1726, Nat.le_of_ble_eq_true rfl, ⟨_, Or.inl ⟨Nat.le_of_ble_eq_true rfl, rfl⟩, rfl⟩, zw_1725, zw_1727⟩) <|
  z_fc (zp_v rfl ⟨rfl, zd_116, zw_704, Nat.le_of_ble_eq_true rfl, ⟨_, Or.inl ⟨Nat.le_of_ble_eq_true rfl, rfl⟩, rfl⟩, zw_703, zw_705⟩) <|
  z_fc (zp_v rfl ⟨rfl, zd_270, zw_1734, Nat.le_of_ble_eq_true rfl, ⟨_, Or.inl ⟨Nat.le_of_ble_eq_true rfl, rfl⟩, rfl⟩, zw_1733, zw_1735⟩) <|
  z_fc (zp_v rfl ⟨rfl, zd_117, zw_709, Nat.le_of_ble_eq_true rfl, ⟨_, Or.inl ⟨Nat.le_of_ble_eq_true rfl, rfl⟩, rfl⟩, zw_708, zw_710⟩) <|
  z_fc (zp_v rfl ⟨rfl, zd_271, zw_1738, Nat.le_of_ble_eq_true rfl, ⟨_, Or.inl ⟨Nat.le_of_ble_eq_true rfl, rfl⟩, rfl⟩, zw_1737, zw_1739⟩) <|
  z_fc (zp_v rfl ⟨rfl, zd_118, zw_713, Nat.le_of_ble_eq_true rfl, ⟨_, Or.inl ⟨Nat.le_of_ble_eq_true rfl, rfl⟩, rfl⟩, zw_712, zw_714⟩) <|
  z_fc (zp_v rfl ⟨rfl, zd_272, zw_1742, Nat.le_of_ble_eq_true rfl, ⟨_, Or.inl ⟨Nat.le_of_ble_eq_true rfl, rfl⟩, rfl⟩, zw_1741, zw_1743⟩) <|
  z_fc (zp_v rfl ⟨rfl, zd_119, zw_717, Nat.le_of_ble_eq_true rfl, ⟨_, Or.inl ⟨Nat.le_of_ble_eq_true rfl, rfl⟩, rfl⟩, zw_716, zw_718⟩) <|
  z_fc (zp_v rfl ⟨rfl, zd_273, zw_1750, Nat.le_of_ble_eq_true rfl, ⟨_, Or.inl ⟨Nat.le_of_ble_eq_true rfl, rfl⟩, rfl⟩, zw_1749, zw_1751⟩) <|
  z_fc (zp_v rfl ⟨rfl, zd_120, zw_722, Nat.le_of_ble_eq_true rfl, ⟨_, Or.inl ⟨Nat.le_of_ble_eq_true rfl, rfl⟩, rfl⟩, zw_721, zw_723⟩) <|
  z_fc (zp_v rfl ⟨rfl, zd_274, zw_1758, Nat.le_of_ble_eq_true rfl, ⟨_, Or.inl ⟨Nat.le_of_ble_eq_true rfl, rfl⟩, rfl⟩, zw_1757, zw_1759⟩) <|
  z_fc (zp_v rfl ⟨rfl, zd_121, zw_726, Nat.le_of_ble_eq_true rfl, ⟨_, Or.inl ⟨Nat.le_of_ble_eq_true rfl, rfl⟩, rfl⟩, zw_725, zw_727⟩) <|
  z_fc (zp_v rfl ⟨rfl, zd_275, zw_1762, Nat.le_of_ble_eq_true rfl, ⟨_, Or.inl ⟨Nat.le_of_ble_eq_true rfl, rfl⟩, rfl⟩, zw_1761, zw_1763⟩) <|
  z_fc (zp_v rfl ⟨rfl, zd_122, zw_734, Nat.le_of_ble_eq_true rfl, ⟨_, Or.inl ⟨Nat.le_of_ble_eq_true rfl, rfl⟩, rfl⟩, zw_733, zw_735⟩) <|
  z_fc (zp_v rfl ⟨rfl, zd_276, zw_1770, Nat.le_of_ble_eq_true rfl, ⟨_, Or.inl ⟨Nat.le_of_ble_eq_true rfl, rfl⟩, rfl⟩, zw_1769, zw_1771⟩) <|
  z_fc (zp_s rfl ⟨zd_322, zw_1124, zw_1125⟩) <|
  z_fc (zp_v rfl ⟨rfl, zd_277, zw_1774, Nat.le_of_ble_eq_true rfl, ⟨_, Or.inl ⟨Nat.le_of_ble_eq_true rfl, rfl⟩, rfl⟩, zw_1773, zw_1775⟩) <|
  z_fc (zp_s rfl ⟨zd_323, zw_1136, zw_1137⟩) <|
  z_fc (zp_v rfl ⟨rfl, zd_278, zw_1782, Nat.le_of_ble_eq_true rfl, ⟨_, Or.inl ⟨Nat.le_of_ble_eq_true rfl, rfl⟩, rfl⟩, zw_1781, zw_1783⟩) <|
  z_fc (zp_s rfl ⟨zd_324, zw_1143, zw_1144⟩) <|
  z_fc (zp_v rfl ⟨rfl, zd_279, zw_1790, Nat.le_of_ble_eq_true rfl, ⟨_, Or.inl ⟨Nat.le_of_ble_eq_true rfl, rfl⟩, rfl⟩, zw_1789, zw_1791⟩) <|
  z_fc (zp_v rfl ⟨rfl, zd_126, zw_738, Nat.le_of_ble_eq_true rfl, ⟨_, Or.inl ⟨Nat.le_of_ble_eq_true rfl, rfl⟩, rfl⟩, zw_737, zw_739⟩) <|
  z_fc (zp_v rfl ⟨rfl, zd_280, zw_1794, Nat.le_of_ble_eq_true rfl, ⟨_, Or.inl ⟨Nat.le_of_ble_eq_true rfl, rfl⟩, rfl⟩, zw_1793, zw_1795⟩) <|
  z_fc (zp_s rfl ⟨zd_325, zw_1156, zw_1157⟩) <|
  z_fc (zp_v rfl ⟨rfl, zd_281, zw_1798, Nat.le_of_ble_eq_true rfl, ⟨_, Or.inl ⟨Nat.le_of_ble_eq_true rfl, rfl⟩, rfl⟩, zw_1797, zw_1799⟩) <|
  z_fc (zp_s rfl ⟨zd_326, zw_1163, zw_1164⟩) <|
  z_fc (zp_v rfl ⟨rfl, zd_282, zw_1802, Nat.le_of_ble_eq_true rfl, ⟨_, Or.inl ⟨Nat.le_of_ble_eq_true rfl, rfl⟩, rfl⟩, zw_1801, zw_1803⟩) <|
  z_fc (zp_v rfl ⟨rfl, zd_129, zw_742, Nat.le_of_ble_eq_true rfl, ⟨_, Or.inl ⟨Nat.le_of_ble_eq_true rfl, rfl⟩, rfl⟩, zw_741, zw_743⟩) <|
  z_fc (zp_v rfl ⟨rfl, zd_283, zw_1806, Nat.le_of_ble_eq_true rfl, ⟨_, Or.inl ⟨Nat.le_of_ble_eq_true rfl, rfl⟩, rfl⟩, zw_1805, zw_1807⟩) <|
  z_fc (zp_v rfl ⟨rfl, zd_130, zw_748, Nat.le_of_ble_eq_true rfl, ⟨_, Or.inl ⟨Nat.le_of_ble_eq_true rfl, rfl⟩, rfl⟩, zw_747, zw_749⟩) <|
  z_fc (zp_v rfl ⟨rfl, zd_284, zw_1810, Nat.le_of_ble_eq_true rfl, ⟨_, Or.inl ⟨Nat.le_of_ble_eq_true rfl, rfl⟩, rfl⟩, zw_1809, zw_1811⟩) <|
  z_fc (zp_v rfl ⟨rfl, zd_131, zw_753, Nat.le_of_ble_eq_true rfl, ⟨_, Or.inl ⟨Nat.le_of_ble_eq_true rfl, rfl⟩, rfl⟩, zw_752, zw_754⟩) <|
  z_fc (zp_v rfl ⟨rfl, zd_285, zw_1814, Nat.le_of_ble_eq_true rfl, ⟨_, Or.inl ⟨Nat.le_of_ble_eq_true rfl, rfl⟩, rfl⟩, zw_1813, zw_1815⟩) <|
  z_fc (zp_v rfl ⟨rfl, zd_132, zw_757, Nat.le_of_ble_eq_true rfl, ⟨_, Or.inl ⟨Nat.le_of_ble_eq_true rfl, rfl⟩, rfl⟩, zw_756, zw_758⟩) <|
  z_fc (zp_v rfl ⟨rfl, zd_286, zw_1818, Nat.le_of_ble_eq_true rfl, ⟨_, Or.inl ⟨Nat.le_of_ble_eq_true rfl, rfl⟩, rfl⟩, zw_1817, zw_1819⟩) <|
  z_fc (zp_v rfl ⟨rfl, zd_133, zw_771, Nat.le_of_ble_eq_true rfl, ⟨_, Or.inl ⟨Nat.le_of_ble_eq_true rfl, rfl⟩, rfl⟩, zw_770, zw_772⟩) <|
  z_fc (zp_v rfl ⟨rfl, zd_287, zw_1823, Nat.le_of_ble_eq_true rfl, ⟨_, Or.inl ⟨Nat.le_of_ble_eq_true rfl, rfl⟩, rfl⟩, zw_1822, zw_1824⟩) <|
  z_fc (zp_v rfl ⟨rfl, zd_134, zw_779, Nat.le_of_ble_eq_true rfl, ⟨_, Or.inl ⟨Nat.le_of_ble_eq_true rfl, rfl⟩, rfl⟩, zw_778, zw_780⟩) <|
  z_fc (zp_v rfl ⟨rfl, zd_291, zw_1827, Nat.le_of_ble_eq_true rfl, ⟨_, Or.inl ⟨Nat.le_of_ble_eq_true rfl, rfl⟩, rfl⟩, zw_1826, zw_1828⟩) <|
  z_fc (zp_v rfl ⟨rfl, zd_135, zw_793, Nat.le_of_ble_eq_true rfl, ⟨_, Or.inl ⟨Nat.le_of_ble_eq_true rfl, rfl⟩, rfl⟩, zw_792, zw_794⟩) <|
  z_fc (zp_v rfl ⟨rfl, zd_292, zw_1843, Nat.le_of_ble_eq_true rfl, ⟨_, Or.inl ⟨Nat.le_of_ble_eq_true rfl, rfl⟩, rfl⟩, zw_1842, zw_1844⟩) <|
  z_fn
end
section
/-! DECODINGS READ OFF THE BYTES, in one walk. -/
abbrev zdR : Type := Jvm.ClassFile.Decoder Nat
def zdu : zdR := Jvm.ClassFile.Reader.u1
theorem zdb {cc : ByteArray} {p : Nat} {b : UInt8} {r : List UInt8} (hL : cc.data.toList.drop p = b :: r) : zdu cc p = .ok (b.toNat, p + 1) := by
  have hlen := congrArg List.length hL
  rw [List.length_drop, List.length_cons] at hlen
  have hp : p < cc.size := by
    show p < cc.data.toList.length
    omega
  have hb : cc[p] = b := by
    have h1 : cc.data.toList[p]? = some b := by
      have h2 := congrArg (fun l : List UInt8 => l[0]?) hL
      rw [List.getElem?_drop] at h2
      exact h2
    exact (List.getElem?_eq_some_iff.mp h1).2
  have e : zdu cc p = (if h : p < cc.size then (do set (p + 1); pure (cc[p]).toNat : zdR) else throw (Jvm.ClassFile.HasTruncated.truncated p)) cc p := rfl
  rw [e, dif_pos hp, hb]
  rfl
theorem zdn {cc : ByteArray} {p : Nat} {b : UInt8} {r : List UInt8} (hL : cc.data.toList.drop p = b :: r) : cc.data.toList.drop (p + 1) = r := by
  rw [← List.drop_drop, hL]
  rfl
theorem zdk {K : Nat → Jvm.ClassFile.Decoder Instr} {n m : Nat} {i : Instr} {cc : ByteArray} {pc : Nat} (hI : Jvm.ClassFile.Decoder.instr pc = (zdu >>= K)) (h : zdu cc pc = .ok (n, pc + 1)) (hk : K n cc (pc + 1) = .ok (i, pc + m)) : decode cc pc = .ok (i, m) := by
  have e : Jvm.ClassFile.Decoder.instr pc cc pc = .ok (i, pc + m) := by
    rw [hI]
    show Except.bind (zdu cc pc) _ = _
    rw [h]
    exact hk
  unfold decode
  show Except.bind (Jvm.ClassFile.Decoder.instr pc cc pc) _ = _
  rw [e]
  show Except.ok (i, pc + m - pc) = _
  rw [Nat.add_sub_cancel_left]
theorem zd_u1 {f : Nat → Instr} {cc : ByteArray} {p b : Nat} (h : zdu cc p = .ok (b, p + 1)) : (zdu >>= fun x => (pure (f x) : Jvm.ClassFile.Decoder Instr)) cc p = .ok (f b, p + 1) := by
  show Except.bind (zdu cc p) _ = _
  rw [h]
  rfl
theorem zd_s1 {f : Int → Instr} {cc : ByteArray} {p b : Nat} (h : zdu cc p = .ok (b, p + 1)) : (Jvm.ClassFile.Reader.s1 >>= fun x => (pure (f x) : Jvm.ClassFile.Decoder Instr)) cc p = .ok (f (Jvm.ClassFile.Reader.signed 8 b), p + 1) := by
  show Except.bind (Except.bind (zdu cc p) _) _ = _
  rw [h]
  rfl
theorem zd_u2 {f : Nat → Instr} {cc : ByteArray} {p b c : Nat} (h : zdu cc p = .ok (b, p + 1)) (h2 : zdu cc (p + 1) = .ok (c, p + 2)) : (Jvm.ClassFile.Reader.u2 >>= fun x => (pure (f x) : Jvm.ClassFile.Decoder Instr)) cc p = .ok (f (b * 256 + c), p + 2) := by
  show Except.bind (Except.bind (zdu cc p) _) _ = _
  rw [h]
  show Except.bind (Except.bind (zdu cc (p + 1)) _) _ = _
  rw [h2]
  rfl
theorem zd_s2 {f : Int → Instr} {cc : ByteArray} {p b c : Nat} (h : zdu cc p = .ok (b, p + 1)) (h2 : zdu cc (p + 1) = .ok (c, p + 2)) : (Jvm.ClassFile.Reader.s2 >>= fun x => (pure (f x) : Jvm.ClassFile.Decoder Instr)) cc p = .ok (f (Jvm.ClassFile.Reader.signed 16 (b * 256 + c)), p + 2) := by
  show Except.bind (Except.bind (Except.bind (zdu cc p) _) _) _ = _
  rw [h]
  show Except.bind (Except.bind (Except.bind (zdu cc (p + 1)) _) _) _ = _
  rw [h2]
  rfl
theorem zd_ii {cc : ByteArray} {p b c : Nat} (h : zdu cc p = .ok (b, p + 1)) (h2 : zdu cc (p + 1) = .ok (c, p + 2)) : (zdu >>= fun x => Jvm.ClassFile.Reader.s1 >>= fun y => (pure (.iinc x y) : Jvm.ClassFile.Decoder Instr)) cc p = .ok (.iinc b (Jvm.ClassFile.Reader.signed 8 c), p + 2) := by
  show Except.bind (zdu cc p) _ = _
  rw [h]
  show Except.bind (Except.bind (zdu cc (p + 1)) _) _ = _
  rw [h2]
  rfl
/-- what the leaves of the tree say -/
def zdP (L : List UInt8) (i : Instr) (len : Nat) : Prop := ∀ (cc : ByteArray) (pc : Nat), cc.data.toList.drop pc = L → decode cc pc = .ok (i, len)
def zD1 (n : Nat) (I : Instr) : Prop := ∀ (cc : ByteArray) (pc : Nat), zdu cc pc = .ok (n, pc + 1) → decode cc pc = .ok (I, 1)
def zD2 (n : Nat) (f : Nat → Instr) : Prop := ∀ (cc : ByteArray) (pc b : Nat), zdu cc pc = .ok (n, pc + 1) → zdu cc (pc + 1) = .ok (b, pc + 1 + 1) → decode cc pc = .ok (f b, 2)
def zD3 (n : Nat) (f : Nat → Instr) : Prop := ∀ (cc : ByteArray) (pc b c : Nat), zdu cc pc = .ok (n, pc + 1) → zdu cc (pc + 1) = .ok (b, pc + 1 + 1) → zdu cc (pc + 1 + 1) = .ok (c, pc + 1 + 2) → decode cc pc = .ok (f (b * 256 + c), 3)
def zD4 (n : Nat) (f : Int → Instr) : Prop := ∀ (cc : ByteArray) (pc b c : Nat), zdu cc pc = .ok (n, pc + 1) → zdu cc (pc + 1) = .ok (b, pc + 1 + 1) → zdu cc (pc + 1 + 1) = .ok (c, pc + 1 + 2) → decode cc pc = .ok (f (Jvm.ClassFile.Reader.signed 16 (b * 256 + c)), 3)
def zl1 (n : Nat) (I : Instr) (op : Nat) (i : Instr) (len : Nat) : Bool := Nat.beq op n && (Nat.beq len 1 && decide (i = I))
def zl2 (n : Nat) (f : Nat → Instr) (op : Nat) (r : List UInt8) (i : Instr) (len : Nat) : Bool := Nat.beq op n && (Nat.beq len 2 && (match r with | b :: _ => decide (i = f b.toNat) | [] => false))
def zl3 (n : Nat) (f : Nat → Instr) (op : Nat) (r : List UInt8) (i : Instr) (len : Nat) : Bool := Nat.beq op n && (Nat.beq len 3 && (match r with | b :: c :: _ => decide (i = f (b.toNat * 256 + c.toNat)) | _ => false))
def zl4 (n : Nat) (f : Int → Instr) (op : Nat) (r : List UInt8) (i : Instr) (len : Nat) : Bool := Nat.beq op n && (Nat.beq len 3 && (match r with | b :: c :: _ => decide (i = f (Jvm.ClassFile.Reader.signed 16 (b.toNat * 256 + c.toNat))) | _ => false))
def zl5 (op : Nat) (r : List UInt8) (i : Instr) (len : Nat) : Bool := Nat.beq op 16 && (Nat.beq len 2 && (match r with | b :: _ => decide (i = .bipush (Jvm.ClassFile.Reader.signed 8 b.toNat)) | [] => false))
def zl6 (op : Nat) (r : List UInt8) (i : Instr) (len : Nat) : Bool := Nat.beq op 132 && (Nat.beq len 3 && (match r with | b :: c :: _ => decide (i = .iinc b.toNat (Jvm.ClassFile.Reader.signed 8 c.toNat)) | _ => false))
section ZDL
variable {op len n : Nat} {a : UInt8} {r : List UInt8} {i : Instr}
theorem zl1_ok {I : Instr} (hD : zD1 n I) (h : zl1 n I a.toNat i len = true) : zdP (a :: r) i len := by
  intro cc pc hL
  obtain ⟨g1, g2⟩ := z_and h
  obtain ⟨g3, g4⟩ := z_and g2
  have h1 := Nat.eq_of_beq_eq_true g1
  have h2 := Nat.eq_of_beq_eq_true g3
  have h3 := of_decide_eq_true g4
  subst h2; subst h3
  have := zdb hL
  rw [h1] at this
  exact hD cc pc this
theorem zl2_ok {f : Nat → Instr} (hD : zD2 n f) (h : zl2 n f a.toNat r i len = true) : zdP (a :: r) i len := by
  intro cc pc hL
  obtain ⟨g1, g2⟩ := z_and h
  obtain ⟨g3, g4⟩ := z_and g2
  have h1 := Nat.eq_of_beq_eq_true g1
  have h2 := Nat.eq_of_beq_eq_true g3
  cases r with
  | nil => cases g4
  | cons b r =>
    have h3 := of_decide_eq_true g4
    subst h2; subst h3
    have := zdb hL
    rw [h1] at this
    exact hD cc pc _ this (zdb (zdn hL))
theorem zl3_ok {f : Nat → Instr} (hD : zD3 n f) (h : zl3 n f a.toNat r i len = true) : zdP (a :: r) i len := by
  intro cc pc hL
  obtain ⟨g1, g2⟩ := z_and h
  obtain ⟨g3, g4⟩ := z_and g2
  have h1 := Nat.eq_of_beq_eq_true g1
  have h2 := Nat.eq_of_beq_eq_true g3
  cases r with
  | nil => cases g4
  | cons b r => cases r with
    | nil => cases g4
    | cons c r =>
      have h3 := of_decide_eq_true g4
      subst h2; subst h3
      have := zdb hL
      rw [h1] at this
      exact hD cc pc _ _ this (zdb (zdn hL)) (zdb (zdn (zdn hL)))
theorem zl4_ok {f : Int → Instr} (hD : zD4 n f) (h : zl4 n f a.toNat r i len = true) : zdP (a :: r) i len := by
  intro cc pc hL
  obtain ⟨g1, g2⟩ := z_and h
  obtain ⟨g3, g4⟩ := z_and g2
  have h1 := Nat.eq_of_beq_eq_true g1
  have h2 := Nat.eq_of_beq_eq_true g3
  cases r with
  | nil => cases g4
  | cons b r => cases r with
    | nil => cases g4
    | cons c r =>
      have h3 := of_decide_eq_true g4
      subst h2; subst h3
      have := zdb hL
      rw [h1] at this
      exact hD cc pc _ _ this (zdb (zdn hL)) (zdb (zdn (zdn hL)))
theorem zl5_ok (h : zl5 a.toNat r i len = true) : zdP (a :: r) i len := by
  intro cc pc hL
  obtain ⟨g1, g2⟩ := z_and h
  obtain ⟨g3, g4⟩ := z_and g2
  have h1 := Nat.eq_of_beq_eq_true g1
  have h2 := Nat.eq_of_beq_eq_true g3
  cases r with
  | nil => cases g4
  | cons b r =>
    have h3 := of_decide_eq_true g4
    subst h2; subst h3
    have := zdb hL
    rw [h1] at this
    exact zdk rfl this (zd_s1 (f := .bipush) (zdb (zdn hL)))
theorem zl6_ok (h : zl6 a.toNat r i len = true) : zdP (a :: r) i len := by
  intro cc pc hL
  obtain ⟨g1, g2⟩ := z_and h
  obtain ⟨g3, g4⟩ := z_and g2
  have h1 := Nat.eq_of_beq_eq_true g1
  have h2 := Nat.eq_of_beq_eq_true g3
  cases r with
  | nil => cases g4
  | cons b r => cases r with
    | nil => cases g4
    | cons c r =>
      have h3 := of_decide_eq_true g4
      subst h2; subst h3
      have := zdb hL
      rw [h1] at this
      exact zdk rfl this (zd_ii (zdb (zdn hL)) (zdb (zdn (zdn hL))))
theorem zcd {c x y : Bool} {P : Prop} (h : cond c x y = true) (h1 : x = true → P) (h2 : y = true → P) : P := by
  cases c with
  | true => exact h1 h
  | false => exact h2 h
end ZDL
theorem zD_1 : zD1 1 (.aconst_null) := fun _ _ h => zdk rfl h rfl
theorem zD_2 : zD1 2 (.iconst (-1)) := fun _ _ h => zdk rfl h rfl
theorem zD_3 : zD1 3 (.iconst 0) := fun _ _ h => zdk rfl h rfl
theorem zD_4 : zD1 4 (.iconst 1) := fun _ _ h => zdk rfl h rfl
theorem zD_5 : zD1 5 (.iconst 2) := fun _ _ h => zdk rfl h rfl
theorem zD_6 : zD1 6 (.iconst 3) := fun _ _ h => zdk rfl h rfl
theorem zD_7 : zD1 7 (.iconst 4) := fun _ _ h => zdk rfl h rfl
theorem zD_8 : zD1 8 (.iconst 5) := fun _ _ h => zdk rfl h rfl
theorem zD_9 : zD1 9 (.lconst 0) := fun _ _ h => zdk rfl h rfl
theorem zD_10 : zD1 10 (.lconst 1) := fun _ _ h => zdk rfl h rfl
theorem zD_11 : zD1 11 (.fconst 0) := fun _ _ h => zdk rfl h rfl
theorem zD_14 : zD1 14 (.dconst 0) := fun _ _ h => zdk rfl h rfl
theorem zD_26 : zD1 26 (.iload_n 0) := fun _ _ h => zdk rfl h rfl
theorem zD_30 : zD1 30 (.lload_n 0) := fun _ _ h => zdk rfl h rfl
theorem zD_34 : zD1 34 (.fload_n 0) := fun _ _ h => zdk rfl h rfl
theorem zD_38 : zD1 38 (.dload_n 0) := fun _ _ h => zdk rfl h rfl
theorem zD_42 : zD1 42 (.aload_n 0) := fun _ _ h => zdk rfl h rfl
theorem zD_59 : zD1 59 (.istore_n 0) := fun _ _ h => zdk rfl h rfl
theorem zD_63 : zD1 63 (.lstore_n 0) := fun _ _ h => zdk rfl h rfl
theorem zD_67 : zD1 67 (.fstore_n 0) := fun _ _ h => zdk rfl h rfl
theorem zD_71 : zD1 71 (.dstore_n 0) := fun _ _ h => zdk rfl h rfl
theorem zD_75 : zD1 75 (.astore_n 0) := fun _ _ h => zdk rfl h rfl
theorem zD_27 : zD1 27 (.iload_n 1) := fun _ _ h => zdk rfl h rfl
theorem zD_31 : zD1 31 (.lload_n 1) := fun _ _ h => zdk rfl h rfl
theorem zD_35 : zD1 35 (.fload_n 1) := fun _ _ h => zdk rfl h rfl
theorem zD_39 : zD1 39 (.dload_n 1) := fun _ _ h => zdk rfl h rfl
theorem zD_43 : zD1 43 (.aload_n 1) := fun _ _ h => zdk rfl h rfl
theorem zD_60 : zD1 60 (.istore_n 1) := fun _ _ h => zdk rfl h rfl
theorem zD_64 : zD1 64 (.lstore_n 1) := fun _ _ h => zdk rfl h rfl
theorem zD_68 : zD1 68 (.fstore_n 1) := fun _ _ h => zdk rfl h rfl
theorem zD_72 : zD1 72 (.dstore_n 1) := fun _ _ h => zdk rfl h rfl
theorem zD_76 : zD1 76 (.astore_n 1) := fun _ _ h => zdk rfl h rfl
theorem zD_28 : zD1 28 (.iload_n 2) := fun _ _ h => zdk rfl h rfl
theorem zD_32 : zD1 32 (.lload_n 2) := fun _ _ h => zdk rfl h rfl
theorem zD_36 : zD1 36 (.fload_n 2) := fun _ _ h => zdk rfl h rfl
theorem zD_40 : zD1 40 (.dload_n 2) := fun _ _ h => zdk rfl h rfl
theorem zD_44 : zD1 44 (.aload_n 2) := fun _ _ h => zdk rfl h rfl
theorem zD_61 : zD1 61 (.istore_n 2) := fun _ _ h => zdk rfl h rfl
theorem zD_65 : zD1 65 (.lstore_n 2) := fun _ _ h => zdk rfl h rfl
theorem zD_69 : zD1 69 (.fstore_n 2) := fun _ _ h => zdk rfl h rfl
theorem zD_73 : zD1 73 (.dstore_n 2) := fun _ _ h => zdk rfl h rfl
theorem zD_77 : zD1 77 (.astore_n 2) := fun _ _ h => zdk rfl h rfl
theorem zD_29 : zD1 29 (.iload_n 3) := fun _ _ h => zdk rfl h rfl
theorem zD_33 : zD1 33 (.lload_n 3) := fun _ _ h => zdk rfl h rfl
theorem zD_37 : zD1 37 (.fload_n 3) := fun _ _ h => zdk rfl h rfl
theorem zD_41 : zD1 41 (.dload_n 3) := fun _ _ h => zdk rfl h rfl
theorem zD_45 : zD1 45 (.aload_n 3) := fun _ _ h => zdk rfl h rfl
theorem zD_62 : zD1 62 (.istore_n 3) := fun _ _ h => zdk rfl h rfl
theorem zD_66 : zD1 66 (.lstore_n 3) := fun _ _ h => zdk rfl h rfl
theorem zD_70 : zD1 70 (.fstore_n 3) := fun _ _ h => zdk rfl h rfl
theorem zD_74 : zD1 74 (.dstore_n 3) := fun _ _ h => zdk rfl h rfl
theorem zD_78 : zD1 78 (.astore_n 3) := fun _ _ h => zdk rfl h rfl
theorem zD_46 : zD1 46 (.iaload) := fun _ _ h => zdk rfl h rfl
theorem zD_47 : zD1 47 (.laload) := fun _ _ h => zdk rfl h rfl
theorem zD_50 : zD1 50 (.aaload) := fun _ _ h => zdk rfl h rfl
theorem zD_51 : zD1 51 (.baload) := fun _ _ h => zdk rfl h rfl
theorem zD_52 : zD1 52 (.caload) := fun _ _ h => zdk rfl h rfl
theorem zD_79 : zD1 79 (.iastore) := fun _ _ h => zdk rfl h rfl
theorem zD_80 : zD1 80 (.lastore) := fun _ _ h => zdk rfl h rfl
theorem zD_83 : zD1 83 (.aastore) := fun _ _ h => zdk rfl h rfl
theorem zD_84 : zD1 84 (.bastore) := fun _ _ h => zdk rfl h rfl
theorem zD_85 : zD1 85 (.castore) := fun _ _ h => zdk rfl h rfl
theorem zD_87 : zD1 87 (.pop) := fun _ _ h => zdk rfl h rfl
theorem zD_89 : zD1 89 (.dup) := fun _ _ h => zdk rfl h rfl
theorem zD_92 : zD1 92 (.dup2) := fun _ _ h => zdk rfl h rfl
theorem zD_96 : zD1 96 (.iadd) := fun _ _ h => zdk rfl h rfl
theorem zD_97 : zD1 97 (.ladd) := fun _ _ h => zdk rfl h rfl
theorem zD_100 : zD1 100 (.isub) := fun _ _ h => zdk rfl h rfl
theorem zD_101 : zD1 101 (.lsub) := fun _ _ h => zdk rfl h rfl
theorem zD_104 : zD1 104 (.imul) := fun _ _ h => zdk rfl h rfl
theorem zD_105 : zD1 105 (.lmul) := fun _ _ h => zdk rfl h rfl
theorem zD_108 : zD1 108 (.idiv) := fun _ _ h => zdk rfl h rfl
theorem zD_109 : zD1 109 (.ldiv) := fun _ _ h => zdk rfl h rfl
theorem zD_110 : zD1 110 (.fdiv) := fun _ _ h => zdk rfl h rfl
theorem zD_111 : zD1 111 (.ddiv) := fun _ _ h => zdk rfl h rfl
theorem zD_112 : zD1 112 (.irem) := fun _ _ h => zdk rfl h rfl
theorem zD_120 : zD1 120 (.ishl) := fun _ _ h => zdk rfl h rfl
theorem zD_122 : zD1 122 (.ishr) := fun _ _ h => zdk rfl h rfl
theorem zD_124 : zD1 124 (.iushr) := fun _ _ h => zdk rfl h rfl
theorem zD_126 : zD1 126 (.iand) := fun _ _ h => zdk rfl h rfl
theorem zD_128 : zD1 128 (.ior) := fun _ _ h => zdk rfl h rfl
theorem zD_133 : zD1 133 (.i2l) := fun _ _ h => zdk rfl h rfl
theorem zD_135 : zD1 135 (.i2d) := fun _ _ h => zdk rfl h rfl
theorem zD_137 : zD1 137 (.l2f) := fun _ _ h => zdk rfl h rfl
theorem zD_141 : zD1 141 (.f2d) := fun _ _ h => zdk rfl h rfl
theorem zD_145 : zD1 145 (.i2b) := fun _ _ h => zdk rfl h rfl
theorem zD_146 : zD1 146 (.i2c) := fun _ _ h => zdk rfl h rfl
theorem zD_148 : zD1 148 (.lcmp) := fun _ _ h => zdk rfl h rfl
theorem zD_172 : zD1 172 (.ireturn) := fun _ _ h => zdk rfl h rfl
theorem zD_173 : zD1 173 (.lreturn) := fun _ _ h => zdk rfl h rfl
theorem zD_174 : zD1 174 (.freturn) := fun _ _ h => zdk rfl h rfl
theorem zD_175 : zD1 175 (.dreturn) := fun _ _ h => zdk rfl h rfl
theorem zD_176 : zD1 176 (.areturn) := fun _ _ h => zdk rfl h rfl
theorem zD_177 : zD1 177 (.return_) := fun _ _ h => zdk rfl h rfl
theorem zD_190 : zD1 190 (.arraylength) := fun _ _ h => zdk rfl h rfl
theorem zD_149 : zD1 149 (.fcmp .l) := fun _ _ h => zdk rfl h rfl
theorem zD_150 : zD1 150 (.fcmp .g) := fun _ _ h => zdk rfl h rfl
theorem zD_151 : zD1 151 (.dcmp .l) := fun _ _ h => zdk rfl h rfl
theorem zD_152 : zD1 152 (.dcmp .g) := fun _ _ h => zdk rfl h rfl
theorem zD_18 : zD2 18 .ldc := fun _ _ _ h h1 => zdk rfl h (zd_u1 (f := .ldc) h1)
theorem zD_21 : zD2 21 .iload := fun _ _ _ h h1 => zdk rfl h (zd_u1 (f := .iload) h1)
theorem zD_22 : zD2 22 .lload := fun _ _ _ h h1 => zdk rfl h (zd_u1 (f := .lload) h1)
theorem zD_23 : zD2 23 .fload := fun _ _ _ h h1 => zdk rfl h (zd_u1 (f := .fload) h1)
theorem zD_24 : zD2 24 .dload := fun _ _ _ h h1 => zdk rfl h (zd_u1 (f := .dload) h1)
theorem zD_25 : zD2 25 .aload := fun _ _ _ h h1 => zdk rfl h (zd_u1 (f := .aload) h1)
theorem zD_54 : zD2 54 .istore := fun _ _ _ h h1 => zdk rfl h (zd_u1 (f := .istore) h1)
theorem zD_55 : zD2 55 .lstore := fun _ _ _ h h1 => zdk rfl h (zd_u1 (f := .lstore) h1)
theorem zD_56 : zD2 56 .fstore := fun _ _ _ h h1 => zdk rfl h (zd_u1 (f := .fstore) h1)
theorem zD_57 : zD2 57 .dstore := fun _ _ _ h h1 => zdk rfl h (zd_u1 (f := .dstore) h1)
theorem zD_58 : zD2 58 .astore := fun _ _ _ h h1 => zdk rfl h (zd_u1 (f := .astore) h1)
theorem zD_19 : zD3 19 .ldc_w := fun _ _ _ _ h h1 h2 => zdk rfl h (zd_u2 (f := .ldc_w) h1 h2)
theorem zD_20 : zD3 20 .ldc2_w := fun _ _ _ _ h h1 h2 => zdk rfl h (zd_u2 (f := .ldc2_w) h1 h2)
theorem zD_178 : zD3 178 .getstatic := fun _ _ _ _ h h1 h2 => zdk rfl h (zd_u2 (f := .getstatic) h1 h2)
theorem zD_180 : zD3 180 .getfield := fun _ _ _ _ h h1 h2 => zdk rfl h (zd_u2 (f := .getfield) h1 h2)
theorem zD_181 : zD3 181 .putfield := fun _ _ _ _ h h1 h2 => zdk rfl h (zd_u2 (f := .putfield) h1 h2)
theorem zD_182 : zD3 182 .invokevirtual := fun _ _ _ _ h h1 h2 => zdk rfl h (zd_u2 (f := .invokevirtual) h1 h2)
theorem zD_183 : zD3 183 .invokespecial := fun _ _ _ _ h h1 h2 => zdk rfl h (zd_u2 (f := .invokespecial) h1 h2)
theorem zD_184 : zD3 184 .invokestatic := fun _ _ _ _ h h1 h2 => zdk rfl h (zd_u2 (f := .invokestatic) h1 h2)
theorem zD_187 : zD3 187 .new := fun _ _ _ _ h h1 h2 => zdk rfl h (zd_u2 (f := .new) h1 h2)
theorem zD_189 : zD3 189 .anewarray := fun _ _ _ _ h h1 h2 => zdk rfl h (zd_u2 (f := .anewarray) h1 h2)
theorem zD_17 : zD4 17 (fun x => .sipush x) := fun _ _ _ _ h h1 h2 => zdk rfl h (zd_s2 (f := fun x => .sipush x) h1 h2)
theorem zD_166 : zD4 166 (fun x => .if_acmp .ne x) := fun _ _ _ _ h h1 h2 => zdk rfl h (zd_s2 (f := fun x => .if_acmp .ne x) h1 h2)
theorem zD_167 : zD4 167 (fun x => .goto x) := fun _ _ _ _ h h1 h2 => zdk rfl h (zd_s2 (f := fun x => .goto x) h1 h2)
theorem zD_198 : zD4 198 (fun x => .ifnull x) := fun _ _ _ _ h h1 h2 => zdk rfl h (zd_s2 (f := fun x => .ifnull x) h1 h2)
theorem zD_199 : zD4 199 (fun x => .ifnonnull x) := fun _ _ _ _ h h1 h2 => zdk rfl h (zd_s2 (f := fun x => .ifnonnull x) h1 h2)
theorem zD_153 : zD4 153 (fun x => .ifCond .eq x) := fun _ _ _ _ h h1 h2 => zdk rfl h (zd_s2 (f := fun x => .ifCond .eq x) h1 h2)
theorem zD_159 : zD4 159 (fun x => .if_icmp .eq x) := fun _ _ _ _ h h1 h2 => zdk rfl h (zd_s2 (f := fun x => .if_icmp .eq x) h1 h2)
theorem zD_154 : zD4 154 (fun x => .ifCond .ne x) := fun _ _ _ _ h h1 h2 => zdk rfl h (zd_s2 (f := fun x => .ifCond .ne x) h1 h2)
theorem zD_160 : zD4 160 (fun x => .if_icmp .ne x) := fun _ _ _ _ h h1 h2 => zdk rfl h (zd_s2 (f := fun x => .if_icmp .ne x) h1 h2)
theorem zD_155 : zD4 155 (fun x => .ifCond .lt x) := fun _ _ _ _ h h1 h2 => zdk rfl h (zd_s2 (f := fun x => .ifCond .lt x) h1 h2)
theorem zD_161 : zD4 161 (fun x => .if_icmp .lt x) := fun _ _ _ _ h h1 h2 => zdk rfl h (zd_s2 (f := fun x => .if_icmp .lt x) h1 h2)
theorem zD_156 : zD4 156 (fun x => .ifCond .ge x) := fun _ _ _ _ h h1 h2 => zdk rfl h (zd_s2 (f := fun x => .ifCond .ge x) h1 h2)
theorem zD_162 : zD4 162 (fun x => .if_icmp .ge x) := fun _ _ _ _ h h1 h2 => zdk rfl h (zd_s2 (f := fun x => .if_icmp .ge x) h1 h2)
theorem zD_157 : zD4 157 (fun x => .ifCond .gt x) := fun _ _ _ _ h h1 h2 => zdk rfl h (zd_s2 (f := fun x => .ifCond .gt x) h1 h2)
theorem zD_163 : zD4 163 (fun x => .if_icmp .gt x) := fun _ _ _ _ h h1 h2 => zdk rfl h (zd_s2 (f := fun x => .if_icmp .gt x) h1 h2)
theorem zD_158 : zD4 158 (fun x => .ifCond .le x) := fun _ _ _ _ h h1 h2 => zdk rfl h (zd_s2 (f := fun x => .ifCond .le x) h1 h2)
theorem zD_164 : zD4 164 (fun x => .if_icmp .le x) := fun _ _ _ _ h h1 h2 => zdk rfl h (zd_s2 (f := fun x => .if_icmp .le x) h1 h2)
def zdt (op : Nat) (r : List UInt8) (i : Instr) (len : Nat) : Bool := cond (Nat.ble op 75) (cond (Nat.ble op 37) (cond (Nat.ble op 20) (cond (Nat.ble op 8) (cond (Nat.ble op 4) (cond (Nat.ble op 2) (cond (Nat.ble op 1) (zl1 1 (.aconst_null) op i len) (zl1 2 (.iconst (-1)) op i len)) (cond (Nat.ble op 3) (zl1 3 (.iconst 0) op i len) (zl1 4 (.iconst 1) op i len))) (cond (Nat.ble op 6) (cond (Nat.ble op 5) (zl1 5 (.iconst 2) op i len) (zl1 6 (.iconst 3) op i len)) (cond (Nat.ble op 7) (zl1 7 (.iconst 4) op i len) (zl1 8 (.iconst 5) op i len)))) (cond (Nat.ble op 14) (cond (Nat.ble op 10) (cond (Nat.ble op 9) (zl1 9 (.lconst 0) op i len) (zl1 10 (.lconst 1) op i len)) (cond (Nat.ble op 11) (zl1 11 (.fconst 0) op i len) (zl1 14 (.dconst 0) op i len))) (cond (Nat.ble op 17) (cond (Nat.ble op 16) (zl5 op r i len) (zl4 17 (fun x => .sipush x) op r i len)) (cond (Nat.ble op 18) (zl2 18 .ldc op r i len) (cond (Nat.ble op 19) (zl3 19 .ldc_w op r i len) (zl3 20 .ldc2_w op r i len)))))) (cond (Nat.ble op 28) (cond (Nat.ble op 24) (cond (Nat.ble op 22) (cond (Nat.ble op 21) (zl2 21 .iload op r i len) (zl2 22 .lload op r i len)) (cond (Nat.ble op 23) (zl2 23 .fload op r i len) (zl2 24 .dload op r i len))) (cond (Nat.ble op 26) (cond (Nat.ble op 25) (zl2 25 .aload op r i len) (zl1 26 (.iload_n 0) op i len)) (cond (Nat.ble op 27) (zl1 27 (.iload_n 1) op i len) (zl1 28 (.iload_n 2) op i len)))) (cond (Nat.ble op 32) (cond (Nat.ble op 30) (cond (Nat.ble op 29) (zl1 29 (.iload_n 3) op i len) (zl1 30 (.lload_n 0) op i len)) (cond (Nat.ble op 31) (zl1 31 (.lload_n 1) op i len) (zl1 32 (.lload_n 2) op i len))) (cond (Nat.ble op 34) (cond (Nat.ble op 33) (zl1 33 (.lload_n 3) op i len) (zl1 34 (.fload_n 0) op i len)) (cond (Nat.ble op 35) (zl1 35 (.fload_n 1) op i len) (cond (Nat.ble op 36) (zl1 36 (.fload_n 2) op i len) (zl1 37 (.fload_n 3) op i len))))))) (cond (Nat.ble op 57) (cond (Nat.ble op 45) (cond (Nat.ble op 41) (cond (Nat.ble op 39) (cond (Nat.ble op 38) (zl1 38 (.dload_n 0) op i len) (zl1 39 (.dload_n 1) op i len)) (cond (Nat.ble op 40) (zl1 40 (.dload_n 2) op i len) (zl1 41 (.dload_n 3) op i len))) (cond (Nat.ble op 43) (cond (Nat.ble op 42) (zl1 42 (.aload_n 0) op i len) (zl1 43 (.aload_n 1) op i len)) (cond (Nat.ble op 44) (zl1 44 (.aload_n 2) op i len) (zl1 45 (.aload_n 3) op i len)))) (cond (Nat.ble op 51) (cond (Nat.ble op 47) (cond (Nat.ble op 46) (zl1 46 (.iaload) op i len) (zl1 47 (.laload) op i len)) (cond (Nat.ble op 50) (zl1 50 (.aaload) op i len) (zl1 51 (.baload) op i len))) (cond (Nat.ble op 54) (cond (Nat.ble op 52) (zl1 52 (.caload) op i len) (zl2 54 .istore op r i len)) (cond (Nat.ble op 55) (zl2 55 .lstore op r i len) (cond (Nat.ble op 56) (zl2 56 .fstore op r i len) (zl2 57 .dstore op r i len)))))) (cond (Nat.ble op 66) (cond (Nat.ble op 61) (cond (Nat.ble op 59) (cond (Nat.ble op 58) (zl2 58 .astore op r i len) (zl1 59 (.istore_n 0) op i len)) (cond (Nat.ble op 60) (zl1 60 (.istore_n 1) op i len) (zl1 61 (.istore_n 2) op i len))) (cond (Nat.ble op 63) (cond (Nat.ble op 62) (zl1 62 (.istore_n 3) op i len) (zl1 63 (.lstore_n 0) op i len)) (cond (Nat.ble op 64) (zl1 64 (.lstore_n 1) op i len) (cond (Nat.ble op 65) (zl1 65 (.lstore_n 2) op i len) (zl1 66 (.lstore_n 3) op i len))))) (cond (Nat.ble op 70) (cond (Nat.ble op 68) (cond (Nat.ble op 67) (zl1 67 (.fstore_n 0) op i len) (zl1 68 (.fstore_n 1) op i len)) (cond (Nat.ble op 69) (zl1 69 (.fstore_n 2) op i len) (zl1 70 (.fstore_n 3) op i len))) (cond (Nat.ble op 72) (cond (Nat.ble op 71) (zl1 71 (.dstore_n 0) op i len) (zl1 72 (.dstore_n 1) op i len)) (cond (Nat.ble op 73) (zl1 73 (.dstore_n 2) op i len) (cond (Nat.ble op 74) (zl1 74 (.dstore_n 3) op i len) (zl1 75 (.astore_n 0) op i len)))))))) (cond (Nat.ble op 148) (cond (Nat.ble op 105) (cond (Nat.ble op 85) (cond (Nat.ble op 79) (cond (Nat.ble op 77) (cond (Nat.ble op 76) (zl1 76 (.astore_n 1) op i len) (zl1 77 (.astore_n 2) op i len)) (cond (Nat.ble op 78) (zl1 78 (.astore_n 3) op i len) (zl1 79 (.iastore) op i len))) (cond (Nat.ble op 83) (cond (Nat.ble op 80) (zl1 80 (.lastore) op i len) (zl1 83 (.aastore) op i len)) (cond (Nat.ble op 84) (zl1 84 (.bastore) op i len) (zl1 85 (.castore) op i len)))) (cond (Nat.ble op 96) (cond (Nat.ble op 89) (cond (Nat.ble op 87) (zl1 87 (.pop) op i len) (zl1 89 (.dup) op i len)) (cond (Nat.ble op 92) (zl1 92 (.dup2) op i len) (zl1 96 (.iadd) op i len))) (cond (Nat.ble op 100) (cond (Nat.ble op 97) (zl1 97 (.ladd) op i len) (zl1 100 (.isub) op i len)) (cond (Nat.ble op 101) (zl1 101 (.lsub) op i len) (cond (Nat.ble op 104) (zl1 104 (.imul) op i len) (zl1 105 (.lmul) op i len)))))) (cond (Nat.ble op 126) (cond (Nat.ble op 111) (cond (Nat.ble op 109) (cond (Nat.ble op 108) (zl1 108 (.idiv) op i len) (zl1 109 (.ldiv) op i len)) (cond (Nat.ble op 110) (zl1 110 (.fdiv) op i len) (zl1 111 (.ddiv) op i len))) (cond (Nat.ble op 120) (cond (Nat.ble op 112) (zl1 112 (.irem) op i len) (zl1 120 (.ishl) op i len)) (cond (Nat.ble op 122) (zl1 122 (.ishr) op i len) (cond (Nat.ble op 124) (zl1 124 (.iushr) op i len) (zl1 126 (.iand) op i len))))) (cond (Nat.ble op 135) (cond (Nat.ble op 132) (cond (Nat.ble op 128) (zl1 128 (.ior) op i len) (zl6 op r i len)) (cond (Nat.ble op 133) (zl1 133 (.i2l) op i len) (zl1 135 (.i2d) op i len))) (cond (Nat.ble op 141) (cond (Nat.ble op 137) (zl1 137 (.l2f) op i len) (zl1 141 (.f2d) op i len)) (cond (Nat.ble op 145) (zl1 145 (.i2b) op i len) (cond (Nat.ble op 146) (zl1 146 (.i2c) op i len) (zl1 148 (.lcmp) op i len))))))) (cond (Nat.ble op 166) (cond (Nat.ble op 156) (cond (Nat.ble op 152) (cond (Nat.ble op 150) (cond (Nat.ble op 149) (zl1 149 (.fcmp .l) op i len) (zl1 150 (.fcmp .g) op i len)) (cond (Nat.ble op 151) (zl1 151 (.dcmp .l) op i len) (zl1 152 (.dcmp .g) op i len))) (cond (Nat.ble op 154) (cond (Nat.ble op 153) (zl4 153 (fun x => .ifCond .eq x) op r i len) (zl4 154 (fun x => .ifCond .ne x) op r i len)) (cond (Nat.ble op 155) (zl4 155 (fun x => .ifCond .lt x) op r i len) (zl4 156 (fun x => .ifCond .ge x) op r i len)))) (cond (Nat.ble op 160) (cond (Nat.ble op 158) (cond (Nat.ble op 157) (zl4 157 (fun x => .ifCond .gt x) op r i len) (zl4 158 (fun x => .ifCond .le x) op r i len)) (cond (Nat.ble op 159) (zl4 159 (fun x => .if_icmp .eq x) op r i len) (zl4 160 (fun x => .if_icmp .ne x) op r i len))) (cond (Nat.ble op 162) (cond (Nat.ble op 161) (zl4 161 (fun x => .if_icmp .lt x) op r i len) (zl4 162 (fun x => .if_icmp .ge x) op r i len)) (cond (Nat.ble op 163) (zl4 163 (fun x => .if_icmp .gt x) op r i len) (cond (Nat.ble op 164) (zl4 164 (fun x => .if_icmp .le x) op r i len) (zl4 166 (fun x => .if_acmp .ne x) op r i len)))))) (cond (Nat.ble op 180) (cond (Nat.ble op 174) (cond (Nat.ble op 172) (cond (Nat.ble op 167) (zl4 167 (fun x => .goto x) op r i len) (zl1 172 (.ireturn) op i len)) (cond (Nat.ble op 173) (zl1 173 (.lreturn) op i len) (zl1 174 (.freturn) op i len))) (cond (Nat.ble op 176) (cond (Nat.ble op 175) (zl1 175 (.dreturn) op i len) (zl1 176 (.areturn) op i len)) (cond (Nat.ble op 177) (zl1 177 (.return_) op i len) (cond (Nat.ble op 178) (zl3 178 .getstatic op r i len) (zl3 180 .getfield op r i len))))) (cond (Nat.ble op 184) (cond (Nat.ble op 182) (cond (Nat.ble op 181) (zl3 181 .putfield op r i len) (zl3 182 .invokevirtual op r i len)) (cond (Nat.ble op 183) (zl3 183 .invokespecial op r i len) (zl3 184 .invokestatic op r i len))) (cond (Nat.ble op 189) (cond (Nat.ble op 187) (zl3 187 .new op r i len) (zl3 189 .anewarray op r i len)) (cond (Nat.ble op 190) (zl1 190 (.arraylength) op i len) (cond (Nat.ble op 198) (zl4 198 (fun x => .ifnull x) op r i len) (zl4 199 (fun x => .ifnonnull x) op r i len))))))))
set_option maxRecDepth 100000 in
theorem zdt_ok {a : UInt8} {r : List UInt8} {i : Instr} {len : Nat} (h : zdt a.toNat r i len = true) : zdP (a :: r) i len := zcd h (fun h => zcd h (fun h => zcd h (fun h => zcd h (fun h => zcd h (fun h => zcd h (fun h => zcd h (fun h => zl1_ok zD_1 h) (fun h => zl1_ok zD_2 h)) (fun h => zcd h (fun h => zl1_ok zD_3 h) (fun h => zl1_ok zD_4 h))) (fun h => zcd h (fun h => zcd h (fun h => zl1_ok zD_5 h) (fun h => zl1_ok zD_6 h)) (fun h => zcd h (fun h => zl1_ok zD_7 h) (fun h => zl1_ok zD_8 h)))) (fun h => zcd h (fun h => zcd h (fun h => zcd h (fun h => zl1_ok zD_9 h) (fun h => zl1_ok zD_10 h)) (fun h => zcd h (fun h => zl1_ok zD_11 h) (fun h => zl1_ok zD_14 h))) (fun h => zcd h (fun h => zcd h (fun h => zl5_ok h) (fun h => zl4_ok zD_17 h)) (fun h => zcd h (fun h => zl2_ok zD_18 h) (fun h => zcd h (fun h => zl3_ok zD_19 h) (fun h => zl3_ok zD_20 h)))))) (fun h => zcd h (fun h => zcd h (fun h => zcd h (fun h => zcd h (fun h => zl2_ok zD_21 h) (fun h => zl2_ok zD_22 h)) (fun h => zcd h (fun h => zl2_ok zD_23 h) (fun h => zl2_ok zD_24 h))) (fun h => zcd h (fun h => zcd h (fun h => zl2_ok zD_25 h) (fun h => zl1_ok zD_26 h)) (fun h => zcd h (fun h => zl1_ok zD_27 h) (fun h => zl1_ok zD_28 h)))) (fun h => zcd h (fun h => zcd h (fun h => zcd h (fun h => zl1_ok zD_29 h) (fun h => zl1_ok zD_30 h)) (fun h => zcd h (fun h => zl1_ok zD_31 h) (fun h => zl1_ok zD_32 h))) (fun h => zcd h (fun h => zcd h (fun h => zl1_ok zD_33 h) (fun h => zl1_ok zD_34 h)) (fun h => zcd h (fun h => zl1_ok zD_35 h) (fun h => zcd h (fun h => zl1_ok zD_36 h) (fun h => zl1_ok zD_37 h))))))) (fun h => zcd h (fun h => zcd h (fun h => zcd h (fun h => zcd h (fun h => zcd h (fun h => zl1_ok zD_38 h) (fun h => zl1_ok zD_39 h)) (fun h => zcd h (fun h => zl1_ok zD_40 h) (fun h => zl1_ok zD_41 h))) (fun h => zcd h (fun h => zcd h (fun h => zl1_ok zD_42 h) (fun h => zl1_ok zD_43 h)) (fun h => zcd h (fun h => zl1_ok zD_44 h) (fun h => zl1_ok zD_45 h)))) (fun h => zcd h (fun h => zcd h (fun h => zcd h (fun h => zl1_ok zD_46 h) (fun h => zl1_ok zD_47 h)) (fun h => zcd h (fun h => zl1_ok zD_50 h) (fun h => zl1_ok zD_51 h))) (fun h => zcd h (fun h => zcd h (fun h => zl1_ok zD_52 h) (fun h => zl2_ok zD_54 h)) (fun h => zcd h (fun h => zl2_ok zD_55 h) (fun h => zcd h (fun h => zl2_ok zD_56 h) (fun h => zl2_ok zD_57 h)))))) (fun h => zcd h (fun h => zcd h (fun h => zcd h (fun h => zcd h (fun h => zl2_ok zD_58 h) (fun h => zl1_ok zD_59 h)) (fun h => zcd h (fun h => zl1_ok zD_60 h) (fun h => zl1_ok zD_61 h))) (fun h => zcd h (fun h => zcd h (fun h => zl1_ok zD_62 h) (fun h => zl1_ok zD_63 h)) (fun h => zcd h (fun h => zl1_ok zD_64 h) (fun h => zcd h (fun h => zl1_ok zD_65 h) (fun h => zl1_ok zD_66 h))))) (fun h => zcd h (fun h => zcd h (fun h => zcd h (fun h => zl1_ok zD_67 h) (fun h => zl1_ok zD_68 h)) (fun h => zcd h (fun h => zl1_ok zD_69 h) (fun h => zl1_ok zD_70 h))) (fun h => zcd h (fun h => zcd h (fun h => zl1_ok zD_71 h) (fun h => zl1_ok zD_72 h)) (fun h => zcd h (fun h => zl1_ok zD_73 h) (fun h => zcd h (fun h => zl1_ok zD_74 h) (fun h => zl1_ok zD_75 h)))))))) (fun h => zcd h (fun h => zcd h (fun h => zcd h (fun h => zcd h (fun h => zcd h (fun h => zcd h (fun h => zl1_ok zD_76 h) (fun h => zl1_ok zD_77 h)) (fun h => zcd h (fun h => zl1_ok zD_78 h) (fun h => zl1_ok zD_79 h))) (fun h => zcd h (fun h => zcd h (fun h => zl1_ok zD_80 h) (fun h => zl1_ok zD_83 h)) (fun h => zcd h (fun h => zl1_ok zD_84 h) (fun h => zl1_ok zD_85 h)))) (fun h => zcd h (fun h => zcd h (fun h => zcd h (fun h => zl1_ok zD_87 h) (fun h => zl1_ok zD_89 h)) (fun h => zcd h (fun h => zl1_ok zD_92 h) (fun h => zl1_ok zD_96 h))) (fun h => zcd h (fun h => zcd h (fun h => zl1_ok zD_97 h) (fun h => zl1_ok zD_100 h)) (fun h => zcd h (fun h => zl1_ok zD_101 h) (fun h => zcd h (fun h => zl1_ok zD_104 h) (fun h => zl1_ok zD_105 h)))))) (fun h => zcd h (fun h => zcd h (fun h => zcd h (fun h => zcd h (fun h => zl1_ok zD_108 h) (fun h => zl1_ok zD_109 h)) (fun h => zcd h (fun h => zl1_ok zD_110 h) (fun h => zl1_ok zD_111 h))) (fun h => zcd h (fun h => zcd h (fun h => zl1_ok zD_112 h) (fun h => zl1_ok zD_120 h)) (fun h => zcd h (fun h => zl1_ok zD_122 h) (fun h => zcd h (fun h => zl1_ok zD_124 h) (fun h => zl1_ok zD_126 h))))) (fun h => zcd h (fun h => zcd h (fun h => zcd h (fun h => zl1_ok zD_128 h) (fun h => zl6_ok h)) (fun h => zcd h (fun h => zl1_ok zD_133 h) (fun h => zl1_ok zD_135 h))) (fun h => zcd h (fun h => zcd h (fun h => zl1_ok zD_137 h) (fun h => zl1_ok zD_141 h)) (fun h => zcd h (fun h => zl1_ok zD_145 h) (fun h => zcd h (fun h => zl1_ok zD_146 h) (fun h => zl1_ok zD_148 h))))))) (fun h => zcd h (fun h => zcd h (fun h => zcd h (fun h => zcd h (fun h => zcd h (fun h => zl1_ok zD_149 h) (fun h => zl1_ok zD_150 h)) (fun h => zcd h (fun h => zl1_ok zD_151 h) (fun h => zl1_ok zD_152 h))) (fun h => zcd h (fun h => zcd h (fun h => zl4_ok zD_153 h) (fun h => zl4_ok zD_154 h)) (fun h => zcd h (fun h => zl4_ok zD_155 h) (fun h => zl4_ok zD_156 h)))) (fun h => zcd h (fun h => zcd h (fun h => zcd h (fun h => zl4_ok zD_157 h) (fun h => zl4_ok zD_158 h)) (fun h => zcd h (fun h => zl4_ok zD_159 h) (fun h => zl4_ok zD_160 h))) (fun h => zcd h (fun h => zcd h (fun h => zl4_ok zD_161 h) (fun h => zl4_ok zD_162 h)) (fun h => zcd h (fun h => zl4_ok zD_163 h) (fun h => zcd h (fun h => zl4_ok zD_164 h) (fun h => zl4_ok zD_166 h)))))) (fun h => zcd h (fun h => zcd h (fun h => zcd h (fun h => zcd h (fun h => zl4_ok zD_167 h) (fun h => zl1_ok zD_172 h)) (fun h => zcd h (fun h => zl1_ok zD_173 h) (fun h => zl1_ok zD_174 h))) (fun h => zcd h (fun h => zcd h (fun h => zl1_ok zD_175 h) (fun h => zl1_ok zD_176 h)) (fun h => zcd h (fun h => zl1_ok zD_177 h) (fun h => zcd h (fun h => zl3_ok zD_178 h) (fun h => zl3_ok zD_180 h))))) (fun h => zcd h (fun h => zcd h (fun h => zcd h (fun h => zl3_ok zD_181 h) (fun h => zl3_ok zD_182 h)) (fun h => zcd h (fun h => zl3_ok zD_183 h) (fun h => zl3_ok zD_184 h))) (fun h => zcd h (fun h => zcd h (fun h => zl3_ok zD_187 h) (fun h => zl3_ok zD_189 h)) (fun h => zcd h (fun h => zl1_ok zD_190 h) (fun h => zcd h (fun h => zl4_ok zD_198 h) (fun h => zl4_ok zD_199 h))))))))
def zwk : List zE → List UInt8 → Nat → Bool
  | [], _, _ => true
  | q :: l, L, p => Nat.ble p q.1 && (match L.drop (q.1 - p) with
    | [] => false
    | a :: r => zdt a.toNat r q.2.1 q.2.2.1 && zwk l (a :: r) q.1)
theorem zwk_ok {cc : ByteArray} : ∀ (l : List zE) (L : List UInt8) (p : Nat), cc.data.toList.drop p = L → zwk l L p = true → ∀ q ∈ l, decode cc q.1 = Except.ok (q.2.1, q.2.2.1) := by
  intro l
  induction l with
  | nil => intro L p _ _ q hq; exact absurd hq List.not_mem_nil
  | cons q0 l ih =>
    intro L p hL h
    rw [zwk] at h
    obtain ⟨h1, h2⟩ := z_and h
    have h1 : p ≤ q0.1 := Nat.le_of_ble_eq_true h1
    have hd : cc.data.toList.drop q0.1 = L.drop (q0.1 - p) := by
      rw [← hL, List.drop_drop]
      congr 1
      omega
    cases e : L.drop (q0.1 - p) with
    | nil => rw [e] at h2; cases h2
    | cons a r =>
      rw [e] at h2 hd
      obtain ⟨h3, h4⟩ := z_and h2
      exact List.forall_mem_cons.mpr ⟨zdt_ok h3 cc q0.1 hd, ih (a :: r) q0.1 hd h4⟩
theorem zdw {cc : ByteArray} {l : List zE} (h : zwk l cc.data.toList 0 = true) : ∀ q ∈ l, decode cc q.1 = Except.ok (q.2.1, q.2.2.1) := zwk_ok l cc.data.toList 0 rfl h
end
