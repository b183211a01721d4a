/-! THE CHECK in bulk: what the kernel can see of an entry by itself; the rest by a table of each class. -/
def z_lb (i : Instr) (len : Nat) : Bool := match i with
  | .iconst _ => Nat.beq len 1
  | .bipush _ => Nat.beq len 2
  | .sipush _ => Nat.beq len 3
  | .lconst _ => Nat.beq len 1
  | .fconst _ => Nat.beq len 1
  | .dconst _ => Nat.beq len 1
  | .aconst_null => Nat.beq len 1
  | .iload _ => Nat.beq len 2
  | .iload_n _ => Nat.beq len 1
  | .lload _ => Nat.beq len 2
  | .lload_n _ => Nat.beq len 1
  | .fload _ => Nat.beq len 2
  | .fload_n _ => Nat.beq len 1
  | .dload _ => Nat.beq len 2
  | .dload_n _ => Nat.beq len 1
  | .aload _ => Nat.beq len 2
  | .aload_n _ => Nat.beq len 1
  | .istore _ => Nat.beq len 2
  | .istore_n _ => Nat.beq len 1
  | .lstore _ => Nat.beq len 2
  | .lstore_n _ => Nat.beq len 1
  | .fstore _ => Nat.beq len 2
  | .fstore_n _ => Nat.beq len 1
  | .dstore _ => Nat.beq len 2
  | .dstore_n _ => Nat.beq len 1
  | .astore _ => Nat.beq len 2
  | .astore_n _ => Nat.beq len 1
  | .iinc _ _ => Nat.beq len 3
  | .iadd => Nat.beq len 1
  | .isub => Nat.beq len 1
  | .imul => Nat.beq len 1
  | .iand => Nat.beq len 1
  | .ior => Nat.beq len 1
  | .ishl => Nat.beq len 1
  | .ishr => Nat.beq len 1
  | .iushr => Nat.beq len 1
  | .idiv => Nat.beq len 1
  | .irem => Nat.beq len 1
  | .ladd => Nat.beq len 1
  | .lsub => Nat.beq len 1
  | .lmul => Nat.beq len 1
  | .ldiv => Nat.beq len 1
  | .lcmp => Nat.beq len 1
  | .fcmp _ => Nat.beq len 1
  | .dcmp _ => Nat.beq len 1
  | .i2l => Nat.beq len 1
  | .i2b => Nat.beq len 1
  | .i2c => Nat.beq len 1
  | .i2d => Nat.beq len 1
  | .l2f => Nat.beq len 1
  | .f2d => Nat.beq len 1
  | .fdiv => Nat.beq len 1
  | .ddiv => Nat.beq len 1
  | .dup => Nat.beq len 1
  | .dup2 => Nat.beq len 1
  | .pop => Nat.beq len 1
  | .goto _ => Nat.beq len 3
  | .if_icmp _ _ => Nat.beq len 3
  | .ifCond _ _ => Nat.beq len 3
  | _ => true
theorem z_lb_ok {i : Instr} {len : Nat} (h : z_lb i len = true) : z_len i len := by
  cases i <;> first | exact Nat.eq_of_beq_eq_true h | exact True.intro
def z_tb (i : Instr) (pc a : Nat) : Bool := match i with
  | .goto off => decide ((pc : Int) + off = (a : Int))
  | .if_icmp _ off => decide ((pc : Int) + off = (a : Int))
  | .ifCond _ off => decide ((pc : Int) + off = (a : Int))
  | _ => true
theorem z_tb_ok {i : Instr} {pc a : Nat} (h : z_tb i pc a = true) : z_tgt i pc a := by
  cases i <;> first
    | exact True.intro
    | (have h2 : decide ((pc : Int) + _ = (a : Int)) = true := h
       have h3 := of_decide_eq_true h2
       exact h3)
theorem z_and {x y : Bool} (h : (x && y) = true) : x = true ∧ y = true := by
  cases x <;> cases y <;> first | exact ⟨rfl, rfl⟩ | cases h
def z_e1 (i : Instr) (len pc a : Nat) : Bool := match i with
  | .arraylength => Nat.beq len 1
  | .iaload => Nat.beq len 1
  | .baload => Nat.beq len 1
  | .aaload => Nat.beq len 1
  | .iastore => Nat.beq len 1
  | .bastore => Nat.beq len 1
  | .aastore => Nat.beq len 1
  | .ifnull off => Nat.beq len 3 && decide ((pc : Int) + off = (a : Int))
  | .ifnonnull off => Nat.beq len 3 && decide ((pc : Int) + off = (a : Int))
  | .if_acmp _ off => Nat.beq len 3 && decide ((pc : Int) + off = (a : Int))
  | _ => false
theorem z_e1_ok {cl scl : List vw_C} {tf : List FieldType} {nw : List Cond} {T : zT} {own nm : String} {Ts : List Cond} {i : Instr} {len pc a b : Nat} (h : z_e1 i len pc a = true) : z_okh cl scl tf nw T own nm Ts i len pc a b := by
  cases i <;> first
    | exact Nat.eq_of_beq_eq_true h
    | exact ⟨Nat.eq_of_beq_eq_true (z_and h).1, of_decide_eq_true (z_and h).2⟩
    | exact (Bool.false_ne_true h).elim
def z_ez (q : zE) : Bool := match q with
  | (pc, i, len, a, b) => match z_kind i a b with
    | 0 => z_lb i len && z_tb i pc a
    | 1 => z_e1 i len pc a
    | 4 => Nat.beq len 1
    | 5 => (match i with
      | .return_ => Nat.beq len 1
      | _ => false)
    | 6 => true
    | _ => false
theorem z_ez_ok {T : zT} {P : zP} {M : zM} {nm : MethodName} {cc : ByteArray} {q : zE} (d : decode cc q.1 = .ok (q.2.1, q.2.2.1)) (h : z_ez q = true) : z_oke' T P M nm cc q := by
  obtain ⟨pc, i, len, a, b⟩ := q
  unfold z_ez at h
  dsimp only at h d
  split at h
  · rename_i hk
    exact zo_l d hk (z_lb_ok (z_and h).1) (z_tb_ok (z_and h).2)
  · rename_i hk
    exact zo_h d hk (z_e1_ok h)
  · rename_i hk
    have e := Nat.eq_of_beq_eq_true h
    subst e
    exact zo_r d hk
  · split at h
    · have e := Nat.eq_of_beq_eq_true h
      subst e
      exact zo_e d
    · cases h
  · rename_i hk
    exact zo_t d hk
  · cases h
abbrev zTE : Type := Instr × Nat × Nat × Nat
def z_hok (T : zT) (P : zP) (M : zM) (own : String) (x : zTE) : Prop := ∀ (nm : String) (pc : Nat), match z_kind x.1 x.2.2.1 x.2.2.2 with
  | 1 => z_okh M.2.2.2.2.2.1 M.2.2.2.2.2.2.1 M.2.2.2.2.2.2.2 M.2.2.2.2.1 T own nm M.2.2.2.1 x.1 x.2.1 pc x.2.2.1 x.2.2.2
  | 2 => x.2.1 = 3 ∧ z_okv P M own x.1 x.2.2.1 x.2.2.2
  | 7 => x.2.1 = 3 ∧ z_okn P M own x.1 x.2.2.1 x.2.2.2
  | 3 => x.2.1 = 3 ∧ z_oks P M own x.1 x.2.2.1 x.2.2.2
  | _ => False
section ZPK
variable {T : zT} {P : zP} {M : zM} {own : String} {len a b : Nat} {i : Instr}
theorem zp_h (hk : z_kind i a b = 1) (h : ∀ (nm : String) (pc : Nat), z_okh M.2.2.2.2.2.1 M.2.2.2.2.2.2.1 M.2.2.2.2.2.2.2 M.2.2.2.2.1 T own nm M.2.2.2.1 i len pc a b) : z_hok T P M own (i, len, a, b) := by
  intro nm pc
  dsimp only
  rw [hk]
  exact h nm pc
theorem zp_v (hk : z_kind i a b = 2) (h : z_okv P M own i a b) : z_hok T P M own (i, 3, a, b) := by
  intro nm pc
  dsimp only
  rw [hk]
  exact ⟨rfl, h⟩
theorem zp_n (hk : z_kind i a b = 7) (h : z_okn P M own i a b) : z_hok T P M own (i, 3, a, b) := by
  intro nm pc
  dsimp only
  rw [hk]
  exact ⟨rfl, h⟩
theorem zp_s (hk : z_kind i a b = 3) (h : z_oks P M own i a b) : z_hok T P M own (i, 3, a, b) := by
  intro nm pc
  dsimp only
  rw [hk]
  exact ⟨rfl, h⟩
end ZPK
def z_sm (q : zE) (x : zTE) : Bool := Nat.beq q.2.2.2.2 x.2.2.2 && (Nat.beq q.2.2.2.1 x.2.2.1 && (Nat.beq q.2.2.1 x.2.1 && decide (q.2.1 = x.1)))
def z_bz (TB : List zTE) (q : zE) : Bool := z_ez q || TB.any (z_sm q)
section ZBK
variable {T : zT} {P : zP} {M : zM} {own : String} {TB : List zTE} {nm : MethodName} {cc : ByteArray} {l H : List zE}
theorem z_bz_ok (ht : ∀ x ∈ TB, z_hok T P M own x) (hn : nm.cls = own) {q : zE} (d : decode cc q.1 = .ok (q.2.1, q.2.2.1)) (h : z_bz TB q = true) : z_oke' T P M nm cc q := by
  unfold z_bz at h
  rcases Bool.or_eq_true_iff.mp h with h | h
  · exact z_ez_ok d h
  · obtain ⟨x, hx, hs⟩ := List.any_eq_true.mp h
    subst hn
    obtain ⟨pc, i, len, a, b⟩ := q
    obtain ⟨i2, len2, a2, b2⟩ := x
    obtain ⟨s1, s2⟩ := z_and hs
    obtain ⟨s2, s3⟩ := z_and s2
    obtain ⟨s3, s4⟩ := z_and s3
    have t1 : b = b2 := Nat.eq_of_beq_eq_true s1
    have t2 : a = a2 := Nat.eq_of_beq_eq_true s2
    have t3 : len = len2 := Nat.eq_of_beq_eq_true s3
    have t4 : i = i2 := of_decide_eq_true s4
    subst t1; subst t2; subst t3; subst t4
    have o := ht _ hx nm.name pc
    dsimp only at o d
    split at o
    · rename_i hk
      exact zo_h d hk o
    · rename_i hk
      obtain ⟨o1, o2⟩ := o
      subst o1
      exact zo_v d hk o2
    · rename_i hk
      obtain ⟨o1, o2⟩ := o
      subst o1
      exact zo_n d hk o2
    · rename_i hk
      obtain ⟨o1, o2⟩ := o
      subst o1
      exact zo_s d hk o2
    · exact o.elim
theorem z_bulk0 (ht : ∀ x ∈ TB, z_hok T P M own x) (hn : nm.cls = own) (d : ∀ q ∈ l, decode cc q.1 = .ok (q.2.1, q.2.2.1)) (e : l.all (z_bz TB) = true) : ∀ q ∈ l, z_oke' T P M nm cc q := fun q hq => z_bz_ok ht hn (d q hq) (List.all_eq_true.mp e q hq)
theorem z_bulk (ht : ∀ x ∈ TB, z_hok T P M own x) (hn : nm.cls = own) (d : ∀ q ∈ l, decode cc q.1 = .ok (q.2.1, q.2.2.1)) (e : l.filter (fun q => !z_bz TB q) = H) (f : ∀ q ∈ H, z_oke' T P M nm cc q) : ∀ q ∈ l, z_oke' T P M nm cc q := fun q hq => by
  cases hb : z_bz TB q with
  | true => exact z_bz_ok ht hn (d q hq) hb
  | false =>
    refine f q ?_
    rw [← e]
    exact List.mem_filter.mpr ⟨hq, by rw [hb]; rfl⟩
end ZBK
theorem zdd_of {cc : ByteArray} {l : List zE} (h : (l.all fun q => decide (decode cc q.1 = Except.ok (q.2.1, q.2.2.1))) = true) : ∀ q ∈ l, decode cc q.1 = Except.ok (q.2.1, q.2.2.1) := fun q hq => of_decide_eq_true (List.all_eq_true.mp h q hq)
theorem z_fap {α : Type} {Q : α → Prop} {l1 l2 : List α} (h1 : ∀ q ∈ l1, Q q) (h2 : ∀ q ∈ l2, Q q) : ∀ q ∈ l1 ++ l2, Q q := fun q hq => (List.mem_append.mp hq).elim (h1 q) (h2 q)
def zTB_0 : List zTE := [(.invokespecial 3, 3, 9999, 0), (.anewarray 9, 3, 105, 0), (.putfield 17, 3, 1, 1), (.getfield 11, 3, 1, 0), (.new 9, 3, 3, 4), (.invokespecial 21, 3, 5, 0), (.getfield 17, 3, 1, 1), (.invokevirtual 22, 3, 2, 0), (.invokevirtual 25, 3, 7, 1)]
set_option maxRecDepth 100000 in
theorem zTBk_0 (xs : List Int32) : ∀ x ∈ zTB_0, z_hok (za_T xs) za_P za_M "LyndonBench$History" x :=
  z_fc (zp_h rfl (fun _ _ => ⟨rfl, zw_81, zw_32, zw_33⟩)) <|
  z_fc (zp_h rfl (fun _ _ => ⟨rfl, ⟨Nat.le_of_ble_eq_true rfl, Nat.le_of_ble_eq_true rfl⟩, _, rfl, zw_82, by decide +kernel⟩)) <|
  z_fc (zp_h rfl (fun _ _ => ⟨rfl, Nat.le_of_ble_eq_true rfl, _, _, _, rfl, Nat.le_of_ble_eq_true rfl, zw_86, Or.inl rfl⟩)) <|
  z_fc (zp_h rfl (fun _ _ => ⟨rfl, Nat.le_of_ble_eq_true rfl, _, _, _, Or.inl ⟨Nat.le_of_ble_eq_true rfl, rfl⟩, Nat.le_of_ble_eq_true rfl, zw_85⟩)) <|
  z_fc (zp_h rfl (fun _ _ => ⟨rfl, Nat.le_of_ble_eq_true rfl, _, _, rfl, zn_3, zm_3, zw_82, zw_35, zw_10⟩)) <|
  z_fc (zp_n rfl ⟨rfl, zd_5, rfl, rfl, zw_37, Or.inl zw_84⟩) <|
  z_fc (zp_h rfl (fun _ _ => ⟨rfl, Nat.le_of_ble_eq_true rfl, _, _, _, Or.inl ⟨Nat.le_of_ble_eq_true rfl, rfl⟩, Nat.le_of_ble_eq_true rfl, zw_86⟩)) <|
  z_fc (zp_v rfl ⟨rfl, zd_2, zw_385, Nat.le_of_ble_eq_true rfl, ⟨_, Or.inl ⟨Nat.le_of_ble_eq_true rfl, rfl⟩, rfl⟩, zw_383, zw_2⟩) <|
  z_fc (zp_v rfl ⟨rfl, zd_7, zw_252, Nat.le_of_ble_eq_true rfl, ⟨_, Or.inl ⟨Nat.le_of_ble_eq_true rfl, rfl⟩, rfl⟩, zw_251, zw_253⟩) <|
  z_fn
def zTB_1 : List zTE := [(.invokespecial 3, 3, 9999, 0), (.new 9, 3, 4, 2), (.invokespecial 11, 3, 19, 1), (.new 20, 3, 3, 4), (.invokespecial 22, 3, 5, 0), (.putfield 27, 3, 2, 2), (.putfield 31, 3, 2, 3), (.putfield 34, 3, 2, 4), (.putfield 37, 3, 2, 5), (.putfield 40, 3, 2, 6), (.putfield 43, 3, 2, 7), (.putfield 46, 3, 2, 8), (.putfield 49, 3, 2, 9), (.newarray .int, 2, 0, 0)]
set_option maxRecDepth 100000 in
theorem zTBk_1 (xs : List Int32) : ∀ x ∈ zTB_1, z_hok (za_T xs) za_P za_M "LyndonBench$Script" x :=
  z_fc (zp_h rfl (fun _ _ => ⟨rfl, zw_98, zw_32, zw_33⟩)) <|
  z_fc (zp_h rfl (fun _ _ => ⟨rfl, Nat.le_of_ble_eq_true rfl, _, _, rfl, zn_4, zm_4, zw_99, zw_41, zw_11⟩)) <|
  z_fc (zp_n rfl ⟨rfl, zd_19, rfl, rfl, zw_43, Or.inl zw_100⟩) <|
  z_fc (zp_h rfl (fun _ _ => ⟨rfl, Nat.le_of_ble_eq_true rfl, _, _, rfl, zn_3, zm_3, zw_101, zw_35, zw_10⟩)) <|
  z_fc (zp_n rfl ⟨rfl, zd_5, rfl, rfl, zw_37, Or.inl zw_102⟩) <|
  z_fc (zp_h rfl (fun _ _ => ⟨rfl, Nat.le_of_ble_eq_true rfl, _, _, _, rfl, Nat.le_of_ble_eq_true rfl, zw_105, Or.inl rfl⟩)) <|
  z_fc (zp_h rfl (fun _ _ => ⟨rfl, Nat.le_of_ble_eq_true rfl, _, _, _, rfl, Nat.le_of_ble_eq_true rfl, zw_106, Or.inl rfl⟩)) <|
  z_fc (zp_h rfl (fun _ _ => ⟨rfl, Nat.le_of_ble_eq_true rfl, _, _, _, rfl, Nat.le_of_ble_eq_true rfl, zw_107, Or.inl rfl⟩)) <|
  z_fc (zp_h rfl (fun _ _ => ⟨rfl, Nat.le_of_ble_eq_true rfl, _, _, _, rfl, Nat.le_of_ble_eq_true rfl, zw_108, Or.inl rfl⟩)) <|
  z_fc (zp_h rfl (fun _ _ => ⟨rfl, Nat.le_of_ble_eq_true rfl, _, _, _, rfl, Nat.le_of_ble_eq_true rfl, zw_109, Or.inl rfl⟩)) <|
  z_fc (zp_h rfl (fun _ _ => ⟨rfl, Nat.le_of_ble_eq_true rfl, _, _, _, rfl, Nat.le_of_ble_eq_true rfl, zw_110, Or.inl rfl⟩)) <|
  z_fc (zp_h rfl (fun _ _ => ⟨rfl, Nat.le_of_ble_eq_true rfl, _, _, _, rfl, Nat.le_of_ble_eq_true rfl, zw_111, Or.inl rfl⟩)) <|
  z_fc (zp_h rfl (fun _ _ => ⟨rfl, Nat.le_of_ble_eq_true rfl, _, _, _, rfl, Nat.le_of_ble_eq_true rfl, zw_112, Or.inl rfl⟩)) <|
  z_fc (zp_h rfl (fun _ _ => ⟨rfl, zw_140⟩)) <|
  z_fn
def zTB_2 : List zTE := [(.invokespecial 3, 3, 9999, 0), (.putfield 9, 3, 3, 0), (.new 15, 3, 4, 2), (.invokespecial 17, 3, 19, 1), (.anewarray 15, 3, 104, 0), (.putfield 28, 3, 3, 3), (.getfield 24, 3, 3, 2), (.getfield 20, 3, 3, 1), (.invokevirtual 31, 3, 22, 0), (.getfield 9, 3, 3, 0), (.invokevirtual 34, 3, 26, 1), (.getfield 28, 3, 3, 3), (.invokevirtual 38, 3, 11, 1), (.getfield 42, 3, 4, 1), (.invokevirtual 45, 3, 13, 3), (.invokevirtual 49, 3, 31, 1), (.invokevirtual 53, 3, 25, 3), (.invokevirtual 56, 3, 32, 5), (.invokevirtual 60, 3, 15, 1), (.invokevirtual 64, 3, 36, 0), (.invokevirtual 68, 3, 20, 1), (.invokevirtual 71, 3, 9, 0)]
set_option maxRecDepth 100000 in
theorem zTBk_2 (xs : List Int32) : ∀ x ∈ zTB_2, z_hok (za_T xs) za_P za_M "LyndonBench$State" x :=
  z_fc (zp_h rfl (fun _ _ => ⟨rfl, zw_39, zw_32, zw_33⟩)) <|
  z_fc (zp_h rfl (fun _ _ => ⟨rfl, Nat.le_of_ble_eq_true rfl, _, _, _, rfl, Nat.le_of_ble_eq_true rfl, zw_60, Or.inl rfl⟩)) <|
  z_fc (zp_h rfl (fun _ _ => ⟨rfl, Nat.le_of_ble_eq_true rfl, _, _, rfl, zn_4, zm_4, zw_40, zw_41, zw_11⟩)) <|
  z_fc (zp_n rfl ⟨rfl, zd_19, rfl, rfl, zw_43, Or.inl zw_42⟩) <|
  z_fc (zp_h rfl (fun _ _ => ⟨rfl, ⟨Nat.le_of_ble_eq_true rfl, Nat.le_of_ble_eq_true rfl⟩, _, rfl, zw_40, by decide +kernel⟩)) <|
  z_fc (zp_h rfl (fun _ _ => ⟨rfl, Nat.le_of_ble_eq_true rfl, _, _, _, rfl, Nat.le_of_ble_eq_true rfl, zw_65, Or.inl rfl⟩)) <|
  z_fc (zp_h rfl (fun _ _ => ⟨rfl, Nat.le_of_ble_eq_true rfl, _, _, _, Or.inl ⟨Nat.le_of_ble_eq_true rfl, rfl⟩, Nat.le_of_ble_eq_true rfl, zw_64⟩)) <|
  z_fc (zp_h rfl (fun _ _ => ⟨rfl, Nat.le_of_ble_eq_true rfl, _, _, _, Or.inl ⟨Nat.le_of_ble_eq_true rfl, rfl⟩, Nat.le_of_ble_eq_true rfl, zw_62⟩)) <|
  z_fc (zp_v rfl ⟨rfl, zd_22, zw_148, Nat.le_of_ble_eq_true rfl, ⟨_, Or.inl ⟨Nat.le_of_ble_eq_true rfl, rfl⟩, rfl⟩, zw_147, zw_149⟩) <|
  z_fc (zp_h rfl (fun _ _ => ⟨rfl, Nat.le_of_ble_eq_true rfl, _, _, _, Or.inl ⟨Nat.le_of_ble_eq_true rfl, rfl⟩, Nat.le_of_ble_eq_true rfl, zw_60⟩)) <|
  z_fc (zp_v rfl ⟨rfl, zd_26, zw_256, Nat.le_of_ble_eq_true rfl, ⟨_, Or.inl ⟨Nat.le_of_ble_eq_true rfl, rfl⟩, rfl⟩, zw_255, zw_257⟩) <|
  z_fc (zp_h rfl (fun _ _ => ⟨rfl, Nat.le_of_ble_eq_true rfl, _, _, _, Or.inl ⟨Nat.le_of_ble_eq_true rfl, rfl⟩, Nat.le_of_ble_eq_true rfl, zw_65⟩)) <|
  z_fc (zp_v rfl ⟨rfl, zd_11, zw_262, Nat.le_of_ble_eq_true rfl, ⟨_, Or.inl ⟨Nat.le_of_ble_eq_true rfl, rfl⟩, rfl⟩, zw_261, zw_263⟩) <|
  z_fc (zp_h rfl (fun _ _ => ⟨rfl, Nat.le_of_ble_eq_true rfl, _, _, _, Or.inl ⟨Nat.le_of_ble_eq_true rfl, rfl⟩, Nat.le_of_ble_eq_true rfl, zw_51⟩)) <|
  z_fc (zp_v rfl ⟨rfl, zd_13, zw_210, Nat.le_of_ble_eq_true rfl, ⟨_, Or.inl ⟨Nat.le_of_ble_eq_true rfl, rfl⟩, rfl⟩, zw_265, zw_211⟩) <|
  z_fc (zp_v rfl ⟨rfl, zd_31, zw_602, Nat.le_of_ble_eq_true rfl, ⟨_, Or.inl ⟨Nat.le_of_ble_eq_true rfl, rfl⟩, rfl⟩, zw_601, zw_603⟩) <|
  z_fc (zp_v rfl ⟨rfl, zd_25, zw_214, Nat.le_of_ble_eq_true rfl, ⟨_, Or.inl ⟨Nat.le_of_ble_eq_true rfl, rfl⟩, rfl⟩, zw_213, zw_215⟩) <|
  z_fc (zp_v rfl ⟨rfl, zd_32, zw_397, Nat.le_of_ble_eq_true rfl, ⟨_, Or.inl ⟨Nat.le_of_ble_eq_true rfl, rfl⟩, rfl⟩, zw_577, zw_398⟩) <|
  z_fc (zp_v rfl ⟨rfl, zd_15, zw_574, Nat.le_of_ble_eq_true rfl, ⟨_, Or.inl ⟨Nat.le_of_ble_eq_true rfl, rfl⟩, rfl⟩, zw_573, zw_575⟩) <|
  z_fc (zp_v rfl ⟨rfl, zd_36, zw_459, Nat.le_of_ble_eq_true rfl, ⟨_, Or.inl ⟨Nat.le_of_ble_eq_true rfl, rfl⟩, rfl⟩, zw_479, zw_460⟩) <|
  z_fc (zp_v rfl ⟨rfl, zd_20, zw_218, Nat.le_of_ble_eq_true rfl, ⟨_, Or.inl ⟨Nat.le_of_ble_eq_true rfl, rfl⟩, rfl⟩, zw_480, zw_219⟩) <|
  z_fc (zp_v rfl ⟨rfl, zd_9, zw_482, Nat.le_of_ble_eq_true rfl, ⟨_, Or.inl ⟨Nat.le_of_ble_eq_true rfl, rfl⟩, rfl⟩, zw_481, zw_483⟩) <|
  z_fn
def zTB_3 : List zTE := [(.invokespecial 3, 3, 9999, 0), (.putfield 9, 3, 4, 1), (.invokestatic 15, 3, 9998, 0), (.newarray .byte, 2, 0, 0), (.getfield 9, 3, 4, 1), (.getfield 21, 3, 4, 0), (.invokevirtual 29, 3, 78, 0), (.invokevirtual 35, 3, 79, 1), (.invokevirtual 25, 3, 23, 1), (.invokevirtual 39, 3, 20, 1), (.invokevirtual 43, 3, 22, 0), (.invokevirtual 46, 3, 25, 3), (.invokevirtual 50, 3, 21, 2), (.invokevirtual 54, 3, 27, 1), (.invokevirtual 57, 3, 29, 2), (.invokevirtual 60, 3, 32, 5), (.invokevirtual 64, 3, 33, 1), (.invokevirtual 67, 3, 34, 2), (.invokevirtual 77, 3, 41, 1)]
set_option maxRecDepth 100000 in
theorem zTBk_3 (xs : List Int32) : ∀ x ∈ zTB_3, z_hok (za_T xs) za_P za_M "LyndonBench$Word" x :=
  z_fc (zp_h rfl (fun _ _ => ⟨rfl, zw_45, zw_32, zw_33⟩)) <|
  z_fc (zp_h rfl (fun _ _ => ⟨rfl, Nat.le_of_ble_eq_true rfl, _, _, _, rfl, Nat.le_of_ble_eq_true rfl, zw_50, Or.inl rfl⟩)) <|
  z_fc (zp_h rfl (fun _ _ => ⟨rfl, Or.inl ⟨rfl, zw_46, zw_47, zw_12, zw_48⟩⟩)) <|
  z_fc (zp_h rfl (fun _ _ => ⟨rfl, zw_58⟩)) <|
  z_fc (zp_h rfl (fun _ _ => ⟨rfl, Nat.le_of_ble_eq_true rfl, _, _, _, Or.inl ⟨Nat.le_of_ble_eq_true rfl, rfl⟩, Nat.le_of_ble_eq_true rfl, zw_50⟩)) <|
  z_fc (zp_h rfl (fun _ _ => ⟨rfl, Nat.le_of_ble_eq_true rfl, _, _, _, Or.inl ⟨Nat.le_of_ble_eq_true rfl, rfl⟩, Nat.le_of_ble_eq_true rfl, zw_49⟩)) <|
  z_fc (zp_v rfl ⟨rfl, zd_78, zw_157, Nat.le_of_ble_eq_true rfl, ⟨_, Or.inr ⟨Nat.le_of_ble_eq_true rfl, rfl⟩, rfl⟩, zw_156, zw_158⟩) <|
  z_fc (zp_v rfl ⟨rfl, zd_79, zw_167, Nat.le_of_ble_eq_true rfl, ⟨_, Or.inr ⟨Nat.le_of_ble_eq_true rfl, rfl⟩, rfl⟩, zw_166, zw_168⟩) <|
  z_fc (zp_v rfl ⟨rfl, zd_23, zw_205, Nat.le_of_ble_eq_true rfl, ⟨_, Or.inl ⟨Nat.le_of_ble_eq_true rfl, rfl⟩, rfl⟩, zw_204, zw_206⟩) <|
  z_fc (zp_v rfl ⟨rfl, zd_20, zw_218, Nat.le_of_ble_eq_true rfl, ⟨_, Or.inl ⟨Nat.le_of_ble_eq_true rfl, rfl⟩, rfl⟩, zw_217, zw_219⟩) <|
  z_fc (zp_v rfl ⟨rfl, zd_22, zw_148, Nat.le_of_ble_eq_true rfl, ⟨_, Or.inl ⟨Nat.le_of_ble_eq_true rfl, rfl⟩, rfl⟩, zw_259, zw_149⟩) <|
  z_fc (zp_v rfl ⟨rfl, zd_25, zw_214, Nat.le_of_ble_eq_true rfl, ⟨_, Or.inl ⟨Nat.le_of_ble_eq_true rfl, rfl⟩, rfl⟩, zw_260, zw_215⟩) <|
  z_fc (zp_v rfl ⟨rfl, zd_21, zw_434, Nat.le_of_ble_eq_true rfl, ⟨_, Or.inl ⟨Nat.le_of_ble_eq_true rfl, rfl⟩, rfl⟩, zw_432, zw_4⟩) <|
  z_fc (zp_v rfl ⟨rfl, zd_27, zw_417, Nat.le_of_ble_eq_true rfl, ⟨_, Or.inl ⟨Nat.le_of_ble_eq_true rfl, rfl⟩, rfl⟩, zw_491, zw_418⟩) <|
  z_fc (zp_v rfl ⟨rfl, zd_29, zw_429, Nat.le_of_ble_eq_true rfl, ⟨_, Or.inl ⟨Nat.le_of_ble_eq_true rfl, rfl⟩, rfl⟩, zw_428, zw_430⟩) <|
  z_fc (zp_v rfl ⟨rfl, zd_32, zw_397, Nat.le_of_ble_eq_true rfl, ⟨_, Or.inl ⟨Nat.le_of_ble_eq_true rfl, rfl⟩, rfl⟩, zw_396, zw_398⟩) <|
  z_fc (zp_v rfl ⟨rfl, zd_33, zw_401, Nat.le_of_ble_eq_true rfl, ⟨_, Or.inl ⟨Nat.le_of_ble_eq_true rfl, rfl⟩, rfl⟩, zw_400, zw_402⟩) <|
  z_fc (zp_v rfl ⟨rfl, zd_34, zw_393, Nat.le_of_ble_eq_true rfl, ⟨_, Or.inl ⟨Nat.le_of_ble_eq_true rfl, rfl⟩, rfl⟩, zw_392, zw_394⟩) <|
  z_fc (zp_v rfl ⟨rfl, zd_41, zw_452, Nat.le_of_ble_eq_true rfl, ⟨_, Or.inl ⟨Nat.le_of_ble_eq_true rfl, rfl⟩, rfl⟩, zw_450, zw_5⟩) <|
  z_fn
def zTB_4 : List zTE := [(.invokespecial 3, 3, 9999, 0), (.new 9, 3, 3, 4), (.invokespecial 11, 3, 5, 0), (.new 16, 3, 1, 2), (.invokespecial 18, 3, 0, 0), (.putfield 26, 3, 0, 3), (.new 30, 3, 2, 12), (.invokespecial 32, 3, 4, 0), (.new 37, 3, 4, 2), (.invokespecial 39, 3, 19, 1), (.getfield 12, 3, 0, 0), (.invokevirtual 49, 3, 6, 1), (.getfield 52, 3, 3, 1), (.ldc 55, 2, 1, 0), (.invokevirtual 57, 3, 24, 1), (.getfield 46, 3, 0, 6), (.ldc 61, 2, 1, 1), (.invokevirtual 63, 3, 13, 3), (.invokevirtual 104, 3, 10, 1), (.getfield 19, 3, 0, 1), (.invokevirtual 92, 3, 1, 1), (.getfield 113, 3, 3, 0), (.putfield 113, 3, 3, 0), (.invokevirtual 128, 3, 73, 1), (.getfield 70, 3, 4, 1), (.invokevirtual 131, 3, 23, 1), (.invokevirtual 134, 3, 35, 0), (.invokevirtual 138, 3, 74, 1), (.invokevirtual 83, 3, 27, 1), (.invokevirtual 141, 3, 75, 2), (.invokevirtual 145, 3, 28, 2), (.invokevirtual 148, 3, 30, 1), (.invokevirtual 151, 3, 29, 2), (.invokevirtual 156, 3, 40, 0), (.invokevirtual 161, 3, 18, 1), (.invokevirtual 166, 3, 9, 0), (.invokevirtual 169, 3, 43, 2), (.invokevirtual 172, 3, 76, 1), (.invokevirtual 175, 3, 33, 1), (.invokevirtual 178, 3, 12, 1), (.getfield 183, 3, 3, 3), (.invokevirtual 188, 3, 11, 1), (.invokevirtual 197, 3, 14, 1), (.invokevirtual 200, 3, 16, 0), (.invokevirtual 205, 3, 17, 0), (.invokevirtual 208, 3, 3, 1), (.getfield 212, 3, 1, 1), (.invokevirtual 116, 3, 20, 1), (.invokevirtual 234, 3, 38, 1), (.invokevirtual 240, 3, 26, 1), (.invokevirtual 250, 3, 36, 0), (.invokevirtual 262, 3, 42, 1), (.invokevirtual 289, 3, 39, 2), (.invokevirtual 226, 3, 32, 5), (.invokevirtual 120, 3, 8, 1), (.invokevirtual 303, 3, 37, 1)]
set_option maxRecDepth 100000 in
theorem zTBk_4 (xs : List Int32) : ∀ x ∈ zTB_4, z_hok (za_T xs) za_P za_M "LyndonBench" x :=
  z_fc (zp_h rfl (fun _ _ => ⟨rfl, zw_31, zw_32, zw_33⟩)) <|
  z_fc (zp_h rfl (fun _ _ => ⟨rfl, Nat.le_of_ble_eq_true rfl, _, _, rfl, zn_3, zm_3, zw_34, zw_35, zw_10⟩)) <|
  z_fc (zp_n rfl ⟨rfl, zd_5, rfl, rfl, zw_37, Or.inl zw_36⟩) <|
  z_fc (zp_h rfl (fun _ _ => ⟨rfl, Nat.le_of_ble_eq_true rfl, _, _, rfl, zn_1, zm_1, zw_76, zw_77, zw_13⟩)) <|
  z_fc (zp_n rfl ⟨rfl, zd_0, rfl, rfl, zw_79, Or.inl zw_78⟩) <|
  z_fc (zp_h rfl (fun _ _ => ⟨rfl, Nat.le_of_ble_eq_true rfl, _, _, _, rfl, Nat.le_of_ble_eq_true rfl, zw_224, Or.inl rfl⟩)) <|
  z_fc (zp_h rfl (fun _ _ => ⟨rfl, Nat.le_of_ble_eq_true rfl, _, _, rfl, zn_2, zm_2, zw_93, zw_94, zw_14⟩)) <|
  z_fc (zp_n rfl ⟨rfl, zd_4, rfl, rfl, zw_96, Or.inr ⟨"LyndonBench", by decide +kernel⟩⟩) <|
  z_fc (zp_h rfl (fun _ _ => ⟨rfl, Nat.le_of_ble_eq_true rfl, _, _, rfl, zn_4, zm_4, zw_141, zw_41, zw_11⟩)) <|
  z_fc (zp_n rfl ⟨rfl, zd_19, rfl, rfl, zw_43, Or.inl zw_142⟩) <|
  z_fc (zp_h rfl (fun _ _ => ⟨rfl, Nat.le_of_ble_eq_true rfl, _, _, _, Or.inl ⟨Nat.le_of_ble_eq_true rfl, rfl⟩, Nat.le_of_ble_eq_true rfl, zw_221⟩)) <|
  z_fc (zp_v rfl ⟨rfl, zd_6, zw_144, Nat.le_of_ble_eq_true rfl, ⟨_, Or.inl ⟨Nat.le_of_ble_eq_true rfl, rfl⟩, rfl⟩, zw_143, zw_145⟩) <|
  z_fc (zp_h rfl (fun _ _ => ⟨rfl, Nat.le_of_ble_eq_true rfl, _, _, _, Or.inl ⟨Nat.le_of_ble_eq_true rfl, rfl⟩, Nat.le_of_ble_eq_true rfl, zw_63⟩)) <|
  z_fc (zp_h rfl (fun _ _ => ⟨rfl, Or.inr ⟨rfl, _, rfl, rfl, rfl⟩⟩)) <|
  z_fc (zp_v rfl ⟨rfl, zd_24, zw_153, Nat.le_of_ble_eq_true rfl, ⟨_, Or.inl ⟨Nat.le_of_ble_eq_true rfl, rfl⟩, rfl⟩, zw_152, zw_154⟩) <|
  z_fc (zp_h rfl (fun _ _ => ⟨rfl, Nat.le_of_ble_eq_true rfl, _, _, _, Or.inl ⟨Nat.le_of_ble_eq_true rfl, rfl⟩, Nat.le_of_ble_eq_true rfl, zw_227⟩)) <|
  z_fc (zp_h rfl (fun _ _ => ⟨rfl, Or.inr ⟨rfl, _, rfl, rfl, rfl⟩⟩)) <|
  z_fc (zp_v rfl ⟨rfl, zd_13, zw_210, Nat.le_of_ble_eq_true rfl, ⟨_, Or.inl ⟨Nat.le_of_ble_eq_true rfl, rfl⟩, rfl⟩, zw_209, zw_211⟩) <|
  z_fc (zp_v rfl ⟨rfl, zd_10, zw_598, Nat.le_of_ble_eq_true rfl, ⟨_, Or.inl ⟨Nat.le_of_ble_eq_true rfl, rfl⟩, rfl⟩, zw_597, zw_599⟩) <|
  z_fc (zp_h rfl (fun _ _ => ⟨rfl, Nat.le_of_ble_eq_true rfl, _, _, _, Or.inl ⟨Nat.le_of_ble_eq_true rfl, rfl⟩, Nat.le_of_ble_eq_true rfl, zw_222⟩)) <|
  z_fc (zp_v rfl ⟨rfl, zd_1, zw_380, Nat.le_of_ble_eq_true rfl, ⟨_, Or.inl ⟨Nat.le_of_ble_eq_true rfl, rfl⟩, rfl⟩, zw_379, zw_381⟩) <|
  z_fc (zp_h rfl (fun _ _ => ⟨rfl, Nat.le_of_ble_eq_true rfl, _, _, _, Or.inl ⟨Nat.le_of_ble_eq_true rfl, rfl⟩, Nat.le_of_ble_eq_true rfl, zw_61⟩)) <|
  z_fc (zp_h rfl (fun _ _ => ⟨rfl, Nat.le_of_ble_eq_true rfl, _, _, _, rfl, Nat.le_of_ble_eq_true rfl, zw_61, Or.inl rfl⟩)) <|
  z_fc (zp_v rfl ⟨rfl, zd_73, zw_290, Nat.le_of_ble_eq_true rfl, ⟨_, Or.inl ⟨Nat.le_of_ble_eq_true rfl, rfl⟩, rfl⟩, zw_288, zw_0⟩) <|
  z_fc (zp_h rfl (fun _ _ => ⟨rfl, Nat.le_of_ble_eq_true rfl, _, _, _, Or.inl ⟨Nat.le_of_ble_eq_true rfl, rfl⟩, Nat.le_of_ble_eq_true rfl, zw_52⟩)) <|
  z_fc (zp_v rfl ⟨rfl, zd_23, zw_205, Nat.le_of_ble_eq_true rfl, ⟨_, Or.inl ⟨Nat.le_of_ble_eq_true rfl, rfl⟩, rfl⟩, zw_387, zw_206⟩) <|
  z_fc (zp_v rfl ⟨rfl, zd_35, zw_389, Nat.le_of_ble_eq_true rfl, ⟨_, Or.inl ⟨Nat.le_of_ble_eq_true rfl, rfl⟩, rfl⟩, zw_388, zw_390⟩) <|
  z_fc (zp_v rfl ⟨rfl, zd_74, zw_413, Nat.le_of_ble_eq_true rfl, ⟨_, Or.inl ⟨Nat.le_of_ble_eq_true rfl, rfl⟩, rfl⟩, zw_411, zw_3⟩) <|
  z_fc (zp_v rfl ⟨rfl, zd_27, zw_417, Nat.le_of_ble_eq_true rfl, ⟨_, Or.inl ⟨Nat.le_of_ble_eq_true rfl, rfl⟩, rfl⟩, zw_416, zw_418⟩) <|
  z_fc (zp_v rfl ⟨rfl, zd_75, zw_584, Nat.le_of_ble_eq_true rfl, ⟨_, Or.inl ⟨Nat.le_of_ble_eq_true rfl, rfl⟩, rfl⟩, zw_582, zw_7⟩) <|
  z_fc (zp_v rfl ⟨rfl, zd_28, zw_588, Nat.le_of_ble_eq_true rfl, ⟨_, Or.inl ⟨Nat.le_of_ble_eq_true rfl, rfl⟩, rfl⟩, zw_587, zw_589⟩) <|
  z_fc (zp_v rfl ⟨rfl, zd_30, zw_425, Nat.le_of_ble_eq_true rfl, ⟨_, Or.inl ⟨Nat.le_of_ble_eq_true rfl, rfl⟩, rfl⟩, zw_424, zw_426⟩) <|
  z_fc (zp_v rfl ⟨rfl, zd_29, zw_429, Nat.le_of_ble_eq_true rfl, ⟨_, Or.inl ⟨Nat.le_of_ble_eq_true rfl, rfl⟩, rfl⟩, zw_440, zw_430⟩) <|
  z_fc (zp_v rfl ⟨rfl, zd_40, zw_447, Nat.le_of_ble_eq_true rfl, ⟨_, Or.inl ⟨Nat.le_of_ble_eq_true rfl, rfl⟩, rfl⟩, zw_446, zw_448⟩) <|
  z_fc (zp_v rfl ⟨rfl, zd_18, zw_476, Nat.le_of_ble_eq_true rfl, ⟨_, Or.inl ⟨Nat.le_of_ble_eq_true rfl, rfl⟩, rfl⟩, zw_475, zw_477⟩) <|
  z_fc (zp_v rfl ⟨rfl, zd_9, zw_482, Nat.le_of_ble_eq_true rfl, ⟨_, Or.inl ⟨Nat.le_of_ble_eq_true rfl, rfl⟩, rfl⟩, zw_486, zw_483⟩) <|
  z_fc (zp_v rfl ⟨rfl, zd_43, zw_488, Nat.le_of_ble_eq_true rfl, ⟨_, Or.inl ⟨Nat.le_of_ble_eq_true rfl, rfl⟩, rfl⟩, zw_487, zw_489⟩) <|
  z_fc (zp_v rfl ⟨rfl, zd_76, zw_506, Nat.le_of_ble_eq_true rfl, ⟨_, Or.inl ⟨Nat.le_of_ble_eq_true rfl, rfl⟩, rfl⟩, zw_504, zw_6⟩) <|
  z_fc (zp_v rfl ⟨rfl, zd_33, zw_401, Nat.le_of_ble_eq_true rfl, ⟨_, Or.inl ⟨Nat.le_of_ble_eq_true rfl, rfl⟩, rfl⟩, zw_528, zw_402⟩) <|
  z_fc (zp_v rfl ⟨rfl, zd_12, zw_534, Nat.le_of_ble_eq_true rfl, ⟨_, Or.inl ⟨Nat.le_of_ble_eq_true rfl, rfl⟩, rfl⟩, zw_533, zw_535⟩) <|
  z_fc (zp_h rfl (fun _ _ => ⟨rfl, Nat.le_of_ble_eq_true rfl, _, _, _, Or.inl ⟨Nat.le_of_ble_eq_true rfl, rfl⟩, Nat.le_of_ble_eq_true rfl, zw_66⟩)) <|
  z_fc (zp_v rfl ⟨rfl, zd_11, zw_262, Nat.le_of_ble_eq_true rfl, ⟨_, Or.inl ⟨Nat.le_of_ble_eq_true rfl, rfl⟩, rfl⟩, zw_547, zw_263⟩) <|
  z_fc (zp_v rfl ⟨rfl, zd_14, zw_550, Nat.le_of_ble_eq_true rfl, ⟨_, Or.inl ⟨Nat.le_of_ble_eq_true rfl, rfl⟩, rfl⟩, zw_549, zw_551⟩) <|
  z_fc (zp_v rfl ⟨rfl, zd_16, zw_565, Nat.le_of_ble_eq_true rfl, ⟨_, Or.inl ⟨Nat.le_of_ble_eq_true rfl, rfl⟩, rfl⟩, zw_564, zw_566⟩) <|
  z_fc (zp_v rfl ⟨rfl, zd_17, zw_570, Nat.le_of_ble_eq_true rfl, ⟨_, Or.inl ⟨Nat.le_of_ble_eq_true rfl, rfl⟩, rfl⟩, zw_569, zw_571⟩) <|
  z_fc (zp_v rfl ⟨rfl, zd_3, zw_248, Nat.le_of_ble_eq_true rfl, ⟨_, Or.inl ⟨Nat.le_of_ble_eq_true rfl, rfl⟩, rfl⟩, zw_247, zw_249⟩) <|
  z_fc (zp_h rfl (fun _ _ => ⟨rfl, Nat.le_of_ble_eq_true rfl, _, _, _, Or.inl ⟨Nat.le_of_ble_eq_true rfl, rfl⟩, Nat.le_of_ble_eq_true rfl, zw_87⟩)) <|
  z_fc (zp_v rfl ⟨rfl, zd_20, zw_218, Nat.le_of_ble_eq_true rfl, ⟨_, Or.inl ⟨Nat.le_of_ble_eq_true rfl, rfl⟩, rfl⟩, zw_469, zw_219⟩) <|
  z_fc (zp_v rfl ⟨rfl, zd_38, zw_643, Nat.le_of_ble_eq_true rfl, ⟨_, Or.inl ⟨Nat.le_of_ble_eq_true rfl, rfl⟩, rfl⟩, zw_642, zw_644⟩) <|
  z_fc (zp_v rfl ⟨rfl, zd_26, zw_256, Nat.le_of_ble_eq_true rfl, ⟨_, Or.inl ⟨Nat.le_of_ble_eq_true rfl, rfl⟩, rfl⟩, zw_668, zw_257⟩) <|
  z_fc (zp_v rfl ⟨rfl, zd_36, zw_459, Nat.le_of_ble_eq_true rfl, ⟨_, Or.inl ⟨Nat.le_of_ble_eq_true rfl, rfl⟩, rfl⟩, zw_458, zw_460⟩) <|
  z_fc (zp_v rfl ⟨rfl, zd_42, zw_622, Nat.le_of_ble_eq_true rfl, ⟨_, Or.inl ⟨Nat.le_of_ble_eq_true rfl, rfl⟩, rfl⟩, zw_621, zw_623⟩) <|
  z_fc (zp_v rfl ⟨rfl, zd_39, zw_617, Nat.le_of_ble_eq_true rfl, ⟨_, Or.inl ⟨Nat.le_of_ble_eq_true rfl, rfl⟩, rfl⟩, zw_616, zw_618⟩) <|
  z_fc (zp_v rfl ⟨rfl, zd_32, zw_397, Nat.le_of_ble_eq_true rfl, ⟨_, Or.inl ⟨Nat.le_of_ble_eq_true rfl, rfl⟩, rfl⟩, zw_620, zw_398⟩) <|
  z_fc (zp_v rfl ⟨rfl, zd_8, zw_293, Nat.le_of_ble_eq_true rfl, ⟨_, Or.inl ⟨Nat.le_of_ble_eq_true rfl, rfl⟩, rfl⟩, zw_292, zw_294⟩) <|
  z_fc (zp_v rfl ⟨rfl, zd_37, zw_509, Nat.le_of_ble_eq_true rfl, ⟨_, Or.inl ⟨Nat.le_of_ble_eq_true rfl, rfl⟩, rfl⟩, zw_508, zw_510⟩) <|
  z_fn
def zTB_5 : List zTE := [(.getfield 9, 3, 50, 0), (.invokevirtual 335, 3, 80, 0), (.invokevirtual 492, 3, 81, 0), (.invokestatic 495, 3, 83, 2), (.getstatic 38, 3, 0, 0), (.getfield 15, 3, 50, 1), (.getstatic 1053, 3, 0, 1), (.invokestatic 1059, 3, 84, 3)]
set_option maxRecDepth 100000 in
theorem zTBk_5 (xs : List Int32) : ∀ x ∈ zTB_5, z_hok (za_T xs) za_P za_M "java/lang/String" x :=
  z_fc (zp_h rfl (fun _ _ => ⟨rfl, Nat.le_of_ble_eq_true rfl, _, _, _, Or.inr ⟨Nat.le_of_ble_eq_true rfl, rfl⟩, Nat.le_of_ble_eq_true rfl, zw_670⟩)) <|
  z_fc (zp_v rfl ⟨rfl, zd_80, zw_161, Nat.le_of_ble_eq_true rfl, ⟨_, Or.inr ⟨Nat.le_of_ble_eq_true rfl, rfl⟩, rfl⟩, zw_160, zw_162⟩) <|
  z_fc (zp_v rfl ⟨rfl, zd_81, zw_171, Nat.le_of_ble_eq_true rfl, ⟨_, Or.inr ⟨Nat.le_of_ble_eq_true rfl, rfl⟩, rfl⟩, zw_170, zw_172⟩) <|
  z_fc (zp_s rfl ⟨zd_83, zw_174, zw_175⟩) <|
  z_fc (zp_h rfl (fun _ _ => ⟨rfl, _, rfl, zw_164⟩)) <|
  z_fc (zp_h rfl (fun _ _ => ⟨rfl, Nat.le_of_ble_eq_true rfl, _, _, _, Or.inr ⟨Nat.le_of_ble_eq_true rfl, rfl⟩, Nat.le_of_ble_eq_true rfl, zw_671⟩)) <|
  z_fc (zp_h rfl (fun _ _ => ⟨rfl, _, rfl, zw_180⟩)) <|
  z_fc (zp_s rfl ⟨zd_84, zw_182, zw_183⟩) <|
  z_fn
def zTB_6 : List zTE := [(.invokestatic 9, 3, 82, 2)]
set_option maxRecDepth 100000 in
theorem zTBk_6 (xs : List Int32) : ∀ x ∈ zTB_6, z_hok (za_T xs) za_P za_M "java/lang/StringLatin1" x :=
  z_fc (zp_s rfl ⟨zd_82, zw_177, zw_178⟩) <|
  z_fn
def zTB_7 : List zTE := [(.invokevirtual 7, 3, 60, 0), (.invokevirtual 13, 3, 59, 0), (.invokevirtual 16, 3, 46, 1), (.invokestatic 20, 3, 9997, 0), (.invokevirtual 26, 3, 47, 1), (.invokevirtual 29, 3, 49, 1), (.invokevirtual 32, 3, 50, 0), (.invokevirtual 35, 3, 51, 0), (.invokevirtual 38, 3, 67, 0), (.invokestatic 42, 3, 88, 1), (.invokevirtual 48, 3, 52, 1), (.invokevirtual 51, 3, 69, 0), (.invokevirtual 54, 3, 62, 0), (.invokevirtual 57, 3, 64, 1), (.invokevirtual 60, 3, 53, 1), (.invokevirtual 63, 3, 54, 0), (.invokevirtual 66, 3, 55, 1), (.invokestatic 69, 3, 87, 1), (.invokevirtual 73, 3, 56, 0), (.invokevirtual 76, 3, 48, 2), (.invokestatic 79, 3, 9998, 0), (.invokevirtual 82, 3, 45, 1), (.invokevirtual 85, 3, 70, 1), (.invokevirtual 88, 3, 61, 1), (.newarray .int, 2, 0, 0), (.invokestatic 91, 3, 77, 2), (.invokestatic 96, 3, 90, 6), (.invokestatic 100, 3, 89, 1), (.invokevirtual 104, 3, 72, 0), (.invokevirtual 107, 3, 63, 1), (.invokestatic 110, 3, 91, 3), (.invokevirtual 113, 3, 65, 1), (.invokevirtual 116, 3, 71, 2), (.invokevirtual 119, 3, 68, 0), (.ldc2_w 122, 3, 0, 0), (.ldc2_w 124, 3, 0, 1), (.ldc2_w 126, 3, 0, 2), (.ldc2_w 128, 3, 0, 3), (.invokevirtual 130, 3, 66, 1), (.invokestatic 133, 3, 92, 1), (.invokevirtual 136, 3, 57, 0), (.new 8, 3, 0, 7), (.invokespecial 139, 3, 44, 0), (.invokestatic 140, 3, 85, 2), (.invokevirtual 144, 3, 58, 0), (.invokestatic 147, 3, 93, 1), (.invokestatic 151, 3, 86, 2), (.invokestatic 155, 3, 94, 2)]
set_option maxRecDepth 100000 in
theorem zTBk_7 (xs : List Int32) : ∀ x ∈ zTB_7, z_hok (za_T xs) za_P za_M "LyndonBenchLaw" x :=
  z_fc (zp_v rfl ⟨rfl, zd_60, zw_281, Nat.le_of_ble_eq_true rfl, ⟨_, Or.inl ⟨Nat.le_of_ble_eq_true rfl, rfl⟩, rfl⟩, zw_280, zw_282⟩) <|
  z_fc (zp_v rfl ⟨rfl, zd_59, zw_271, Nat.le_of_ble_eq_true rfl, ⟨_, Or.inl ⟨Nat.le_of_ble_eq_true rfl, rfl⟩, rfl⟩, zw_270, zw_272⟩) <|
  z_fc (zp_v rfl ⟨rfl, zd_46, zw_285, Nat.le_of_ble_eq_true rfl, ⟨_, Or.inl ⟨Nat.le_of_ble_eq_true rfl, rfl⟩, rfl⟩, zw_284, zw_286⟩) <|
  z_fc (zp_h rfl (fun _ _ => ⟨rfl, Or.inr ⟨rfl, zw_404, zw_405, zw_12, zw_406⟩⟩)) <|
  z_fc (zp_v rfl ⟨rfl, zd_47, zw_408, Nat.le_of_ble_eq_true rfl, ⟨_, Or.inl ⟨Nat.le_of_ble_eq_true rfl, rfl⟩, rfl⟩, zw_407, zw_409⟩) <|
  z_fc (zp_v rfl ⟨rfl, zd_49, zw_421, Nat.le_of_ble_eq_true rfl, ⟨_, Or.inl ⟨Nat.le_of_ble_eq_true rfl, rfl⟩, rfl⟩, zw_420, zw_422⟩) <|
  z_fc (zp_v rfl ⟨rfl, zd_50, zw_437, Nat.le_of_ble_eq_true rfl, ⟨_, Or.inl ⟨Nat.le_of_ble_eq_true rfl, rfl⟩, rfl⟩, zw_436, zw_438⟩) <|
  z_fc (zp_v rfl ⟨rfl, zd_51, zw_442, Nat.le_of_ble_eq_true rfl, ⟨_, Or.inl ⟨Nat.le_of_ble_eq_true rfl, rfl⟩, rfl⟩, zw_441, zw_443⟩) <|
  z_fc (zp_v rfl ⟨rfl, zd_67, zw_455, Nat.le_of_ble_eq_true rfl, ⟨_, Or.inl ⟨Nat.le_of_ble_eq_true rfl, rfl⟩, rfl⟩, zw_454, zw_456⟩) <|
  z_fc (zp_s rfl ⟨zd_88, zw_462, zw_463⟩) <|
  z_fc (zp_v rfl ⟨rfl, zd_52, zw_471, Nat.le_of_ble_eq_true rfl, ⟨_, Or.inl ⟨Nat.le_of_ble_eq_true rfl, rfl⟩, rfl⟩, zw_470, zw_472⟩) <|
  z_fc (zp_v rfl ⟨rfl, zd_69, zw_493, Nat.le_of_ble_eq_true rfl, ⟨_, Or.inl ⟨Nat.le_of_ble_eq_true rfl, rfl⟩, rfl⟩, zw_492, zw_494⟩) <|
  z_fc (zp_v rfl ⟨rfl, zd_62, zw_497, Nat.le_of_ble_eq_true rfl, ⟨_, Or.inl ⟨Nat.le_of_ble_eq_true rfl, rfl⟩, rfl⟩, zw_496, zw_498⟩) <|
  z_fc (zp_v rfl ⟨rfl, zd_64, zw_501, Nat.le_of_ble_eq_true rfl, ⟨_, Or.inl ⟨Nat.le_of_ble_eq_true rfl, rfl⟩, rfl⟩, zw_500, zw_502⟩) <|
  z_fc (zp_v rfl ⟨rfl, zd_53, zw_530, Nat.le_of_ble_eq_true rfl, ⟨_, Or.inl ⟨Nat.le_of_ble_eq_true rfl, rfl⟩, rfl⟩, zw_529, zw_531⟩) <|
  z_fc (zp_v rfl ⟨rfl, zd_54, zw_539, Nat.le_of_ble_eq_true rfl, ⟨_, Or.inl ⟨Nat.le_of_ble_eq_true rfl, rfl⟩, rfl⟩, zw_538, zw_540⟩) <|
  z_fc (zp_v rfl ⟨rfl, zd_55, zw_544, Nat.le_of_ble_eq_true rfl, ⟨_, Or.inl ⟨Nat.le_of_ble_eq_true rfl, rfl⟩, rfl⟩, zw_543, zw_545⟩) <|
  z_fc (zp_s rfl ⟨zd_87, zw_553, zw_554⟩) <|
  z_fc (zp_v rfl ⟨rfl, zd_56, zw_561, Nat.le_of_ble_eq_true rfl, ⟨_, Or.inl ⟨Nat.le_of_ble_eq_true rfl, rfl⟩, rfl⟩, zw_560, zw_562⟩) <|
  z_fc (zp_v rfl ⟨rfl, zd_48, zw_579, Nat.le_of_ble_eq_true rfl, ⟨_, Or.inl ⟨Nat.le_of_ble_eq_true rfl, rfl⟩, rfl⟩, zw_578, zw_580⟩) <|
  z_fc (zp_h rfl (fun _ _ => ⟨rfl, Or.inl ⟨rfl, zw_591, zw_47, zw_12, zw_48⟩⟩)) <|
  z_fc (zp_v rfl ⟨rfl, zd_45, zw_593, Nat.le_of_ble_eq_true rfl, ⟨_, Or.inl ⟨Nat.le_of_ble_eq_true rfl, rfl⟩, rfl⟩, zw_592, zw_594⟩) <|
  z_fc (zp_v rfl ⟨rfl, zd_70, zw_557, Nat.le_of_ble_eq_true rfl, ⟨_, Or.inl ⟨Nat.le_of_ble_eq_true rfl, rfl⟩, rfl⟩, zw_556, zw_558⟩) <|
  z_fc (zp_v rfl ⟨rfl, zd_61, zw_466, Nat.le_of_ble_eq_true rfl, ⟨_, Or.inl ⟨Nat.le_of_ble_eq_true rfl, rfl⟩, rfl⟩, zw_465, zw_467⟩) <|
  z_fc (zp_h rfl (fun _ _ => ⟨rfl, zw_140⟩)) <|
  z_fc (zp_s rfl ⟨zd_77, zw_635, zw_636⟩) <|
  z_fc (zp_s rfl ⟨zd_90, zw_632, zw_633⟩) <|
  z_fc (zp_s rfl ⟨zd_89, zw_609, zw_610⟩) <|
  z_fc (zp_v rfl ⟨rfl, zd_72, zw_613, Nat.le_of_ble_eq_true rfl, ⟨_, Or.inl ⟨Nat.le_of_ble_eq_true rfl, rfl⟩, rfl⟩, zw_612, zw_614⟩) <|
  z_fc (zp_v rfl ⟨rfl, zd_63, zw_626, Nat.le_of_ble_eq_true rfl, ⟨_, Or.inl ⟨Nat.le_of_ble_eq_true rfl, rfl⟩, rfl⟩, zw_625, zw_627⟩) <|
  z_fc (zp_s rfl ⟨zd_91, zw_629, zw_630⟩) <|
  z_fc (zp_v rfl ⟨rfl, zd_65, zw_639, Nat.le_of_ble_eq_true rfl, ⟨_, Or.inl ⟨Nat.le_of_ble_eq_true rfl, rfl⟩, rfl⟩, zw_638, zw_640⟩) <|
  z_fc (zp_v rfl ⟨rfl, zd_71, zw_647, Nat.le_of_ble_eq_true rfl, ⟨_, Or.inl ⟨Nat.le_of_ble_eq_true rfl, rfl⟩, rfl⟩, zw_646, zw_648⟩) <|
  z_fc (zp_v rfl ⟨rfl, zd_68, zw_651, Nat.le_of_ble_eq_true rfl, ⟨_, Or.inl ⟨Nat.le_of_ble_eq_true rfl, rfl⟩, rfl⟩, zw_650, zw_652⟩) <|
  z_fc (zp_h rfl (fun _ _ => ⟨rfl, _, rfl, zw_657⟩)) <|
  z_fc (zp_h rfl (fun _ _ => ⟨rfl, _, rfl, zw_658⟩)) <|
  z_fc (zp_h rfl (fun _ _ => ⟨rfl, _, rfl, zw_659⟩)) <|
  z_fc (zp_h rfl (fun _ _ => ⟨rfl, _, rfl, zw_660⟩)) <|
  z_fc (zp_v rfl ⟨rfl, zd_66, zw_665, Nat.le_of_ble_eq_true rfl, ⟨_, Or.inl ⟨Nat.le_of_ble_eq_true rfl, rfl⟩, rfl⟩, zw_664, zw_666⟩) <|
  z_fc (zp_s rfl ⟨zd_92, zw_606, zw_607⟩) <|
  z_fc (zp_v rfl ⟨rfl, zd_57, zw_244, Nat.le_of_ble_eq_true rfl, ⟨_, Or.inl ⟨Nat.le_of_ble_eq_true rfl, rfl⟩, rfl⟩, zw_243, zw_245⟩) <|
  z_fc (zp_h rfl (fun _ _ => ⟨rfl, Nat.le_of_ble_eq_true rfl, _, _, rfl, zn_0, zm_0, zw_26, zw_27, zw_9⟩)) <|
  z_fc (zp_n rfl ⟨rfl, zd_44, rfl, rfl, zw_29, Or.inl zw_28⟩) <|
  z_fc (zp_s rfl ⟨zd_85, zw_274, zw_275⟩) <|
  z_fc (zp_v rfl ⟨rfl, zd_58, zw_267, Nat.le_of_ble_eq_true rfl, ⟨_, Or.inl ⟨Nat.le_of_ble_eq_true rfl, rfl⟩, rfl⟩, zw_266, zw_268⟩) <|
  z_fc (zp_s rfl ⟨zd_93, zw_654, zw_655⟩) <|
  z_fc (zp_s rfl ⟨zd_86, zw_277, zw_278⟩) <|
  z_fc (zp_s rfl ⟨zd_94, zw_661, zw_662⟩) <|
  z_fn
