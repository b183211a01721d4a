/-! THE PURE MACHINE, VIII: what the tables must say of a method; the contract of a method out of its pure run. -/
/-- of a callee -/
def z_okd (P : zP) (M : zM) (a b : Nat) : Prop := ((M.1 a).cls ≠ "java/lang/invoke/MethodHandle" ∧ (M.1 a).cls ≠ "java/lang/invoke/VarHandle" ∧ (parseMethodDescriptor (M.1 a).desc).map (fun d => d.parameters.length) = some b) ∧ z_head P M a ∈ M.2.2.2.1 ∧ Cond.initialized (M.1 a).cls ∈ M.2.2.2.1 ∧ P.2.1 a ≤ 16
/-- of a call with a receiver, of its own class -/
def z_okv (P : zP) (M : zM) (own : String) (i : Instr) (a b : Nat) : Prop := match i with
  | .invokevirtual idx => P.2.2.1 a = [] ∧ z_okd P M a (b % 1000) ∧ Cond.instanceMethod (M.1 a) ∈ M.2.2.2.1 ∧ P.2.2.2.1 a < 100 ∧ (∃ r : vw_C, ((P.2.2.2.1 a < 50 ∧ M.2.2.2.2.2.1[P.2.2.2.1 a]? = some r) ∨ (50 ≤ P.2.2.2.1 a ∧ M.2.2.2.2.2.2.1[P.2.2.2.1 a - 50]? = some r)) ∧ r.1 = (M.1 a).cls) ∧ Cond.methodLink own idx (M.1 a) ∈ M.2.2.2.1 ∧ Cond.selects (M.1 a).cls (M.1 a) (M.1 a) ∈ M.2.2.2.1
  | _ => False
/-- of a constructor, of an inherited method -/
def z_okn (P : zP) (M : zM) (own : String) (i : Instr) (a b : Nat) : Prop := match i with
  | .invokevirtual idx => P.2.2.1 a = [] ∧ z_okd P M a (b % 1000) ∧ Cond.instanceMethod (M.1 a) ∈ M.2.2.2.1 ∧ P.2.2.2.1 a < 100 ∧ ∃ r : vw_C, ((P.2.2.2.1 a < 50 ∧ M.2.2.2.2.2.1[P.2.2.2.1 a]? = some r) ∨ (50 ≤ P.2.2.2.1 a ∧ M.2.2.2.2.2.2.1[P.2.2.2.1 a - 50]? = some r)) ∧ ∃ x : MethodName, M.1 a = ⟨(M.1 a).cls, x.name, x.desc⟩ ∧ Cond.methodLink own idx x ∈ M.2.2.2.1 ∧ Cond.sameMethod x.cls (M.1 a).cls x.name x.desc ∈ M.2.2.2.1 ∧ Cond.selects r.1 x (M.1 a) ∈ M.2.2.2.1
  | .invokespecial idx => P.2.2.1 a = [] ∧ z_okd P M a (b % 1000) ∧ (M.1 a).name = "<init>" ∧ P.2.2.2.2.1 a = none ∧ Cond.instanceMethod (M.1 a) ∈ M.2.2.2.1 ∧ (Cond.methodLink own idx (M.1 a) ∈ M.2.2.2.1 ∨ ∃ host : String, Cond.methodLinkNest own idx (M.1 a) host ∈ M.2.2.2.2.1)
  | _ => False
def z_oks (P : zP) (M : zM) (own : String) (i : Instr) (a b : Nat) : Prop := match i with
  | .invokestatic idx => z_okd P M a (b % 1000) ∧ Cond.methodLink own idx (M.1 a) ∈ M.2.2.2.1 ∧ Cond.static (M.1 a) ∈ M.2.2.2.1
  | _ => False
/-- of a handler: it answers a constant -/
def z_okx (P : zP) (M : zM) (y : Nat) (x : zX) : Prop := x.1.2.2.2 ≠ 0 ∧ Cond.classLink (M.1 y).cls x.1.2.2.2 (M.2.2.1 x.2.1) ∈ M.2.2.2.1 ∧ Cond.castable (M.2.2.1 x.2.1) (M.2.2.1 x.2.1) ∈ M.2.2.2.2.1 ∧ P.2.2.2.2.1 y = some .int ∧
  ∃ len : Nat, ((∃ kk : Fin 4, decode (M.2.1 y) x.1.2.2.1 = .ok (.astore_n kk, 1) ∧ (kk : Nat) < P.2.1 y ∧ len = 1) ∨ (∃ k : Nat, decode (M.2.1 y) x.1.2.2.1 = .ok (.astore k, 2) ∧ k < P.2.1 y ∧ len = 2)) ∧ ∃ n : Int, decode (M.2.1 y) (x.1.2.2.1 + len) = .ok (.iconst n, 1) ∧ Int32.ofInt n = x.2.2 ∧ decode (M.2.1 y) (x.1.2.2.1 + len + 1) = .ok (.ireturn, 1)
def z_oke (T : zT) (P : zP) (M : zM) (y : Nat) (q : zE) : Prop := match q with
  | (pc, i, len, a, b) => decode (M.2.1 y) pc = .ok (i, len) ∧ (match z_kind i a b with
    | 0 => z_len i len ∧ z_tgt i pc a
    | 1 => z_okh M.2.2.2.2.2.1 M.2.2.2.2.2.2.1 M.2.2.2.2.2.2.2 M.2.2.2.2.1 T (M.1 y).cls (M.1 y).name M.2.2.2.1 i len pc a b
    | 2 => len = 3 ∧ z_okv P M (M.1 y).cls i a b
    | 7 => len = 3 ∧ z_okn P M (M.1 y).cls i a b
    | 3 => len = 3 ∧ z_oks P M (M.1 y).cls i a b
    | 4 => len = 1
    | 5 => i = .return_ ∧ len = 1
    | _ => True)
def z_okm (T : zT) (P : zP) (M : zM) (y : Nat) : Prop := (∀ q ∈ P.1 y, z_oke T P M y q) ∧ ∀ x ∈ P.2.2.1 y, z_okx P M y x
/-- of the whole: the classes, the arrays, the words; a method's name is a plain one where it has code -/
def z_okS (T : zT) (P : zP) (M : zM) (tys : List (ClassId × FieldType)) : Prop :=
  z_okc M.2.2.2.2.2.1 M.2.2.2.2.2.2.2 T M.2.2.2.1 ∧ z_tf M.2.2.2.2.2.2.2 ∧ (∀ (t : Nat) (x : ClassId × FieldType), tys[t]? = some x → M.2.2.2.2.2.2.2[t]? = some x.2) ∧ (∀ t : Nat, t < 6 → ∀ ty : FieldType, M.2.2.2.2.2.2.2[t]? = some ty → ∃ x : ClassId, tys[t]? = some (x, ty)) ∧
  (∀ w ∈ M.2.2.2.2.1, z_nwk w) ∧ (∀ w ∈ M.2.2.2.1, (w.onTables && w.keeps) = true ∨ ∃ ty, w = .arrayClass ty) ∧ ∀ y : Nat, plainName (M.1 y).cls = true ∧ z_okm T P M y
theorem z_catch_ok {nc : List (Nat × Nat)} {pc e : Nat} {w : zX} : ∀ {l : List zX}, z_catch nc l pc e = some w → ∃ pre suf : List zX, l = pre ++ w :: suf ∧ (∀ z ∈ pre, ¬ (z.1.1 ≤ pc ∧ pc < z.1.2.1) ∨ (e, z.2.1) ∈ nc) ∧ (w.1.1 ≤ pc ∧ pc < w.1.2.1) ∧ w.2.1 = e := by
  intro l
  induction l with
  | nil => intro h; cases h
  | cons x l ih =>
    intro h
    rw [z_catch] at h
    split at h
    · rename_i h1
      split at h
      · rename_i h2
        cases h
        exact ⟨[], l, rfl, fun z hz => (by cases hz), h1, h2⟩
      · split at h
        · rename_i h3
          obtain ⟨pre, suf, e1, e2, e3, e4⟩ := ih h
          exact ⟨x :: pre, suf, by rw [e1]; rfl, fun z hz => by
            rcases List.mem_cons.mp hz with rfl | hz
            · exact Or.inr h3
            · exact e2 z hz, e3, e4⟩
        · cases h
    · rename_i h1
      obtain ⟨pre, suf, e1, e2, e3, e4⟩ := ih h
      exact ⟨x :: pre, suf, by rw [e1]; rfl, fun z hz => by
        rcases List.mem_cons.mp hz with rfl | hz
        · exact Or.inl h1
        · exact e2 z hz, e3, e4⟩
/-- a pure run of f steps is a run of the machine -/
def z_S (T : zT) (P : zP) (M : zM) (D : va_G) (tys : List (ClassId × FieldType)) (A : Nat → Prop) (ad0 : Nat → Option Nat) (l : Launch) (f : Nat) : Prop :=
  ∀ (d y pc : Nat) (lv : List (Nat × Value)) (st : List Value) (h : zH) (cs ss : Nat) (o : Option Value ⊕ Nat) (h2 : zH) (c2 s2 : Nat), z_run T P f d y pc lv st h cs ss = some (o, h2, c2, s2) → (∃ v0, o = .inl v0) →
  ∀ (p : Program) (e : Env) (R : Room) (s : State) (m : MethodId) (args : Array Value) (below : List Frame) (meth : Method) (c : Code) (H : Heap) (locs : List Loc) (ls : Array Slot) (ad ad1 : Nat → Option Nat) (n0 : Nat) (Q : State → Prop),
  p.tables.exec = Jvm.exec → c.code = M.2.1 y → c.maxLocals = P.2.1 y → s.vm.findClass (M.1 y).cls = some m.cls → (∀ w ∈ M.2.2.2.1, w.before args s = true) → ((M.1 y).name = "<init>" → meth.name = "<init>") → (P.2.2.1 y ≠ [] → c.exceptionTable.toList = tableOf ((P.2.2.1 y).map (·.1))) →
  z_fx T P M D tys A ad0 s → (d + 1 ≤ R.frames ∧ 35 * d + 20 ≤ R.locals) → c2 ≤ R.cells → s2 ≤ R.slots → z_ext ad0 ad 0 → z_ext ad1 ad n0 → n0 ≤ h.length → z_wd D M.2.2.2.2.2.1 tys A ad h H → va_S A s.heap H locs → z_hv h → (∀ q ∈ lv, z_vk h.length q.2) → (∀ v ∈ st, z_vk h.length v) → lv_has ls (P.2.1 y) (z_lvm ad lv) →
  (∀ (pc' : Nat) (i : Instr) (v : Option Value) (ls' : Array Slot) (H' : Heap) (locs' : List Loc) (ad' : Nat → Option Nat), decode (M.2.1 y) pc' = .ok (i, 1) → o = .inl v → (match v with | some w => z_rok i (P.2.2.2.2.1 y) w = true | none => i = .return_ ∧ P.2.2.2.2.1 y = none) → z_ext ad1 ad' n0 → z_wd D M.2.2.2.2.2.1 tys A ad' h2 H' → va_S A s.heap H' locs' → z_hv h2 → n0 ≤ h2.length → (∀ w : Value, v = some w → z_vk h2.length w) → W p l e R s m args below meth c H' locs' c2 s2 Q (F0 m pc' ls' (v.toList.map (z_cv ad')))) →
  W p l e R s m args below meth c H locs cs ss Q (F0 m pc ls (st.map (z_cv ad)))
/-- the contract of a method, of a pure run of f steps -/
def z_C (T : zT) (P : zP) (M : zM) (D : va_G) (tys : List (ClassId × FieldType)) (A : Nat → Prop) (ad0 : Nat → Option Nat) (l : Launch) (f : Nat) : Prop :=
  ∀ (d y : Nat) (as : List Value) (h : zH) (o : Option Value ⊕ Nat) (h2 : zH) (mc ms : Nat), z_run T P f d y 0 (lv_args 0 as) [] h 0 0 = some (o, h2, mc, ms) → (∃ v0, o = .inl v0) → z_cs as ≤ P.2.1 y → ∀ ad : Nat → Option Nat, z_ext ad0 ad 0 → z_hv h → (∀ v ∈ as, z_vk h.length v) →
  vx_Met l (M.1 y) (z_head P M y :: M.2.2.2.1) (z_rm d mc ms) (va_Pc (as.map (z_cv ad)) (fun U => z_fx T P M D tys A ad0 U ∧ z_wd D M.2.2.2.2.2.1 tys A ad h U.heap)) (z_Q M D tys A ad h.length o h2) (z_X M D tys A ad h.length o h2) mc ms A
theorem z_rfc (ad : Nat → Option Nat) (k : Nat) : z_cv ad (.ref k) = .null ∨ ∃ a, z_cv ad (.ref k) = .ref a := by
  show va_rf (ad k) = .null ∨ ∃ a, va_rf (ad k) = .ref a
  cases ad k with
  | none => exact Or.inl rfl
  | some a => exact Or.inr ⟨a, rfl⟩
section ZC
variable {T : zT} {P : zP} {M : zM} {D : va_G} {tys : List (ClassId × FieldType)} {A : Nat → Prop} {ad0 : Nat → Option Nat} {l : Launch} {f : Nat}
set_option maxHeartbeats 4000000 in
/-- the body of a method: its ends -/
theorem z_body (hS : z_S T P M D tys A ad0 l f) (hok : z_okS T P M tys) (hl0 : l.stackTraces = false) {d y : Nat} {as : List Value} {h h2 : zH} {o : Option Value ⊕ Nat} {mc ms : Nat} (hr : z_run T P f d y 0 (lv_args 0 as) [] h 0 0 = some (o, h2, mc, ms)) (hno : ∃ v0, o = .inl v0) (hcs : z_cs as ≤ P.2.1 y) {ad : Nat → Option Nat} (hx0 : z_ext ad0 ad 0) (hv : z_hv h) (has : ∀ v ∈ as, z_vk h.length v)
    {p : Program} {e : Env} {s : State} {m : MethodId} {below : List Frame} {meth : Method} {c : Code} (hx : p.tables.exec = Jvm.exec) (hb : c.code = M.2.1 y) (hml : c.maxLocals = P.2.1 y) (hown : s.vm.findClass (M.1 y).cls = some m.cls) (hts : ∀ w ∈ M.2.2.2.1, w.before (as.map (z_cv ad)).toArray s = true) (hnm : meth.name = (M.1 y).name) (hrt : meth.sig.returnType = P.2.2.2.2.1 y) (hlocks : meth.locks = false) (htab : c.exceptionTable.toList = tableOf ((P.2.2.1 y).map (·.1))) (hfx : z_fx T P M D tys A ad0 s) (hw : z_wd D M.2.2.2.2.2.1 tys A ad h s.heap) :
    W p l e (z_rm d mc ms) s m (as.map (z_cv ad)).toArray below meth c s.heap [] 0 0 (vx_MQ below (z_Q M D tys A ad h.length o h2) (z_X M D tys A ad h.length o h2) (as.map (z_cv ad)).toArray s mc ms A) (entryFrame m (as.map (z_cv ad)).toArray (P.2.1 y)) := by
  have hlen : (lg_sl (as.map (z_cv ad))).length ≤ P.2.1 y := by rw [z_sl_len, z_cs_m]; exact hcs
  have hl := lv_entry (as.map (z_cv ad)) (n := P.2.1 y) hlen
  rw [lg_entry_eq]
  rw [z_args_m] at hl
  generalize (lg_sl (as.map (z_cv ad)) ++ List.replicate (P.2.1 y - (lg_sl (as.map (z_cv ad))).length) Slot.unset).toArray = ls at hl ⊢
  have htab0 : P.2.2.1 y = [] → ∀ pc : Nat, ∀ x ∈ c.exceptionTable.toList, covers x pc = false := fun h0 pc x hx' => by
    rw [htab, h0] at hx'
    cases hx'
  refine hS d y 0 (lv_args 0 as) [] h 0 0 o h2 mc ms hr hno p e (z_rm d mc ms) s m (as.map (z_cv ad)).toArray below meth c s.heap [] ls ad ad h.length _ hx hb hml hown hts (fun z => hnm.trans z) (fun _ => htab) hfx ⟨Nat.le_refl _, Nat.le_refl _⟩ (Nat.le_refl _) (Nat.le_refl _) hx0 z_ext.rf (Nat.le_refl _) hw va_S.rf hv (fun q hq => has _ (z_args_in as 0 q hq)) (fun v hv' => by cases hv') hl ?_
  · intro pc' i v ls' H' locs' ad' hd ho hro hxt hw' hS' hv2 hn2 hvv
    have hq : ∀ t : State, t.heap = H' → z_Q M D tys A ad h.length o h2 (as.map (z_cv ad)).toArray s (.returned (v.map (z_cv ad'))) t := fun t ht => ⟨⟨v, ad', ho, rfl, hxt, by rw [ht]; exact hw', hv2, hn2, hvv⟩, hS'.F ht⟩
    cases v with
    | none =>
      obtain ⟨rfl, hr0⟩ := hro
      exact vx_ret (W.vret hx hb (hrt.trans hr0) (fun t ht _ => hq t ht) hS'.2.2 hd)
    | some w =>
      replace hro : z_rok i (P.2.2.2.2.1 y) w = true := hro
      unfold z_rok at hro
      split at hro
      · rename_i g
        exact vx_ret (W.iret hx hb (hrt.trans g) (fun t ht _ => hq t ht) hS'.2.2 hd)
      · rename_i x g
        refine vx_ret (W.zret hx hb (hrt.trans g) ?_ (fun t ht _ => hq t ht) hS'.2.2 hd)
        simp only [Bool.or_eq_true, decide_eq_true_eq] at hro
        rcases hro with rfl | rfl
        · exact (by decide : (Value.int ((0 : Int32) &&& 1)) = .int 0)
        · exact (by decide : (Value.int ((1 : Int32) &&& 1)) = .int 1)
      · rename_i x g
        exact vx_ret (W.zret hx hb (hrt.trans g) (congrArg Value.int (of_decide_eq_true hro)) (fun t ht _ => hq t ht) hS'.2.2 hd)
      · rename_i x g
        exact vx_ret (W.zret hx hb (hrt.trans g) (congrArg Value.int (of_decide_eq_true hro)) (fun t ht _ => hq t ht) hS'.2.2 hd)
      · rename_i g
        exact vx_ret (W.lret hx hb (hrt.trans g) (fun t ht _ => hq t ht) hS'.2.2 hd)
      · rename_i g
        exact vx_ret (W.fret hx hb (hrt.trans g) (fun t ht _ => hq t ht) hS'.2.2 hd)
      · rename_i g
        exact vx_ret (W.dret hx hb (hrt.trans g) (fun t ht _ => hq t ht) hS'.2.2 hd)
      · rename_i g
        exact vx_ret (W.aret hx hb (hrt.trans g) (Or.inl ⟨_, rfl⟩) (z_rfc ad' _) (fun t ht _ => hq t ht) hS'.2.2 hd)
      · rename_i g
        exact vx_ret (W.aret hx hb (hrt.trans g) (Or.inl ⟨_, rfl⟩) (Or.inl rfl) (fun t ht _ => hq t ht) hS'.2.2 hd)
      · rename_i g
        exact vx_ret (W.aret hx hb (hrt.trans g) (Or.inr ⟨_, rfl⟩) (z_rfc ad' _) (fun t ht _ => hq t ht) hS'.2.2 hd)
      · cases hro
theorem z_con (hS : z_S T P M D tys A ad0 l f) (hok : z_okS T P M tys) (hl0 : l.stackTraces = false) : z_C T P M D tys A ad0 l f := by
  intro d y as h o h2 mc ms hr hno hcs ad hx0 hv has
  have hpn : plainName (M.1 y).cls = true := (hok.2.2.2.2.2.2 y).1
  cases hex : P.2.2.1 y with
  | nil =>
    have hh : z_head P M y = .code (M.1 y) (M.2.1 y) (P.2.1 y) (P.2.2.2.2.1 y) := by unfold z_head; rw [hex]
    rw [hh]
    refine vx_ofW (cc := M.2.1 y) (maxL := P.2.1 y) (ret := P.2.2.2.2.1 y) hpn rfl ?_
    intro p e s m args below meth c s₁ B hml htab hP
    obtain ⟨rfl, hfx, hw⟩ := hP
    have hts := atoms_spec (ws := Cond.code (M.1 y) (M.2.1 y) (P.2.1 y) (P.2.2.2.2.1 y) :: M.2.2.2.1) B.pre
    refine z_body hS hok hl0 hr hno hcs hx0 hv has B.exec B.bytes hml (findClass_of_methodNamed B.named) (fun w hw' => hts w (List.mem_cons_of_mem _ hw')) (name_of_methodNamed B.named B.method).1 B.returns B.notSynchronized ?_ hfx hw
    rw [hex]
    exact List.eq_nil_iff_forall_not_mem.mpr htab
  | cons x0 l0 =>
    have hh : z_head P M y = .codeWith (M.1 y) (M.2.1 y) (P.2.1 y) (P.2.2.2.2.1 y) ((x0 :: l0).map (fun q : zX => q.1)) := by unfold z_head; rw [hex]
    rw [hh]
    refine vx_ofWH (cc := M.2.1 y) (maxL := P.2.1 y) (ret := P.2.2.2.2.1 y) (hh := (x0 :: l0).map (·.1)) hpn rfl ?_
    intro p e s m args below meth c s₁ B hml hP
    obtain ⟨rfl, hfx, hw⟩ := hP
    have hts := atoms_spec (ws := Cond.codeWith (M.1 y) (M.2.1 y) (P.2.1 y) (P.2.2.2.2.1 y) ((x0 :: l0).map (fun q : zX => q.1)) :: M.2.2.2.1) B.pre
    refine z_body hS hok hl0 hr hno hcs hx0 hv has B.exec B.bytes hml (findClass_of_methodNamed B.named) (fun w hw' => hts w (List.mem_cons_of_mem _ hw')) (name_of_methodNamed B.named B.method).1 B.returns B.notSynchronized ?_ hfx hw
    rw [hex]
    exact vx_table (x := M.1 y) B (hts _ List.mem_cons_self)
end ZC
