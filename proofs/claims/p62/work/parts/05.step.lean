/-! THE PURE MACHINE, IV: what makes cells, constants, tests of references; the whole of what one instruction does to the heap. -/
section ZN
variable {p : Program} {l : Launch} {e : Env} {R : Room} {s : State} {m : MethodId} {args : Array Value} {below : List Frame} {meth : Method} {c : Code} {H H0 : Heap} {locs : List Loc} {cells slots : Nat} {Q : State → Prop}
variable {cc : ByteArray} {pc : Nat} {ls : Array Slot} {rest : List Value}
variable {D : va_G} {cl scl : List vw_C} {tys : List (ClassId × FieldType)} {tf : List FieldType} {S : List zC} {sf : List zF} {ss : List zS} {nw : List Cond} {A : Nat → Prop} {ad ad0 : Nat → Option Nat} {h : zH}
theorem z_new {own : String} {Ts : List Cond} (hts : ∀ w ∈ Ts, w.before args s = true) (hown : s.vm.findClass own = some m.cls) (hx : p.tables.exec = Jvm.exec) (hb : c.code = cc) (hK : va_K D cl tys s) (hw : z_wd D cl tys A ad h H) (hS : va_S A H0 H locs) (hA : ∀ q, H0.size ≤ q → A q) (hv : z_hv h) {a N idx : Nat} {C : String} {T : u_T} {ty0 : Nat → FieldType} {fs : List Value} (h50 : a < 50) (hc : cl[a]? = some (C, T, N)) (hin : ∀ w ∈ u_ws C T N, w ∈ Ts) (hty : ∀ k, k < N → parseFieldDescriptor (T k).2.2.1 = some (ty0 k)) (hfs : ∀ j, j < N → defaultValue (ty0 j) = vp_V fs j) (hnr : ∀ v ∈ fs, ∀ f, z_cv f v = v) (h1 : Cond.classLink own idx C ∈ Ts) (h2 : Cond.instantiable C N ∈ Ts) (h3 : Cond.initialized C ∈ Ts) (hn : h.length < 1000000) (hcells : cells + 1 ≤ R.cells) (hslots : slots + N ≤ R.slots) (hd : decode cc pc = .ok (.new idx, 3))
    (k : ∀ (ad2 : Nat → Option Nat) (H1 : Heap), z_ext ad ad2 h.length → z_wd D cl tys A ad2 (h ++ [(a, fs)]) H1 → va_S A H0 H1 locs → W p l e R s m args below meth c H1 locs (cells + 1) (slots + N) Q (F0 m (pc + 3) ls (va_rf (ad2 h.length) :: rest))) : W p l e R s m args below meth c H locs cells slots Q (F0 m pc ls rest) := by
  obtain ⟨ws, hP, hD, hr⟩ := hw
  refine va_new hx hb hts hin ty0 hty hown (hts _ h1) (hts _ h2) (hts _ h3) hK hP hD hS hA hc hfs hcells hslots hd (fun q H1 hP1 hD1 hS1 => ?_)
  have e1 : va_rf (z_ad1 ad h.length q h.length) = .ref q := by unfold z_ad1; rw [if_pos rfl]; rfl
  have k1 := k (z_ad1 ad h.length q) H1 (z_ad1_ext hn) ⟨_, hP1, hD1, z_rp_push hr hn hv (Or.inl ⟨h50, by
    dsimp only
    rw [show fs.map (z_cv (z_ad1 ad h.length q)) = fs from (List.map_congr_left (fun v hv' => hnr v hv' _)).trans (List.map_id fs)]⟩)⟩ hS1
  rw [e1] at k1
  exact k1
theorem z_K2 {x : ClassId × FieldType} (hK : va_K D cl (tys ++ [x]) s) : va_RA s x.1 x.2 := (hK.2 tys.length x (by simp)).2

theorem z_newa_int {Ts : List Cond} (hts : ∀ w ∈ Ts, w.before args s = true) (hx : p.tables.exec = Jvm.exec) (hb : c.code = cc) (hK : va_K D cl tys s) (hw : z_wd D cl tys A ad h H) (hS : va_S A H0 H locs) (hA : ∀ q, H0.size ≤ q → A q) (hv : z_hv h) {n : Int32} (h1 : Cond.arrayClass .int ∈ Ts) {x : ClassId} (hx2 : tys[0]? = some (x, .int)) (h0 : ¬ n < 0) (hbytes : n.toNatClampNeg * 8 ≤ 536870912) (hn : h.length < 1000000) (hcells : cells + 1 ≤ R.cells) (hslots : slots + n.toNatClampNeg ≤ R.slots) (hd : decode cc pc = .ok (.newarray .int, 2))
    (k : ∀ (ad2 : Nat → Option Nat) (H1 : Heap), z_ext ad ad2 h.length → z_wd D cl tys A ad2 (h ++ [(100, List.replicate n.toNatClampNeg (.int 0))]) H1 → va_S A H0 H1 locs → W p l e R s m args below meth c H1 locs (cells + 1) (slots + n.toNatClampNeg) Q (F0 m (pc + 2) ls (va_rf (ad2 h.length) :: rest))) : W p l e R s m args below meth c H locs cells slots Q (F0 m pc ls (.int n :: rest)) := by
  obtain ⟨ws, hP, hD, hr⟩ := hw
  refine va_newa (atype := .int) (ty := .int) (a0 := (n.toNatClampNeg, .inl (fun _ => 0))) hx hb (hts _ h1) rfl hK hP hD hS hA (fun _ => rfl) h0 rfl (by show n.toNatClampNeg * 4 ≤ 536870912; omega) hcells hslots hd (fun q cA H1 hK1 hP1 hD1 hS1 => ?_)
  have e1 : va_rf (z_ad1 ad h.length q h.length) = .ref q := by unfold z_ad1; rw [if_pos rfl]; rfl
  have e2 : cA = x := z_sameA (z_K2 hK1) (hK.2 0 _ hx2).2
  subst e2
  have k1 := k (z_ad1 ad h.length q) H1 (z_ad1_ext hn) ⟨_, hP1, hD1, z_rp_push hr hn hv (Or.inr ⟨Nat.le_of_ble_eq_true rfl, cA, .int, _, hx2, rfl, List.replicate n.toNatClampNeg (0 : Int32), by dsimp only; rw [List.map_replicate], by
    rw [List.length_replicate]
    have e9 : (fun j => (List.replicate n.toNatClampNeg (0 : Int32)).getD j 0) = fun _ => 0 := by
      funext j
      by_cases hj : j < n.toNatClampNeg <;> simp [List.getD_eq_getElem?_getD, List.getElem?_replicate, hj]
    rw [e9]⟩)⟩ hS1
  rw [e1] at k1
  exact k1
theorem z_newa_byte {Ts : List Cond} (hts : ∀ w ∈ Ts, w.before args s = true) (hx : p.tables.exec = Jvm.exec) (hb : c.code = cc) (hK : va_K D cl tys s) (hw : z_wd D cl tys A ad h H) (hS : va_S A H0 H locs) (hA : ∀ q, H0.size ≤ q → A q) (hv : z_hv h) {n : Int32} (h1 : Cond.arrayClass .byte ∈ Ts) {x : ClassId} (hx2 : tys[1]? = some (x, .byte)) (h0 : ¬ n < 0) (hbytes : n.toNatClampNeg * 8 ≤ 536870912) (hn : h.length < 1000000) (hcells : cells + 1 ≤ R.cells) (hslots : slots + n.toNatClampNeg ≤ R.slots) (hd : decode cc pc = .ok (.newarray .byte, 2))
    (k : ∀ (ad2 : Nat → Option Nat) (H1 : Heap), z_ext ad ad2 h.length → z_wd D cl tys A ad2 (h ++ [(101, List.replicate n.toNatClampNeg (.int 0))]) H1 → va_S A H0 H1 locs → W p l e R s m args below meth c H1 locs (cells + 1) (slots + n.toNatClampNeg) Q (F0 m (pc + 2) ls (va_rf (ad2 h.length) :: rest))) : W p l e R s m args below meth c H locs cells slots Q (F0 m pc ls (.int n :: rest)) := by
  obtain ⟨ws, hP, hD, hr⟩ := hw
  refine va_newa (atype := .byte) (ty := .byte) (a0 := (n.toNatClampNeg, .inl (fun _ => 0))) hx hb (hts _ h1) rfl hK hP hD hS hA (fun _ => rfl) h0 rfl (by show n.toNatClampNeg * 1 ≤ 536870912; omega) hcells hslots hd (fun q cA H1 hK1 hP1 hD1 hS1 => ?_)
  have e1 : va_rf (z_ad1 ad h.length q h.length) = .ref q := by unfold z_ad1; rw [if_pos rfl]; rfl
  have e2 : cA = x := z_sameA (z_K2 hK1) (hK.2 1 _ hx2).2
  subst e2
  have k1 := k (z_ad1 ad h.length q) H1 (z_ad1_ext hn) ⟨_, hP1, hD1, z_rp_push hr hn hv (Or.inr ⟨Nat.le_of_ble_eq_true rfl, cA, .byte, _, hx2, rfl, List.replicate n.toNatClampNeg (0 : Int32), by dsimp only; rw [List.map_replicate], by
    rw [List.length_replicate]
    have e9 : (fun j => (List.replicate n.toNatClampNeg (0 : Int32)).getD j 0) = fun _ => 0 := by
      funext j
      by_cases hj : j < n.toNatClampNeg <;> simp [List.getD_eq_getElem?_getD, List.getElem?_replicate, hj]
    rw [e9]⟩)⟩ hS1
  rw [e1] at k1
  exact k1
theorem z_newq {own : String} {Ts : List Cond} (hts : ∀ w ∈ Ts, w.before args s = true) (hown : s.vm.findClass own = some m.cls) (hx : p.tables.exec = Jvm.exec) (hb : c.code = cc) (hK : va_K D cl tys s) (hw : z_wd D cl tys A ad h H) (hS : va_S A H0 H locs) (hA : ∀ q, H0.size ≤ q → A q) (hv : z_hv h) {n : Int32} {C : String} {idx a : Nat} (h1 : Cond.classLink own idx C ∈ Ts) (hAO : va_AO C s) {x : ClassId} (ha : 100 ≤ a) (hx2 : tys[a - 100]? = some (x, .object C)) (h0 : ¬ n < 0) (hbytes : n.toNatClampNeg * 8 ≤ 536870912) (hn : h.length < 1000000) (hcells : cells + 1 ≤ R.cells) (hslots : slots + n.toNatClampNeg ≤ R.slots) (hd : decode cc pc = .ok (.anewarray idx, 3))
    (k : ∀ (ad2 : Nat → Option Nat) (H1 : Heap), z_ext ad ad2 h.length → z_wd D cl tys A ad2 (h ++ [(a, List.replicate n.toNatClampNeg .null)]) H1 → va_S A H0 H1 locs → W p l e R s m args below meth c H1 locs (cells + 1) (slots + n.toNatClampNeg) Q (F0 m (pc + 3) ls (va_rf (ad2 h.length) :: rest))) : W p l e R s m args below meth c H locs cells slots Q (F0 m pc ls (.int n :: rest)) := by
  obtain ⟨ws, hP, hD, hr⟩ := hw
  refine va_newq hx hb hown (hts _ h1) hAO hK hP hD hS hA h0 rfl (by omega) hcells hslots hd (fun q cA H1 hK1 hP1 hD1 hS1 => ?_)
  have e1 : va_rf (z_ad1 ad h.length q h.length) = .ref q := by unfold z_ad1; rw [if_pos rfl]; rfl
  have e2 : cA = x := z_sameA (z_K2 hK1) (hK.2 _ _ hx2).2
  subst e2
  have k1 := k (z_ad1 ad h.length q) H1 (z_ad1_ext hn) ⟨_, hP1, hD1, z_rp_push hr hn hv (Or.inr ⟨ha, cA, .object C, _, hx2, rfl, List.replicate n.toNatClampNeg none, by dsimp only; rw [List.map_replicate]; rfl, by
    rw [List.length_replicate]
    have e9 : (fun j => ((List.replicate n.toNatClampNeg (none : Option Nat)).getD j none).bind (z_ad1 ad h.length q)) = fun _ => none := by
      funext j
      by_cases hj : j < n.toNatClampNeg <;> simp [List.getD_eq_getElem?_getD, List.getElem?_replicate, hj]
    rw [e9]⟩)⟩ hS1
  rw [e1] at k1
  exact k1
/-- a known cell has an address -/
theorem z_hg_ad (hst : z_stat scl tf S sf ss nw A ad0 s) (hx0 : z_ext ad0 ad 0) (hw : z_wd D cl tys A ad h H) {q : Nat} {c : zC} (e : z_hg S h q = some c) : ∃ a : Nat, ad q = some a := by
  rcases z_hg_cases e with ⟨hq, e1⟩ | ⟨hq, e1⟩
  · obtain ⟨ws, hP, hD, hr⟩ := hw
    obtain ⟨a, _, h1, -⟩ := hr.2 q _ e1
    exact ⟨a, h1⟩
  · obtain ⟨-, t, h1, -⟩ := hst.1 _ _ e1
    rw [show 1000000 + (q - 1000000) = q by omega] at h1
    exact ⟨t, (hx0 q (Or.inr hq)).trans h1⟩
/-- an object that a method is called of -/
theorem z_recv (hK : va_K D cl tys s) (hst : z_stat scl tf S sf ss nw A ad0 s) (hx0 : z_ext ad0 ad 0) (hw : z_wd D cl tys A ad h H) (hS : va_S A s.heap H locs) {q a : Nat} {vs : List Value} {r : vw_C} (e : z_hg S h q = some (a, vs)) (h100 : a < 100) (hc : (a < 50 ∧ cl[a]? = some r) ∨ (50 ≤ a ∧ scl[a - 50]? = some r)) : ∃ b : Nat, ad q = some b ∧ ∃ cell : Cell, H[b]? = some cell ∧ cell.vm.isStatics = false ∧ s.vm.findClass r.1 = some cell.cls := by
  rcases z_hg_cases e with ⟨hq, e1⟩ | ⟨hq, e1⟩
  · obtain ⟨ws, hP, hD, hr⟩ := hw
    obtain ⟨b, e2, h1, h2, h3⟩ := hr.2 q _ e1
    rcases h3 with ⟨h4, h5⟩ | ⟨h4, -⟩
    · dsimp only at h4 h5
      subst h5
      rcases hc with ⟨-, hc⟩ | ⟨hc, -⟩
      · exact ⟨b, h1, va_recv hK hP hc h2⟩
      · omega
    · dsimp only at h4; omega
  · obtain ⟨-, t, h1, h2⟩ := hst.1 _ _ e1
    rw [show 1000000 + (q - 1000000) = q by omega] at h1
    rcases h2 with ⟨h3, -⟩ | ⟨-, r', h4, h5, h6, -⟩
    · dsimp only at h3; omega
    · dsimp only at h4 h5
      rcases hc with ⟨hc, -⟩ | ⟨-, hc⟩
      · omega
      · have e3 : r' = r := Option.some.inj (h4.symm.trans hc)
        subst e3
        obtain ⟨cell, g1, g2, g3, -⟩ := h6.kept hS.2.1
        exact ⟨t, (hx0 q (Or.inr hq)).trans h1, cell, g1, g2, g3⟩
theorem z_ldcSW {own tx : String} {index q : Nat} (hx : p.tables.exec = Jvm.exec) (hb : c.code = cc) (hown : s.vm.findClass own = some m.cls) (hZ : vk_R own index tx q s) (hdg : decode cc pc = .ok (.ldc_w index, 3))
    (k : W p l e R s m args below meth c H locs cells slots Q (F0 m (pc + 3) ls (.ref q :: rest))) : W p l e R s m args below meth c H locs cells slots Q (F0 m pc ls rest) := by
  intro T hT X
  obtain ⟨t, a1, b1⟩ := k T hT X
  exact ⟨t, X.ldcStringW hx hown (text := tx) (a := q) hZ.1 hZ.2 (g := F0 m pc ls rest) rfl (by rw [hb]; exact hdg) t a1, b1⟩
end ZN
abbrev zHR : Type := Nat × List Value × zH × Nat × Nat
/-- the tables that the pure machine reads: cells that nobody writes, static fields, string constants, number constants, the fields' types, a new object's fields, the class that an array's elements have -/
abbrev zT : Type := List zC × List zF × List zS × List Value × (Nat → Nat → FieldType) × (Nat → List Value) × (Nat → Nat)
def z_ald (T : zT) (t0 pc : Nat) (st : List Value) (h : zH) : Option zHR := match st with
  | .int i :: .ref q :: r => (match z_hg T.1 h q with
    | some (t, vs) => if t = t0 ∧ ¬ i < 0 then (match vs[i.toNatClampNeg]? with | some v => some (pc + 1, v :: r, h, 0, 0) | none => none) else none
    | none => none)
  | _ => none
def z_mk (pc a N : Nat) (fs : List Value) (r : List Value) (h : zH) : Option zHR := if h.length < 1000000 then some (pc, .ref h.length :: r, h ++ [(a, fs)], 1, N) else none
def z_cs (st : List Value) : Nat := (st.map fun v => v.category).sum
def z_hp (T : zT) (i : Instr) (pc a b : Nat) (st : List Value) (h : zH) : Option zHR := match i with
  | .getfield _ => (match st with
    | .ref q :: r => (match z_hg T.1 h q with | some (t, vs) => if t = a then (match vs[b]? with | some v => some (pc + 3, v :: r, h, 0, 0) | none => none) else none | none => none)
    | _ => none)
  | .putfield _ => (match st with
    | v :: .ref q :: r => (match h[q]? with | some (t, vs) => if t = a ∧ b < vs.length ∧ z_fit (T.2.2.2.2.1 a b) v = true then some (pc + 3, r, h.set q (t, vs.set b v), 0, 0) else none | none => none)
    | _ => none)
  | .getstatic _ => (match T.2.1[b]? with | some f => some (pc + 3, f.2.2.2 :: st, h, 0, 0) | none => none)
  | .ldc _ => (match a with
    | 0 => (match T.2.2.2.1[b]? with | some v => some (pc + 2, v :: st, h, 0, 0) | none => none)
    | _ => (match T.2.2.1[b]? with | some f => some (pc + 2, .ref f.2.2.2 :: st, h, 0, 0) | none => none))
  | .ldc_w _ => (match T.2.2.1[b]? with | some f => some (pc + 3, .ref f.2.2.2 :: st, h, 0, 0) | none => none)
  | .ldc2_w _ => (match T.2.2.2.1[b]? with | some v => some (pc + 3, v :: st, h, 0, 0) | none => none)
  | .arraylength => (match st with
    | .ref q :: r => (match z_hg T.1 h q with | some (t, vs) => if 100 ≤ t then some (pc + 1, .int (Int32.ofNat vs.length) :: r, h, 0, 0) else none | none => none)
    | _ => none)
  | .iaload => z_ald T 100 pc st h
  | .baload => z_ald T 101 pc st h
  | .aaload => (match st with
    | .int i :: .ref q :: r => (match z_hg T.1 h q with
      | some (t, vs) => if 104 ≤ t ∧ ¬ i < 0 then (match vs[i.toNatClampNeg]? with | some v => some (pc + 1, v :: r, h, 0, 0) | none => none) else none
      | none => none)
    | _ => none)
  | .iastore => (match st with
    | .int x :: .int i :: .ref q :: r => (match h[q]? with | some (t, vs) => if t = 100 ∧ ¬ i < 0 ∧ i.toNatClampNeg < vs.length then some (pc + 1, r, h.set q (t, vs.set i.toNatClampNeg (.int x)), 0, 0) else none | none => none)
    | _ => none)
  | .bastore => (match st with
    | .int x :: .int i :: .ref q :: r => (match h[q]? with | some (t, vs) => if t = 101 ∧ ¬ i < 0 ∧ i.toNatClampNeg < vs.length then some (pc + 1, r, h.set q (t, vs.set i.toNatClampNeg (.int (vp_nar .byte x))), 0, 0) else none | none => none)
    | _ => none)
  | .aastore => (match st with
    | .null :: .int i :: .ref q :: r => (match h[q]? with | some (t, vs) => if 104 ≤ t ∧ ¬ i < 0 ∧ i.toNatClampNeg < vs.length then some (pc + 1, r, h.set q (t, vs.set i.toNatClampNeg .null), 0, 0) else none | none => none)
    | .ref w :: .int i :: .ref q :: r => (match h[q]?, h[w]? with | some (t, vs), some (tw, _) => if (104 ≤ t ∧ t < 106) ∧ ¬ i < 0 ∧ i.toNatClampNeg < vs.length ∧ tw = T.2.2.2.2.2.2 t then some (pc + 1, r, h.set q (t, vs.set i.toNatClampNeg (.ref w)), 0, 0) else none | _, _ => none)
    | _ => none)
  | .new _ => z_mk (pc + 3) a b (T.2.2.2.2.2.1 a) st h
  | .newarray t => (match st with
    | .int n :: r => if ¬ n < 0 ∧ n.toNatClampNeg * 8 ≤ 536870912 then (match t with
      | .int => z_mk (pc + 2) 100 n.toNatClampNeg (List.replicate n.toNatClampNeg (.int 0)) r h
      | .byte => z_mk (pc + 2) 101 n.toNatClampNeg (List.replicate n.toNatClampNeg (.int 0)) r h
      | _ => none) else none
    | _ => none)
  | .anewarray _ => (match st with
    | .int n :: r => if ¬ n < 0 ∧ n.toNatClampNeg * 8 ≤ 536870912 then z_mk (pc + 3) a n.toNatClampNeg (List.replicate n.toNatClampNeg .null) r h else none
    | _ => none)
  | .invokespecial _ => (match st with
    | .ref q :: r => (match z_hg T.1 h q with | some _ => if z_cs r ≤ 8 then some (pc + 3, r, h, 0, 0) else none | none => none)
    | _ => none)
  | .invokestatic _ => (match st with
    | .int y :: .int x :: r => if z_cs r ≤ 7 then some (pc + 3, .int (cond (Nat.beq a 9998) (if x < y then y else x) (if y < x then y else x)) :: r, h, 0, 0) else none
    | _ => none)
  | .ifnull _ => (match st with
    | .null :: r => some (a, r, h, 0, 0)
    | .ref q :: r => (match z_hg T.1 h q with | some _ => some (pc + 3, r, h, 0, 0) | none => none)
    | _ => none)
  | .ifnonnull _ => (match st with
    | .null :: r => some (pc + 3, r, h, 0, 0)
    | .ref q :: r => (match z_hg T.1 h q with | some _ => some (a, r, h, 0, 0) | none => none)
    | _ => none)
  | .if_acmp c0 _ => (match c0 with
    | .ne => (match st with
      | .ref y :: .ref x :: r => if 1000000 ≤ x ∧ x < 1000000 ∧ 1000000 ≤ y ∧ y < 1000000 then (if x = y then some (pc + 3, r, h, 0, 0) else some (a, r, h, 0, 0)) else none
      | _ => none)
    | _ => none)
  | _ => none
/-- what the tables must say of an instruction -/
def z_okh (cl scl : List vw_C) (tf : List FieldType) (nw : List Cond) (T : zT) (own nm : String) (Ts : List Cond) (i : Instr) (len pc a b : Nat) : Prop := match i with
  | .getfield idx => len = 3 ∧ a < 100 ∧ ∃ (C : String) (F : u_T) (N : Nat), ((a < 50 ∧ cl[a]? = some (C, F, N)) ∨ (50 ≤ a ∧ scl[a - 50]? = some (C, F, N))) ∧ b < N ∧ Cond.fieldLink own idx (F b).1 (F b).2.1 (F b).2.2.1 ∈ Ts
  | .putfield idx => len = 3 ∧ a < 50 ∧ ∃ (C : String) (F : u_T) (N : Nat), cl[a]? = some (C, F, N) ∧ b < N ∧ Cond.fieldLink own idx (F b).1 (F b).2.1 (F b).2.2.1 ∈ Ts ∧ ((F b).2.2.2 = false ∨ ((F b).2.2.2 = true ∧ nm = "<init>" ∧ (F b).1 = own))
  | .getstatic idx => len = 3 ∧ ∃ f : zF, T.2.1[b]? = some f ∧ Cond.fieldLink own idx f.1 f.2.1 f.2.2.1 ∈ Ts
  | .ldc idx => len = 2 ∧ ((a = 0 ∧ ∃ x : Int32, T.2.2.2.1[b]? = some (.int x) ∧ Jvm.Cond.constant own idx x ∈ Ts) ∨ (a = 1 ∧ ∃ f : zS, T.2.2.1[b]? = some f ∧ f.1 = own ∧ f.2.1 = idx))
  | .ldc_w idx => len = 3 ∧ ∃ f : zS, T.2.2.1[b]? = some f ∧ f.1 = own ∧ f.2.1 = idx
  | .ldc2_w idx => len = 3 ∧ ∃ x : Int64, T.2.2.2.1[b]? = some (.long x) ∧ Jvm.Cond.constantLong own idx x ∈ Ts
  | .arraylength => len = 1
  | .iaload => len = 1
  | .baload => len = 1
  | .aaload => len = 1
  | .iastore => len = 1
  | .bastore => len = 1
  | .aastore => len = 1
  | .new idx => len = 3 ∧ a < 50 ∧ ∃ (C : String) (F : u_T), cl[a]? = some (C, F, b) ∧ (∀ j, j < b → defaultValue (T.2.2.2.2.1 a j) = vp_V (T.2.2.2.2.2.1 a) j) ∧ (∀ v ∈ T.2.2.2.2.2.1 a, v = .null ∨ v = .int 0) ∧ Cond.classLink own idx C ∈ Ts ∧ Cond.instantiable C b ∈ Ts ∧ Cond.initialized C ∈ Ts
  | .newarray t => len = 2 ∧ Cond.arrayClass (newarray.typeOf t) ∈ Ts
  | .anewarray idx => len = 3 ∧ (104 ≤ a ∧ a < 106) ∧ ∃ C : String, tf[a - 100]? = some (.object C) ∧ Cond.classLink own idx C ∈ Ts ∧ Cond.arrayOver (.object C) ∈ nw
  | .invokespecial idx => len = 3 ∧ Cond.methodLink own idx objectInit ∈ Ts ∧ Cond.instanceMethod objectInit ∈ Ts ∧ Cond.code objectInit ⟨#[0xb1]⟩ 1 none ∈ Ts
  | .invokestatic idx => len = 3 ∧ ((a = 9998 ∧ Cond.methodLink own idx Lib.Math.max.name ∈ Ts ∧ Cond.static Lib.Math.max.name ∈ Ts ∧ Cond.initialized "java/lang/Math" ∈ Ts ∧ Cond.code Lib.Math.max.name Lib.Math.max.code 2 (some .int) ∈ Ts) ∨ (a = 9997 ∧ Cond.methodLink own idx Lib.Math.min.name ∈ Ts ∧ Cond.static Lib.Math.min.name ∈ Ts ∧ Cond.initialized "java/lang/Math" ∈ Ts ∧ Cond.code Lib.Math.min.name Lib.Math.min.code 2 (some .int) ∈ Ts))
  | .ifnull off => len = 3 ∧ (pc : Int) + off = (a : Int)
  | .ifnonnull off => len = 3 ∧ (pc : Int) + off = (a : Int)
  | .if_acmp _ off => len = 3 ∧ (pc : Int) + off = (a : Int)
  | _ => False
/-- what the tables must say of the classes -/
def z_okc (cl : List vw_C) (tf : List FieldType) (T : zT) (Ts : List Cond) : Prop :=
  (∀ (ci : Nat) (r : vw_C), cl[ci]? = some r → (∀ w ∈ u_ws r.1 r.2.1 r.2.2, w ∈ Ts) ∧ (∀ k, k < r.2.2 → parseFieldDescriptor (r.2.1 k).2.2.1 = some (T.2.2.2.2.1 ci k)) ∧ (∀ a, a < r.2.2 → ∀ b, b < r.2.2 → a ≠ b → (r.2.1 a).2.1 ≠ (r.2.1 b).2.1)) ∧
  (∀ t : Nat, 104 ≤ t → t < 106 → ∀ ty : FieldType, tf[t - 100]? = some ty → T.2.2.2.2.2.2 t < 50 ∧ ∃ r : vw_C, cl[T.2.2.2.2.2.2 t]? = some r ∧ ty = .object r.1)
section ZP
variable {p : Program} {l : Launch} {e : Env} {R : Room} {s : State} {m : MethodId} {args : Array Value} {below : List Frame} {meth : Method} {c : Code} {H : Heap} {locs : List Loc} {cells slots : Nat} {Q : State → Prop}
variable {cc : ByteArray} {pc : Nat} {ls : Array Slot}
variable {D : va_G} {cl scl : List vw_C} {tys : List (ClassId × FieldType)} {tf : List FieldType} {nw : List Cond} {A : Nat → Prop} {ad ad0 : Nat → Option Nat} {h : zH}

end ZP
