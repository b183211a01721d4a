/-! THE PURE MACHINE, III: what reads and writes the heap. -/
def z_hg (S : List zC) (h : zH) (k : Nat) : Option zC := cond (Nat.blt k 1000000) h[k]? S[k - 1000000]?
theorem z_hg_cases {S : List zC} {h : zH} {k : Nat} {c : zC} (e : z_hg S h k = some c) : (k < 1000000 ∧ h[k]? = some c) ∨ (1000000 ≤ k ∧ S[k - 1000000]? = some c) := by
  unfold z_hg at e
  cases hb : Nat.blt k 1000000 with
  | true =>
    rw [hb] at e
    exact Or.inl ⟨by simpa [Nat.blt_eq] using hb, e⟩
  | false =>
    rw [hb] at e
    exact Or.inr ⟨by
      rcases Nat.lt_or_ge k 1000000 with q | q
      · rw [Nat.blt_eq.mpr q] at hb; cases hb
      · exact q, e⟩
/-- the arrays' types: ints, bytes, chars, longs, then references -/
def z_tf (tf : List FieldType) : Prop := tf[0]? = some .int ∧ tf[1]? = some .byte ∧ ∀ (t : Nat) (ty : FieldType), 2 ≤ t → tf[t]? = some ty → ∃ C : String, ty = .object C
abbrev zF : Type := String × String × String × Value
abbrev zS : Type := String × Nat × String × Nat
/-- what holds of the cells and tables that nobody changes -/
def z_stat (scl : List vw_C) (tf : List FieldType) (S : List zC) (sf : List zF) (ss : List zS) (nw : List Cond) (A : Nat → Prop) (ad : Nat → Option Nat) (s : State) : Prop :=
  (∀ (j : Nat) (c : zC), S[j]? = some c → (∀ v ∈ c.2, z_vk 0 v) ∧ ∃ t : Nat, ad (1000000 + j) = some t ∧ ((100 ≤ c.1 ∧ ∃ ty : FieldType, tf[c.1 - 100]? = some ty ∧ va_T ty t c.2.length (fun i => z_cv ad (c.2.getD i .null)) A s s.heap) ∨ (c.1 < 100 ∧ ∃ r : vw_C, scl[c.1 - 50]? = some r ∧ 50 ≤ c.1 ∧ va_O r.1 t A s s.heap ∧ ∀ (k : Nat) (v : Value), c.2[k]? = some v → va_OF (r.2.1 k).1 (r.2.1 k).2.1 (r.2.1 k).2.2.1 (z_cv ad v) t A s s.heap))) ∧
  (∀ (j : Nat) (q : zF), sf[j]? = some q → z_vk 0 q.2.2.2 ∧ va_Z q.1 q.2.1 q.2.2.1 (z_cv ad q.2.2.2) A s s.heap) ∧
  (∀ (j : Nat) (q : zS), ss[j]? = some q → 1000000 ≤ q.2.2.2 ∧ ∃ t : Nat, ad q.2.2.2 = some t ∧ vk_R q.1 q.2.1 q.2.2.1 t s) ∧
  (∀ x y : Nat, 1000000 ≤ x → x < 1000000 → 1000000 ≤ y → y < 1000000 → ad x = ad y → x = y) ∧
  (vx_Zq Bundle.tN "UNASSIGNED_STACK" Bundle.steD A s s.heap ∧ vx_Zq Bundle.tN "SUPPRESSED_SENTINEL" Bundle.listD A s s.heap) ∧
  (∀ w ∈ nw, va_Nw w s)
section ZH
variable {p : Program} {l : Launch} {e : Env} {R : Room} {s : State} {m : MethodId} {args : Array Value} {below : List Frame} {meth : Method} {c : Code} {H H0 : Heap} {locs : List Loc} {cells slots : Nat} {Q : State → Prop}
variable {cc : ByteArray} {pc : Nat} {ls : Array Slot} {rest : List Value}
variable {D : va_G} {cl scl : List vw_C} {tys : List (ClassId × FieldType)} {tf : List FieldType} {S : List zC} {sf : List zF} {ss : List zS} {nw : List Cond} {A : Nat → Prop} {ad ad0 : Nat → Option Nat} {h : zH}
theorem z_dyn {k : Nat} {c : zC} {ws : va_W} (hr : z_rp tys ad h ws) (e : h[k]? = some c) (h100 : 100 ≤ c.1) (hty : ∀ (t : Nat) (x : ClassId × FieldType), tys[t]? = some x → tf[t]? = some x.2) :
    ∃ (q : Nat) (cA : ClassId) (ty : FieldType) (x : vp_A), ad k = some q ∧ ws[k]? = some (q, .inl (cA, x)) ∧ tys[c.1 - 100]? = some (cA, ty) ∧ tf[c.1 - 100]? = some ty ∧ z_ra ad ty c.2 x := by
  obtain ⟨q, e1, h1, h2, h3⟩ := hr.2 k c e
  rcases h3 with ⟨h4, -⟩ | ⟨-, cA, ty, x, h5, h6, h7⟩
  · omega
  · subst h6
    exact ⟨q, cA, ty, x, h1, h2, h5, hty _ _ h5, h7⟩
theorem z_sta {k : Nat} {c : zC} (hst : z_stat scl tf S sf ss nw A ad0 s) (hx0 : z_ext ad0 ad 0) (hk : 1000000 ≤ k) (e : S[k - 1000000]? = some c) (h100 : 100 ≤ c.1) :
    (∀ v ∈ c.2, z_vk 0 v) ∧ ∃ (t : Nat) (ty : FieldType), ad k = some t ∧ tf[c.1 - 100]? = some ty ∧ va_T ty t c.2.length (fun i => z_cv ad0 (c.2.getD i .null)) A s s.heap := by
  obtain ⟨h1, t, h2, h3⟩ := hst.1 _ _ e
  rw [show 1000000 + (k - 1000000) = k by omega] at h2
  rcases h3 with ⟨-, ty, h4, h5⟩ | ⟨h6, -⟩
  · exact ⟨h1, t, ty, (hx0 k (Or.inr hk)).trans h2, h4, h5⟩
  · omega
theorem z_stav {vs : List Value} {i : Nat} {v : Value} (hx0 : z_ext ad0 ad 0) (hv : ∀ v ∈ vs, z_vk 0 v) (e : vs[i]? = some v) : i < vs.length ∧ z_cv ad0 (vs.getD i .null) = z_cv ad v := by
  refine ⟨(List.getElem?_eq_some_iff.mp e).1, ?_⟩
  rw [List.getD_eq_getElem?_getD, e]
  exact (z_cv_ext hx0 (hv v (List.mem_of_getElem? e))).symm

theorem z_iaload (htf : z_tf tf) (hty : ∀ (t : Nat) (x : ClassId × FieldType), tys[t]? = some x → tf[t]? = some x.2) (hx : p.tables.exec = Jvm.exec) (hb : c.code = cc) (hK : va_K D cl tys s) (hst : z_stat scl tf S sf ss nw A ad0 s) (hx0 : z_ext ad0 ad 0) (hw : z_wd D cl tys A ad h H) (hS : va_S A s.heap H locs) {q : Nat} {vs : List Value} {i : Int32} {v : Value} (h1 : z_hg S h q = some (100, vs)) (h2 : ¬ i < 0) (h3 : vs[i.toNatClampNeg]? = some v) (hd : decode cc pc = .ok (.iaload, 1))
    (k : W p l e R s m args below meth c H locs cells slots Q (F0 m (pc + 1) ls (z_cv ad v :: rest))) : W p l e R s m args below meth c H locs cells slots Q (F0 m pc ls (.int i :: va_rf (ad q) :: rest)) := by
  rcases z_hg_cases h1 with ⟨hq, e1⟩ | ⟨hq, e1⟩
  · obtain ⟨ws, hP, hD, hr⟩ := hw
    obtain ⟨q', cA, ty, x, g1, g2, g3, g4, g5⟩ := z_dyn hr e1 (Nat.le_of_ble_eq_true rfl) hty
    have e2 : ty = .int := Option.some.inj (g4.symm.trans htf.1)
    subst e2
    obtain ⟨l0, g6, g7⟩ := g5
    dsimp only at g6
    subst g7
    rw [g6] at h3
    obtain ⟨g8, g9⟩ := z_getI h3
    rw [g1]
    rw [g9] at k
    exact va_iald hx hb hK hP q 0 g2 g3 (z_in h2 g8) hd k
  · obtain ⟨hv, t, ty, g1, g2, g3⟩ := z_sta hst hx0 hq e1 (Nat.le_of_ble_eq_true rfl)
    have e2 : ty = .int := Option.some.inj (g2.symm.trans htf.1)
    subst e2
    obtain ⟨g4, g5⟩ := z_stav hx0 hv h3
    rw [g1]
    exact va_ti hx hb g3 hS (z_in h2 g4) g5 hd k
theorem z_baload (htf : z_tf tf) (hty : ∀ (t : Nat) (x : ClassId × FieldType), tys[t]? = some x → tf[t]? = some x.2) (hx : p.tables.exec = Jvm.exec) (hb : c.code = cc) (hK : va_K D cl tys s) (hst : z_stat scl tf S sf ss nw A ad0 s) (hx0 : z_ext ad0 ad 0) (hw : z_wd D cl tys A ad h H) (hS : va_S A s.heap H locs) {q : Nat} {vs : List Value} {i : Int32} {v : Value} (h1 : z_hg S h q = some (101, vs)) (h2 : ¬ i < 0) (h3 : vs[i.toNatClampNeg]? = some v) (hd : decode cc pc = .ok (.baload, 1))
    (k : W p l e R s m args below meth c H locs cells slots Q (F0 m (pc + 1) ls (z_cv ad v :: rest))) : W p l e R s m args below meth c H locs cells slots Q (F0 m pc ls (.int i :: va_rf (ad q) :: rest)) := by
  rcases z_hg_cases h1 with ⟨hq, e1⟩ | ⟨hq, e1⟩
  · obtain ⟨ws, hP, hD, hr⟩ := hw
    obtain ⟨q', cA, ty, x, g1, g2, g3, g4, g5⟩ := z_dyn hr e1 (Nat.le_of_ble_eq_true rfl) hty
    have e2 : ty = .byte := Option.some.inj (g4.symm.trans htf.2.1)
    subst e2
    obtain ⟨l0, g6, g7⟩ := g5
    dsimp only at g6
    subst g7
    rw [g6] at h3
    obtain ⟨g8, g9⟩ := z_getI h3
    rw [g1]
    rw [g9] at k
    exact va_bald hx hb hK hP q 1 g2 g3 (z_in h2 g8) hd k
  · obtain ⟨hv, t, ty, g1, g2, g3⟩ := z_sta hst hx0 hq e1 (Nat.le_of_ble_eq_true rfl)
    have e2 : ty = .byte := Option.some.inj (g2.symm.trans htf.2.1)
    subst e2
    obtain ⟨g4, g5⟩ := z_stav hx0 hv h3
    rw [g1]
    exact va_tb hx hb g3 hS (z_in h2 g4) g5 hd k
theorem z_aaload (htf : z_tf tf) (hty : ∀ (t : Nat) (x : ClassId × FieldType), tys[t]? = some x → tf[t]? = some x.2) (hx : p.tables.exec = Jvm.exec) (hb : c.code = cc) (hK : va_K D cl tys s) (hst : z_stat scl tf S sf ss nw A ad0 s) (hx0 : z_ext ad0 ad 0) (hw : z_wd D cl tys A ad h H) (hS : va_S A s.heap H locs) {q t0 : Nat} {vs : List Value} {i : Int32} {v : Value} (h1 : z_hg S h q = some (t0, vs)) (h0 : 104 ≤ t0) (h2 : ¬ i < 0) (h3 : vs[i.toNatClampNeg]? = some v) (hd : decode cc pc = .ok (.aaload, 1))
    (k : W p l e R s m args below meth c H locs cells slots Q (F0 m (pc + 1) ls (z_cv ad v :: rest))) : W p l e R s m args below meth c H locs cells slots Q (F0 m pc ls (.int i :: va_rf (ad q) :: rest)) := by
  rcases z_hg_cases h1 with ⟨hq, e1⟩ | ⟨hq, e1⟩
  · obtain ⟨ws, hP, hD, hr⟩ := hw
    obtain ⟨q', cA, ty, x, g1, g2, g3, g4, g5⟩ := z_dyn hr e1 (show 100 ≤ t0 by omega) hty
    obtain ⟨C, e2⟩ := htf.2.2 _ _ (show 2 ≤ t0 - 100 by omega) g4
    subst e2
    obtain ⟨l0, g6, g7⟩ := g5
    dsimp only at g6
    subst g7
    rw [g6] at h3
    obtain ⟨g8, g9⟩ := z_getQ (ad := ad) h3
    rw [g1]
    rw [g9] at k
    exact va_aldq hx hb hK hP q (t0 - 100) g2 g3 (z_in h2 g8) hd k
  · obtain ⟨hv, t, ty, g1, g2, g3⟩ := z_sta hst hx0 hq e1 (show 100 ≤ t0 by omega)
    obtain ⟨C, e2⟩ := htf.2.2 _ _ (show 2 ≤ t0 - 100 by omega) g2
    subst e2
    obtain ⟨g4, g5⟩ := z_stav hx0 hv h3
    rw [g1]
    exact vb_tq hx hb g3 hS (z_in h2 g4) g5 hd k
theorem z_alen (hty : ∀ (t : Nat) (x : ClassId × FieldType), tys[t]? = some x → tf[t]? = some x.2) (hx : p.tables.exec = Jvm.exec) (hb : c.code = cc) (hK : va_K D cl tys s) (hst : z_stat scl tf S sf ss nw A ad0 s) (hx0 : z_ext ad0 ad 0) (hw : z_wd D cl tys A ad h H) (hS : va_S A s.heap H locs) {q t0 : Nat} {vs : List Value} (h1 : z_hg S h q = some (t0, vs)) (h0 : 100 ≤ t0) (hd : decode cc pc = .ok (.arraylength, 1))
    (k : W p l e R s m args below meth c H locs cells slots Q (F0 m (pc + 1) ls (.int (Int32.ofNat vs.length) :: rest))) : W p l e R s m args below meth c H locs cells slots Q (F0 m pc ls (va_rf (ad q) :: rest)) := by
  rcases z_hg_cases h1 with ⟨hq, e1⟩ | ⟨hq, e1⟩
  · obtain ⟨ws, hP, hD, hr⟩ := hw
    obtain ⟨q', cA, ty, x, g1, g2, g3, g4, g5⟩ := z_dyn hr e1 h0 hty
    have e2 : x.1 = vs.length := by
      cases ty with
      | int => obtain ⟨l0, g6, g7⟩ := g5; dsimp only at g6; rw [g7, g6, List.length_map]
      | byte => obtain ⟨l0, g6, g7⟩ := g5; dsimp only at g6; rw [g7, g6, List.length_map]
      | char => obtain ⟨l0, g6, g7⟩ := g5; dsimp only at g6; rw [g7, g6, List.length_map]
      | long => obtain ⟨l0, g6, g7⟩ := g5; dsimp only at g6; rw [g7, g6, List.length_map]
      | object C => obtain ⟨l0, g6, g7⟩ := g5; dsimp only at g6; rw [g7, g6, List.length_map]
      | _ => exact g5.elim
    rw [g1]
    exact va_alen hx hb hK hP q (t0 - 100) g2 g3 (by rw [e2]) hd k
  · obtain ⟨hv, t, ty, g1, g2, g3⟩ := z_sta hst hx0 hq e1 h0
    rw [g1]
    exact va_tlen hx hb g3 hS rfl hd k
theorem z_getf {own : String} {Ts : List Cond} (hts : ∀ w ∈ Ts, w.before args s = true) (hown : s.vm.findClass own = some m.cls) (hx : p.tables.exec = Jvm.exec) (hb : c.code = cc) (hK : va_K D cl tys s) (hst : z_stat scl tf S sf ss nw A ad0 s) (hx0 : z_ext ad0 ad 0) (hw : z_wd D cl tys A ad h H) (hS : va_S A s.heap H locs) {q a b idx : Nat} {vs : List Value} {v : Value} {C : String} {T : u_T} {N : Nat} (h1 : z_hg S h q = some (a, vs)) (h100 : a < 100) (h3 : vs[b]? = some v) (hc : (a < 50 ∧ cl[a]? = some (C, T, N)) ∨ (50 ≤ a ∧ scl[a - 50]? = some (C, T, N))) (hin : a < 50 → ∀ w ∈ u_ws C T N, w ∈ Ts) (hbN : b < N) (hl : Cond.fieldLink own idx (T b).1 (T b).2.1 (T b).2.2.1 ∈ Ts) (hd : decode cc pc = .ok (.getfield idx, 3))
    (k : W p l e R s m args below meth c H locs cells slots Q (F0 m (pc + 3) ls (z_cv ad v :: rest))) : W p l e R s m args below meth c H locs cells slots Q (F0 m pc ls (va_rf (ad q) :: rest)) := by
  rcases z_hg_cases h1 with ⟨hq, e1⟩ | ⟨hq, e1⟩
  · obtain ⟨ws, hP, hD, hr⟩ := hw
    obtain ⟨q', e2, g1, g2, g3⟩ := hr.2 q _ e1
    rcases g3 with ⟨g4, g5⟩ | ⟨g4, -⟩
    · dsimp only at g4 g5
      subst g5
      rcases hc with ⟨-, hc⟩ | ⟨hc, -⟩
      · rw [g1]
        exact va_get hx hb hts (hin g4) hown hK hP q g2 hc b hbN (hts _ hl) (fun _ z => z) (by rw [List.getElem?_map, h3]; rfl) hd k
      · omega
    · dsimp only at g4; omega
  · obtain ⟨hv, t, g1, g2⟩ := hst.1 _ _ e1
    rw [show 1000000 + (q - 1000000) = q by omega] at g1
    rcases g2 with ⟨g3, -⟩ | ⟨-, r, g4, g5, g6, g7⟩
    · dsimp only at g3; omega
    · dsimp only at g4 g5 g7
      rcases hc with ⟨hc, -⟩ | ⟨-, hc⟩
      · omega
      · have e2 : r = (C, T, N) := Option.some.inj (g4.symm.trans hc)
        subst e2
        rw [(hx0 q (Or.inr hq)).trans g1]
        have g8 := g7 b v h3
        rw [← z_cv_ext hx0 (hv v (List.mem_of_getElem? h3))] at g8
        exact vk_getf hx hb g8 hS hown (hts _ hl) (fun _ z => z) hd k
def z_fit (ty : FieldType) (v : Value) : Bool := match ty, v with
  | .int, .int _ => true
  | .boolean, .int x => decide (x = 0) || decide (x = 1)
  | .object _, .ref _ => true
  | .object _, .null => true
  | .array _, .ref _ => true
  | .array _, .null => true
  | _, _ => false
theorem z_fit_ok {ty : FieldType} {v : Value} {ad : Nat → Option Nat} (hf : z_fit ty v = true) : narrow ty (z_cv ad v) = z_cv ad v ∧ fits ty (z_cv ad v) = true := by
  unfold z_fit at hf
  split at hf
  · exact ⟨rfl, rfl⟩
  · rename_i x
    simp only [Bool.or_eq_true, decide_eq_true_eq] at hf
    rcases hf with rfl | rfl
    · exact ⟨(by decide : (Value.int ((0 : Int32) &&& 1)) = .int 0), rfl⟩
    · exact ⟨(by decide : (Value.int ((1 : Int32) &&& 1)) = .int 1), rfl⟩
  · rename_i n k
    cases hk : ad k <;> simp [z_cv, hk, va_rf, narrow, fits]
  · exact ⟨rfl, rfl⟩
  · rename_i n k
    cases hk : ad k <;> simp [z_cv, hk, va_rf, narrow, fits]
  · exact ⟨rfl, rfl⟩
  · cases hf
theorem z_putf {own : String} {Ts : List Cond} (hts : ∀ w ∈ Ts, w.before args s = true) (hown : s.vm.findClass own = some m.cls) (hx : p.tables.exec = Jvm.exec) (hb : c.code = cc) (hK : va_K D cl tys s) (hw : z_wd D cl tys A ad h H) (hS : va_S A H0 H locs) {q a b idx : Nat} {vs : List Value} {v : Value} {C : String} {T : u_T} {N : Nat} {ty0 : Nat → FieldType} (h1 : h[q]? = some (a, vs)) (h50 : a < 50) (h3 : b < vs.length) (hc : cl[a]? = some (C, T, N)) (hin : ∀ w ∈ u_ws C T N, w ∈ Ts) (hty : ∀ k, k < N → parseFieldDescriptor (T k).2.2.1 = some (ty0 k)) (hnm : ∀ a, a < N → ∀ b, b < N → a ≠ b → (T a).2.1 ≠ (T b).2.1) (hbN : b < N) (hl : Cond.fieldLink own idx (T b).1 (T b).2.1 (T b).2.2.1 ∈ Ts) (hfin : (T b).2.2.2 = false ∨ ((T b).2.2.2 = true ∧ meth.name = "<init>" ∧ (T b).1 = own)) (hf : z_fit (ty0 b) v = true) (hd : decode cc pc = .ok (.putfield idx, 3))
    (k : ∀ (H1 : Heap) (locs1 : List Loc), z_wd D cl tys A ad (h.set q (a, vs.set b v)) H1 → va_S A H0 H1 locs1 → W p l e R s m args below meth c H1 locs1 cells slots Q (F0 m (pc + 3) ls rest)) : W p l e R s m args below meth c H locs cells slots Q (F0 m pc ls (z_cv ad v :: va_rf (ad q) :: rest)) := by
  obtain ⟨ws, hP, hD, hr⟩ := hw
  obtain ⟨q', e2, g1, g2, g3⟩ := hr.2 q _ h1
  have hql : q < h.length := (List.getElem?_eq_some_iff.mp h1).1
  rcases g3 with ⟨g4, g5⟩ | ⟨g4, -⟩
  · dsimp only at g4 g5
    subst g5
    rw [g1]
    have hfit := z_fit_ok (ad := ad) hf
    have key : ∀ (H1 : Heap) (locs1 : List Loc), va_P D cl (ws.set q (q', .inr (a, (vs.map (z_cv ad)).set b (z_cv ad v)))) H1 → va_D A (ws.set q (q', .inr (a, (vs.map (z_cv ad)).set b (z_cv ad v)))) → va_S A H0 H1 locs1 → W p l e R s m args below meth c H1 locs1 cells slots Q (F0 m (pc + 3) ls rest) := fun H1 locs1 hP1 hD1 hS1 =>
      k H1 locs1 ⟨_, hP1, hD1, z_rp_set hr hql g1 (Or.inl ⟨h50, by rw [List.map_set]⟩)⟩ hS1
    rcases hfin with hfin | ⟨hfin, hin2, hdecl⟩
    · exact va_put hx hb hts hin ty0 hty hnm hown hK hP hD hS q g2 hc b hbN (hts _ hl) (fun _ z => z) hfin (hty b hbN) hfit.1 hfit.2 (by rw [List.length_map]; exact h3) hd key
    · exact va_putF hx hb hts hin ty0 hty hnm hown hK hP hD hS q g2 hc b hbN (hts _ hl) (fun _ z => z) hfin hin2 hdecl (hty b hbN) hfit.1 hfit.2 (by rw [List.length_map]; exact h3) hd key
  · dsimp only at g4; omega
theorem z_iastore (htf : z_tf tf) (hty : ∀ (t : Nat) (x : ClassId × FieldType), tys[t]? = some x → tf[t]? = some x.2) (hx : p.tables.exec = Jvm.exec) (hb : c.code = cc) (hK : va_K D cl tys s) (hw : z_wd D cl tys A ad h H) (hS : va_S A H0 H locs) {q : Nat} {vs : List Value} {i : Int32} {x : Int32} (h1 : h[q]? = some (100, vs)) (h2 : ¬ i < 0) (h3 : i.toNatClampNeg < vs.length) (hd : decode cc pc = .ok (.iastore, 1))
    (k : ∀ (H1 : Heap) (locs1 : List Loc), z_wd D cl tys A ad (h.set q (100, vs.set i.toNatClampNeg (.int x))) H1 → va_S A H0 H1 locs1 → W p l e R s m args below meth c H1 locs1 cells slots Q (F0 m (pc + 1) ls rest)) : W p l e R s m args below meth c H locs cells slots Q (F0 m pc ls (.int x :: .int i :: va_rf (ad q) :: rest)) := by
  obtain ⟨ws, hP, hD, hr⟩ := hw
  have hql : q < h.length := (List.getElem?_eq_some_iff.mp h1).1
  obtain ⟨q', cA, ty, x9, g1, g2, g3, g4, g5⟩ := z_dyn hr h1 (Nat.le_of_ble_eq_true rfl) hty
  have e2 : ty = .int := Option.some.inj (g4.symm.trans htf.1)
  subst e2
  obtain ⟨l0, g6, g7⟩ := g5
  dsimp only at g6 g3
  subst g7
  have g8 : i.toNatClampNeg < l0.length := by rw [g6, List.length_map] at h3; exact h3
  rw [g1]
  refine va_iast hx hb hK hP hD hS q 0 g2 g3 (z_in h2 g8) hd (fun H1 locs1 hP1 hD1 hS1 => ?_)
  refine k H1 locs1 ⟨_, hP1, hD1, z_rp_set hr hql g1 (Or.inr ⟨Nat.le_of_ble_eq_true rfl, cA, .int, _, g3, rfl, ?_⟩)⟩ hS1
  refine ⟨l0.set i.toNatClampNeg (x), ?_, ?_⟩
  · dsimp only; rw [g6, List.map_set]
  · rw [List.length_set, z_updI g8]
theorem z_bastore (htf : z_tf tf) (hty : ∀ (t : Nat) (x : ClassId × FieldType), tys[t]? = some x → tf[t]? = some x.2) (hx : p.tables.exec = Jvm.exec) (hb : c.code = cc) (hK : va_K D cl tys s) (hw : z_wd D cl tys A ad h H) (hS : va_S A H0 H locs) {q : Nat} {vs : List Value} {i : Int32} {x : Int32} (h1 : h[q]? = some (101, vs)) (h2 : ¬ i < 0) (h3 : i.toNatClampNeg < vs.length) (hd : decode cc pc = .ok (.bastore, 1))
    (k : ∀ (H1 : Heap) (locs1 : List Loc), z_wd D cl tys A ad (h.set q (101, vs.set i.toNatClampNeg (.int (vp_nar .byte x)))) H1 → va_S A H0 H1 locs1 → W p l e R s m args below meth c H1 locs1 cells slots Q (F0 m (pc + 1) ls rest)) : W p l e R s m args below meth c H locs cells slots Q (F0 m pc ls (.int x :: .int i :: va_rf (ad q) :: rest)) := by
  obtain ⟨ws, hP, hD, hr⟩ := hw
  have hql : q < h.length := (List.getElem?_eq_some_iff.mp h1).1
  obtain ⟨q', cA, ty, x9, g1, g2, g3, g4, g5⟩ := z_dyn hr h1 (Nat.le_of_ble_eq_true rfl) hty
  have e2 : ty = .byte := Option.some.inj (g4.symm.trans htf.2.1)
  subst e2
  obtain ⟨l0, g6, g7⟩ := g5
  dsimp only at g6 g3
  subst g7
  have g8 : i.toNatClampNeg < l0.length := by rw [g6, List.length_map] at h3; exact h3
  rw [g1]
  refine va_bast hx hb hK hP hD hS q 1 g2 g3 (z_in h2 g8) hd (fun H1 locs1 hP1 hD1 hS1 => ?_)
  refine k H1 locs1 ⟨_, hP1, hD1, z_rp_set hr hql g1 (Or.inr ⟨Nat.le_of_ble_eq_true rfl, cA, .byte, _, g3, rfl, ?_⟩)⟩ hS1
  refine ⟨l0.set i.toNatClampNeg (vp_nar .byte x), ?_, ?_⟩
  · dsimp only; rw [g6, List.map_set]
  · rw [List.length_set, z_updI g8]
theorem z_aastoreN (htf : z_tf tf) (hty : ∀ (t : Nat) (x : ClassId × FieldType), tys[t]? = some x → tf[t]? = some x.2) (hx : p.tables.exec = Jvm.exec) (hb : c.code = cc) (hK : va_K D cl tys s) (hw : z_wd D cl tys A ad h H) (hS : va_S A H0 H locs) {q t0 : Nat} {vs : List Value} {i : Int32} (h1 : h[q]? = some (t0, vs)) (h0 : 104 ≤ t0) (h2 : ¬ i < 0) (h3 : i.toNatClampNeg < vs.length) (hd : decode cc pc = .ok (.aastore, 1))
    (k : ∀ (H1 : Heap) (locs1 : List Loc), z_wd D cl tys A ad (h.set q (t0, vs.set i.toNatClampNeg .null)) H1 → va_S A H0 H1 locs1 → W p l e R s m args below meth c H1 locs1 cells slots Q (F0 m (pc + 1) ls rest)) : W p l e R s m args below meth c H locs cells slots Q (F0 m pc ls (.null :: .int i :: va_rf (ad q) :: rest)) := by
  obtain ⟨ws, hP, hD, hr⟩ := hw
  have hql : q < h.length := (List.getElem?_eq_some_iff.mp h1).1
  obtain ⟨q', cA, ty, x9, g1, g2, g3, g4, g5⟩ := z_dyn hr h1 (show 100 ≤ t0 by omega) hty
  obtain ⟨C, e2⟩ := htf.2.2 _ _ (show 2 ≤ t0 - 100 by omega) g4
  subst e2
  obtain ⟨l0, g6, g7⟩ := g5
  dsimp only at g6 g3
  subst g7
  have g8 : i.toNatClampNeg < l0.length := by rw [g6, List.length_map] at h3; exact h3
  rw [g1]
  refine va_astqN hx hb hK hP hD hS q (t0 - 100) g2 g3 (z_in h2 g8) hd (fun H1 locs1 hP1 hD1 hS1 => ?_)
  refine k H1 locs1 ⟨_, hP1, hD1, z_rp_set hr hql g1 (Or.inr ⟨by dsimp only; omega, cA, .object C, _, g3, rfl, ?_⟩)⟩ hS1
  refine ⟨l0.set i.toNatClampNeg none, ?_, ?_⟩
  · dsimp only; rw [g6, List.map_set]; rfl
  · rw [List.length_set]
    have := z_updQ (ad := ad) (x := none) g8
    rw [← this]; rfl
theorem z_aastore (htf : z_tf tf) (hty : ∀ (t : Nat) (x : ClassId × FieldType), tys[t]? = some x → tf[t]? = some x.2) (hx : p.tables.exec = Jvm.exec) (hb : c.code = cc) (hK : va_K D cl tys s) (hw : z_wd D cl tys A ad h H) (hS : va_S A H0 H locs) {q t0 w0 tw : Nat} {vs vw : List Value} {i : Int32} {r : vw_C} (h1 : h[q]? = some (t0, vs)) (h0 : 104 ≤ t0) (h2 : ¬ i < 0) (h3 : i.toNatClampNeg < vs.length) (h4 : h[w0]? = some (tw, vw)) (h5 : tw < 50) (hc : cl[tw]? = some r) (ht : tf[t0 - 100]? = some (.object r.1)) (hd : decode cc pc = .ok (.aastore, 1))
    (k : ∀ (H1 : Heap) (locs1 : List Loc), z_wd D cl tys A ad (h.set q (t0, vs.set i.toNatClampNeg (.ref w0))) H1 → va_S A H0 H1 locs1 → W p l e R s m args below meth c H1 locs1 cells slots Q (F0 m (pc + 1) ls rest)) : W p l e R s m args below meth c H locs cells slots Q (F0 m pc ls (va_rf (ad w0) :: .int i :: va_rf (ad q) :: rest)) := by
  obtain ⟨ws, hP, hD, hr⟩ := hw
  have hql : q < h.length := (List.getElem?_eq_some_iff.mp h1).1
  obtain ⟨q', cA, ty, x9, g1, g2, g3, g4, g5⟩ := z_dyn hr h1 (show 100 ≤ t0 by omega) hty
  obtain ⟨v', e3, f1, f2, f3⟩ := hr.2 w0 _ h4
  rcases f3 with ⟨-, f4⟩ | ⟨f4, -⟩
  · dsimp only at f4
    subst f4
    have e2 : ty = .object r.1 := Option.some.inj (g4.symm.trans ht)
    subst e2
    obtain ⟨l0, g6, g7⟩ := g5
    dsimp only at g6 g3
    subst g7
    have g8 : i.toNatClampNeg < l0.length := by rw [g6, List.length_map] at h3; exact h3
    rw [g1, f1]
    refine va_astq hx hb hK hP hD hS q (t0 - 100) w0 tw g2 g3 f2 hc (z_in h2 g8) hd (fun H1 locs1 hP1 hD1 hS1 => ?_)
    refine k H1 locs1 ⟨_, hP1, hD1, z_rp_set hr hql g1 (Or.inr ⟨by dsimp only; omega, cA, .object r.1, _, g3, rfl, ?_⟩)⟩ hS1
    refine ⟨l0.set i.toNatClampNeg (some w0), ?_, ?_⟩
    · dsimp only; rw [g6, List.map_set]; rfl
    · rw [List.length_set]
      have := z_updQ (ad := ad) (x := some w0) g8
      rw [← this, Option.bind_some, f1]
  · dsimp only at f4; omega
end ZH
