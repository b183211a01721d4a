/-! THE PURE MACHINE, IX: a pure run is a run of the machine. -/
theorem z_imp {l : Launch} {x : MethodName} {S : Spec} {P : Array Value → State → Prop} {K : Program → Env → List Frame → State → Array Value → Prop} {Q Q' : Array Value → State → Outcome → State → Prop} (h : MetFree l x S P K Q) (hq : ∀ a st o t, Q a st o t → Q' a st o t) : MetFree l x S P K Q' := by
  intro p e ha hc hk s m args below hf happ hP hK
  obtain ⟨n, o, h1, h2, h3, h4⟩ := h p e ha hc hk s m args below hf happ hP hK
  exact ⟨n, o, h1, h2, h3, hq _ _ _ _ h4⟩
section ZD
variable {T : zT} {P : zP} {M : zM} {D : va_G} {tys : List (ClassId × FieldType)} {A : Nat → Prop} {ad0 ad : Nat → Option Nat} {l : Launch} {f : Nat}
variable {p : Program} {e : Env} {R : Room} {s : State} {m : MethodId} {args : Array Value} {below : List Frame} {meth : Method} {c : Code} {H : Heap} {locs : List Loc} {cells slots : Nat} {Q : State → Prop}
variable {own : String} {cc : ByteArray} {nL pc : Nat} {ls : Array Slot} {h h2 : zH} {st : List Value} {d a b mc ms : Nat} {o : Option Value ⊕ Nat} {i : Instr}
theorem z_good (hok : z_okS T P M tys) {ws : List Cond} (hw : ∀ w ∈ ws, w ∈ M.2.2.2.1) : GoodIn M.2.2.2.1 ws := fun w hw' => ⟨hw w hw', hok.2.2.2.2.2.1 w (hw w hw')⟩
theorem z_pc (hok : z_okS T P M tys) (hfx : z_fx T P M D tys A ad0 s) (hw : z_wd D M.2.2.2.2.2.1 tys A ad h H) (hS : va_S A s.heap H locs) : ∀ U : State, U.heap = H → s.WarmedH U.vm → z_fx T P M D tys A ad0 U ∧ z_wd D M.2.2.2.2.2.1 tys A ad h U.heap := fun U hU hW =>
  ⟨z_fx_moved hok.2.2.2.2.1 hW (by rw [hU]; exact hS.1) (fun q h1 h2 => by rw [hU]; exact hS.2.1 q h1 h2) hfx, by rw [hU]; exact hw⟩
theorem z_blind (hok : z_okS T P M tys) {h : zH} {as : List Value} : FrameBlind (va_Pc as (fun U => z_fx T P M D tys A ad0 U ∧ z_wd D M.2.2.2.2.2.1 tys A ad h U.heap)) := fun a U g mk q =>
  ⟨q.1, z_fx_moved (U := U.calling g mk a) hok.2.2.2.2.1 (State.WarmedH.refl U) (Nat.le_refl _) (fun _ _ _ => rfl) q.2.1, q.2.2⟩
theorem z_recvT (hfx : z_fx T P M D tys A ad0 s) (hx0 : z_ext ad0 ad 0) (hw : z_wd D M.2.2.2.2.2.1 tys A ad h H) (hS : va_S A s.heap H locs) {as : List Value} {t : Nat} (hr : z_rcv T h as t = true) : ∃ (q b : Nat) (r vs : List Value), as = .ref q :: r ∧ z_hg T.1 h q = some (t, vs) ∧ ad q = some b := by
  unfold z_rcv at hr
  split at hr
  · rename_i q r
    split at hr
    · rename_i c0 e1
      have e2 : c0.1 = t := Nat.eq_of_beq_eq_true hr
      obtain ⟨b, e3⟩ := z_hg_ad hfx.2.2.1 hx0 hw e1
      obtain ⟨t', vs⟩ := c0
      dsimp only at e2
      subst e2
      exact ⟨q, b, r, vs, rfl, e1, e3⟩
    · cases hr
  · cases hr
/-- a call of a static method -/
theorem z_runS (hC : z_C T P M D tys A ad0 l f) (hok : z_okS T P M tys) (hx : p.tables.exec = Jvm.exec) (hb : c.code = cc) (hml : c.maxLocals = nL) (hown : s.vm.findClass own = some m.cls) (hts : ∀ w ∈ M.2.2.2.1, w.before args s = true) (hfx : z_fx T P M D tys A ad0 s) (hx0 : z_ext ad0 ad 0) (hw : z_wd D M.2.2.2.2.2.1 tys A ad h H) (hS : va_S A s.heap H locs) (hv : z_hv h)
    (hR : d + 1 + 1 ≤ R.frames ∧ 35 * (d + 1) + 20 ≤ R.locals) (hroom : cells + mc ≤ R.cells ∧ slots + ms ≤ R.slots) (hlz : ls.size = nL) {as rest : List Value} (hst : st = as.reverse ++ rest) (has : ∀ v ∈ as, z_vk h.length v) (hcs : z_cs as ≤ P.2.1 a) (hrest : z_cs rest ≤ 8) (hn : as.length = b % 1000)
    (hr : z_run T P f d a 0 (lv_args 0 as) [] h 0 0 = some (o, h2, mc, ms)) (hno : ∃ v0, o = .inl v0) (ho : z_oks P M own i a b) (hd : decode cc pc = .ok (i, 3)) :
    ∃ ar, vx_Run p l e R s m args below meth c H locs cells slots mc ms (F0 m pc ls (st.map (z_cv ad))) (rest.map (z_cv ad)) (z_Q M D tys A ad h.length o h2 ar) (z_X M D tys A ad h.length o h2) A := by
  have hM := hC d a as h o h2 mc ms hr hno hcs ad hx0 hv has
  unfold z_oks at ho
  split at ho
  · rename_i idx
    obtain ⟨⟨⟨k1, k2, k3⟩, hhead, hini, h40⟩, hlink, hstat⟩ := ho
    have hws : ∀ w ∈ z_head P M a :: M.2.2.2.1, w ∈ M.2.2.2.1 := fun w hw' => by
      rcases List.mem_cons.mp hw' with rfl | hw'
      · exact hhead
      · exact hw'
    have hpS : PreS s H (va_Pc (as.map (z_cv ad)) (fun U => z_fx T P M D tys A ad0 U ∧ z_wd D M.2.2.2.2.2.1 tys A ad h U.heap)) (as.map (z_cv ad)) := ⟨z_blind hok, fun U hU hW => ⟨rfl, z_pc hok hfx hw hS U hU hW⟩⟩
    have hRR : (z_rm d mc ms).frames + 1 ≤ R.frames ∧ 8 + (P.2.1 a + 11) + (z_rm d mc ms).locals ≤ R.locals := ⟨by show d + 1 + 1 ≤ _; omega, by show 8 + (P.2.1 a + 11) + (35 * d + 20) ≤ _; omega⟩
    have hstk : (F0 m pc ls (st.map (z_cv ad))).stack = (as.map (z_cv ad)).reverse ++ rest.map (z_cv ad) := by
      show st.map (z_cv ad) = _
      rw [hst, List.map_append, List.map_reverse]
    have hrW : 2 * (F0 m pc ls (st.map (z_cv ad))).monitorRoom + ((rest.map (z_cv ad)).map fun v => v.category).sum ≤ 8 := by
      have e1 : ((rest.map (z_cv ad)).map fun v => v.category).sum = z_cs rest := z_cs_map ad rest
      rw [e1]
      show 2 * 0 + _ ≤ 8
      omega
    cases hex : P.2.2.1 a with
    | nil =>
      have hh : z_head P M a = .code (M.1 a) (M.2.1 a) (P.2.1 a) (P.2.2.2.2.1 a) := by unfold z_head; rw [hex]
      rw [hh] at hM hws hhead
      have hG := z_good hok hws
      exact ⟨_, vx_runS (n := b % 1000) ⟨hx, hb, hml, hown, hts⟩ hM ⟨callB_of (b % 1000) hts hG rfl rfl rfl (hts _ hini) (hts _ hlink) ⟨k1, k2, k3⟩ hRR, hts _ hstat⟩ hpS rfl (by rw [List.length_map]; exact hn) hlz hstk hrW hd hroom⟩
    | cons x0 l0 =>
      have hh : z_head P M a = .codeWith (M.1 a) (M.2.1 a) (P.2.1 a) (P.2.2.2.2.1 a) ((x0 :: l0).map (fun q : zX => q.1)) := by unfold z_head; rw [hex]
      rw [hh] at hM hws hhead
      have hG := z_good hok hws
      refine ⟨_, vx_runSX (n := b % 1000) ⟨hx, hb, hml, hown, hts⟩ hM ⟨⟨rfl, rfl, hRR.1, hRR.2, pay_in hts hG, List.mem_cons_self⟩, hts _ hhead, hts _ hini, ⟨k1, k2⟩, fun sig hg => ?_, hts _ hlink, hts _ hstat⟩ hpS rfl (by rw [List.length_map]; exact hn) hlz hstk hrW hd hroom⟩
      rw [hg] at k3
      exact (Option.some.inj k3).symm
  · exact ho.elim
/-- a call of a method of the receiver's own class -/
theorem z_runV (hC : z_C T P M D tys A ad0 l f) (hok : z_okS T P M tys) (hx : p.tables.exec = Jvm.exec) (hb : c.code = cc) (hml : c.maxLocals = nL) (hown : s.vm.findClass own = some m.cls) (hts : ∀ w ∈ M.2.2.2.1, w.before args s = true) (hfx : z_fx T P M D tys A ad0 s) (hx0 : z_ext ad0 ad 0) (hw : z_wd D M.2.2.2.2.2.1 tys A ad h H) (hS : va_S A s.heap H locs) (hv : z_hv h)
    (hR : d + 1 + 1 ≤ R.frames ∧ 35 * (d + 1) + 20 ≤ R.locals) (hroom : cells + mc ≤ R.cells ∧ slots + ms ≤ R.slots) (hlz : ls.size = nL) {as rest : List Value} (hst : st = as.reverse ++ rest) (has : ∀ v ∈ as, z_vk h.length v) (hcs : z_cs as ≤ P.2.1 a) (hrest : z_cs rest ≤ 8) (hn : as.length = b % 1000 + 1) (hrv : z_rcv T h as (P.2.2.2.1 a) = true)
    (hr : z_run T P f d a 0 (lv_args 0 as) [] h 0 0 = some (o, h2, mc, ms)) (hno : ∃ v0, o = .inl v0) (ho : z_okv P M own i a b) (hd : decode cc pc = .ok (i, 3)) :
    ∃ ar, vx_Run p l e R s m args below meth c H locs cells slots mc ms (F0 m pc ls (st.map (z_cv ad))) (rest.map (z_cv ad)) (z_Q M D tys A ad h.length o h2 ar) (z_X M D tys A ad h.length o h2) A := by
  have hM := hC d a as h o h2 mc ms hr hno hcs ad hx0 hv has
  unfold z_okv at ho
  split at ho
  · rename_i idx
    obtain ⟨hex, ⟨⟨k1, k2, k3⟩, hhead, hini, h40⟩, hin, h100, ⟨r, hcl, hrc⟩, hlink, hsel⟩ := ho
    obtain ⟨q, b9, r9, vs, rfl, e1, e2⟩ := z_recvT hfx hx0 hw hS hrv
    obtain ⟨b8, e3, hrecv⟩ := z_recv hfx.2.1 hfx.2.2.1 hx0 hw hS e1 h100 hcl
    have e4 : b8 = b9 := Option.some.inj (e3.symm.trans e2)
    subst e4
    have hh : z_head P M a = .code (M.1 a) (M.2.1 a) (P.2.1 a) (P.2.2.2.2.1 a) := by unfold z_head; rw [hex]
    have hcvq : (Value.ref q :: r9).map (z_cv ad) = .ref b8 :: r9.map (z_cv ad) := by
      rw [List.map_cons, show z_cv ad (.ref q) = .ref b8 from congrArg va_rf e2]
    rw [hh] at hM hhead
    have hws : ∀ w ∈ Cond.code (M.1 a) (M.2.1 a) (P.2.1 a) (P.2.2.2.2.1 a) :: M.2.2.2.1, w ∈ M.2.2.2.1 := fun w hw' => by
      rcases List.mem_cons.mp hw' with rfl | hw'
      · exact hhead
      · exact hw'
    have hG := z_good hok hws
    have hpV : PreV s H (M.1 a).cls b8 (va_Pc ((Value.ref q :: r9).map (z_cv ad)) (fun U => z_fx T P M D tys A ad0 U ∧ z_wd D M.2.2.2.2.2.1 tys A ad h U.heap)) (r9.map (z_cv ad)) :=
      ⟨z_blind hok, by rw [hrc] at hrecv; exact hrecv, fun U hU hW => ⟨by rw [hcvq], z_pc hok hfx hw hS U hU hW⟩⟩
    have hRR : (z_rm d mc ms).frames + 1 ≤ R.frames ∧ 8 + (P.2.1 a + 11) + (z_rm d mc ms).locals ≤ R.locals := ⟨by show d + 1 + 1 ≤ _; omega, by show 8 + (P.2.1 a + 11) + (35 * d + 20) ≤ _; omega⟩
    have hstk : (F0 m pc ls (st.map (z_cv ad))).stack = (r9.map (z_cv ad)).reverse ++ .ref b8 :: rest.map (z_cv ad) := by
      show st.map (z_cv ad) = _
      rw [hst, List.map_append, List.map_reverse, hcvq]
      simp
    have hrW : 2 * (F0 m pc ls (st.map (z_cv ad))).monitorRoom + ((rest.map (z_cv ad)).map fun v => v.category).sum ≤ 8 := by
      have e1 : ((rest.map (z_cv ad)).map fun v => v.category).sum = z_cs rest := z_cs_map ad rest
      rw [e1]
      show 2 * 0 + _ ≤ 8
      omega
    exact ⟨_, vx_runV (n := b % 1000) (C := (M.1 a).cls) ⟨hx, hb, hml, hown, hts⟩ hM ⟨callB_of (b % 1000) hts hG rfl rfl rfl (hts _ hini) (hts _ hlink) ⟨k1, k2, k3⟩ hRR, hts _ hin, hts _ hsel⟩ hpV rfl (by rw [List.length_map]; simp only [List.length_cons] at hn; omega) hlz hstk hrW hd hroom⟩
  · exact ho.elim
/-- a run that does not throw -/
theorem z_vxr {g : JFrame} {rest : List Value} {Qa : State → Outcome → State → Prop} {XC : String → State → State → Prop} {fr : Addr → Prop} (h : va_Run p l e R s m args below meth c H locs cells slots mc ms g rest Qa fr) : vx_Run p l e R s m args below meth c H locs cells slots mc ms g rest Qa XC fr := fun T hT X => Or.inl (h T hT X)
/-- a call of a constructor, or of an inherited method, from which nothing is thrown -/
theorem z_runN (hC : z_C T P M D tys A ad0 l f) (hok : z_okS T P M tys) (hx : p.tables.exec = Jvm.exec) (hb : c.code = cc) (hml : c.maxLocals = nL) (hown : s.vm.findClass own = some m.cls) (hts : ∀ w ∈ M.2.2.2.1, w.before args s = true) (hfx : z_fx T P M D tys A ad0 s) (hx0 : z_ext ad0 ad 0) (hw : z_wd D M.2.2.2.2.2.1 tys A ad h H) (hS : va_S A s.heap H locs) (hv : z_hv h)
    (hR : d + 1 + 1 ≤ R.frames ∧ 35 * (d + 1) + 20 ≤ R.locals) (hroom : cells + mc ≤ R.cells ∧ slots + ms ≤ R.slots) (hlz : ls.size = nL) {as rest : List Value} (hst : st = as.reverse ++ rest) (has : ∀ v ∈ as, z_vk h.length v) (hcs : z_cs as ≤ P.2.1 a) (hrest : z_cs rest ≤ 8) (hn : as.length = b % 1000 + 1) (hrv : z_rcv T h as (P.2.2.2.1 a) = true) {v0 : Option Value} (hov : o = .inl v0)
    (hr : z_run T P f d a 0 (lv_args 0 as) [] h 0 0 = some (o, h2, mc, ms)) (hno : ∃ v0, o = .inl v0) (ho : z_okn P M own i a b) (hd : decode cc pc = .ok (i, 3)) :
    ∃ ar, vx_Run p l e R s m args below meth c H locs cells slots mc ms (F0 m pc ls (st.map (z_cv ad))) (rest.map (z_cv ad)) (z_Q M D tys A ad h.length o h2 ar) (z_X M D tys A ad h.length o h2) A := by
  have hM0 := hC d a as h o h2 mc ms hr hno hcs ad hx0 hv has
  have hM : Met l (M.1 a) (z_head P M a :: M.2.2.2.1) (z_rm d mc ms) (va_Pc (as.map (z_cv ad)) (fun U => z_fx T P M D tys A ad0 U ∧ z_wd D M.2.2.2.2.2.1 tys A ad h U.heap)) (z_Q M D tys A ad h.length o h2) mc ms A := by
    refine z_imp hM0 (fun a0 st0 o0 t0 hq => ?_)
    rcases hq with hq | ⟨q, -, E, ce, L, ⟨e', ad2, he, -⟩, -⟩
    · exact hq
    · rw [hov] at he
      cases he
  obtain ⟨q, b8, r9, vs, rfl, e1, e2⟩ := z_recvT hfx hx0 hw hS hrv
  have hcvq : (Value.ref q :: r9).map (z_cv ad) = .ref b8 :: r9.map (z_cv ad) := by
    rw [List.map_cons, show z_cv ad (.ref q) = .ref b8 from congrArg va_rf e2]
  have hstk : (F0 m pc ls (st.map (z_cv ad))).stack = (r9.map (z_cv ad)).reverse ++ .ref b8 :: rest.map (z_cv ad) := by
    show st.map (z_cv ad) = _
    rw [hst, List.map_append, List.map_reverse, hcvq]
    simp
  have hrW : 2 * (F0 m pc ls (st.map (z_cv ad))).monitorRoom + ((rest.map (z_cv ad)).map fun v => v.category).sum ≤ 8 := by
    have e1 : ((rest.map (z_cv ad)).map fun v => v.category).sum = z_cs rest := z_cs_map ad rest
    rw [e1]
    show 2 * 0 + _ ≤ 8
    omega
  unfold z_okn at ho
  split at ho
  · rename_i idx
    obtain ⟨hex, ⟨⟨k1, k2, k3⟩, hhead, hini, h40⟩, hin, h100, r, hcl, x, hxe, hlink, hsame, hsel⟩ := ho
    obtain ⟨b7, e3, hrecv⟩ := z_recv hfx.2.1 hfx.2.2.1 hx0 hw hS e1 h100 hcl
    have e4 : b7 = b8 := Option.some.inj (e3.symm.trans e2)
    subst e4
    have hh : z_head P M a = .code (M.1 a) (M.2.1 a) (P.2.1 a) (P.2.2.2.2.1 a) := by unfold z_head; rw [hex]
    rw [hh] at hM hhead
    have hws : ∀ w ∈ Cond.code (M.1 a) (M.2.1 a) (P.2.1 a) (P.2.2.2.2.1 a) :: M.2.2.2.1, w ∈ M.2.2.2.1 := fun w hw' => by
      rcases List.mem_cons.mp hw' with rfl | hw'
      · exact hhead
      · exact hw'
    have hRR : (z_rm d mc ms).frames + 1 ≤ R.frames ∧ 8 + (P.2.1 a + 11) + (z_rm d mc ms).locals ≤ R.locals := ⟨by show d + 1 + 1 ≤ _; omega, by show 8 + (P.2.1 a + 11) + (35 * d + 20) ≤ _; omega⟩
    have hdesc : (M.1 a).desc = x.desc := by rw [hxe]
    have hG := z_good hok (ws := va_wsU own idx r.1 (M.1 a).cls x (M.1 a) (Cond.code (M.1 a) (M.2.1 a) (P.2.1 a) (P.2.2.2.2.1 a) :: M.2.2.2.1)) (fun w hw' => by
      unfold va_wsU at hw'
      rcases List.mem_append.mp hw' with h9 | h9
      · simp only [List.mem_cons, List.not_mem_nil, or_false] at h9
        rcases h9 with rfl | rfl | rfl | rfl | rfl
        · exact hlink
        · exact hsame
        · exact hsel
        · exact hin
        · exact hini
      · exact hws w h9)
    have hpV : PreV s H r.1 b7 (va_Pc ((Value.ref q :: r9).map (z_cv ad)) (fun U => z_fx T P M D tys A ad0 U ∧ z_wd D M.2.2.2.2.2.1 tys A ad h U.heap)) (r9.map (z_cv ad)) :=
      ⟨z_blind hok, hrecv, fun U hU hW => ⟨by rw [hcvq], z_pc hok hfx hw hS U hU hW⟩⟩
    have cw := va_cwU (R := R) (mc := mc) (ms := ms) (index := idx) (b % 1000) hts hG rfl (rm := z_rm d mc ms) rfl rfl hxe ⟨k1, k2, by rw [← hdesc]; exact k3⟩ hRR
    exact ⟨_, z_vxr (va_runU ⟨hx, hb, hml, hown, hts⟩ hM cw hpV rfl (by rw [List.length_map]; simp only [List.length_cons] at hn; omega) hlz hstk hrW hd hroom)⟩
  · rename_i idx
    obtain ⟨hex, ⟨⟨k1, k2, k3⟩, hhead, hini, h40⟩, hnm, hret, hin, hl⟩ := ho
    have hh : z_head P M a = .code (M.1 a) (M.2.1 a) (P.2.1 a) none := by unfold z_head; rw [hex, hret]
    rw [hh] at hM hhead
    have hws : ∀ w ∈ Cond.code (M.1 a) (M.2.1 a) (P.2.1 a) none :: M.2.2.2.1, w ∈ M.2.2.2.1 := fun w hw' => by
      rcases List.mem_cons.mp hw' with rfl | hw'
      · exact hhead
      · exact hw'
    have hG := z_good hok hws
    have hRR : (z_rm d mc ms).frames + 1 ≤ R.frames ∧ 8 + (P.2.1 a + 11) + (z_rm d mc ms).locals ≤ R.locals := ⟨by show d + 1 + 1 ≤ _; omega, by show 8 + (P.2.1 a + 11) + (35 * d + 20) ≤ _; omega⟩
    have hpS : PreS s H (va_Pc ((Value.ref q :: r9).map (z_cv ad)) (fun U => z_fx T P M D tys A ad0 U ∧ z_wd D M.2.2.2.2.2.1 tys A ad h U.heap)) (.ref b8 :: r9.map (z_cv ad)) := ⟨z_blind hok, fun U hU hW => ⟨by rw [hcvq], z_pc hok hfx hw hS U hU hW⟩⟩
    rcases hl with hl | ⟨host, hl⟩
    · exact ⟨_, z_vxr (va_runI (n := b % 1000) ⟨hx, hb, hml, hown, hts⟩ hM (cwI (b % 1000) hts hG rfl rfl rfl (hts _ hini) (hts _ hl) (hts _ hin) hnm ⟨k1, k2, k3⟩ hRR) hpS rfl (by rw [List.length_map]; simp only [List.length_cons] at hn; omega) hlz hstk hrW hd hroom)⟩
    · exact ⟨_, z_vxr (va_runIN (n := b % 1000) ⟨hx, hb, hml, hown, hts⟩ hM ⟨va_cnB (b % 1000) hts hG rfl rfl rfl (hfx.2.2.1.2.2.2.2.2 _ hl) (hts _ hini) ⟨k1, k2, k3⟩ hRR, hnm, hts _ hin⟩ hpS rfl (by rw [List.length_map]; simp only [List.length_cons] at hn; omega) hlz hstk hrW hd hroom)⟩
  · exact ho.elim
theorem z_kind_le (i : Instr) (a b : Nat) : z_kind i a b ≤ 7 := by
  unfold z_kind
  split <;> first
    | exact Nat.le_of_ble_eq_true rfl
    | (cases Nat.ble 1000 b <;> exact Nat.le_of_ble_eq_true rfl)
    | (cases Nat.beq a 9999 <;> exact Nat.le_of_ble_eq_true rfl)
    | (cases Nat.ble 9997 a <;> exact Nat.le_of_ble_eq_true rfl)
/-- a call -/
theorem z_runA (hC : z_C T P M D tys A ad0 l f) (hok : z_okS T P M tys) (hx : p.tables.exec = Jvm.exec) (hb : c.code = cc) (hml : c.maxLocals = nL) (hown : s.vm.findClass own = some m.cls) (hts : ∀ w ∈ M.2.2.2.1, w.before args s = true) (hfx : z_fx T P M D tys A ad0 s) (hx0 : z_ext ad0 ad 0) (hw : z_wd D M.2.2.2.2.2.1 tys A ad h H) (hS : va_S A s.heap H locs) (hv : z_hv h)
    (hR : d + 1 + 1 ≤ R.frames ∧ 35 * (d + 1) + 20 ≤ R.locals) (hroom : cells + mc ≤ R.cells ∧ slots + ms ≤ R.slots) (hlz : ls.size = nL) (hsv : ∀ v ∈ st, z_vk h.length v) {k : Nat} (hc1 : z_nn k b ≤ st.length) (hrest : z_cs (st.drop (z_nn k b)) ≤ 8) (hcs : z_cs (st.take (z_nn k b)) ≤ P.2.1 a) (hrv : k ≠ 3 → z_rcv T h (st.take (z_nn k b)).reverse (P.2.2.2.1 a) = true)
    (hr : z_run T P f d a 0 (lv_args 0 (st.take (z_nn k b)).reverse) [] h 0 0 = some (o, h2, mc, ms)) (hno : ∃ v0, o = .inl v0) (ho : (k = 2 ∧ z_okv P M own i a b) ∨ (k = 3 ∧ z_oks P M own i a b) ∨ (k = 7 ∧ z_okn P M own i a b ∧ ∃ v0, o = .inl v0)) (hd : decode cc pc = .ok (i, 3)) :
    ∃ ar, vx_Run p l e R s m args below meth c H locs cells slots mc ms (F0 m pc ls (st.map (z_cv ad))) ((st.drop (z_nn k b)).map (z_cv ad)) (z_Q M D tys A ad h.length o h2 ar) (z_X M D tys A ad h.length o h2) A := by
  have hst : st = (st.take (z_nn k b)).reverse.reverse ++ st.drop (z_nn k b) := by rw [List.reverse_reverse, List.take_append_drop]
  have has : ∀ v ∈ (st.take (z_nn k b)).reverse, z_vk h.length v := fun v hv' => hsv v (List.mem_of_mem_take (List.mem_reverse.mp hv'))
  have hcs2 : z_cs (st.take (z_nn k b)).reverse ≤ P.2.1 a := by rw [z_cs_rev]; exact hcs
  have hlen : (st.take (z_nn k b)).reverse.length = z_nn k b := by rw [List.length_reverse, List.length_take]; omega
  rcases ho with ⟨rfl, ho⟩ | ⟨rfl, ho⟩ | ⟨rfl, ho, v0, hv0⟩
  · exact z_runV hC hok hx hb hml hown hts hfx hx0 hw hS hv hR hroom hlz hst has hcs2 hrest (by rw [hlen]; rfl) (hrv (by decide)) hr hno ho hd
  · exact z_runS hC hok hx hb hml hown hts hfx hx0 hw hS hv hR hroom hlz hst has hcs2 hrest (by rw [hlen]; rfl) hr hno ho hd
  · exact z_runN hC hok hx hb hml hown hts hfx hx0 hw hS hv hR hroom hlz hst has hcs2 hrest (by rw [hlen]; rfl) (hrv (by decide)) hv0 hr hno ho hd
end ZD
set_option maxHeartbeats 4000000 in
theorem z_Sall {T : zT} {P : zP} {M : zM} {D : va_G} {tys : List (ClassId × FieldType)} {A : Nat → Prop} {ad0 : Nat → Option Nat} {l : Launch} (hok : z_okS T P M tys) (hl0 : l.stackTraces = false) (hnh : ∀ y, P.2.2.1 y = []) : ∀ f : Nat, z_S T P M D tys A ad0 l f := by
  intro f
  induction f with
  | zero => intro d y pc lv st h cs ss o h2 c2 s2 e; cases e
  | succ f ih =>
    intro d y pc lv st h cs ss o h2 c2 s2 er hno p e R s m args below meth c H locs ls ad ad1 n0 Q hx hb hml hown hts hnm htab hfx hR hc2 hs2 hx0 hx1 hn0 hw hS hv hlv hsv hl K1
    have hmono := z_run_mono T P (f + 1) d y pc lv st h cs ss o h2 c2 s2 er
    rw [z_run] at er
    split at er
    · cases er
    · rename_i i len a b e1
      have hq := ((hok.2.2.2.2.2.2 y).2).1 _ (z_at_in e1)
      have hxt := ((hok.2.2.2.2.2.2 y).2).2
      unfold z_oke at hq
      obtain ⟨hd, hq⟩ := hq
      have hlz : ls.size = P.2.1 y := hl.1
      split at er
      · rename_i hk
        rw [hk] at hq
        split at er
        · rename_i pc2 lv2 st2 e2
          have hval := z_loc_v e2 hlv hsv
          exact z_loc_ok e2 hd hq.1 hq.2 hx hb hl (fun ls2 hl2 => ih d y pc2 lv2 st2 h cs ss o h2 c2 s2 er hno p e R s m args below meth c H locs ls2 ad ad1 n0 Q hx hb hml hown hts hnm htab hfx hR hc2 hs2 hx0 hx1 hn0 hw hS hv hval.1 hval.2 hl2 K1)
        · cases er
      · rename_i hk
        rw [hk] at hq
        split at er
        · rename_i pc2 st2 h3 dc ds e2
          have hm := z_run_mono T P f d y pc2 lv st2 h3 (cs + dc) (ss + ds) o h2 c2 s2 er
          exact z_hp_ok e2 hq hok.1 hok.2.1 hok.2.2.1 hok.2.2.2.1 hts hown hx hb hml hlz hnm hfx.2.1 hfx.2.2.1 hx0 hw hS hfx.1 hv hsv ⟨by omega, by omega⟩ ⟨by omega, by omega⟩ hd (fun ad2 H2 locs2 hext hw2 hS2 hv2 hle hsv2 =>
            ih d y pc2 lv st2 h3 (cs + dc) (ss + ds) o h2 c2 s2 er hno p e R s m args below meth c H2 locs2 ls ad2 ad1 n0 Q hx hb hml hown hts hnm htab hfx hR hc2 hs2 (hx0.tr hext (Nat.zero_le _)) (hx1.tr hext hn0) (Nat.le_trans hn0 hle) hw2 hS2 hv2 (fun q hq' => (hlv q hq').le hle) hsv2 (by rw [z_lvm_ext hext hlv]; exact hl) K1)
        · cases er
      · rename_i hk
        rw [hk] at hq
        split at er
        · rename_i v r
          split at er
          · rename_i hr
            cases er
            obtain ⟨rfl, hr⟩ := hr
            subst hq
            exact K1 pc i (some v) ls H locs ad hd rfl hr hx1 hw hS hv hn0 (fun w hw' => by cases hw'; exact hsv _ List.mem_cons_self)
          · cases er
        · cases er
      · rename_i hk
        rw [hk] at hq
        split at er
        · rename_i hr
          cases er
          obtain ⟨rfl, hr⟩ := hr
          obtain ⟨rfl, rfl⟩ := hq
          exact K1 pc .return_ none ls H locs ad hd rfl ⟨rfl, hr⟩ hx1 hw hS hv hn0 (fun w hw' => by cases hw')
        · cases er
      · rename_i hk
        rw [hk] at hq
        split at er
        · rename_i hr
          cases er
          obtain ⟨v0, hv0⟩ := hno
          cases hv0
        · cases er
      · rename_i hk0 hk1 hk4 hk5 hk6
        have hk7 := z_kind_le i a b
        split at er
        · cases er
        · rename_i d'
          have hR' : d' + 1 + 1 ≤ R.frames ∧ 35 * (d' + 1) + 20 ≤ R.locals := hR
          have hk3 : z_kind i a b = 2 ∨ z_kind i a b = 3 ∨ z_kind i a b = 7 := by
            have g0 : z_kind i a b ≠ 0 := hk0
            have g1 : z_kind i a b ≠ 1 := hk1
            have g4 : z_kind i a b ≠ 4 := hk4
            have g5 : z_kind i a b ≠ 5 := hk5
            have g6 : z_kind i a b ≠ 6 := hk6
            omega
          generalize hkk : z_kind i a b = k at *
          have hq3 : decode (M.2.1 y) pc = .ok (i, 3) ∧ ((k = 2 ∧ z_okv P M (M.1 y).cls i a b) ∨ (k = 3 ∧ z_oks P M (M.1 y).cls i a b) ∨ (k = 7 ∧ z_okn P M (M.1 y).cls i a b)) := by
            rcases hk3 with rfl | rfl | rfl
            · obtain ⟨rfl, hq⟩ := hq
              exact ⟨hd, Or.inl ⟨rfl, hq⟩⟩
            · obtain ⟨rfl, hq⟩ := hq
              exact ⟨hd, Or.inr (Or.inl ⟨rfl, hq⟩)⟩
            · obtain ⟨rfl, hq⟩ := hq
              exact ⟨hd, Or.inr (Or.inr ⟨rfl, hq⟩)⟩
          have hC := z_con (ad0 := ad0) (A := A) (D := D) ih hok hl0
          split at er
          · rename_i hc
            obtain ⟨hc1, hc3, hc4, hc5⟩ := hc
            have hrv : ∀ v ∈ st.drop (z_nn k b), z_vk h.length v := fun v hv' => hsv v (List.mem_of_mem_drop hv')
            split at er
            · cases er
            · rename_i ov h3 dc ds e2
              have hm := z_run_mono T P f (d' + 1) y (pc + 3) lv (ov.toList ++ st.drop (z_nn k b)) h3 (cs + dc) (ss + ds) o h2 c2 s2 er
              have ho3 : (k = 2 ∧ z_okv P M (M.1 y).cls i a b) ∨ (k = 3 ∧ z_oks P M (M.1 y).cls i a b) ∨ (k = 7 ∧ z_okn P M (M.1 y).cls i a b ∧ ∃ v0, (Sum.inl ov : Option Value ⊕ Nat) = .inl v0) := by
                rcases hq3.2 with g | g | g
                · exact Or.inl g
                · exact Or.inr (Or.inl g)
                · exact Or.inr (Or.inr ⟨g.1, g.2, ov, rfl⟩)
              obtain ⟨ar, hrun⟩ := z_runA (slots := ss) (cells := cs) (e := e) (below := below) (meth := meth) hC hok hx hb hml hown hts hfx hx0 hw hS hv hR' ⟨by omega, by omega⟩ hlz hsv hc1 hc3 hc4 hc5 e2 ⟨ov, rfl⟩ ho3 hq3.1
              refine z_after hrun hS (fun v st0 t locs1 h0 hal hQ hF => ?_) (fun E q ce st0 t locs1 h0 hal hX hF hce hcv hcl => ?_)
              · obtain ⟨⟨v', ad2, ho, hoc, hext, hw2, hv2, hle, hvv⟩, hF'⟩ := hQ
                cases ho
                have hv9 : v = ov.map (z_cv ad2) := by injection hoc
                subst hv9
                have estk : (ov.map (z_cv ad2)).toList ++ (st.drop (z_nn k b)).map (z_cv ad) = (ov.toList ++ st.drop (z_nn k b)).map (z_cv ad2) := by
                  rw [List.map_append, z_map_ext hext hrv]
                  cases ov <;> rfl
                rw [estk]
                refine ih (d' + 1) y (pc + 3) lv (ov.toList ++ st.drop (z_nn k b)) h3 (cs + dc) (ss + ds) o h2 c2 s2 er hno p e R s m args below meth c t.heap locs1 ls ad2 ad1 n0 Q hx hb hml hown hts hnm htab hfx hR hc2 hs2 (hx0.tr hext (Nat.zero_le _)) (hx1.tr hext hn0) (Nat.le_trans hn0 hle) hw2 (hF hF') hv2 (fun q hq' => (hlv q hq').le hle) (fun u hu => ?_) (by rw [z_lvm_ext hext hlv]; exact hl) K1
                rcases List.mem_append.mp hu with hu | hu
                · cases ov with
                  | none => cases hu
                  | some w =>
                    rw [Option.toList_some, List.mem_singleton] at hu
                    subst hu
                    exact hvv _ rfl
                · exact (hrv u hu).le hle
              · obtain ⟨e', ad2, ho, -⟩ := hX
                cases ho
            · rename_i ex h3 dc ds e2
              split at er
              · cases er
              · rw [hnh y] at er
                cases er
                obtain ⟨v0, hv0⟩ := hno
                cases hv0
          · cases er
