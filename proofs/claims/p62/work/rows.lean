section
-- ===== PART A: goes FIRST, ahead of the names: the tables' words, and 'selects' of the private methods out of them =====
/-- a private method of a class that the tables say can be made, by its rows of tables_1 -/
def lw_okq (q : MethodName × Nat) : Prop := (q.1.cls ≠ "java/lang/invoke/MethodHandle" ∧ q.1.cls ≠ "java/lang/invoke/VarHandle") ∧ Cond.instantiable q.1.cls q.2 ∈ tables_1 ∧ Cond.privateMethod q.1 ∈ tables_1 ∧ Cond.instanceMethod q.1 ∈ tables_1
theorem lw_p0 : lw_okq (⟨"LyndonBench", "checkLetter", "(I)V"⟩, 7) := ⟨⟨by decide +kernel, by decide +kernel⟩, List.mem_of_getElem? (i := 19) (by decide +kernel), List.mem_of_getElem? (i := 281) (by decide +kernel), List.mem_of_getElem? (i := 282) (by decide +kernel)⟩
theorem lw_p1 : lw_okq (⟨"java/lang/Throwable", "fillInStackTrace", "(I)Ljava/lang/Throwable;"⟩, 6) := ⟨⟨by decide +kernel, by decide +kernel⟩, List.mem_of_getElem? (i := 327) (by decide +kernel), List.mem_of_getElem? (i := 325) (by decide +kernel), List.mem_of_getElem? (i := 326) (by decide +kernel)⟩
theorem lw_p2 : lw_okq (⟨"LyndonBench$History", "forgetOldest", "()V"⟩, 2) := ⟨⟨by decide +kernel, by decide +kernel⟩, List.mem_of_getElem? (i := 69) (by decide +kernel), List.mem_of_getElem? (i := 376) (by decide +kernel), List.mem_of_getElem? (i := 377) (by decide +kernel)⟩
theorem lw_p3 : lw_okq (⟨"LyndonBench", "checkCount", "(I)V"⟩, 7) := ⟨⟨by decide +kernel, by decide +kernel⟩, List.mem_of_getElem? (i := 19) (by decide +kernel), List.mem_of_getElem? (i := 404) (by decide +kernel), List.mem_of_getElem? (i := 405) (by decide +kernel)⟩
theorem lw_p4 : lw_okq (⟨"LyndonBench$Word", "put", "(II)V"⟩, 2) := ⟨⟨by decide +kernel, by decide +kernel⟩, List.mem_of_getElem? (i := 33) (by decide +kernel), List.mem_of_getElem? (i := 425) (by decide +kernel), List.mem_of_getElem? (i := 426) (by decide +kernel)⟩
theorem lw_p5 : lw_okq (⟨"LyndonBench$Word", "atAround", "(I)I"⟩, 2) := ⟨⟨by decide +kernel, by decide +kernel⟩, List.mem_of_getElem? (i := 33) (by decide +kernel), List.mem_of_getElem? (i := 443) (by decide +kernel), List.mem_of_getElem? (i := 444) (by decide +kernel)⟩
theorem lw_p6 : lw_okq (⟨"LyndonBench", "checkedBegin", "(I)I"⟩, 7) := ⟨⟨by decide +kernel, by decide +kernel⟩, List.mem_of_getElem? (i := 19) (by decide +kernel), List.mem_of_getElem? (i := 497) (by decide +kernel), List.mem_of_getElem? (i := 498) (by decide +kernel)⟩
theorem lw_p7 : lw_okq (⟨"LyndonBench", "checkPart", "(II)V"⟩, 7) := ⟨⟨by decide +kernel, by decide +kernel⟩, List.mem_of_getElem? (i := 19) (by decide +kernel), List.mem_of_getElem? (i := 575) (by decide +kernel), List.mem_of_getElem? (i := 576) (by decide +kernel)⟩
def lw_privs_1 : List (MethodName × Nat) := [(⟨"LyndonBench", "checkLetter", "(I)V"⟩, 7), (⟨"java/lang/Throwable", "fillInStackTrace", "(I)Ljava/lang/Throwable;"⟩, 6), (⟨"LyndonBench$History", "forgetOldest", "()V"⟩, 2), (⟨"LyndonBench", "checkCount", "(I)V"⟩, 7), (⟨"LyndonBench$Word", "put", "(II)V"⟩, 2), (⟨"LyndonBench$Word", "atAround", "(I)I"⟩, 2), (⟨"LyndonBench", "checkedBegin", "(I)I"⟩, 7), (⟨"LyndonBench", "checkPart", "(II)V"⟩, 7)]
theorem lw_r1 : ∀ q ∈ lw_privs_1, lw_okq q := List.forall_mem_cons.mpr ⟨lw_p0, List.forall_mem_cons.mpr ⟨lw_p1, List.forall_mem_cons.mpr ⟨lw_p2, List.forall_mem_cons.mpr ⟨lw_p3, List.forall_mem_cons.mpr ⟨lw_p4, List.forall_mem_cons.mpr ⟨lw_p5, List.forall_mem_cons.mpr ⟨lw_p6, List.forall_mem_cons.mpr ⟨lw_p7, fun _ h => absurd h List.not_mem_nil⟩⟩⟩⟩⟩⟩⟩⟩
def lw_privs : List (MethodName × Nat) := lw_privs_1
def lw_tbl : List Cond := k2_sels lw_privs ++ tables_1
theorem lw_privs_ok : ∀ q ∈ lw_privs, lw_okq q := lw_r1
end
section
/-! ===== BEGIN words of one list among another's, by their places ===== -/
theorem goodIn_r {big : List Cond} (ws : List Cond) (ps : List Nat) (hp : ws = ps.filterMap (fun i => big[i]?)) (h : ws.all goodWord = true) : GoodIn big ws := by
  intro w hw
  have h1 := List.all_eq_true.mp h w hw
  rw [hp] at hw
  obtain ⟨i, -, hi⟩ := List.mem_filterMap.mp hw
  have hm : w ∈ big := by first | exact List.mem_of_getElem? hi | exact List.getElem?_mem hi
  exact ⟨hm, good_of_word h1⟩
theorem goodIn_app {big a b : List Cond} (ha : GoodIn big a) (hb : GoodIn big b) : GoodIn big (a ++ b) := fun w h => (List.mem_append.mp h).elim (ha w) (hb w)
theorem goodIn_ca {big a b : List Cond} {c : Cond} (ha : GoodIn big (c :: a)) (hb : GoodIn big b) : GoodIn big (c :: (a ++ b)) := fun w h => (List.mem_cons.mp h).elim (fun e => ha w (List.mem_cons.mpr (Or.inl e))) (fun h => (List.mem_append.mp h).elim (fun h => ha w (List.mem_cons.mpr (Or.inr h))) (hb w))
theorem goodIn_sub {big ws : List Cond} (hm : ∀ w ∈ ws, w ∈ big) (h : ws.all goodWord = true) : GoodIn big ws := fun w hw => ⟨hm w hw, good_of_word (List.all_eq_true.mp h w hw)⟩
/-! ===== END ===== -/

/-! ===== BEGIN exceptions that leave a method, and their catching by the caller (launches without stack traces) ===== -/
section VXA
/-! The laws vx_back, vx_callV, vx_callS, vx_callSW, vx_throw0, vx_throwS follow proofs of the library, with one case more: JvmDerived/Free/Laws.lean (Back.of_free), Shelf42/LK1.lean (callV, callS), Shelf/KitTraced.lean (throwNew0V, throwNewS). -/
/-- where a method has thrown q: the class by its name, the cell, what was written, the world -/
def vx_T (XC : String → State → State → Prop) (st : State) (q : Addr) (t : State) (mc ms : Nat) (free : Addr → Prop) : Prop :=
  ∃ (E : String) (ce : Cell) (L : List Loc), XC E st t ∧ t.heap[q]? = some ce ∧ ce.vm = .none ∧ st.vm.findClass E = some ce.cls ∧ st.WarmedH t.vm ∧ st.sameButNew ({ t with vm := st.vm } : State) L mc ms ∧ ∀ z ∈ L, free z.base
def vx_Q (Qc : Array Value → State → Outcome → State → Prop) (XC : String → State → State → Prop) (mc ms : Nat) (free : Addr → Prop) : Array Value → State → Outcome → State → Prop := fun a st o t =>
  (Qc a st o t ∧ ∃ L, FrameEnd st o t L mc ms ∧ ∀ q ∈ L, free q.base) ∨ ∃ q, o = .threw q ∧ vx_T XC st q t mc ms free
/-- a callee that returns or throws -/
def vx_Met (l : Launch) (y : MethodName) (ws : List Cond) (rm : Room) (Pc : Array Value → State → Prop) (Qc : Array Value → State → Outcome → State → Prop) (XC : String → State → State → Prop) (mc ms : Nat) (free : Addr → Prop) : Prop :=
  MetFree l y (headSpec ws rm) Pc (fun _ _ _ _ _ => True) (vx_Q Qc XC mc ms free)
def vx_Post (XC : String → State → State → Prop) (mc ms : Nat) (free : Addr → Prop) : Pt → Array Value → Addr → Pt → Prop := fun A a q B =>
  ∃ (g : JFrame) (mk : MethodId) (t : State) (L : List Loc) (E : String) (ce : Cell), B.U.heap = t.heap ∧ B.U.vm = t.vm ∧ XC E (A.U.calling g mk a) t ∧ t.heap[q]? = some ce ∧ ce.vm = .none ∧ A.U.vm.findClass E = some ce.cls ∧ B.locs = A.locs ++ L ∧ (∀ z ∈ L, free z.base) ∧ B.cells = A.cells + mc ∧ B.slots = A.slots + ms
def vx_Back (l : Launch) (R : Room) (p : Program) (e : Env) (below : List Frame) (s : State) (sargs : Array Value) (y : MethodName) (len W9 : Nat)
    (Pre : Pt → Array Value → Prop) (Post : Pt → Array Value → Option Value → Pt → Prop) (PostX : Pt → Array Value → Addr → Pt → Prop) : Prop :=
  ∀ (m : MethodId) (meth : Method) (c : Code) (A : Pt) (g : JFrame) (ig : Instr) (mk : MethodId) (a : Array Value),
    Stand p l e R s m sargs below meth c A.U A.locs A.cells A.slots → g.method = m → g.locals.size = c.maxLocals → decode c.code g.pc = .ok (ig, len) →
    2 * g.monitorRoom + (g.stack.map fun v => v.category).sum ≤ W9 → A.U.methodNamed? y = some mk → Pre A a →
    (∃ (v : Option Value) (B : Pt), Stand p l e R s m sargs below meth c B.U B.locs B.cells B.slots ∧ Post A a v B ∧
      Steps p.tables e below (doInvoke e (A.U.setTop g) [] mk a).1 (B.U.setTop { g with pc := g.pc + len, stack := v.toList ++ g.stack })) ∨
    (∃ (q : Addr) (B : Pt), Stand p l e R s m sargs below meth c B.U B.locs B.cells B.slots ∧ PostX A a q B ∧
      Steps p.tables e below (doInvoke e (A.U.setTop g) [] mk a).1 ((B.U.setTop g).pushFrame (.throwing q)))
section Payer
variable {l : Launch} {R : Room} {p : Program} {e : Env} {below : List Frame} {s : State} {sargs : Array Value} {y : MethodName} {len W9 : Nat}
theorem vx_back {ws : List Cond} {rm : Room} {Pc : Array Value → State → Prop} {Qc : Array Value → State → Outcome → State → Prop} {XC : String → State → State → Prop} {mc ms : Nat} {free : Addr → Prop} {bytes : ByteArray} {maxL : Nat} {ret : Option FieldType}
    (hM : vx_Met l y ws rm Pc Qc XC mc ms free) (hblind : FrameBlind Pc) (hrc : rm.cells = mc) (hrs : rm.slots = ms)
    (hframes : rm.frames + 1 ≤ R.frames) (hlocals : W9 + (maxL + 11) + rm.locals ≤ R.locals)
    (hws : ∀ w ∈ ws, ∀ a' U, s.WarmedH U.vm → w.before a' U = true) (hcode : Cond.code y bytes maxL ret ∈ ws) (hinit : ∀ a' U, s.WarmedH U.vm → (Cond.initialized y.cls).before a' U = true) :
    vx_Back l R p e below s sargs y len W9 (PreOf R mc ms Pc) (PostOf Qc mc ms free) (vx_Post XC mc ms free) := by
  intro m meth c A g ig mk a X hg hsize hdg hW hn hp
  have h1 : (headSpec ws rm).pre.before a A.U = true := atoms_intro fun w hw => hws w hw _ _ X.warmed
  have h2 : (Cond.code y bytes maxL ret).before a A.U = true := hws _ hcode _ _ X.warmed
  have h3 : (Cond.initialized y.cls).before a A.U = true := hinit _ _ X.warmed
  have h4 : A.cells + (headSpec ws rm).room.cells ≤ R.cells := by rw [show (headSpec ws rm).room.cells = mc from hrc]; exact hp.1
  have h5 : A.slots + (headSpec ws rm).room.slots ≤ R.slots := by rw [show (headSpec ws rm).room.slots = ms from hrs]; exact hp.2.1
  have hPc : Pc a (A.U.calling g mk a) := hblind _ _ _ _ hp.2.2
  obtain ⟨U, Ls, c0, s0⟩ := A
  dsimp only [Pt.U, Pt.locs, Pt.cells, Pt.slots] at h1 h2 h3 h4 h5 X hn hPc ⊢
  obtain ⟨methY, cY, hmY, hcY, -, hlY, -, -, -, -⟩ := Cond.code_spec hn h2
  obtain ⟨kY, hkY, -⟩ := className_of_methodNamed hn
  have hinitY : kY.init = .initialized := Cond.initialized_spec (findClass_of_methodNamed hn) hkY h3
  have h : At U g.method c below := by rw [hg]; exact X.here
  have hlocals9 : W9 + (maxL + 11) + (headSpec ws rm).room.locals ≤ R.locals := hlocals
  have happ : (headSpec ws rm).appliesLoose y e.platform (U.calling g mk a) = true :=
    Spec.appliesLoose_calling (g := g) h hdg hn hkY hinitY
      (X.room_calling (g := g) (R' := (headSpec ws rm).room) hsize hmY hcY hframes (by rw [hlY]; omega) h4 h5) h1
  obtain ⟨mid, hmid⟩ := h.above
  have hfr : (U.setTop g).frames = (.java g :: mid) ++ below := by rw [State.frames_setTop' g h.top, hmid]; rfl
  obtain ⟨o, s₂, hsteps, -, hend, hq⟩ := Steps.callFree hM p X.admits X.cas X.clock (acts := []) hfr happ hPc trivial
  have hq' : vx_Q Qc XC mc ms free a (U.calling g mk a) o s₂ := hq
  rw [State.frames_setTop' g h.top] at hend
  obtain ⟨g₀, hg0⟩ := Option.isSome_iff_exists.mp h.top
  obtain ⟨r, hr⟩ := State.topJava?_eq_some.mp hg0
  have hr' : (({ U with heap := s₂.heap, slotsUsed := s₂.slotsUsed } : State).setVm s₂.vm).frames = .java g₀ :: r := hr
  rcases hq' with ⟨hqc, L, hfe, hL⟩ | ⟨q, rfl, E, ce, L, hx, hce, hcv, hcl, hW₂, hsm, hL⟩
  · obtain ⟨⟨v, rfl⟩, hW₂, e2, q2, q3, q4, q5, q6⟩ := id hfe
    have e3 : s₂ = ({ (U.calling g mk a).setFrames s₂.frames with heap := s₂.heap, slotsUsed := s₂.slotsUsed } : State).setVm s₂.vm := by
      have : s₂ = ({ s₂ with vm := (U.calling g mk a).vm } : State).setVm s₂.vm := rfl
      rw [e2] at this
      exact this
    obtain ⟨c₂, i₂, len₂, hc₂, hd₂, hf₂⟩ := hend
    have hW' : U.WarmedH s₂.vm := hW₂
    have hcc : c₂ = c := by
      have h1 : s₂.code? g.method = U.code? g.method := by
        rw [State.code?_eq, State.code?_eq, hW'.alike.method?]
      exact Option.some.inj (hc₂.symm.trans (h1.trans h.code))
    subst hcc
    have hlen : len₂ = len := by rw [hdg] at hd₂; cases hd₂; rfl
    subst hlen
    have hs₂ : s₂ = (({ U with heap := s₂.heap, slotsUsed := s₂.slotsUsed } : State).setVm s₂.vm).setTop { g with pc := g.pc + len₂, stack := v.toList ++ g.stack } := by
      refine e3.trans ?_
      rw [hf₂, State.calling_eq h.top, State.setFrames_setFrames, State.setTop_of_frames _ hr', hr]
      rfl
    have hsame : U.sameButNew ({ U with heap := s₂.heap, slotsUsed := s₂.slotsUsed } : State) L mc ms := by
      refine ⟨?_, q2, q3, q4, q5, q6⟩
      obtain ⟨t, ht, -⟩ := State.frames_cons hr
      show ({ U with heap := s₂.heap, slotsUsed := s₂.slotsUsed } : State) = { U.setFrames U.frames with heap := s₂.heap, slotsUsed := s₂.slotsUsed }
      rw [State.setFrames_self ht]
    subst hg
    refine Or.inl ⟨v, ⟨(({ U with heap := s₂.heap, slotsUsed := s₂.slotsUsed } : State).setVm s₂.vm), Ls ++ L, c0 + mc, s0 + ms⟩,
      ⟨X.admits, X.cas, X.clock, X.frames, X.room, X.hears, X.method, X.code, (X.here.setHeapUsed s₂.heap s₂.slotsUsed).setVm hW'.alike, X.tail, State.WarmedH.trans X.warmed hW', X.limits, X.bytes, X.same.trans (hsame.setVm s.vm)⟩,
      ⟨g, mk, s₂, L, rfl, rfl, hqc, rfl, hL, rfl, rfl⟩, ?_⟩
    show Steps p.tables e below _ ((({ U with heap := s₂.heap, slotsUsed := s₂.slotsUsed } : State).setVm s₂.vm).setTop { g with pc := g.pc + len₂, stack := v.toList ++ g.stack })
    rw [← hs₂]
    exact hsteps
  · obtain ⟨e2, q2, q3, q4, q5, q6⟩ := id hsm
    have e3 : s₂ = ({ (U.calling g mk a).setFrames s₂.frames with heap := s₂.heap, slotsUsed := s₂.slotsUsed } : State).setVm s₂.vm := by
      have : s₂ = ({ s₂ with vm := (U.calling g mk a).vm } : State).setVm s₂.vm := rfl
      rw [e2] at this
      exact this
    have hf₂ : s₂.frames = .throwing q :: .java g :: U.frames.tail := hend
    have hW' : U.WarmedH s₂.vm := hW₂
    have hs₂ : s₂ = ((({ U with heap := s₂.heap, slotsUsed := s₂.slotsUsed } : State).setVm s₂.vm).setTop g).pushFrame (.throwing q) := by
      refine e3.trans ?_
      rw [hf₂, State.calling_eq h.top, State.setFrames_setFrames, State.pushFrame, State.frames_setTop _ hr', State.setTop_of_frames _ hr', State.setFrames_setFrames, hr]
      rfl
    have hsame : U.sameButNew ({ U with heap := s₂.heap, slotsUsed := s₂.slotsUsed } : State) L mc ms := by
      refine ⟨?_, q2, q3, q4, q5, q6⟩
      obtain ⟨t, ht, -⟩ := State.frames_cons hr
      show ({ U with heap := s₂.heap, slotsUsed := s₂.slotsUsed } : State) = { U.setFrames U.frames with heap := s₂.heap, slotsUsed := s₂.slotsUsed }
      rw [State.setFrames_self ht]
    subst hg
    refine Or.inr ⟨q, ⟨(({ U with heap := s₂.heap, slotsUsed := s₂.slotsUsed } : State).setVm s₂.vm), Ls ++ L, c0 + mc, s0 + ms⟩,
      ⟨X.admits, X.cas, X.clock, X.frames, X.room, X.hears, X.method, X.code, (X.here.setHeapUsed s₂.heap s₂.slotsUsed).setVm hW'.alike, X.tail, State.WarmedH.trans X.warmed hW', X.limits, X.bytes, X.same.trans (hsame.setVm s.vm)⟩,
      ⟨g, mk, s₂, L, E, ce, rfl, rfl, hx, hce, hcv, hcl, rfl, hL, rfl, rfl⟩, ?_⟩
    show Steps p.tables e below _ (((({ U with heap := s₂.heap, slotsUsed := s₂.slotsUsed } : State).setVm s₂.vm).setTop g).pushFrame (.throwing q))
    rw [← hs₂]
    exact hsteps
end Payer
section Calls
variable {p : Program} {l : Launch} {e : Env} {R : Room} {s : State} {m : MethodId} {args : Array Value} {below : List Frame} {meth : Method} {c : Code} {T : State} {locs : List Loc} {cells slots : Nat}
theorem vx_callV (X : Stand p l e R s m args below meth c T locs cells slots) (hexec : p.tables.exec = Jvm.exec) {own C : String} {index : Nat} {y : MethodName} {bytes : ByteArray} {maxL : Nat} {ret : Option FieldType}
    (hown : s.vm.findClass own = some m.cls) (hlink : (Cond.methodLink own index y).before args s = true) (hinst : (Cond.instanceMethod y).before args s = true) (hsel : (Cond.selects C y y).before args s = true)
    (hcode : (Cond.code y bytes maxL ret).before args s = true) (hy : y.cls ≠ "java/lang/invoke/MethodHandle" ∧ y.cls ≠ "java/lang/invoke/VarHandle")
    {W9 : Nat} {Pre : Pt → Array Value → Prop} {Post : Pt → Array Value → Option Value → Pt → Prop} {PostX : Pt → Array Value → Addr → Pt → Prop} (hK : vx_Back l R p e below s args y 3 W9 Pre Post PostX)
    {b : Addr} {cellB : Cell} (hcell : T.heap[b]? = some cellB) (hobj : cellB.vm.isStatics = false) (hcls : s.vm.findClass C = some cellB.cls)
    {g : JFrame} (hg : g.method = m) (hsize : g.locals.size = c.maxLocals) {argsL rest : List Value} (hlen : ∀ sig, parseMethodDescriptor y.desc = some sig → argsL.length = sig.parameters.length)
    (hstack : g.stack = argsL.reverse ++ .ref b :: rest) (hW : 2 * g.monitorRoom + (rest.map fun v => v.category).sum ≤ W9) (hdg : decode c.code g.pc = .ok (.invokevirtual index, 3))
    (hpre : ∀ vm₁, s.WarmedH vm₁ → Pre ⟨T.setVm vm₁, locs, cells, slots⟩ (Value.ref b :: argsL).toArray) :
    (∃ (v : Option Value) (vm₁ : Vm) (B : Pt), s.WarmedH vm₁ ∧ Stand p l e R s m args below meth c B.U B.locs B.cells B.slots ∧ Post ⟨T.setVm vm₁, locs, cells, slots⟩ (Value.ref b :: argsL).toArray v B ∧
      ∀ target, Steps p.tables e below (B.U.setTop { g with pc := g.pc + 3, stack := v.toList ++ rest }) target → Steps p.tables e below (T.setTop g) target) ∨
    (∃ (q : Addr) (vm₁ : Vm) (B : Pt), s.WarmedH vm₁ ∧ Stand p l e R s m args below meth c B.U B.locs B.cells B.slots ∧ PostX ⟨T.setVm vm₁, locs, cells, slots⟩ (Value.ref b :: argsL).toArray q B ∧
      Steps p.tables e below (T.setTop g) ((B.U.setTop { g with stack := rest }).pushFrame (.throwing q))) := by
  obtain ⟨mk, methM, hnamed, hmethM, hstM, habM⟩ := Cond.instanceMethod_spec hinst
  obtain ⟨methM', cM, hmethM', -, -, -, -, -, -, hsigM⟩ := Cond.code_spec hnamed hcode
  cases hmethM.symm.trans hmethM'
  obtain ⟨c2, r2, m2, q1, q2, q3, q4, kP, hkP, hkPi⟩ := Cond.selects_spec hsel
  cases hcls.symm.trans q1
  cases (State.methodFound?_of_named hnamed hy).symm.trans q2
  cases hnamed.symm.trans q3
  have hselP : selectMethod e.platform s.vm cellB.cls mk = .method mk := by rw [Launch.admits_selectMethod X.admits]; exact q4
  obtain ⟨vm₁, X₁, hstep₁⟩ := X.invokevirtual hexec hown hlink hnamed hmethM hstM hkP hkPi hy (a := b) (cell := cellB) hcell
    (fun z h => by rw [h] at hobj; cases hobj) hselP hmethM habM hkP hkPi (g := g) hg (argsL := argsL) (rest := rest) (hlen _ hsigM) hstack hdg
  rcases hK m meth c ⟨T.setVm vm₁, locs, cells, slots⟩ { g with stack := rest } (.invokevirtual index) mk (Value.ref b :: argsL).toArray X₁ hg hsize hdg hW (X₁.named hnamed) (hpre vm₁ X₁.warmed) with ⟨v, B, X', hpost, hsteps⟩ | ⟨q, B, X', hpost, hsteps⟩
  · exact Or.inl ⟨v, vm₁, B, X₁.warmed, X', hpost, fun target h => hstep₁ _ fun acts => by rw [doInvoke_state]; exact hsteps.trans h⟩
  · exact Or.inr ⟨q, vm₁, B, X₁.warmed, X', hpost, hstep₁ _ fun acts => by rw [doInvoke_state]; exact hsteps⟩
theorem vx_callS (X : Stand p l e R s m args below meth c T locs cells slots) (hexec : p.tables.exec = Jvm.exec) {own : String} {index : Nat} {y : MethodName} {bytes : ByteArray} {maxL : Nat} {ret : Option FieldType}
    (hown : s.vm.findClass own = some m.cls) (hlink : (Cond.methodLink own index y).before args s = true) (hstat : (Cond.static y).before args s = true) (hinit : (Cond.initialized y.cls).before args s = true)
    (hcode : (Cond.code y bytes maxL ret).before args s = true) (hy : y.cls ≠ "java/lang/invoke/MethodHandle" ∧ y.cls ≠ "java/lang/invoke/VarHandle")
    {W9 : Nat} {Pre : Pt → Array Value → Prop} {Post : Pt → Array Value → Option Value → Pt → Prop} {PostX : Pt → Array Value → Addr → Pt → Prop} (hK : vx_Back l R p e below s args y 3 W9 Pre Post PostX)
    {g : JFrame} (hg : g.method = m) (hsize : g.locals.size = c.maxLocals) {argsL rest : List Value} (hlen : ∀ sig, parseMethodDescriptor y.desc = some sig → argsL.length = sig.parameters.length)
    (hstack : g.stack = argsL.reverse ++ rest) (hW : 2 * g.monitorRoom + (rest.map fun v => v.category).sum ≤ W9) (hdg : decode c.code g.pc = .ok (.invokestatic index, 3))
    (hpre : ∀ vm₁, s.WarmedH vm₁ → Pre ⟨T.setVm vm₁, locs, cells, slots⟩ argsL.toArray) :
    (∃ (v : Option Value) (vm₁ : Vm) (B : Pt), s.WarmedH vm₁ ∧ Stand p l e R s m args below meth c B.U B.locs B.cells B.slots ∧ Post ⟨T.setVm vm₁, locs, cells, slots⟩ argsL.toArray v B ∧
      ∀ target, Steps p.tables e below (B.U.setTop { g with pc := g.pc + 3, stack := v.toList ++ rest }) target → Steps p.tables e below (T.setTop g) target) ∨
    (∃ (q : Addr) (vm₁ : Vm) (B : Pt), s.WarmedH vm₁ ∧ Stand p l e R s m args below meth c B.U B.locs B.cells B.slots ∧ PostX ⟨T.setVm vm₁, locs, cells, slots⟩ argsL.toArray q B ∧
      Steps p.tables e below (T.setTop g) ((B.U.setTop { g with stack := rest }).pushFrame (.throwing q))) := by
  obtain ⟨mk, hnamed⟩ := Cond.code_named hcode
  obtain ⟨methM, cM, hmethM, -, -, -, -, -, -, hsigM⟩ := Cond.code_spec hnamed hcode
  have hstatic : methM.isStatic = true := Cond.static_spec hnamed hmethM hstat
  obtain ⟨kP, hkP, -⟩ := className_of_methodNamed hnamed
  have hinitP : kP.init = .initialized := Cond.initialized_spec (findClass_of_methodNamed hnamed) hkP hinit
  obtain ⟨vm₁, X₁, hstep₁⟩ := X.invokestatic hexec hown hlink hnamed hmethM hstatic hkP hinitP hy (g := g) hg (argsL := argsL) (rest := rest) (hlen _ hsigM) hstack hdg
  rcases hK m meth c ⟨T.setVm vm₁, locs, cells, slots⟩ { g with stack := rest } (.invokestatic index) mk argsL.toArray X₁ hg hsize hdg hW (X₁.named hnamed) (hpre vm₁ X₁.warmed) with ⟨v, B, X', hpost, hsteps⟩ | ⟨q, B, X', hpost, hsteps⟩
  · exact Or.inl ⟨v, vm₁, B, X₁.warmed, X', hpost, fun target h => hstep₁ _ fun acts => by rw [doInvoke_state]; exact hsteps.trans h⟩
  · exact Or.inr ⟨q, vm₁, B, X₁.warmed, X', hpost, hstep₁ _ fun acts => by rw [doInvoke_state]; exact hsteps⟩
end Calls
theorem vx_cls {s : State} {T : State} {vm₁ : Vm} {E : String} {k : ClassId} (hW : s.WarmedH vm₁) (h : (T.setVm vm₁).vm.findClass E = some k) : s.vm.findClass E = some k := by
  have h1 : vm₁.findClass E = some k := h
  rw [hW.alike.findClass] at h1
  exact h1
/-- the method's frame g, with q thrown over it -/
def vx_W (p : Program) (l : Launch) (e : Env) (R : Room) (s : State) (m : MethodId) (args : Array Value) (below : List Frame) (meth : Method) (c : Code) (H : Heap) (locs : List Loc) (cells slots : Nat) (Q : State → Prop) (g : JFrame) (q : Addr) : Prop :=
  ∀ T : State, T.heap = H → Stand p l e R s m args below meth c T locs cells slots → ∃ t, Steps p.tables e below ((T.setTop g).pushFrame (.throwing q)) t ∧ Q t
def vx_Run (p : Program) (l : Launch) (e : Env) (R : Room) (s : State) (m : MethodId) (args : Array Value) (below : List Frame) (meth : Method) (c : Code) (H : Heap) (locs : List Loc) (cells slots mc ms : Nat) (g : JFrame) (rest : List Value) (Qa : State → Outcome → State → Prop) (XC : String → State → State → Prop) (free : Addr → Prop) : Prop :=
  ∀ T : State, T.heap = H → Stand p l e R s m args below meth c T locs cells slots →
    (∃ (v : Option Value) (st₀ t T' : State) (L : List Loc), st₀.heap = H ∧ Stand p l e R s m args below meth c T' (locs ++ L) (cells + mc) (slots + ms) ∧ (∀ q ∈ L, free q.base) ∧ T'.heap = t.heap ∧ T'.vm = t.vm ∧ Qa st₀ (.returned v) t ∧
      Goes p e below T g T' { g with pc := g.pc + 3, stack := v.toList ++ rest }) ∨
    (∃ (q : Addr) (st₀ t T' : State) (L : List Loc) (E : String) (ce : Cell), st₀.heap = H ∧ Stand p l e R s m args below meth c T' (locs ++ L) (cells + mc) (slots + ms) ∧ (∀ z ∈ L, free z.base) ∧ T'.heap = t.heap ∧ T'.vm = t.vm ∧ XC E st₀ t ∧ t.heap[q]? = some ce ∧ ce.vm = .none ∧ s.vm.findClass E = some ce.cls ∧
      Steps p.tables e below (T.setTop g) ((T'.setTop { g with stack := rest }).pushFrame (.throwing q)))
def vx_X {S : Type} (px : S → Prop) (B : String → S → State → Prop) (A : Nat → Prop) : String → State → State → Prop := fun E st t => ∃ u : S, px u ∧ B E u t ∧ va_F A st t
section Runs
variable {p : Program} {l : Launch} {e : Env} {R : Room} {s : State} {m : MethodId} {args : Array Value} {below : List Frame} {meth : Method} {c : Code} {H : Heap} {locs : List Loc} {cells slots : Nat}
variable {y : MethodName} {bytes cc : ByteArray} {maxL nL mc ms n index : Nat} {ret : Option FieldType} {ws : List Cond} {rm : Room} {Pc : Array Value → State → Prop} {Qc : Array Value → State → Outcome → State → Prop} {XC : String → State → State → Prop} {free : Addr → Prop} {Ts : List Cond} {own C : String} {b : Addr} {As rest : List Value} {g : JFrame}
theorem vx_callBack (cb : CallB R s args own index y bytes maxL ret ws rm mc ms n) (hM : vx_Met l y ws rm Pc Qc XC mc ms free) (hbl : FrameBlind Pc) : vx_Back l R p e below s args y 3 8 (PreOf R mc ms Pc) (PostOf Qc mc ms free) (vx_Post XC mc ms free) := by
  obtain ⟨hrc, hrs, hfr, hlo, hws, hcw, -, hini, -⟩ := cb
  exact vx_back (bytes := bytes) (maxL := maxL) (ret := ret) hM hbl hrc hrs hfr hlo hws hcw (fun a' U hW => word_at hW (Or.inl (by first | rfl | simp [Cond.onTables, Cond.keeps, Cond.steady])) hini)
theorem vx_runV (S : CallFix p m c cc nL s args Ts own) (hM : vx_Met l y ws rm Pc Qc XC mc ms free) (cw : CallW R s args own C index y bytes maxL ret ws rm mc ms n) (hp : PreV s H C b Pc As)
    (hg : g.method = m) (hn : As.length = n) (hsize : g.locals.size = nL) (hstack : g.stack = As.reverse ++ .ref b :: rest) (hW : 2 * g.monitorRoom + (rest.map fun v => v.category).sum ≤ 8) (hdg : decode cc g.pc = .ok (.invokevirtual index, 3)) (hf : cells + mc ≤ R.cells ∧ slots + ms ≤ R.slots) :
    vx_Run p l e R s m args below meth c H locs cells slots mc ms g rest (Qc (Value.ref b :: As).toArray) XC free := by
  have hK : vx_Back l R p e below s args y 3 8 (PreOf R mc ms Pc) (PostOf Qc mc ms free) (vx_Post XC mc ms free) := vx_callBack cw.1 hM hp.1
  obtain ⟨⟨-, -, -, -, -, -, hcode, -, hy, hlen, hl⟩, hin, hse⟩ := cw
  obtain ⟨hx, hb, hml, ho, -⟩ := S
  obtain ⟨-, ⟨cellB, hcB, hoB, hclB⟩, hPc⟩ := hp
  intro T hT X
  rcases vx_callV X hx (C := C) (bytes := bytes) (maxL := maxL) (ret := ret) ho hl hin hse hcode hy hK (by rw [hT]; exact hcB) hoB hclB hg (hsize.trans hml.symm) (argsL := As) (rest := rest) (fun sig h => hn.trans (hlen sig h)) hstack hW (by rw [hb]; exact hdg)
    (fun vm₁ hW₁ => ⟨hf.1, hf.2, hPc (T.setVm vm₁) hT hW₁⟩) with ⟨v, vm₁, ⟨U', l2, c2, s2⟩, hW₁, X', ⟨g', mk, t, L, e1, e2, hq, h1, hL, h2, h3⟩, st⟩ | ⟨q, vm₁, ⟨U', l2, c2, s2⟩, hW₁, X', ⟨g', mk, t, L, E, ce, e1, e2, hq, hce, hcv, hcl, h1, hL, h2, h3⟩, st⟩
  · dsimp only [Pt.U, Pt.locs, Pt.cells, Pt.slots] at X' e1 e2 h1 h2 h3 st
    subst h1; subst h2; subst h3
    exact Or.inl ⟨v, (T.setVm vm₁).calling g' mk (Value.ref b :: As).toArray, t, U', L, hT, X', hL, e1, e2, hq, st⟩
  · dsimp only [Pt.U, Pt.locs, Pt.cells, Pt.slots] at X' e1 e2 h1 h2 h3 st hcl
    subst h1; subst h2; subst h3
    exact Or.inr ⟨q, (T.setVm vm₁).calling g' mk (Value.ref b :: As).toArray, t, U', L, E, ce, hT, X', hL, e1, e2, hq, hce, hcv, vx_cls hW₁ hcl, st⟩
theorem vx_runS (S : CallFix p m c cc nL s args Ts own) (hM : vx_Met l y ws rm Pc Qc XC mc ms free) (cw : CallB R s args own index y bytes maxL ret ws rm mc ms n ∧ (Cond.static y).before args s = true) (hp : PreS s H Pc As)
    (hg : g.method = m) (hn : As.length = n) (hsize : g.locals.size = nL) (hstack : g.stack = As.reverse ++ rest) (hW : 2 * g.monitorRoom + (rest.map fun v => v.category).sum ≤ 8) (hdg : decode cc g.pc = .ok (.invokestatic index, 3)) (hf : cells + mc ≤ R.cells ∧ slots + ms ≤ R.slots) :
    vx_Run p l e R s m args below meth c H locs cells slots mc ms g rest (Qc As.toArray) XC free := by
  have hK : vx_Back l R p e below s args y 3 8 (PreOf R mc ms Pc) (PostOf Qc mc ms free) (vx_Post XC mc ms free) := vx_callBack cw.1 hM hp.1
  obtain ⟨⟨-, -, -, -, -, -, hcode, hini, hy, hlen, hl⟩, hstt⟩ := cw
  obtain ⟨hx, hb, hml, ho, -⟩ := S
  intro T hT X
  rcases vx_callS X hx (bytes := bytes) (maxL := maxL) (ret := ret) ho hl hstt hini hcode hy hK hg (hsize.trans hml.symm) (argsL := As) (rest := rest) (fun sig h => hn.trans (hlen sig h)) hstack hW (by rw [hb]; exact hdg)
    (fun vm₁ hW₁ => ⟨hf.1, hf.2, hp.2 (T.setVm vm₁) hT hW₁⟩) with ⟨v, vm₁, ⟨U', l2, c2, s2⟩, hW₁, X', ⟨g', mk, t, L, e1, e2, hq, h1, hL, h2, h3⟩, st⟩ | ⟨q, vm₁, ⟨U', l2, c2, s2⟩, hW₁, X', ⟨g', mk, t, L, E, ce, e1, e2, hq, hce, hcv, hcl, h1, hL, h2, h3⟩, st⟩
  · dsimp only [Pt.U, Pt.locs, Pt.cells, Pt.slots] at X' e1 e2 h1 h2 h3 st
    subst h1; subst h2; subst h3
    exact Or.inl ⟨v, (T.setVm vm₁).calling g' mk As.toArray, t, U', L, hT, X', hL, e1, e2, hq, st⟩
  · dsimp only [Pt.U, Pt.locs, Pt.cells, Pt.slots] at X' e1 e2 h1 h2 h3 st hcl
    subst h1; subst h2; subst h3
    exact Or.inr ⟨q, (T.setVm vm₁).calling g' mk As.toArray, t, U', L, E, ce, hT, X', hL, e1, e2, hq, hce, hcv, vx_cls hW₁ hcl, st⟩
end Runs
section Rows
variable {p : Program} {l : Launch} {e : Env} {R : Room} {s : State} {m : MethodId} {args : Array Value} {below : List Frame} {meth : Method} {c : Code} {H : Heap} {locs : List Loc} {cells slots : Nat} {Q : State → Prop}
variable {mc ms : Nat} {free : Addr → Prop} {A0 A1 : Nat → Prop} {H0 : Heap} {a : Array Value} {pc : Nat} {ls : Array Slot} {st0 rest : List Value}
theorem vx_keep {st₀ t T' : State} {L : List Loc} (h0 : st₀.heap = H) (e1 : T'.heap = t.heap) (hS : va_S A0 H0 H locs) (hA : ∀ q, q < H.size → A1 q → A0 q) (hf : ∀ q, free q → A0 q) (hL : ∀ q ∈ L, free q.base) (hF : va_F A1 st₀ t) :
    H.size ≤ T'.heap.size ∧ (∀ q : Nat, q < H.size → ¬ A1 q → T'.heap[q]? = H[q]?) ∧ va_S A0 H0 T'.heap (locs ++ L) := by
  obtain ⟨hz, hk⟩ := hF
  rw [h0] at hz hk
  exact ⟨by rw [e1]; exact hz, fun q h1 h2 => by rw [e1]; exact hk q h1 h2,
    ⟨Nat.le_trans hS.1 (by rw [e1]; exact hz), fun q h1 h2 => by rw [e1, hk q (Nat.lt_of_lt_of_le h1 hS.1) (fun z => h2 (hA q (Nat.lt_of_lt_of_le h1 hS.1) z))]; exact hS.2.1 q h1 h2, fun q hq => by
      rcases List.mem_append.mp hq with h | h
      · exact hS.2.2 q h
      · exact hf _ (hL q h)⟩⟩
theorem vx_calli {S SX : Type} {post : Int32 → S → Prop} {px : SX → Prop} {B : S → State → Prop} {BX : String → SX → State → Prop} {AX : Nat → Prop} (hr : vx_Run p l e R s m args below meth c H locs cells slots mc ms (F0 m pc ls st0) rest (va_Qi post B A1 a) (vx_X px BX AX) free) (hS : va_S A0 H0 H locs) (hA : ∀ q, q < H.size → A1 q → A0 q) (hf : ∀ q, free q → A0 q) (hAX : ∀ q, q < H.size → AX q → A0 q)
    (kx : ∀ (E : String) (ce : Cell) (q9 : Addr) (u : SX) (t : State) (H1 : Heap) (locs1 : List Loc), t.heap = H1 → s.vm.Alike t.vm → px u → BX E u t → H.size ≤ H1.size → (∀ q : Nat, q < H.size → ¬ AX q → H1[q]? = H[q]?) → va_S A0 H0 H1 locs1 → H1[q9]? = some ce → ce.vm = .none → s.vm.findClass E = some ce.cls → vx_W p l e R s m args below meth c H1 locs1 (cells + mc) (slots + ms) Q (F0 m pc ls rest) q9)
    (kk : ∀ (r : Int32) (u : S) (t : State) (H1 : Heap) (locs1 : List Loc), t.heap = H1 → s.vm.Alike t.vm → post r u → B u t → H.size ≤ H1.size → (∀ q : Nat, q < H.size → ¬ A1 q → H1[q]? = H[q]?) → va_S A0 H0 H1 locs1 → W p l e R s m args below meth c H1 locs1 (cells + mc) (slots + ms) Q (F0 m (pc + 3) ls (.int r :: rest))) : W p l e R s m args below meth c H locs cells slots Q (F0 m pc ls st0) := by
  intro T hT X
  rcases hr T hT X with ⟨v, st₀, t, T', L, h0, X', hL, e1, e2, ⟨⟨r, u, hv, hp, hb⟩, hF⟩, st⟩ | ⟨q, st₀, t, T', L, E, ce, h0, X', hL, e1, e2, ⟨u, hp, hb, hF⟩, hce, hcv, hcl, st⟩
  · cases hv
    obtain ⟨k1, k2, k3⟩ := vx_keep h0 e1 hS hA hf hL hF
    obtain ⟨t2, a1, b1⟩ := kk r u t T'.heap (locs ++ L) e1.symm (by rw [← e2]; exact X'.warmed.alike) hp hb k1 k2 k3 T' rfl X'
    exact ⟨t2, st t2 a1, b1⟩
  · obtain ⟨k1, k2, k3⟩ := vx_keep h0 e1 hS hAX hf hL hF
    obtain ⟨t2, a1, b1⟩ := kx E ce q u t T'.heap (locs ++ L) e1.symm (by rw [← e2]; exact X'.warmed.alike) hp hb k1 k2 k3 (by rw [e1]; exact hce) hcv hcl T' rfl X'
    exact ⟨t2, st.trans a1, b1⟩
theorem vx_calll {S SX : Type} {post : Int64 → S → Prop} {px : SX → Prop} {B : S → State → Prop} {BX : String → SX → State → Prop} {AX : Nat → Prop} (hr : vx_Run p l e R s m args below meth c H locs cells slots mc ms (F0 m pc ls st0) rest (va_Ql post B A1 a) (vx_X px BX AX) free) (hS : va_S A0 H0 H locs) (hA : ∀ q, q < H.size → A1 q → A0 q) (hf : ∀ q, free q → A0 q) (hAX : ∀ q, q < H.size → AX q → A0 q)
    (kx : ∀ (E : String) (ce : Cell) (q9 : Addr) (u : SX) (t : State) (H1 : Heap) (locs1 : List Loc), t.heap = H1 → s.vm.Alike t.vm → px u → BX E u t → H.size ≤ H1.size → (∀ q : Nat, q < H.size → ¬ AX q → H1[q]? = H[q]?) → va_S A0 H0 H1 locs1 → H1[q9]? = some ce → ce.vm = .none → s.vm.findClass E = some ce.cls → vx_W p l e R s m args below meth c H1 locs1 (cells + mc) (slots + ms) Q (F0 m pc ls rest) q9)
    (kk : ∀ (r : Int64) (u : S) (t : State) (H1 : Heap) (locs1 : List Loc), t.heap = H1 → s.vm.Alike t.vm → post r u → B u t → H.size ≤ H1.size → (∀ q : Nat, q < H.size → ¬ A1 q → H1[q]? = H[q]?) → va_S A0 H0 H1 locs1 → W p l e R s m args below meth c H1 locs1 (cells + mc) (slots + ms) Q (F0 m (pc + 3) ls (.long r :: rest))) : W p l e R s m args below meth c H locs cells slots Q (F0 m pc ls st0) := by
  intro T hT X
  rcases hr T hT X with ⟨v, st₀, t, T', L, h0, X', hL, e1, e2, ⟨⟨r, u, hv, hp, hb⟩, hF⟩, st⟩ | ⟨q, st₀, t, T', L, E, ce, h0, X', hL, e1, e2, ⟨u, hp, hb, hF⟩, hce, hcv, hcl, st⟩
  · cases hv
    obtain ⟨k1, k2, k3⟩ := vx_keep h0 e1 hS hA hf hL hF
    obtain ⟨t2, a1, b1⟩ := kk r u t T'.heap (locs ++ L) e1.symm (by rw [← e2]; exact X'.warmed.alike) hp hb k1 k2 k3 T' rfl X'
    exact ⟨t2, st t2 a1, b1⟩
  · obtain ⟨k1, k2, k3⟩ := vx_keep h0 e1 hS hAX hf hL hF
    obtain ⟨t2, a1, b1⟩ := kx E ce q u t T'.heap (locs ++ L) e1.symm (by rw [← e2]; exact X'.warmed.alike) hp hb k1 k2 k3 (by rw [e1]; exact hce) hcv hcl T' rfl X'
    exact ⟨t2, st.trans a1, b1⟩
theorem vx_callf {S SX : Type} {post : UInt32 → S → Prop} {px : SX → Prop} {B : S → State → Prop} {BX : String → SX → State → Prop} {AX : Nat → Prop} (hr : vx_Run p l e R s m args below meth c H locs cells slots mc ms (F0 m pc ls st0) rest (va_Qf post B A1 a) (vx_X px BX AX) free) (hS : va_S A0 H0 H locs) (hA : ∀ q, q < H.size → A1 q → A0 q) (hf : ∀ q, free q → A0 q) (hAX : ∀ q, q < H.size → AX q → A0 q)
    (kx : ∀ (E : String) (ce : Cell) (q9 : Addr) (u : SX) (t : State) (H1 : Heap) (locs1 : List Loc), t.heap = H1 → s.vm.Alike t.vm → px u → BX E u t → H.size ≤ H1.size → (∀ q : Nat, q < H.size → ¬ AX q → H1[q]? = H[q]?) → va_S A0 H0 H1 locs1 → H1[q9]? = some ce → ce.vm = .none → s.vm.findClass E = some ce.cls → vx_W p l e R s m args below meth c H1 locs1 (cells + mc) (slots + ms) Q (F0 m pc ls rest) q9)
    (kk : ∀ (r : UInt32) (u : S) (t : State) (H1 : Heap) (locs1 : List Loc), t.heap = H1 → s.vm.Alike t.vm → post r u → B u t → H.size ≤ H1.size → (∀ q : Nat, q < H.size → ¬ A1 q → H1[q]? = H[q]?) → va_S A0 H0 H1 locs1 → W p l e R s m args below meth c H1 locs1 (cells + mc) (slots + ms) Q (F0 m (pc + 3) ls (.float r :: rest))) : W p l e R s m args below meth c H locs cells slots Q (F0 m pc ls st0) := by
  intro T hT X
  rcases hr T hT X with ⟨v, st₀, t, T', L, h0, X', hL, e1, e2, ⟨⟨r, u, hv, hp, hb⟩, hF⟩, st⟩ | ⟨q, st₀, t, T', L, E, ce, h0, X', hL, e1, e2, ⟨u, hp, hb, hF⟩, hce, hcv, hcl, st⟩
  · cases hv
    obtain ⟨k1, k2, k3⟩ := vx_keep h0 e1 hS hA hf hL hF
    obtain ⟨t2, a1, b1⟩ := kk r u t T'.heap (locs ++ L) e1.symm (by rw [← e2]; exact X'.warmed.alike) hp hb k1 k2 k3 T' rfl X'
    exact ⟨t2, st t2 a1, b1⟩
  · obtain ⟨k1, k2, k3⟩ := vx_keep h0 e1 hS hAX hf hL hF
    obtain ⟨t2, a1, b1⟩ := kx E ce q u t T'.heap (locs ++ L) e1.symm (by rw [← e2]; exact X'.warmed.alike) hp hb k1 k2 k3 (by rw [e1]; exact hce) hcv hcl T' rfl X'
    exact ⟨t2, st.trans a1, b1⟩
theorem vx_calld {S SX : Type} {post : UInt64 → S → Prop} {px : SX → Prop} {B : S → State → Prop} {BX : String → SX → State → Prop} {AX : Nat → Prop} (hr : vx_Run p l e R s m args below meth c H locs cells slots mc ms (F0 m pc ls st0) rest (va_Qd post B A1 a) (vx_X px BX AX) free) (hS : va_S A0 H0 H locs) (hA : ∀ q, q < H.size → A1 q → A0 q) (hf : ∀ q, free q → A0 q) (hAX : ∀ q, q < H.size → AX q → A0 q)
    (kx : ∀ (E : String) (ce : Cell) (q9 : Addr) (u : SX) (t : State) (H1 : Heap) (locs1 : List Loc), t.heap = H1 → s.vm.Alike t.vm → px u → BX E u t → H.size ≤ H1.size → (∀ q : Nat, q < H.size → ¬ AX q → H1[q]? = H[q]?) → va_S A0 H0 H1 locs1 → H1[q9]? = some ce → ce.vm = .none → s.vm.findClass E = some ce.cls → vx_W p l e R s m args below meth c H1 locs1 (cells + mc) (slots + ms) Q (F0 m pc ls rest) q9)
    (kk : ∀ (r : UInt64) (u : S) (t : State) (H1 : Heap) (locs1 : List Loc), t.heap = H1 → s.vm.Alike t.vm → post r u → B u t → H.size ≤ H1.size → (∀ q : Nat, q < H.size → ¬ A1 q → H1[q]? = H[q]?) → va_S A0 H0 H1 locs1 → W p l e R s m args below meth c H1 locs1 (cells + mc) (slots + ms) Q (F0 m (pc + 3) ls (.double r :: rest))) : W p l e R s m args below meth c H locs cells slots Q (F0 m pc ls st0) := by
  intro T hT X
  rcases hr T hT X with ⟨v, st₀, t, T', L, h0, X', hL, e1, e2, ⟨⟨r, u, hv, hp, hb⟩, hF⟩, st⟩ | ⟨q, st₀, t, T', L, E, ce, h0, X', hL, e1, e2, ⟨u, hp, hb, hF⟩, hce, hcv, hcl, st⟩
  · cases hv
    obtain ⟨k1, k2, k3⟩ := vx_keep h0 e1 hS hA hf hL hF
    obtain ⟨t2, a1, b1⟩ := kk r u t T'.heap (locs ++ L) e1.symm (by rw [← e2]; exact X'.warmed.alike) hp hb k1 k2 k3 T' rfl X'
    exact ⟨t2, st t2 a1, b1⟩
  · obtain ⟨k1, k2, k3⟩ := vx_keep h0 e1 hS hAX hf hL hF
    obtain ⟨t2, a1, b1⟩ := kx E ce q u t T'.heap (locs ++ L) e1.symm (by rw [← e2]; exact X'.warmed.alike) hp hb k1 k2 k3 (by rw [e1]; exact hce) hcv hcl T' rfl X'
    exact ⟨t2, st.trans a1, b1⟩
theorem vx_callv {S SX : Type} {post : S → Prop} {px : SX → Prop} {B : S → State → Prop} {BX : String → SX → State → Prop} {AX : Nat → Prop} (hr : vx_Run p l e R s m args below meth c H locs cells slots mc ms (F0 m pc ls st0) rest (va_Qv post B A1 a) (vx_X px BX AX) free) (hS : va_S A0 H0 H locs) (hA : ∀ q, q < H.size → A1 q → A0 q) (hf : ∀ q, free q → A0 q) (hAX : ∀ q, q < H.size → AX q → A0 q)
    (kx : ∀ (E : String) (ce : Cell) (q9 : Addr) (u : SX) (t : State) (H1 : Heap) (locs1 : List Loc), t.heap = H1 → s.vm.Alike t.vm → px u → BX E u t → H.size ≤ H1.size → (∀ q : Nat, q < H.size → ¬ AX q → H1[q]? = H[q]?) → va_S A0 H0 H1 locs1 → H1[q9]? = some ce → ce.vm = .none → s.vm.findClass E = some ce.cls → vx_W p l e R s m args below meth c H1 locs1 (cells + mc) (slots + ms) Q (F0 m pc ls rest) q9)
    (kk : ∀ (u : S) (t : State) (H1 : Heap) (locs1 : List Loc), t.heap = H1 → s.vm.Alike t.vm → post u → B u t → H.size ≤ H1.size → (∀ q : Nat, q < H.size → ¬ A1 q → H1[q]? = H[q]?) → va_S A0 H0 H1 locs1 → W p l e R s m args below meth c H1 locs1 (cells + mc) (slots + ms) Q (F0 m (pc + 3) ls (rest))) : W p l e R s m args below meth c H locs cells slots Q (F0 m pc ls st0) := by
  intro T hT X
  rcases hr T hT X with ⟨v, st₀, t, T', L, h0, X', hL, e1, e2, ⟨⟨u, hv, hp, hb⟩, hF⟩, st⟩ | ⟨q, st₀, t, T', L, E, ce, h0, X', hL, e1, e2, ⟨u, hp, hb, hF⟩, hce, hcv, hcl, st⟩
  · cases hv
    obtain ⟨k1, k2, k3⟩ := vx_keep h0 e1 hS hA hf hL hF
    obtain ⟨t2, a1, b1⟩ := kk u t T'.heap (locs ++ L) e1.symm (by rw [← e2]; exact X'.warmed.alike) hp hb k1 k2 k3 T' rfl X'
    exact ⟨t2, st t2 a1, b1⟩
  · obtain ⟨k1, k2, k3⟩ := vx_keep h0 e1 hS hAX hf hL hF
    obtain ⟨t2, a1, b1⟩ := kx E ce q u t T'.heap (locs ++ L) e1.symm (by rw [← e2]; exact X'.warmed.alike) hp hb k1 k2 k3 (by rw [e1]; exact hce) hcv hcl T' rfl X'
    exact ⟨t2, st.trans a1, b1⟩
/-- caught by the row x of this method's table; the rows ahead don't take it -/
theorem vx_catch {own name : String} {E : String} {ce : Cell} {q : Addr} (hown : s.vm.findClass own = some m.cls) (pre : List ExceptionTableEntry) (x : ExceptionTableEntry) (suf : List ExceptionTableEntry) (hsplit : c.exceptionTable.toList = pre ++ x :: suf)
    (hpass : ∀ z ∈ pre, covers z pc = false ∨ (z.catchType ≠ 0 ∧ ∃ nm : String, (Cond.classLink own z.catchType nm).before args s = true ∧ va_Nc E nm s)) (hx : covers x pc = true) (h0 : x.catchType ≠ 0)
    (hlink : (Cond.classLink own x.catchType name).before args s = true) (hcast : (Cond.castable E name).before args s = true) (hcell : H[q]? = some ce) (hv : ce.vm = .none) (hcl : s.vm.findClass E = some ce.cls)
    (kk : W p l e R s m args below meth c H locs cells slots Q (F0 m x.handlerPc ls [.ref q])) : vx_W p l e R s m args below meth c H locs cells slots Q (F0 m pc ls rest) q := by
  intro T hT X
  have hpl : e.platform.magicAccessors = ({} : Platform).magicAccessors := by rw [X.admits.platform]
  obtain ⟨c3, c4, hc3, hc4, hasg⟩ := Cond.castable_spec hcast
  cases Option.some.inj (hc3.symm.trans hcl)
  obtain ⟨c5, hc5, hcl5⟩ := Cond.classLink_spec hown hlink e.platform hpl
  cases Option.some.inj (hc4.symm.trans hc5)
  obtain ⟨vm', X', st⟩ := X.thenCaughtThrough q (g := F0 m pc ls rest) rfl (Steps.refl _) (by rw [hT]; exact hcell) (by rw [hv]; rfl) (by obtain ⟨k9, h9, -⟩ := Vm.findClass_spec hcl; exact ⟨k9, h9⟩) pre x suf hsplit
    (fun z hz => by
      rcases hpass z hz with h | ⟨hz0, nm, hl1, hn1⟩
      · exact Or.inl h
      · obtain ⟨c6, hc6, hcl6⟩ := Cond.classLink_spec hown hl1 e.platform hpl
        obtain ⟨a8, b8, h1, h2, h3⟩ := hn1
        cases Option.some.inj (h1.symm.trans hcl)
        cases Option.some.inj (h2.symm.trans hc6)
        exact Or.inr ⟨hz0, _, hcl6, h3⟩) hx (Or.inr ⟨h0, c4, hcl5, hasg⟩)
  obtain ⟨t, a1, b1⟩ := kk (T.setVm vm') hT X'
  exact ⟨t, st.trans a1, b1⟩
end Rows
section Ends
variable {p : Program} {l : Launch} {e : Env} {R : Room} {s : State} {m : MethodId} {args : Array Value} {below : List Frame} {meth : Method} {c : Code} {H : Heap} {locs : List Loc} {cells slots : Nat} {Q : State → Prop}
variable {mc ms : Nat} {free : Addr → Prop} {A0 A1 : Nat → Prop} {H0 : Heap} {a : Array Value} {ls : Array Slot} {st0 rest : List Value}
variable {Qc : Array Value → State → Outcome → State → Prop} {XC : String → State → State → Prop}
/-- what a body that may throw owes at its end -/
def vx_MQ (below : List Frame) (Qc : Array Value → State → Outcome → State → Prop) (XC : String → State → State → Prop) (a : Array Value) (s : State) (mc ms : Nat) (free : Addr → Prop) : State → Prop := fun t =>
  ∃ o, t.status = .running ∧ Ended t below o ∧ vx_Q Qc XC mc ms free a s o t
theorem vx_ret {g : JFrame} {mc ms : Nat} (k : W p l e R s m args below meth c H locs cells slots (MQ below Qc args s mc ms free) g) : W p l e R s m args below meth c H locs cells slots (vx_MQ below Qc XC args s mc ms free) g := by
  intro T hT X
  obtain ⟨t, a1, o, b1, b2, b3, b4⟩ := k T hT X
  exact ⟨t, a1, o, b1, b2, Or.inl ⟨b3, b4⟩⟩
/-- not caught here: it goes on to the caller -/
theorem vx_widen {g : JFrame} {q : Addr} {k n : Nat} (h1 : cells ≤ k) (h2 : slots ≤ n) (kk : vx_W p l e R s m args below meth c H locs k n Q g q) : vx_W p l e R s m args below meth c H locs cells slots Q g q := fun T hT X => kk T hT (stand_widen X h1 h2)
theorem vx_out {pc : Nat} {E : String} {ce : Cell} {q : Addr} {mc ms : Nat} (hout : ∀ x ∈ c.exceptionTable.toList, covers x pc = false) (hlocks : meth.locks = false) (hcell : H[q]? = some ce) (hv : ce.vm = .none) (hcl : s.vm.findClass E = some ce.cls)
    (hx : ∀ t : State, t.heap = H → s.vm.Alike t.vm → XC E s t) (hf : ∀ z ∈ locs, free z.base) (hc : cells ≤ mc) (hs : slots ≤ ms) :
    vx_W p l e R s m args below meth c H locs cells slots (vx_MQ below Qc XC args s mc ms free) (F0 m pc ls rest) q := by
  intro T hT X
  obtain ⟨st1, hrun, hend, hW, hsm⟩ := X.leaveThrown q (g := F0 m pc ls rest) rfl rfl rfl hout hlocks
  have hcell9 : (T.setFrames (.throwing q :: below)).heap[q]? = some ce := by
    show T.heap[q]? = some ce
    rw [hT]; exact hcell
  exact ⟨_, st1, .threw q, hrun, hend, Or.inr ⟨q, rfl, E, ce, locs, hx _ hT hW.alike, hcell9, hv, hcl, hW, hsm.mono hc hs, hf⟩⟩
theorem vx_frame {U : State} {k n : Nat} (h : s.sameButNew ({ U with vm := s.vm } : State) locs k n) : s.heap.size ≤ U.heap.size ∧ ∀ q : Nat, q < s.heap.size → (∀ z ∈ locs, z.base ≠ q) → U.heap[q]? = s.heap[q]? := by
  obtain ⟨-, h2, -, -, -, h6⟩ := h
  refine ⟨h2, fun q hq hz => ?_⟩
  obtain ⟨c9, e1, e2, e3, e4⟩ := h6 q _ (Array.getElem?_eq_getElem hq)
  have hs : c9.slots = (s.heap[q]).slots := Array.ext_getElem? fun i => e4 i fun hm => hz _ hm rfl
  have h9 : c9 = s.heap[q] := by
    rw [hs] at e2
    exact e2
  have e5 : U.heap[q]? = some c9 := e1
  rw [e5, h9, Array.getElem?_eq_getElem hq]
/-- the words of a throw but the four that speak of the heap -/
def vx_no (w : Cond) : Bool := decide (w ≠ .isRef (.static Bundle.tN "UNASSIGNED_STACK" Bundle.steD)) && decide (w ≠ .isRef (.static Bundle.tN "SUPPRESSED_SENTINEL" Bundle.listD)) && decide (w ≠ .laysStatic Bundle.tN "UNASSIGNED_STACK" Bundle.steD) && decide (w ≠ .laysStatic Bundle.tN "SUPPRESSED_SENTINEL" Bundle.listD)
def vx_at0 (own : String) (ic : Nat) (X : String) (names : List String) : List Cond := (Bundle.ownAtoms0 own ic X names).filter vx_no
def vx_atS (own : String) (ic : Nat) (X : String) (names : List String) : List Cond := (Bundle.ownAtoms own ic X names).filter vx_no
/-- a word that the tables alone decide, or a good one -/
def vx_ot (w : Cond) : Bool := w.onTables || goodWord w
theorem vx_ot_at {args a' : Array Value} {s U : State} {w : Cond} (hW : s.WarmedH U.vm) (hvm : s.vm = U.vm) (hg : vx_ot w = true) (h : w.before args s = true) : w.before a' U = true := by
  simp only [vx_ot, Bool.or_eq_true] at hg
  rcases hg with hg | hg
  · exact va_tabs hg hvm h
  · exact word_at hW (good_of_word hg) h
/-- a list's words: the good ones out of the method's own list, the others by premises of their own -/
theorem vx_hat {args : Array Value} {s : State} {L B : List Cond} (h1 : ∀ w ∈ L.filter goodWord, w.before args s = true) (h2 : ∀ w ∈ L.filter (fun w => !goodWord w), w ∈ B) (h3 : ∀ w ∈ B, w.before args s = true) : ∀ w ∈ L, w.before args s = true := by
  intro w hw
  by_cases g : goodWord w = true
  · exact h1 w (List.mem_filter.mpr ⟨hw, g⟩)
  · refine h3 w (h2 w (List.mem_filter.mpr ⟨hw, ?_⟩))
    show (!goodWord w) = true
    cases hgw : goodWord w
    · rfl
    · exact absurd hgw g
theorem vx_c {args : Array Value} {s : State} {w : Cond} {B : List Cond} (h : w.before args s = true) (t : ∀ w ∈ B, w.before args s = true) : ∀ w' ∈ w :: B, w'.before args s = true := fun w' h' => (List.mem_cons.mp h').elim (fun e => by rw [e]; exact h) (t w')
theorem vx_n {args : Array Value} {s : State} : ∀ w ∈ ([] : List Cond), w.before args s = true := fun _ h => nomatch h
theorem vx_own {args : Array Value} {s : State} {L : List Cond} (h1 : ∀ w ∈ L.filter vx_no, w.before args s = true)
    (hU : (Cond.isRef (.static Bundle.tN "UNASSIGNED_STACK" Bundle.steD)).before args s = true) (hN : (Cond.isRef (.static Bundle.tN "SUPPRESSED_SENTINEL" Bundle.listD)).before args s = true)
    (lU : (Cond.laysStatic Bundle.tN "UNASSIGNED_STACK" Bundle.steD).before args s = true) (lN : (Cond.laysStatic Bundle.tN "SUPPRESSED_SENTINEL" Bundle.listD).before args s = true) : ∀ w ∈ L, w.before args s = true := by
  intro w hw
  by_cases e1 : w = .isRef (.static Bundle.tN "UNASSIGNED_STACK" Bundle.steD)
  · rw [e1]; exact hU
  · by_cases e2 : w = .isRef (.static Bundle.tN "SUPPRESSED_SENTINEL" Bundle.listD)
    · rw [e2]; exact hN
    · by_cases e3 : w = .laysStatic Bundle.tN "UNASSIGNED_STACK" Bundle.steD
      · rw [e3]; exact lU
      · by_cases e4 : w = .laysStatic Bundle.tN "SUPPRESSED_SENTINEL" Bundle.listD
        · rw [e4]; exact lN
        · exact h1 w (List.mem_filter.mpr ⟨hw, by unfold vx_no; rw [decide_eq_true e1, decide_eq_true e2, decide_eq_true e3, decide_eq_true e4]; rfl⟩)
/-- where a static field lies, its class's statics cell in H -/
def vx_L (C n d : String) (A : Nat → Prop) (U : State) (H : Heap) : Prop := ∃ (c : ClassId) (k : Class) (i : Nat) (f : Field) (a : Nat) (cell : Cell), U.vm.findClass C = some c ∧ U.fieldFound? C n d = some (c, k, i, f) ∧ f.isStatic = true ∧ k.statics = some a ∧ H[a]? = some cell ∧ cell.vm.isStatics = true ∧ cell.cls = c ∧ f.slot < cell.slots.size ∧ k.staticTypes[f.slot]? = some f.type ∧ ¬ A a
theorem vx_L.moved {C n d : String} {A : Nat → Prop} {u U : State} {H : Heap} (hvm : u.vm.Alike U.vm) (h : vx_L C n d A u H) : vx_L C n d A U H := by
  obtain ⟨c, k, i, f, a, cell, h1, h2, h3, h4, h5, h6, h7, h8, h9, h10⟩ := h
  obtain ⟨k', hi', he⟩ := State.fieldFound?_setVm hvm h2
  exact ⟨c, k', i, f, a, cell, by rw [hvm.findClass]; exact h1, hi', h3, by rw [he]; exact h4, h5, h6, h7, h8, by rw [he]; exact h9, h10⟩
theorem vx_L.kept {C n d : String} {A : Nat → Prop} {U : State} {H H1 : Heap} (h : vx_L C n d A U H) (hq : ∀ a : Nat, a < H.size → ¬ A a → H1[a]? = H[a]?) : vx_L C n d A U H1 := by
  obtain ⟨c, k, i, f, a, cell, h1, h2, h3, h4, h5, h6, h7, h8, h9, h10⟩ := h
  exact ⟨c, k, i, f, a, cell, h1, h2, h3, h4, by rw [hq a (Array.getElem?_eq_some_iff.mp h5).1 h10]; exact h5, h6, h7, h8, h9, h10⟩
theorem vx_L.narrow {C n d : String} {A B : Nat → Prop} {U : State} {H : Heap} (h : vx_L C n d A U H) (hAB : ∀ q, B q → A q) : vx_L C n d B U H := by
  obtain ⟨c, k, i, f, a, cell, h1, h2, h3, h4, h5, h6, h7, h8, h9, h10⟩ := h
  exact ⟨c, k, i, f, a, cell, h1, h2, h3, h4, h5, h6, h7, h8, h9, fun z => h10 (hAB _ z)⟩
theorem vx_L.word {C n d : String} {A : Nat → Prop} {s : State} {args : Array Value} (h : vx_L C n d A s s.heap) : (Cond.laysStatic C n d).before args s = true := by
  obtain ⟨c, k, i, f, a, cell, h1, h2, h3, h4, h5, h6, h7, h8, h9, -⟩ := h
  show (Cond.laysStatic C n d).holds args s none s [] = true
  exact Cond.laysStatic_of h1 h2 h3 h4 h5 h6 h7 h8 h9
/-- .. and what it holds: null or some reference -/
def vx_Zq (C n d : String) (A : Nat → Prop) (U : State) (H : Heap) : Prop := va_Zq C n d A U H ∧ vx_L C n d A U H
theorem vx_Zq.moved {C n d : String} {A : Nat → Prop} {u U : State} {H : Heap} (hvm : u.vm.Alike U.vm) (h : vx_Zq C n d A u H) : vx_Zq C n d A U H := ⟨va_Zq.moved hvm h.1, vx_L.moved hvm h.2⟩
theorem vx_Zq.kept {C n d : String} {A : Nat → Prop} {U : State} {H H1 : Heap} (h : vx_Zq C n d A U H) (hq : ∀ a : Nat, a < H.size → ¬ A a → H1[a]? = H[a]?) : vx_Zq C n d A U H1 := ⟨va_Zq.kept h.1 hq, vx_L.kept h.2 hq⟩
theorem vx_Zq.narrow {C n d : String} {A B : Nat → Prop} {U : State} {H : Heap} (h : vx_Zq C n d A U H) (hAB : ∀ q, B q → A q) : vx_Zq C n d B U H := ⟨va_Zq.narrow h.1 hAB, vx_L.narrow h.2 hAB⟩
theorem vx_Zqof {args : Array Value} {s : State} {C n d : String} {A : Nat → Prop} (hl : (Cond.laysStatic C n d).before args s = true) (hini : (Cond.initialized C).before args s = true) (h : (Cond.isRef (.static C n d)).before args s = true) (hA : ∀ a : Nat, a < s.heap.size → ¬ A a) : vx_Zq C n d A s s.heap := by
  refine ⟨va_Zqof hl hini h hA, ?_⟩
  obtain ⟨c, k, i, f, a, cell, h1, h2, h3, h4, h5, h6, h7, h8, h9⟩ := Cond.laysStatic_spec hl
  exact ⟨c, k, i, f, a, cell, h1, h2, h3, h4, h5, h6, h7, h8, h9, hA a (Array.getElem?_eq_some_iff.mp h5).1⟩
theorem vx_isRef {C n d : String} {v : Value} {A : Nat → Prop} {s : State} {args : Array Value} (h : va_Z C n d v A s s.heap) (hv : v.isRef = true) : (Cond.isRef (.static C n d)).before args s = true := by
  obtain ⟨cf, kf, fi, f, a, cell, h1, h2, h3, h4, h5, h6, h7, -⟩ := h
  have he : (Term.static C n d).eval args s none [] s = some v := by
    simp [Term.eval, State.fieldNamed?, h1, h2, h4, h5, h6, h7]
  simp only [Cond.before, Cond.holds, Cond.value, he]
  cases v <;> simp_all [Value.isRef]
theorem vx_isRefq {C n d : String} {A : Nat → Prop} {s : State} {args : Array Value} (h : va_Zq C n d A s s.heap) : (Cond.isRef (.static C n d)).before args s = true := by
  rcases h with h | ⟨t, h⟩
  · exact vx_isRef h rfl
  · exact vx_isRef h rfl
/-- the same frame, seen from here: as if the method were called anew in this heap -/
theorem vx_rebase {T : State} (X : Stand p l e R s m args below meth c T locs cells slots) {R' : Room} (hf : R'.frames ≤ R.frames) (hl : R'.locals ≤ R.locals) (hc : cells + R'.cells ≤ R.cells) (hs : slots + R'.slots ≤ R.slots) :
    Stand p l e R' ((T.setVm s.vm).setFrames (.invoking m args :: below)) m args below meth c T [] 0 0 := by
  have htop : (T.setVm s.vm).topJava?.isSome := X.here.top
  have hF : ((T.setVm s.vm).setFrames (.invoking m args :: below)).frames = .invoking m args :: below := State.frames_setFrames _ (State.cur_lt_of_top htop)
  obtain ⟨g₀, hg0⟩ := Option.isSome_iff_exists.mp htop
  obtain ⟨r, hr⟩ := State.topJava?_eq_some.mp hg0
  have hl9 : e.platform.stackLimits (T.setVm s.vm).me = e.platform.stackLimits s.me := X.limits
  have hb9 : (T.setVm s.vm).me.stackBytes = s.me.stackBytes := X.bytes
  refine ⟨X.admits, X.cas, X.clock, hF, ?_, X.hears, X.method, X.code, X.here, X.tail, X.warmed, ?_, ?_, ?_⟩
  · have h := X.room
    have hU : ((T.setVm s.vm).setFrames (.invoking m args :: below)).localsInUse = s.localsInUse := by
      rw [State.localsInUse_invoking hF (meth := meth) (c := c) X.method X.code, State.localsInUse_invoking X.frames X.method X.code]
    simp only [State.hasRoom, Bool.and_eq_true, decide_eq_true_eq] at h ⊢
    obtain ⟨⟨⟨⟨h1, h2, h3, h4, h5, h6⟩, h7⟩, h8⟩, h9⟩ := h
    rw [X.frames, List.length_cons] at h2 h3
    have q1 := X.heapSize
    have q2 := X.used
    simp only [hF, hU, List.length_cons, State.stackLimits_setFrames, State.stackBytes_setFrames, hl9, hb9]
    refine ⟨⟨⟨⟨by omega, by omega, by omega, by omega, by omega, h6⟩, ?_⟩, ?_⟩, X.book⟩
    · show T.heap.size + R'.cells ≤ e.platform.maxCells
      omega
    · show T.slotsUsed + R'.slots ≤ e.platform.maxSlots
      omega
  · rw [State.stackLimits_setFrames]; rfl
  · rw [State.stackBytes_setFrames]; rfl
  · refine ⟨?_, Nat.le_refl _, Nat.le_refl _, ?_, ?_, fun a c9 h9 => ⟨c9, h9, rfl, rfl, fun _ _ => rfl⟩⟩
    · obtain ⟨t, ht, -⟩ := State.frames_cons hr
      show T.setVm s.vm = { ((T.setVm s.vm).setFrames (.invoking m args :: below)).setFrames (T.setVm s.vm).frames with heap := T.heap, slotsUsed := T.slotsUsed }
      rw [State.setFrames_setFrames, State.setFrames_self ht]
      rfl
    · show T.slotsUsed = T.slotsUsed + ((T.heap.toList.drop T.heap.size).map (·.slots.size)).sum
      rw [List.drop_eq_nil_of_le (Nat.le_of_eq Array.length_toList)]
      rfl
    · show ((T.heap.toList.drop T.heap.size).map (·.slots.size)).sum ≤ 0
      rw [List.drop_eq_nil_of_le (Nat.le_of_eq Array.length_toList)]
      exact Nat.le_refl _
/-- 'throw new E()': new; dup; invokespecial; athrow -/
theorem vx_throw0 {cc : ByteArray} {pc : Nat} (hexec : p.tables.exec = Jvm.exec) (hb : c.code = cc) (hl : l.stackTraces = false) {own cls : String} {names : List String} {ik ic mc ms : Nat} {A : Nat → Prop}
    (hown : s.vm.findClass own = some m.cls) (hcls : Bundle.fit cls = true) (hnames : ∀ n ∈ names, Bundle.fit n = true)
    (hk : (Cond.classLink own ik cls).before args s = true) (hini : (Cond.initialized cls).before args s = true) (hat : ∀ w ∈ vx_at0 own ic cls names, w.before args s = true)
    (hgood : ∀ w ∈ Cond.classLink own ik cls :: Cond.initialized cls :: vx_at0 own ic cls names, vx_ot w = true)
    (hU : vx_Zq Bundle.tN "UNASSIGNED_STACK" Bundle.steD A s s.heap) (hN : vx_Zq Bundle.tN "SUPPRESSED_SENTINEL" Bundle.listD A s s.heap) (hS : va_S A s.heap H locs) (hsize : ls.size = c.maxLocals)
    (d0 : decode cc pc = .ok (.new ik, 3)) (d3 : decode cc (pc + 3) = .ok (.dup, 1)) (d4 : decode cc (pc + 4) = .ok (.invokespecial ic, 3)) (d7 : decode cc (pc + 7) = .ok (.athrow, 1))
    (hout : ∀ x ∈ c.exceptionTable.toList, covers x (pc + 7) = false)
    (hRframes : names.length + 3 < R.frames) (hRlocals : (rest.map fun v => v.category).sum + (13 * (names.length + 1) + 42) ≤ R.locals) (hRcells : cells + 1 ≤ R.cells) (hRslots : slots + 6 ≤ R.slots) (hlocks : meth.locks = false)
    (hx : ∀ t : State, s.vm.Alike t.vm → H.size ≤ t.heap.size → (∀ q : Nat, q < H.size → t.heap[q]? = H[q]?) → XC cls s t)
    (hf : ∀ z ∈ locs, free z.base) (hc : cells + 1 ≤ mc) (hs : slots + 6 ≤ ms) :
    W p l e R s m args below meth c H locs cells slots (vx_MQ below Qc XC args s mc ms free) (F0 m pc ls rest) := by
  intro T hT X
  have htr : e.platform.stackTraces = false := (show e.platform.stackTraces = l.stackTraces by rw [X.admits.platform]).trans hl
  have Y := vx_rebase X (R' := { frames := R.frames, locals := R.locals, cells := 1, slots := 6 }) (Nat.le_refl _) (Nat.le_refl _) hRcells hRslots
  obtain ⟨s', hA⟩ : ∃ z, z = (T.setVm s.vm).setFrames (.invoking m args :: below) := ⟨_, rfl⟩
  rw [← hA] at Y
  have hvm : s'.vm = s.vm := by rw [hA]; rfl
  have hhp : s'.heap = H := by rw [hA]; exact hT
  have hW0 : s.WarmedH s'.vm := by rw [hvm]; exact State.WarmedH.refl s
  have hat' : ∀ w ∈ vx_at0 own ic cls names, w.before args s' = true := fun w hw => vx_ot_at hW0 hvm.symm (hgood w (List.mem_cons_of_mem _ (List.mem_cons_of_mem _ hw))) (hat w hw)
  have hk' : (Cond.classLink own ik cls).before args s' = true := vx_ot_at hW0 hvm.symm (hgood _ List.mem_cons_self) hk
  have hini' : (Cond.initialized cls).before args s' = true := vx_ot_at hW0 hvm.symm (hgood _ (List.mem_cons_of_mem _ List.mem_cons_self)) hini
  have hU' : vx_Zq Bundle.tN "UNASSIGNED_STACK" Bundle.steD A s' s'.heap := by rw [hhp]; exact vx_Zq.moved hW0.alike (hU.kept hS.2.1)
  have hN' : vx_Zq Bundle.tN "SUPPRESSED_SENTINEL" Bundle.listD A s' s'.heap := by rw [hhp]; exact vx_Zq.moved hW0.alike (hN.kept hS.2.1)
  have h : ∀ w ∈ Bundle.ownAtoms0 own ic cls names, w.before args s' = true := vx_own hat' (vx_isRefq hU'.1) (vx_isRefq hN'.1) hU'.2.word hN'.2.word
  have hown' : s'.vm.findClass own = some m.cls := by rw [hvm]; exact hown
  have hins : (Cond.instantiable cls 6).before args s' = true := h _ (by simp [Bundle.ownAtoms0])
  obtain ⟨vm₁, cX, kX, hfX, hkX, -, -, X₁, st1⟩ := Y.newCold hexec (own := own) (C := cls) (index := ik) (n := 6) hown' hk' hins hini'
    (g := F0 m pc ls rest) rfl (by rw [hb]; exact d0) (Nat.le_refl _) (Nat.le_refl _)
  generalize hT1 : (T.setVm vm₁).pushCell { cls := cX, slots := kX.instanceTypes.map defaultValue, vm := .none } = T1 at X₁ st1
  have hcat : (Value.ref T.heap.size).category = 1 := rfl
  have hcellA : T1.heap[T.heap.size]? = some (freshCell cX kX) := by rw [← hT1]; exact State.heap_pushCell_size _ _
  have d3' : decode c.code (pc + 3) = .ok (.dup, 1) := by rw [hb]; exact d3
  obtain ⟨U, hsteps, hrun, hend, hW, hsame, ce, hce, hO⟩ := X₁.ctorThrow0 hexec htr (own := own) (cls := cls) (names := names) (ic := ic) hown' hcls hnames h (fun x hx => nomatch hx) hfX hkX hcellA (by rw [hhp, hT]; exact Nat.le_refl _)
    (g := { method := m, pc := pc + 4, locals := ls, stack := .ref T.heap.size :: .ref T.heap.size :: rest, locked := none }) rfl hsize rfl rfl (rest := rest) rfl
    (by rw [hb]; exact d4) (by rw [hb]; exact d7) hout hRframes (by simp only [List.map_cons, List.sum_cons, hcat]; omega) hlocks
  obtain ⟨f1, f2⟩ := vx_frame hsame
  rw [hhp] at f1 f2
  have hWs : s.WarmedH U.vm := State.WarmedH.trans hW0 hW
  have hcl : s.vm.findClass cls = some ce.cls := by
    have h9 := hO.cls
    rw [hvm] at h9
    exact h9
  have hall : s.sameButNew ({ U with vm := s.vm } : State) locs mc ms := by
    subst hA
    obtain ⟨e1, e2⟩ := hsame
    rw [State.setFrames_setFrames] at e1
    have h2 : (T.setVm s.vm).sameButNew ({ U with vm := s.vm } : State) [] (0 + 1) (0 + 6) := ⟨e1, e2⟩
    have h3 := X.same.trans h2
    rw [List.append_nil] at h3
    exact h3.mono hc hs
  refine ⟨U, ?_, .threw T.heap.size, hrun, hend, Or.inr ⟨T.heap.size, rfl, cls, ce, locs, hx U hWs.alike f1 (fun q hq => f2 q hq (fun z hz => nomatch hz)), hce, hO.vm, hcl, hWs, hall, hf⟩⟩
  refine st1 _ ?_
  show Steps p.tables e below (T1.setTop { method := m, pc := pc + 3, locals := ls, stack := .ref T.heap.size :: rest, locked := none }) _
  jvm_step X₁.here [X₁.here.top, hexec, d3', Value.category]
  exact hsteps
/-- 'throw new E("text")': new; dup; ldc; invokespecial; athrow -/
theorem vx_throwS {cc : ByteArray} {pc : Nat} (hexec : p.tables.exec = Jvm.exec) (hb : c.code = cc) (hl : l.stackTraces = false) {own cls text : String} {names : List String} {ik is ic mc ms sa : Nat} {A : Nat → Prop}
    (hown : s.vm.findClass own = some m.cls) (hcls : Bundle.fit cls = true) (hnames : ∀ n ∈ names, Bundle.fit n = true)
    (hk : (Cond.classLink own ik cls).before args s = true) (hini : (Cond.initialized cls).before args s = true) (hstr : vk_R own is text sa s) (hat : ∀ w ∈ vx_atS own ic cls names, w.before args s = true)
    (hgood : ∀ w ∈ Cond.classLink own ik cls :: Cond.initialized cls :: vx_atS own ic cls names, vx_ot w = true)
    (hU : vx_Zq Bundle.tN "UNASSIGNED_STACK" Bundle.steD A s s.heap) (hN : vx_Zq Bundle.tN "SUPPRESSED_SENTINEL" Bundle.listD A s s.heap) (hS : va_S A s.heap H locs) (hsize : ls.size = c.maxLocals)
    (d0 : decode cc pc = .ok (.new ik, 3)) (d3 : decode cc (pc + 3) = .ok (.dup, 1)) (d4 : decode cc (pc + 4) = .ok (.ldc is, 2)) (d6 : decode cc (pc + 6) = .ok (.invokespecial ic, 3)) (d9 : decode cc (pc + 9) = .ok (.athrow, 1))
    (hout : ∀ x ∈ c.exceptionTable.toList, covers x (pc + 9) = false)
    (hRframes : names.length + 3 < R.frames) (hRlocals : (rest.map fun v => v.category).sum + (13 * (names.length + 1) + 43) ≤ R.locals) (hRcells : cells + 1 ≤ R.cells) (hRslots : slots + 6 ≤ R.slots) (hlocks : meth.locks = false)
    (hx : ∀ t : State, s.vm.Alike t.vm → H.size ≤ t.heap.size → (∀ q : Nat, q < H.size → t.heap[q]? = H[q]?) → XC cls s t)
    (hf : ∀ z ∈ locs, free z.base) (hc : cells + 1 ≤ mc) (hs : slots + 6 ≤ ms) :
    W p l e R s m args below meth c H locs cells slots (vx_MQ below Qc XC args s mc ms free) (F0 m pc ls rest) := by
  intro T hT X
  have htr : e.platform.stackTraces = false := (show e.platform.stackTraces = l.stackTraces by rw [X.admits.platform]).trans hl
  have Y := vx_rebase X (R' := { frames := R.frames, locals := R.locals, cells := 1, slots := 6 }) (Nat.le_refl _) (Nat.le_refl _) hRcells hRslots
  obtain ⟨s', hA⟩ : ∃ z, z = (T.setVm s.vm).setFrames (.invoking m args :: below) := ⟨_, rfl⟩
  rw [← hA] at Y
  have hvm : s'.vm = s.vm := by rw [hA]; rfl
  have hhp : s'.heap = H := by rw [hA]; exact hT
  have hW0 : s.WarmedH s'.vm := by rw [hvm]; exact State.WarmedH.refl s
  have hat' : ∀ w ∈ vx_atS own ic cls names, w.before args s' = true := fun w hw => vx_ot_at hW0 hvm.symm (hgood w (List.mem_cons_of_mem _ (List.mem_cons_of_mem _ hw))) (hat w hw)
  have hk' : (Cond.classLink own ik cls).before args s' = true := vx_ot_at hW0 hvm.symm (hgood _ List.mem_cons_self) hk
  have hini' : (Cond.initialized cls).before args s' = true := vx_ot_at hW0 hvm.symm (hgood _ (List.mem_cons_of_mem _ List.mem_cons_self)) hini
  have hU' : vx_Zq Bundle.tN "UNASSIGNED_STACK" Bundle.steD A s' s'.heap := by rw [hhp]; exact vx_Zq.moved hW0.alike (hU.kept hS.2.1)
  have hN' : vx_Zq Bundle.tN "SUPPRESSED_SENTINEL" Bundle.listD A s' s'.heap := by rw [hhp]; exact vx_Zq.moved hW0.alike (hN.kept hS.2.1)
  have h : ∀ w ∈ Bundle.ownAtoms own ic cls names, w.before args s' = true := vx_own hat' (vx_isRefq hU'.1) (vx_isRefq hN'.1) hU'.2.word hN'.2.word
  have hown' : s'.vm.findClass own = some m.cls := by rw [hvm]; exact hown
  have hins : (Cond.instantiable cls 6).before args s' = true := h _ (by simp [Bundle.ownAtoms])
  obtain ⟨vm₁, cX, kX, hfX, hkX, -, -, X₁, st1⟩ := Y.newCold hexec (own := own) (C := cls) (index := ik) (n := 6) hown' hk' hins hini'
    (g := F0 m pc ls rest) rfl (by rw [hb]; exact d0) (Nat.le_refl _) (Nat.le_refl _)
  generalize hT1 : (T.setVm vm₁).pushCell { cls := cX, slots := kX.instanceTypes.map defaultValue, vm := .none } = T1 at X₁ st1
  have hcat : (Value.ref T.heap.size).category = 1 := rfl
  have hcellA : T1.heap[T.heap.size]? = some (freshCell cX kX) := by rw [← hT1]; exact State.heap_pushCell_size _ _
  have d3' : decode c.code (pc + 3) = .ok (.dup, 1) := by rw [hb]; exact d3
  have d4' : decode c.code (pc + 4) = .ok (.ldc is, 2) := by rw [hb]; exact d4
  have hstr' : vk_R own is text sa s' := vk_R.warm hW0 hstr
  obtain ⟨U, hsteps, hrun, hend, hW, hsame, ce, hce, hO⟩ := X₁.ctorThrowS hexec htr (own := own) (cls := cls) (names := names) (ic := ic) hown' hcls hnames h (fun x hx => nomatch hx) hfX hkX hcellA (by rw [hhp, hT]; exact Nat.le_refl _) (msg := .ref sa) rfl
    (g := { method := m, pc := pc + 6, locals := ls, stack := .ref sa :: .ref T.heap.size :: .ref T.heap.size :: rest, locked := none }) rfl hsize rfl rfl (rest := rest) rfl
    (by rw [hb]; exact d6) (by rw [hb]; exact d9) hout hRframes (by simp only [List.map_cons, List.sum_cons, hcat]; omega) hlocks
  obtain ⟨f1, f2⟩ := vx_frame hsame
  rw [hhp] at f1 f2
  have hWs : s.WarmedH U.vm := State.WarmedH.trans hW0 hW
  have hcl : s.vm.findClass cls = some ce.cls := by
    have h9 := hO.cls
    rw [hvm] at h9
    exact h9
  have hall : s.sameButNew ({ U with vm := s.vm } : State) locs mc ms := by
    subst hA
    obtain ⟨e1, e2⟩ := hsame
    rw [State.setFrames_setFrames] at e1
    have h2 : (T.setVm s.vm).sameButNew ({ U with vm := s.vm } : State) [] (0 + 1) (0 + 6) := ⟨e1, e2⟩
    have h3 := X.same.trans h2
    rw [List.append_nil] at h3
    exact h3.mono hc hs
  refine ⟨U, ?_, .threw T.heap.size, hrun, hend, Or.inr ⟨T.heap.size, rfl, cls, ce, locs, hx U hWs.alike f1 (fun q hq => f2 q hq (fun z hz => nomatch hz)), hce, hO.vm, hcl, hWs, hall, hf⟩⟩
  refine st1 _ ?_
  show Steps p.tables e below (T1.setTop { method := m, pc := pc + 3, locals := ls, stack := .ref T.heap.size :: rest, locked := none }) _
  jvm_step X₁.here [X₁.here.top, hexec, d3', Value.category]
  exact X₁.ldcString hexec (own := own) (text := text) (index := is) (a := sa) hown' hstr'.1 hstr'.2
    (g := { method := m, pc := pc + 4, locals := ls, stack := .ref T.heap.size :: .ref T.heap.size :: rest, locked := none }) rfl d4' _ hsteps
/-- 'throw new E("text")', the text by a wide index -/
theorem vx_throwSW {cc : ByteArray} {pc : Nat} (hexec : p.tables.exec = Jvm.exec) (hb : c.code = cc) (hl : l.stackTraces = false) {own cls text : String} {names : List String} {ik is ic mc ms sa : Nat} {A : Nat → Prop}
    (hown : s.vm.findClass own = some m.cls) (hcls : Bundle.fit cls = true) (hnames : ∀ n ∈ names, Bundle.fit n = true)
    (hk : (Cond.classLink own ik cls).before args s = true) (hini : (Cond.initialized cls).before args s = true) (hstr : vk_R own is text sa s) (hat : ∀ w ∈ vx_atS own ic cls names, w.before args s = true)
    (hgood : ∀ w ∈ Cond.classLink own ik cls :: Cond.initialized cls :: vx_atS own ic cls names, vx_ot w = true)
    (hU : vx_Zq Bundle.tN "UNASSIGNED_STACK" Bundle.steD A s s.heap) (hN : vx_Zq Bundle.tN "SUPPRESSED_SENTINEL" Bundle.listD A s s.heap) (hS : va_S A s.heap H locs) (hsize : ls.size = c.maxLocals)
    (d0 : decode cc pc = .ok (.new ik, 3)) (d3 : decode cc (pc + 3) = .ok (.dup, 1)) (d4 : decode cc (pc + 4) = .ok (.ldc_w is, 3)) (d7 : decode cc (pc + 7) = .ok (.invokespecial ic, 3)) (d10 : decode cc (pc + 10) = .ok (.athrow, 1))
    (hout : ∀ x ∈ c.exceptionTable.toList, covers x (pc + 10) = false)
    (hRframes : names.length + 3 < R.frames) (hRlocals : (rest.map fun v => v.category).sum + (13 * (names.length + 1) + 43) ≤ R.locals) (hRcells : cells + 1 ≤ R.cells) (hRslots : slots + 6 ≤ R.slots) (hlocks : meth.locks = false)
    (hx : ∀ t : State, s.vm.Alike t.vm → H.size ≤ t.heap.size → (∀ q : Nat, q < H.size → t.heap[q]? = H[q]?) → XC cls s t)
    (hf : ∀ z ∈ locs, free z.base) (hc : cells + 1 ≤ mc) (hs : slots + 6 ≤ ms) :
    W p l e R s m args below meth c H locs cells slots (vx_MQ below Qc XC args s mc ms free) (F0 m pc ls rest) := by
  intro T hT X
  have htr : e.platform.stackTraces = false := (show e.platform.stackTraces = l.stackTraces by rw [X.admits.platform]).trans hl
  have Y := vx_rebase X (R' := { frames := R.frames, locals := R.locals, cells := 1, slots := 6 }) (Nat.le_refl _) (Nat.le_refl _) hRcells hRslots
  obtain ⟨s', hA⟩ : ∃ z, z = (T.setVm s.vm).setFrames (.invoking m args :: below) := ⟨_, rfl⟩
  rw [← hA] at Y
  have hvm : s'.vm = s.vm := by rw [hA]; rfl
  have hhp : s'.heap = H := by rw [hA]; exact hT
  have hW0 : s.WarmedH s'.vm := by rw [hvm]; exact State.WarmedH.refl s
  have hat' : ∀ w ∈ vx_atS own ic cls names, w.before args s' = true := fun w hw => vx_ot_at hW0 hvm.symm (hgood w (List.mem_cons_of_mem _ (List.mem_cons_of_mem _ hw))) (hat w hw)
  have hk' : (Cond.classLink own ik cls).before args s' = true := vx_ot_at hW0 hvm.symm (hgood _ List.mem_cons_self) hk
  have hini' : (Cond.initialized cls).before args s' = true := vx_ot_at hW0 hvm.symm (hgood _ (List.mem_cons_of_mem _ List.mem_cons_self)) hini
  have hU' : vx_Zq Bundle.tN "UNASSIGNED_STACK" Bundle.steD A s' s'.heap := by rw [hhp]; exact vx_Zq.moved hW0.alike (hU.kept hS.2.1)
  have hN' : vx_Zq Bundle.tN "SUPPRESSED_SENTINEL" Bundle.listD A s' s'.heap := by rw [hhp]; exact vx_Zq.moved hW0.alike (hN.kept hS.2.1)
  have h : ∀ w ∈ Bundle.ownAtoms own ic cls names, w.before args s' = true := vx_own hat' (vx_isRefq hU'.1) (vx_isRefq hN'.1) hU'.2.word hN'.2.word
  have hown' : s'.vm.findClass own = some m.cls := by rw [hvm]; exact hown
  have hins : (Cond.instantiable cls 6).before args s' = true := h _ (by simp [Bundle.ownAtoms])
  obtain ⟨vm₁, cX, kX, hfX, hkX, -, -, X₁, st1⟩ := Y.newCold hexec (own := own) (C := cls) (index := ik) (n := 6) hown' hk' hins hini'
    (g := F0 m pc ls rest) rfl (by rw [hb]; exact d0) (Nat.le_refl _) (Nat.le_refl _)
  generalize hT1 : (T.setVm vm₁).pushCell { cls := cX, slots := kX.instanceTypes.map defaultValue, vm := .none } = T1 at X₁ st1
  have hcat : (Value.ref T.heap.size).category = 1 := rfl
  have hcellA : T1.heap[T.heap.size]? = some (freshCell cX kX) := by rw [← hT1]; exact State.heap_pushCell_size _ _
  have d3' : decode c.code (pc + 3) = .ok (.dup, 1) := by rw [hb]; exact d3
  have d4' : decode c.code (pc + 4) = .ok (.ldc_w is, 3) := by rw [hb]; exact d4
  have hstr' : vk_R own is text sa s' := vk_R.warm hW0 hstr
  obtain ⟨U, hsteps, hrun, hend, hW, hsame, ce, hce, hO⟩ := X₁.ctorThrowS hexec htr (own := own) (cls := cls) (names := names) (ic := ic) hown' hcls hnames h (fun x hx => nomatch hx) hfX hkX hcellA (by rw [hhp, hT]; exact Nat.le_refl _) (msg := .ref sa) rfl
    (g := { method := m, pc := pc + 7, locals := ls, stack := .ref sa :: .ref T.heap.size :: .ref T.heap.size :: rest, locked := none }) rfl hsize rfl rfl (rest := rest) rfl
    (by rw [hb]; exact d7) (by rw [hb]; exact d10) hout hRframes (by simp only [List.map_cons, List.sum_cons, hcat]; omega) hlocks
  obtain ⟨f1, f2⟩ := vx_frame hsame
  rw [hhp] at f1 f2
  have hWs : s.WarmedH U.vm := State.WarmedH.trans hW0 hW
  have hcl : s.vm.findClass cls = some ce.cls := by
    have h9 := hO.cls
    rw [hvm] at h9
    exact h9
  have hall : s.sameButNew ({ U with vm := s.vm } : State) locs mc ms := by
    subst hA
    obtain ⟨e1, e2⟩ := hsame
    rw [State.setFrames_setFrames] at e1
    have h2 : (T.setVm s.vm).sameButNew ({ U with vm := s.vm } : State) [] (0 + 1) (0 + 6) := ⟨e1, e2⟩
    have h3 := X.same.trans h2
    rw [List.append_nil] at h3
    exact h3.mono hc hs
  refine ⟨U, ?_, .threw T.heap.size, hrun, hend, Or.inr ⟨T.heap.size, rfl, cls, ce, locs, hx U hWs.alike f1 (fun q hq => f2 q hq (fun z hz => nomatch hz)), hce, hO.vm, hcl, hWs, hall, hf⟩⟩
  refine st1 _ ?_
  show Steps p.tables e below (T1.setTop { method := m, pc := pc + 3, locals := ls, stack := .ref T.heap.size :: rest, locked := none }) _
  jvm_step X₁.here [X₁.here.top, hexec, d3', Value.category]
  exact X₁.ldcStringW hexec (own := own) (text := text) (index := is) (a := sa) hown' hstr'.1 hstr'.2
    (g := { method := m, pc := pc + 4, locals := ls, stack := .ref T.heap.size :: .ref T.heap.size :: rest, locked := none }) rfl d4' _ hsteps
end Ends
section Bodies
variable {l : Launch}
theorem vx_ofW {y : MethodName} {ws ws' : List Cond} {rm : Room} {Pc : Array Value → State → Prop} {Qc : Array Value → State → Outcome → State → Prop} {XC : String → State → State → Prop} {mc ms : Nat} {free : Addr → Prop} {cc : ByteArray} {maxL : Nat} {ret : Option FieldType}
    (hy : plainName y.cls = true) (hw : ws = Cond.code y cc maxL ret :: ws')
    (body : ∀ p e s m args below meth c s₁, BodyLoose p l y (headSpec ws rm) cc maxL ret e s m args below meth c s₁ → c.maxLocals = maxL → (∀ x ∈ c.exceptionTable.toList, False) → Pc args s →
      W p l e (headSpec ws rm).room s m args below meth c s.heap [] 0 0 (vx_MQ below Qc XC args s mc ms free) (entryFrame m args maxL)) : vx_Met l y ws rm Pc Qc XC mc ms free := by
  refine MetFree.of_bodyS (code := cc) (maxLocals := maxL) (ret := ret) hy ?_ ?_
  · intro args s m h hn
    obtain ⟨meth, c, h1, h2, h3, h4, h5, h6, -, -⟩ := Cond.code_spec hn (atoms_spec (ws := ws) h _ (by rw [hw]; exact List.mem_cons_self))
    exact ⟨meth, c, h1, h2, h3, h4, h5, h6⟩
  · intro p e s m args below meth c s₁ B hml hP _
    have hh0 : s₁.heap = s.heap := by rw [B.state]; rfl
    have ht : ∀ x ∈ c.exceptionTable.toList, False := by
      obtain ⟨meth9, c9, h1, h2, -, -, -, -, h7, -⟩ := Cond.code_spec B.named (atoms_spec (ws := ws) B.pre _ (by rw [hw]; exact List.mem_cons_self))
      cases Option.some.inj (h1.symm.trans B.method)
      cases Option.some.inj (h2.symm.trans (Stand.of_body B).code)
      intro x hx
      rw [Array.isEmpty_iff.mp h7] at hx
      cases hx
    obtain ⟨t, a1, o, b1, b2, b3⟩ := body p e s m args below meth c s₁ B hml ht hP s₁ hh0 (Stand.of_body B)
    exact ⟨t, o, a1, b1, b2, b3⟩
/-- the table of a body with handlers -/
theorem vx_table {p : Program} {x y : MethodName} {S : Spec} {cc bytes : ByteArray} {maxL maxL' : Nat} {ret ret' : Option FieldType} {e : Env} {s s₁ : State} {m : MethodId} {args : Array Value} {below : List Frame} {meth : Method} {c : Code} {hh : List (Nat × Nat × Nat × Nat)}
    (B : BodyLoose p l y S cc maxL ret e s m args below meth c s₁) (h : (Cond.codeWith y bytes maxL' ret' hh).before args s = true) : c.exceptionTable.toList = tableOf hh := by
  obtain ⟨m9, meth9, c9, hn9, h1, h2, -, -, h6, -⟩ := Cond.codeWith_spec h
  cases Option.some.inj (hn9.symm.trans B.named)
  cases Option.some.inj (h1.symm.trans B.method)
  cases Option.some.inj (h2.symm.trans (Stand.of_body B).code)
  rw [← h6, table_eq]
end Bodies
end VXA
/-! ===== END ===== -/
/-! ===== BEGIN a static call of a method with an exception table ===== -/
section VXS
variable {p : Program} {l : Launch} {e : Env} {R : Room} {s : State} {m : MethodId} {args : Array Value} {below : List Frame} {meth : Method} {c : Code} {T : State} {H : Heap} {locs : List Loc} {cells slots : Nat}
abbrev vx_CSW (R : Room) (s : State) (args : Array Value) (own : String) (index : Nat) (y : MethodName) (bytes : ByteArray) (maxL : Nat) (ret : Option FieldType) (hh : List (Nat × Nat × Nat × Nat)) (ws : List Cond) (rm : Room) (mc ms n : Nat) : Prop :=
  (rm.cells = mc ∧ rm.slots = ms ∧ rm.frames + 1 ≤ R.frames ∧ 8 + (maxL + 11) + rm.locals ≤ R.locals ∧ (∀ w ∈ ws, ∀ (a' : Array Value) (U : State), s.WarmedH U.vm → w.before a' U = true) ∧ Cond.codeWith y bytes maxL ret hh ∈ ws) ∧
  (Cond.codeWith y bytes maxL ret hh).before args s = true ∧ (Cond.initialized y.cls).before args s = true ∧ (y.cls ≠ "java/lang/invoke/MethodHandle" ∧ y.cls ≠ "java/lang/invoke/VarHandle") ∧
  (∀ sig, parseMethodDescriptor y.desc = some sig → n = sig.parameters.length) ∧ (Cond.methodLink own index y).before args s = true ∧ (Cond.static y).before args s = true
theorem vx_cwSW {own : String} {index maxL mc ms : Nat} {y : MethodName} {bytes : ByteArray} {ret : Option FieldType} {hh : List (Nat × Nat × Nat × Nat)} {Ts ws ws' : List Cond} {rm : Room} (n : Nat) (ht : ∀ w ∈ Ts, w.before args s = true) (hT : GoodIn Ts (va_wsS own index y ws)) (hw : ws = Cond.codeWith y bytes maxL ret hh :: ws') (hrc : rm.cells = mc) (hrs : rm.slots = ms)
    (hd : y.cls ≠ "java/lang/invoke/MethodHandle" ∧ y.cls ≠ "java/lang/invoke/VarHandle" ∧ (parseMethodDescriptor y.desc).map (fun d => d.parameters.length) = some n) (hR : rm.frames + 1 ≤ R.frames ∧ 8 + (maxL + 11) + rm.locals ≤ R.locals) :
    vx_CSW R s args own index y bytes maxL ret hh ws rm mc ms n := by
  have ok : ∀ w ∈ va_wsS own index y ws, w.before args s = true := fun w h => ht w (hT w h).1
  have hG : GoodIn Ts ws := fun w h => hT w (by unfold va_wsS; exact List.mem_append_right _ h)
  have hc : Cond.codeWith y bytes maxL ret hh ∈ ws := by rw [hw]; exact List.mem_cons_self
  refine ⟨⟨hrc, hrs, hR.1, hR.2, pay_in ht hG, hc⟩, ht _ (hG _ hc).1, ok _ (by simp [va_wsS]), ⟨hd.1, hd.2.1⟩, fun sig h => ?_, ok _ (by simp [va_wsS]), ok _ (by simp [va_wsS])⟩
  have h2 := hd.2.2
  rw [h] at h2
  exact (Option.some.inj h2).symm
theorem vx_callSW (X : Stand p l e R s m args below meth c T locs cells slots) (hexec : p.tables.exec = Jvm.exec) {own : String} {index : Nat} {y : MethodName} {bytes : ByteArray} {maxL : Nat} {ret : Option FieldType} {hh : List (Nat × Nat × Nat × Nat)}
    (hown : s.vm.findClass own = some m.cls) (hlink : (Cond.methodLink own index y).before args s = true) (hstat : (Cond.static y).before args s = true) (hinit : (Cond.initialized y.cls).before args s = true)
    (hcode : (Cond.codeWith y bytes maxL ret hh).before args s = true) (hy : y.cls ≠ "java/lang/invoke/MethodHandle" ∧ y.cls ≠ "java/lang/invoke/VarHandle")
    {W9 : Nat} {Pre : Pt → Array Value → Prop} {Post : Pt → Array Value → Option Value → Pt → Prop} (hK : Back l R p e below s args y 3 W9 Pre Post)
    {g : JFrame} (hg : g.method = m) (hsize : g.locals.size = c.maxLocals) {argsL rest : List Value} (hlen : ∀ sig, parseMethodDescriptor y.desc = some sig → argsL.length = sig.parameters.length)
    (hstack : g.stack = argsL.reverse ++ rest) (hW : 2 * g.monitorRoom + (rest.map fun v => v.category).sum ≤ W9) (hdg : decode c.code g.pc = .ok (.invokestatic index, 3))
    (hpre : ∀ vm₁, s.WarmedH vm₁ → Pre ⟨T.setVm vm₁, locs, cells, slots⟩ argsL.toArray) :
    ∃ (v : Option Value) (vm₁ : Vm) (B : Pt), s.WarmedH vm₁ ∧ Stand p l e R s m args below meth c B.U B.locs B.cells B.slots ∧ Post ⟨T.setVm vm₁, locs, cells, slots⟩ argsL.toArray v B ∧
      ∀ target, Steps p.tables e below (B.U.setTop { g with pc := g.pc + 3, stack := v.toList ++ rest }) target → Steps p.tables e below (T.setTop g) target := by
  obtain ⟨mk, methM, cM, hnamed, hmethM, -, -, -, -, -, -, hsigM⟩ := Cond.codeWith_spec hcode
  have hstatic : methM.isStatic = true := Cond.static_spec hnamed hmethM hstat
  obtain ⟨kP, hkP, -⟩ := className_of_methodNamed hnamed
  have hinitP : kP.init = .initialized := Cond.initialized_spec (findClass_of_methodNamed hnamed) hkP hinit
  obtain ⟨vm₁, X₁, hstep₁⟩ := X.invokestatic hexec hown hlink hnamed hmethM hstatic hkP hinitP hy (g := g) hg (argsL := argsL) (rest := rest) (hlen _ hsigM) hstack hdg
  obtain ⟨v, B, X', hpost, hsteps⟩ := hK m meth c ⟨T.setVm vm₁, locs, cells, slots⟩ { g with stack := rest } (.invokestatic index) mk argsL.toArray X₁ hg hsize hdg hW (X₁.named hnamed) (hpre vm₁ X₁.warmed)
  exact ⟨v, vm₁, B, X₁.warmed, X', hpost, fun target h => hstep₁ _ fun acts => by rw [doInvoke_state]; exact hsteps.trans h⟩
theorem vx_runSW {y : MethodName} {bytes cc : ByteArray} {maxL nL mc ms n index : Nat} {ret : Option FieldType} {hh : List (Nat × Nat × Nat × Nat)} {ws : List Cond} {rm : Room} {Pc : Array Value → State → Prop} {Qc : Array Value → State → Outcome → State → Prop} {free : Addr → Prop} {Ts : List Cond} {own : String} {As rest : List Value} {g : JFrame}
    (S : CallFix p m c cc nL s args Ts own) (hM : Met l y ws rm Pc Qc mc ms free) (cw : vx_CSW R s args own index y bytes maxL ret hh ws rm mc ms n) (hp : PreS s H Pc As)
    (hg : g.method = m) (hn : As.length = n) (hsize : g.locals.size = nL) (hstack : g.stack = As.reverse ++ rest) (hW : 2 * g.monitorRoom + (rest.map fun v => v.category).sum ≤ 8) (hdg : decode cc g.pc = .ok (.invokestatic index, 3)) (hf : cells + mc ≤ R.cells ∧ slots + ms ≤ R.slots) :
    va_Run p l e R s m args below meth c H locs cells slots mc ms g rest (Qc As.toArray) (free) := by
  obtain ⟨⟨hrc, hrs, hfr, hlo, hws, hcw⟩, hcode, hini, hy, hlen, hl, hstt⟩ := cw
  have hK : Back l R p e below s args y 3 8 (PreOf R mc ms Pc) (PostOf Qc mc ms free) := va_backW (hh := hh) (bytes := bytes) (maxL := maxL) (ret := ret) hM hp.1 hrc hrs hfr hlo hws hcw (fun a' U hW => word_at hW (Or.inl (by first | rfl | simp [Cond.onTables, Cond.keeps, Cond.steady])) hini)
  obtain ⟨hx, hb, hml, ho, -⟩ := S
  intro T hT X
  obtain ⟨v, vm₁, ⟨U', l2, c2, s2⟩, hW₁, X', ⟨g', mk, t, L, e1, e2, hq, h1, hL, h2, h3⟩, st⟩ := vx_callSW X hx (hh := hh) (bytes := bytes) (maxL := maxL) (ret := ret) ho hl hstt hini hcode hy hK hg (hsize.trans hml.symm) (argsL := As) (rest := rest) (fun sig h => hn.trans (hlen sig h)) hstack hW (by rw [hb]; exact hdg)
    (fun vm₁ hW₁ => ⟨hf.1, hf.2, hp.2 (T.setVm vm₁) hT hW₁⟩)
  dsimp only [Pt.U, Pt.locs, Pt.cells, Pt.slots] at X' e1 e2 h1 h2 h3 st
  subst h1; subst h2; subst h3
  exact ⟨v, (T.setVm vm₁).calling g' mk As.toArray, t, U', L, hT, X', hL, e1, e2, hq, st⟩
/-- not caught here, past rows that name other classes: it goes on to the caller -/
theorem vx_outP {p : Program} {l : Launch} {e : Env} {R : Room} {s : State} {m : MethodId} {args : Array Value} {below : List Frame} {meth : Method} {c : Code} {H : Heap} {locs : List Loc} {cells slots : Nat} {free : Addr → Prop} {ls : Array Slot} {rest : List Value} {Qc : Array Value → State → Outcome → State → Prop} {XC : String → State → State → Prop}
    {pc : Nat} {own E : String} {ce : Cell} {q : Addr} {mc ms : Nat} (hown : s.vm.findClass own = some m.cls) (hlocks : meth.locks = false)
    (hpass : ∀ z ∈ c.exceptionTable.toList, covers z pc = false ∨ (z.catchType ≠ 0 ∧ ∃ nm : String, (Cond.classLink own z.catchType nm).before args s = true ∧ va_Nc E nm s)) (hcell : H[q]? = some ce) (hv : ce.vm = .none) (hcl : s.vm.findClass E = some ce.cls)
    (hx : ∀ t : State, t.heap = H → s.vm.Alike t.vm → XC E s t) (hf : ∀ z ∈ locs, free z.base) (hc : cells ≤ mc) (hs : slots ≤ ms) :
    vx_W p l e R s m args below meth c H locs cells slots (vx_MQ below Qc XC args s mc ms free) (F0 m pc ls rest) q := by
  intro T hT X
  have hpl : e.platform.magicAccessors = ({} : Platform).magicAccessors := by rw [X.admits.platform]
  obtain ⟨vm', hW', X', st⟩ := X.outThrough hlocks q (g := F0 m pc ls rest) rfl rfl rfl (cell := ce) (by rw [hT]; exact hcell) (by rw [hv]; rfl)
    (by obtain ⟨k9, h9, -⟩ := Vm.findClass_spec hcl; exact ⟨k9, h9⟩) (fun z hz => by
      rcases hpass z hz with h | ⟨hz0, nm, hl1, hn1⟩
      · exact Or.inl h
      · obtain ⟨c6, hc6, hcl6⟩ := Cond.classLink_spec hown hl1 e.platform hpl
        obtain ⟨a8, b8, h1, h2, h3⟩ := hn1
        cases Option.some.inj (h1.symm.trans hcl)
        cases Option.some.inj (h2.symm.trans hc6)
        exact Or.inr ⟨hz0, _, hcl6, h3⟩)
  obtain ⟨g₀, hfr⟩ := X'.frames_eq
  have hcell9 : ((T.setVm vm').setFrames (.throwing q :: below)).heap[q]? = some ce := by
    show T.heap[q]? = some ce
    rw [hT]; exact hcell
  have hend : Ended ((T.setVm vm').setFrames (.throwing q :: below)) below (.threw q) := State.frames_setFrames _ (State.cur_lt_of_frames hfr)
  refine ⟨(T.setVm vm').setFrames (.throwing q :: below), ?_, .threw q, X'.here.running, hend, Or.inr ⟨q, rfl, E, ce, locs, hx _ hT (X'.ends _).1.alike, hcell9, hv, hcl, (X'.ends _).1, (X'.ends _).2.mono hc hs, hf⟩⟩
  rw [X.pushThrowing_eq]
  exact st
/-- a thing of a world lies in the heap -/
theorem vx_lt {D : va_G} {cl : List vw_C} {ws : va_W} {H1 : Heap} (h : va_P D cl ws H1) {k : Nat} {q : Nat × va_E} (hk : ws[k]? = some q) : q.1 < H1.size := (h k q hk).lt
end VXS
/-! ===== END ===== -/
/-! ===== BEGIN methods with a table of their own: called by a name, returning or throwing ===== -/
section VXH
/-! vx_backW, vx_callVX, vx_callSX, vx_callVW, vx_runVW, vx_runVX, vx_runSX, vx_ofWH follow the same proofs as their sisters above (Free/Laws.lean, Shelf42/LK1.lean); vx_outP calls Shelf42/NT130.lean (outThrough). -/
section
variable {l : Launch} {R : Room} {p : Program} {e : Env} {below : List Frame} {s : State} {sargs : Array Value} {y : MethodName} {len W9 : Nat}
theorem vx_backW {ws : List Cond} {rm : Room} {Pc : Array Value → State → Prop} {Qc : Array Value → State → Outcome → State → Prop} {XC : String → State → State → Prop} {mc ms : Nat} {free : Addr → Prop} {bytes : ByteArray} {maxL : Nat} {ret : Option FieldType} {hh : List (Nat × Nat × Nat × Nat)}
    (hM : vx_Met l y ws rm Pc Qc XC mc ms free) (hblind : FrameBlind Pc) (hrc : rm.cells = mc) (hrs : rm.slots = ms)
    (hframes : rm.frames + 1 ≤ R.frames) (hlocals : W9 + (maxL + 11) + rm.locals ≤ R.locals)
    (hws : ∀ w ∈ ws, ∀ a' U, s.WarmedH U.vm → w.before a' U = true) (hcode : Cond.codeWith y bytes maxL ret hh ∈ ws) (hinit : ∀ a' U, s.WarmedH U.vm → (Cond.initialized y.cls).before a' U = true) :
    vx_Back l R p e below s sargs y len W9 (PreOf R mc ms Pc) (PostOf Qc mc ms free) (vx_Post XC mc ms free) := by
  intro m meth c A g ig mk a X hg hsize hdg hW hn hp
  have h1 : (headSpec ws rm).pre.before a A.U = true := atoms_intro fun w hw => hws w hw _ _ X.warmed
  have h2 : (Cond.codeWith y bytes maxL ret hh).before a A.U = true := hws _ hcode _ _ X.warmed
  have h3 : (Cond.initialized y.cls).before a A.U = true := hinit _ _ X.warmed
  have h4 : A.cells + (headSpec ws rm).room.cells ≤ R.cells := by rw [show (headSpec ws rm).room.cells = mc from hrc]; exact hp.1
  have h5 : A.slots + (headSpec ws rm).room.slots ≤ R.slots := by rw [show (headSpec ws rm).room.slots = ms from hrs]; exact hp.2.1
  have hPc : Pc a (A.U.calling g mk a) := hblind _ _ _ _ hp.2.2
  obtain ⟨U, Ls, c0, s0⟩ := A
  dsimp only [Pt.U, Pt.locs, Pt.cells, Pt.slots] at h1 h2 h3 h4 h5 X hn hPc ⊢
  obtain ⟨m9, methY, cY, hn9, hmY, hcY, -, hlY, -⟩ := Cond.codeWith_spec h2
  cases Option.some.inj (hn9.symm.trans hn)
  obtain ⟨kY, hkY, -⟩ := className_of_methodNamed hn
  have hinitY : kY.init = .initialized := Cond.initialized_spec (findClass_of_methodNamed hn) hkY h3
  have h : At U g.method c below := by rw [hg]; exact X.here
  have hlocals9 : W9 + (maxL + 11) + (headSpec ws rm).room.locals ≤ R.locals := hlocals
  have happ : (headSpec ws rm).appliesLoose y e.platform (U.calling g mk a) = true :=
    Spec.appliesLoose_calling (g := g) h hdg hn hkY hinitY
      (X.room_calling (g := g) (R' := (headSpec ws rm).room) hsize hmY hcY hframes (by rw [hlY]; omega) h4 h5) h1
  obtain ⟨mid, hmid⟩ := h.above
  have hfr : (U.setTop g).frames = (.java g :: mid) ++ below := by rw [State.frames_setTop' g h.top, hmid]; rfl
  obtain ⟨o, s₂, hsteps, -, hend, hq⟩ := Steps.callFree hM p X.admits X.cas X.clock (acts := []) hfr happ hPc trivial
  have hq' : vx_Q Qc XC mc ms free a (U.calling g mk a) o s₂ := hq
  rw [State.frames_setTop' g h.top] at hend
  obtain ⟨g₀, hg0⟩ := Option.isSome_iff_exists.mp h.top
  obtain ⟨r, hr⟩ := State.topJava?_eq_some.mp hg0
  have hr' : (({ U with heap := s₂.heap, slotsUsed := s₂.slotsUsed } : State).setVm s₂.vm).frames = .java g₀ :: r := hr
  rcases hq' with ⟨hqc, L, hfe, hL⟩ | ⟨q, rfl, E, ce, L, hx, hce, hcv, hcl, hW₂, hsm, hL⟩
  · obtain ⟨⟨v, rfl⟩, hW₂, e2, q2, q3, q4, q5, q6⟩ := id hfe
    have e3 : s₂ = ({ (U.calling g mk a).setFrames s₂.frames with heap := s₂.heap, slotsUsed := s₂.slotsUsed } : State).setVm s₂.vm := by
      have : s₂ = ({ s₂ with vm := (U.calling g mk a).vm } : State).setVm s₂.vm := rfl
      rw [e2] at this
      exact this
    obtain ⟨c₂, i₂, len₂, hc₂, hd₂, hf₂⟩ := hend
    have hW' : U.WarmedH s₂.vm := hW₂
    have hcc : c₂ = c := by
      have h1 : s₂.code? g.method = U.code? g.method := by
        rw [State.code?_eq, State.code?_eq, hW'.alike.method?]
      exact Option.some.inj (hc₂.symm.trans (h1.trans h.code))
    subst hcc
    have hlen : len₂ = len := by rw [hdg] at hd₂; cases hd₂; rfl
    subst hlen
    have hs₂ : s₂ = (({ U with heap := s₂.heap, slotsUsed := s₂.slotsUsed } : State).setVm s₂.vm).setTop { g with pc := g.pc + len₂, stack := v.toList ++ g.stack } := by
      refine e3.trans ?_
      rw [hf₂, State.calling_eq h.top, State.setFrames_setFrames, State.setTop_of_frames _ hr', hr]
      rfl
    have hsame : U.sameButNew ({ U with heap := s₂.heap, slotsUsed := s₂.slotsUsed } : State) L mc ms := by
      refine ⟨?_, q2, q3, q4, q5, q6⟩
      obtain ⟨t, ht, -⟩ := State.frames_cons hr
      show ({ U with heap := s₂.heap, slotsUsed := s₂.slotsUsed } : State) = { U.setFrames U.frames with heap := s₂.heap, slotsUsed := s₂.slotsUsed }
      rw [State.setFrames_self ht]
    subst hg
    refine Or.inl ⟨v, ⟨(({ U with heap := s₂.heap, slotsUsed := s₂.slotsUsed } : State).setVm s₂.vm), Ls ++ L, c0 + mc, s0 + ms⟩,
      ⟨X.admits, X.cas, X.clock, X.frames, X.room, X.hears, X.method, X.code, (X.here.setHeapUsed s₂.heap s₂.slotsUsed).setVm hW'.alike, X.tail, State.WarmedH.trans X.warmed hW', X.limits, X.bytes, X.same.trans (hsame.setVm s.vm)⟩,
      ⟨g, mk, s₂, L, rfl, rfl, hqc, rfl, hL, rfl, rfl⟩, ?_⟩
    show Steps p.tables e below _ ((({ U with heap := s₂.heap, slotsUsed := s₂.slotsUsed } : State).setVm s₂.vm).setTop { g with pc := g.pc + len₂, stack := v.toList ++ g.stack })
    rw [← hs₂]
    exact hsteps
  · obtain ⟨e2, q2, q3, q4, q5, q6⟩ := id hsm
    have e3 : s₂ = ({ (U.calling g mk a).setFrames s₂.frames with heap := s₂.heap, slotsUsed := s₂.slotsUsed } : State).setVm s₂.vm := by
      have : s₂ = ({ s₂ with vm := (U.calling g mk a).vm } : State).setVm s₂.vm := rfl
      rw [e2] at this
      exact this
    have hf₂ : s₂.frames = .throwing q :: .java g :: U.frames.tail := hend
    have hW' : U.WarmedH s₂.vm := hW₂
    have hs₂ : s₂ = ((({ U with heap := s₂.heap, slotsUsed := s₂.slotsUsed } : State).setVm s₂.vm).setTop g).pushFrame (.throwing q) := by
      refine e3.trans ?_
      rw [hf₂, State.calling_eq h.top, State.setFrames_setFrames, State.pushFrame, State.frames_setTop _ hr', State.setTop_of_frames _ hr', State.setFrames_setFrames, hr]
      rfl
    have hsame : U.sameButNew ({ U with heap := s₂.heap, slotsUsed := s₂.slotsUsed } : State) L mc ms := by
      refine ⟨?_, q2, q3, q4, q5, q6⟩
      obtain ⟨t, ht, -⟩ := State.frames_cons hr
      show ({ U with heap := s₂.heap, slotsUsed := s₂.slotsUsed } : State) = { U.setFrames U.frames with heap := s₂.heap, slotsUsed := s₂.slotsUsed }
      rw [State.setFrames_self ht]
    subst hg
    refine Or.inr ⟨q, ⟨(({ U with heap := s₂.heap, slotsUsed := s₂.slotsUsed } : State).setVm s₂.vm), Ls ++ L, c0 + mc, s0 + ms⟩,
      ⟨X.admits, X.cas, X.clock, X.frames, X.room, X.hears, X.method, X.code, (X.here.setHeapUsed s₂.heap s₂.slotsUsed).setVm hW'.alike, X.tail, State.WarmedH.trans X.warmed hW', X.limits, X.bytes, X.same.trans (hsame.setVm s.vm)⟩,
      ⟨g, mk, s₂, L, E, ce, rfl, rfl, hx, hce, hcv, hcl, rfl, hL, rfl, rfl⟩, ?_⟩
    show Steps p.tables e below _ (((({ U with heap := s₂.heap, slotsUsed := s₂.slotsUsed } : State).setVm s₂.vm).setTop g).pushFrame (.throwing q))
    rw [← hs₂]
    exact hsteps
end
variable {p : Program} {l : Launch} {e : Env} {R : Room} {s : State} {m : MethodId} {args : Array Value} {below : List Frame} {meth : Method} {c : Code} {T : State} {H : Heap} {locs : List Loc} {cells slots : Nat}
theorem vx_callVX (X : Stand p l e R s m args below meth c T locs cells slots) (hexec : p.tables.exec = Jvm.exec) {own C : String} {index : Nat} {y : MethodName} {bytes : ByteArray} {maxL : Nat} {ret : Option FieldType} {hh : List (Nat × Nat × Nat × Nat)}
    (hown : s.vm.findClass own = some m.cls) (hlink : (Cond.methodLink own index y).before args s = true) (hinst : (Cond.instanceMethod y).before args s = true) (hsel : (Cond.selects C y y).before args s = true)
    (hcode : (Cond.codeWith y bytes maxL ret hh).before args s = true) (hy : y.cls ≠ "java/lang/invoke/MethodHandle" ∧ y.cls ≠ "java/lang/invoke/VarHandle")
    {W9 : Nat} {Pre : Pt → Array Value → Prop} {Post : Pt → Array Value → Option Value → Pt → Prop} {PostX : Pt → Array Value → Addr → Pt → Prop} (hK : vx_Back l R p e below s args y 3 W9 Pre Post PostX)
    {b : Addr} {cellB : Cell} (hcell : T.heap[b]? = some cellB) (hobj : cellB.vm.isStatics = false) (hcls : s.vm.findClass C = some cellB.cls)
    {g : JFrame} (hg : g.method = m) (hsize : g.locals.size = c.maxLocals) {argsL rest : List Value} (hlen : ∀ sig, parseMethodDescriptor y.desc = some sig → argsL.length = sig.parameters.length)
    (hstack : g.stack = argsL.reverse ++ .ref b :: rest) (hW : 2 * g.monitorRoom + (rest.map fun v => v.category).sum ≤ W9) (hdg : decode c.code g.pc = .ok (.invokevirtual index, 3))
    (hpre : ∀ vm₁, s.WarmedH vm₁ → Pre ⟨T.setVm vm₁, locs, cells, slots⟩ (Value.ref b :: argsL).toArray) :
    (∃ (v : Option Value) (vm₁ : Vm) (B : Pt), s.WarmedH vm₁ ∧ Stand p l e R s m args below meth c B.U B.locs B.cells B.slots ∧ Post ⟨T.setVm vm₁, locs, cells, slots⟩ (Value.ref b :: argsL).toArray v B ∧
      ∀ target, Steps p.tables e below (B.U.setTop { g with pc := g.pc + 3, stack := v.toList ++ rest }) target → Steps p.tables e below (T.setTop g) target) ∨
    (∃ (q : Addr) (vm₁ : Vm) (B : Pt), s.WarmedH vm₁ ∧ Stand p l e R s m args below meth c B.U B.locs B.cells B.slots ∧ PostX ⟨T.setVm vm₁, locs, cells, slots⟩ (Value.ref b :: argsL).toArray q B ∧
      Steps p.tables e below (T.setTop g) ((B.U.setTop { g with stack := rest }).pushFrame (.throwing q))) := by
  obtain ⟨mk, methM, hnamed, hmethM, hstM, habM⟩ := Cond.instanceMethod_spec hinst
  obtain ⟨m8, methM', cM, hn8, hmethM', -, -, -, -, -, -, hsigM⟩ := Cond.codeWith_spec hcode
  cases Option.some.inj (hn8.symm.trans hnamed)
  cases hmethM.symm.trans hmethM'
  obtain ⟨c2, r2, m2, q1, q2, q3, q4, kP, hkP, hkPi⟩ := Cond.selects_spec hsel
  cases hcls.symm.trans q1
  cases (State.methodFound?_of_named hnamed hy).symm.trans q2
  cases hnamed.symm.trans q3
  have hselP : selectMethod e.platform s.vm cellB.cls mk = .method mk := by rw [Launch.admits_selectMethod X.admits]; exact q4
  obtain ⟨vm₁, X₁, hstep₁⟩ := X.invokevirtual hexec hown hlink hnamed hmethM hstM hkP hkPi hy (a := b) (cell := cellB) hcell
    (fun z h => by rw [h] at hobj; cases hobj) hselP hmethM habM hkP hkPi (g := g) hg (argsL := argsL) (rest := rest) (hlen _ hsigM) hstack hdg
  rcases hK m meth c ⟨T.setVm vm₁, locs, cells, slots⟩ { g with stack := rest } (.invokevirtual index) mk (Value.ref b :: argsL).toArray X₁ hg hsize hdg hW (X₁.named hnamed) (hpre vm₁ X₁.warmed) with ⟨v, B, X', hpost, hsteps⟩ | ⟨q, B, X', hpost, hsteps⟩
  · exact Or.inl ⟨v, vm₁, B, X₁.warmed, X', hpost, fun target h => hstep₁ _ fun acts => by rw [doInvoke_state]; exact hsteps.trans h⟩
  · exact Or.inr ⟨q, vm₁, B, X₁.warmed, X', hpost, hstep₁ _ fun acts => by rw [doInvoke_state]; exact hsteps⟩
theorem vx_callSX (X : Stand p l e R s m args below meth c T locs cells slots) (hexec : p.tables.exec = Jvm.exec) {own : String} {index : Nat} {y : MethodName} {bytes : ByteArray} {maxL : Nat} {ret : Option FieldType} {hh : List (Nat × Nat × Nat × Nat)}
    (hown : s.vm.findClass own = some m.cls) (hlink : (Cond.methodLink own index y).before args s = true) (hstat : (Cond.static y).before args s = true) (hinit : (Cond.initialized y.cls).before args s = true)
    (hcode : (Cond.codeWith y bytes maxL ret hh).before args s = true) (hy : y.cls ≠ "java/lang/invoke/MethodHandle" ∧ y.cls ≠ "java/lang/invoke/VarHandle")
    {W9 : Nat} {Pre : Pt → Array Value → Prop} {Post : Pt → Array Value → Option Value → Pt → Prop} {PostX : Pt → Array Value → Addr → Pt → Prop} (hK : vx_Back l R p e below s args y 3 W9 Pre Post PostX)
    {g : JFrame} (hg : g.method = m) (hsize : g.locals.size = c.maxLocals) {argsL rest : List Value} (hlen : ∀ sig, parseMethodDescriptor y.desc = some sig → argsL.length = sig.parameters.length)
    (hstack : g.stack = argsL.reverse ++ rest) (hW : 2 * g.monitorRoom + (rest.map fun v => v.category).sum ≤ W9) (hdg : decode c.code g.pc = .ok (.invokestatic index, 3))
    (hpre : ∀ vm₁, s.WarmedH vm₁ → Pre ⟨T.setVm vm₁, locs, cells, slots⟩ argsL.toArray) :
    (∃ (v : Option Value) (vm₁ : Vm) (B : Pt), s.WarmedH vm₁ ∧ Stand p l e R s m args below meth c B.U B.locs B.cells B.slots ∧ Post ⟨T.setVm vm₁, locs, cells, slots⟩ argsL.toArray v B ∧
      ∀ target, Steps p.tables e below (B.U.setTop { g with pc := g.pc + 3, stack := v.toList ++ rest }) target → Steps p.tables e below (T.setTop g) target) ∨
    (∃ (q : Addr) (vm₁ : Vm) (B : Pt), s.WarmedH vm₁ ∧ Stand p l e R s m args below meth c B.U B.locs B.cells B.slots ∧ PostX ⟨T.setVm vm₁, locs, cells, slots⟩ argsL.toArray q B ∧
      Steps p.tables e below (T.setTop g) ((B.U.setTop { g with stack := rest }).pushFrame (.throwing q))) := by
  obtain ⟨mk, methM, cM, hnamed, hmethM, -, -, -, -, -, -, hsigM⟩ := Cond.codeWith_spec hcode
  have hstatic : methM.isStatic = true := Cond.static_spec hnamed hmethM hstat
  obtain ⟨kP, hkP, -⟩ := className_of_methodNamed hnamed
  have hinitP : kP.init = .initialized := Cond.initialized_spec (findClass_of_methodNamed hnamed) hkP hinit
  obtain ⟨vm₁, X₁, hstep₁⟩ := X.invokestatic hexec hown hlink hnamed hmethM hstatic hkP hinitP hy (g := g) hg (argsL := argsL) (rest := rest) (hlen _ hsigM) hstack hdg
  rcases hK m meth c ⟨T.setVm vm₁, locs, cells, slots⟩ { g with stack := rest } (.invokestatic index) mk argsL.toArray X₁ hg hsize hdg hW (X₁.named hnamed) (hpre vm₁ X₁.warmed) with ⟨v, B, X', hpost, hsteps⟩ | ⟨q, B, X', hpost, hsteps⟩
  · exact Or.inl ⟨v, vm₁, B, X₁.warmed, X', hpost, fun target h => hstep₁ _ fun acts => by rw [doInvoke_state]; exact hsteps.trans h⟩
  · exact Or.inr ⟨q, vm₁, B, X₁.warmed, X', hpost, hstep₁ _ fun acts => by rw [doInvoke_state]; exact hsteps⟩
theorem vx_callVW (X : Stand p l e R s m args below meth c T locs cells slots) (hexec : p.tables.exec = Jvm.exec) {own C : String} {index : Nat} {y : MethodName} {bytes : ByteArray} {maxL : Nat} {ret : Option FieldType} {hh : List (Nat × Nat × Nat × Nat)}
    (hown : s.vm.findClass own = some m.cls) (hlink : (Cond.methodLink own index y).before args s = true) (hinst : (Cond.instanceMethod y).before args s = true) (hsel : (Cond.selects C y y).before args s = true)
    (hcode : (Cond.codeWith y bytes maxL ret hh).before args s = true) (hy : y.cls ≠ "java/lang/invoke/MethodHandle" ∧ y.cls ≠ "java/lang/invoke/VarHandle")
    {W9 : Nat} {Pre : Pt → Array Value → Prop} {Post : Pt → Array Value → Option Value → Pt → Prop} (hK : Back l R p e below s args y 3 W9 Pre Post)
    {b : Addr} {cellB : Cell} (hcell : T.heap[b]? = some cellB) (hobj : cellB.vm.isStatics = false) (hcls : s.vm.findClass C = some cellB.cls)
    {g : JFrame} (hg : g.method = m) (hsize : g.locals.size = c.maxLocals) {argsL rest : List Value} (hlen : ∀ sig, parseMethodDescriptor y.desc = some sig → argsL.length = sig.parameters.length)
    (hstack : g.stack = argsL.reverse ++ .ref b :: rest) (hW : 2 * g.monitorRoom + (rest.map fun v => v.category).sum ≤ W9) (hdg : decode c.code g.pc = .ok (.invokevirtual index, 3))
    (hpre : ∀ vm₁, s.WarmedH vm₁ → Pre ⟨T.setVm vm₁, locs, cells, slots⟩ (Value.ref b :: argsL).toArray) :
    ∃ (v : Option Value) (vm₁ : Vm) (B : Pt), s.WarmedH vm₁ ∧ Stand p l e R s m args below meth c B.U B.locs B.cells B.slots ∧ Post ⟨T.setVm vm₁, locs, cells, slots⟩ (Value.ref b :: argsL).toArray v B ∧
      ∀ target, Steps p.tables e below (B.U.setTop { g with pc := g.pc + 3, stack := v.toList ++ rest }) target → Steps p.tables e below (T.setTop g) target := by
  obtain ⟨mk, methM, hnamed, hmethM, hstM, habM⟩ := Cond.instanceMethod_spec hinst
  obtain ⟨m8, methM', cM, hn8, hmethM', -, -, -, -, -, -, hsigM⟩ := Cond.codeWith_spec hcode
  cases Option.some.inj (hn8.symm.trans hnamed)
  cases hmethM.symm.trans hmethM'
  obtain ⟨c2, r2, m2, q1, q2, q3, q4, kP, hkP, hkPi⟩ := Cond.selects_spec hsel
  cases hcls.symm.trans q1
  cases (State.methodFound?_of_named hnamed hy).symm.trans q2
  cases hnamed.symm.trans q3
  have hselP : selectMethod e.platform s.vm cellB.cls mk = .method mk := by rw [Launch.admits_selectMethod X.admits]; exact q4
  obtain ⟨vm₁, X₁, hstep₁⟩ := X.invokevirtual hexec hown hlink hnamed hmethM hstM hkP hkPi hy (a := b) (cell := cellB) hcell
    (fun z h => by rw [h] at hobj; cases hobj) hselP hmethM habM hkP hkPi (g := g) hg (argsL := argsL) (rest := rest) (hlen _ hsigM) hstack hdg
  obtain ⟨v, B, X', hpost, hsteps⟩ := hK m meth c ⟨T.setVm vm₁, locs, cells, slots⟩ { g with stack := rest } (.invokevirtual index) mk (Value.ref b :: argsL).toArray X₁ hg hsize hdg hW (X₁.named hnamed) (hpre vm₁ X₁.warmed)
  exact ⟨v, vm₁, B, X₁.warmed, X', hpost, fun target h => hstep₁ _ fun acts => by rw [doInvoke_state]; exact hsteps.trans h⟩
abbrev vx_CVW (R : Room) (s : State) (args : Array Value) (own C : String) (index : Nat) (y : MethodName) (bytes : ByteArray) (maxL : Nat) (ret : Option FieldType) (hh : List (Nat × Nat × Nat × Nat)) (ws : List Cond) (rm : Room) (mc ms n : Nat) : Prop :=
  (rm.cells = mc ∧ rm.slots = ms ∧ rm.frames + 1 ≤ R.frames ∧ 8 + (maxL + 11) + rm.locals ≤ R.locals ∧ (∀ w ∈ ws, ∀ (a' : Array Value) (U : State), s.WarmedH U.vm → w.before a' U = true) ∧ Cond.codeWith y bytes maxL ret hh ∈ ws) ∧
  (Cond.codeWith y bytes maxL ret hh).before args s = true ∧ (Cond.initialized y.cls).before args s = true ∧ (y.cls ≠ "java/lang/invoke/MethodHandle" ∧ y.cls ≠ "java/lang/invoke/VarHandle") ∧
  (∀ sig, parseMethodDescriptor y.desc = some sig → n = sig.parameters.length) ∧ (Cond.methodLink own index y).before args s = true ∧ (Cond.instanceMethod y).before args s = true ∧ (Cond.selects C y y).before args s = true
theorem vx_cwVW {own C : String} {index maxL mc ms : Nat} {y : MethodName} {bytes : ByteArray} {ret : Option FieldType} {hh : List (Nat × Nat × Nat × Nat)} {Ts ws ws' : List Cond} {rm : Room} (n : Nat) (ht : ∀ w ∈ Ts, w.before args s = true) (hT : GoodIn Ts (wsV own index C y ws)) (hw : ws = Cond.codeWith y bytes maxL ret hh :: ws') (hrc : rm.cells = mc) (hrs : rm.slots = ms)
    (hd : y.cls = C ∧ y.cls ≠ "java/lang/invoke/MethodHandle" ∧ y.cls ≠ "java/lang/invoke/VarHandle" ∧ (parseMethodDescriptor y.desc).map (fun d => d.parameters.length) = some n) (hR : rm.frames + 1 ≤ R.frames ∧ 8 + (maxL + 11) + rm.locals ≤ R.locals) :
    vx_CVW R s args own C index y bytes maxL ret hh ws rm mc ms n := by
  obtain ⟨hC, hd⟩ := hd
  subst hC
  have ok : ∀ w ∈ wsV own index y.cls y ws, w.before args s = true := fun w h => ht w (hT w h).1
  have hG : GoodIn Ts ws := fun w h => hT w (by unfold wsV; exact List.mem_append_right _ h)
  have hc : Cond.codeWith y bytes maxL ret hh ∈ ws := by rw [hw]; exact List.mem_cons_self
  refine ⟨⟨hrc, hrs, hR.1, hR.2, pay_in ht hG, hc⟩, ht _ (hG _ hc).1, ok _ (by simp [wsV]), ⟨hd.1, hd.2.1⟩, fun sig h => ?_, ok _ (by simp [wsV]), ok _ (by simp [wsV]), ok _ (by simp [wsV])⟩
  have h2 := hd.2.2
  rw [h] at h2
  exact (Option.some.inj h2).symm
theorem vx_runVW {y : MethodName} {bytes cc : ByteArray} {maxL nL mc ms n index : Nat} {ret : Option FieldType} {hh : List (Nat × Nat × Nat × Nat)} {ws : List Cond} {rm : Room} {Pc : Array Value → State → Prop} {Qc : Array Value → State → Outcome → State → Prop} {free : Addr → Prop} {Ts : List Cond} {own C : String} {b : Addr} {As rest : List Value} {g : JFrame}
    (S : CallFix p m c cc nL s args Ts own) (hM : Met l y ws rm Pc Qc mc ms free) (cw : vx_CVW R s args own C index y bytes maxL ret hh ws rm mc ms n) (hp : PreV s H C b Pc As)
    (hg : g.method = m) (hn : As.length = n) (hsize : g.locals.size = nL) (hstack : g.stack = As.reverse ++ .ref b :: rest) (hW : 2 * g.monitorRoom + (rest.map fun v => v.category).sum ≤ 8) (hdg : decode cc g.pc = .ok (.invokevirtual index, 3)) (hf : cells + mc ≤ R.cells ∧ slots + ms ≤ R.slots) :
    va_Run p l e R s m args below meth c H locs cells slots mc ms g rest (Qc (Value.ref b :: As).toArray) free := by
  obtain ⟨⟨hrc, hrs, hfr, hlo, hws, hcw⟩, hcode, hini, hy, hlen, hl, hin, hse⟩ := cw
  have hK : Back l R p e below s args y 3 8 (PreOf R mc ms Pc) (PostOf Qc mc ms free) := va_backW (hh := hh) (bytes := bytes) (maxL := maxL) (ret := ret) hM hp.1 hrc hrs hfr hlo hws hcw (fun a' U hW => word_at hW (Or.inl (by first | rfl | simp [Cond.onTables, Cond.keeps, Cond.steady])) hini)
  obtain ⟨hx, hb, hml, ho, -⟩ := S
  obtain ⟨-, ⟨cellB, hcB, hoB, hclB⟩, hPc⟩ := hp
  intro T hT X
  obtain ⟨v, vm₁, ⟨U', l2, c2, s2⟩, hW₁, X', ⟨g', mk, t, L, e1, e2, hq, h1, hL, h2, h3⟩, st⟩ := vx_callVW X hx (C := C) (hh := hh) (bytes := bytes) (maxL := maxL) (ret := ret) ho hl hin hse hcode hy hK (by rw [hT]; exact hcB) hoB hclB hg (hsize.trans hml.symm) (argsL := As) (rest := rest) (fun sig h => hn.trans (hlen sig h)) hstack hW (by rw [hb]; exact hdg)
    (fun vm₁ hW₁ => ⟨hf.1, hf.2, hPc (T.setVm vm₁) hT hW₁⟩)
  dsimp only [Pt.U, Pt.locs, Pt.cells, Pt.slots] at X' e1 e2 h1 h2 h3 st
  subst h1; subst h2; subst h3
  exact ⟨v, (T.setVm vm₁).calling g' mk (Value.ref b :: As).toArray, t, U', L, hT, X', hL, e1, e2, hq, st⟩
section
variable {y : MethodName} {bytes cc : ByteArray} {maxL nL mc ms n index : Nat} {ret : Option FieldType} {ws : List Cond} {rm : Room} {Pc : Array Value → State → Prop} {Qc : Array Value → State → Outcome → State → Prop} {XC : String → State → State → Prop} {free : Addr → Prop} {Ts : List Cond} {own C : String} {b : Addr} {As rest : List Value} {g : JFrame}
theorem vx_runVX {hh : List (Nat × Nat × Nat × Nat)} (S : CallFix p m c cc nL s args Ts own) (hM : vx_Met l y ws rm Pc Qc XC mc ms free) (cw : vx_CVW R s args own C index y bytes maxL ret hh ws rm mc ms n) (hp : PreV s H C b Pc As)
    (hg : g.method = m) (hn : As.length = n) (hsize : g.locals.size = nL) (hstack : g.stack = As.reverse ++ .ref b :: rest) (hW : 2 * g.monitorRoom + (rest.map fun v => v.category).sum ≤ 8) (hdg : decode cc g.pc = .ok (.invokevirtual index, 3)) (hf : cells + mc ≤ R.cells ∧ slots + ms ≤ R.slots) :
    vx_Run p l e R s m args below meth c H locs cells slots mc ms g rest (Qc (Value.ref b :: As).toArray) XC free := by
  obtain ⟨⟨hrc, hrs, hfr, hlo, hws, hcw⟩, hcode, hini, hy, hlen, hl, hin, hse⟩ := cw
  have hK : vx_Back l R p e below s args y 3 8 (PreOf R mc ms Pc) (PostOf Qc mc ms free) (vx_Post XC mc ms free) := vx_backW (hh := hh) (bytes := bytes) (maxL := maxL) (ret := ret) hM hp.1 hrc hrs hfr hlo hws hcw (fun a' U hW => word_at hW (Or.inl (by first | rfl | simp [Cond.onTables, Cond.keeps, Cond.steady])) hini)
  obtain ⟨hx, hb, hml, ho, -⟩ := S
  obtain ⟨-, ⟨cellB, hcB, hoB, hclB⟩, hPc⟩ := hp
  intro T hT X
  rcases vx_callVX X hx (C := C) (hh := hh) (bytes := bytes) (maxL := maxL) (ret := ret) ho hl hin hse hcode hy hK (by rw [hT]; exact hcB) hoB hclB hg (hsize.trans hml.symm) (argsL := As) (rest := rest) (fun sig h => hn.trans (hlen sig h)) hstack hW (by rw [hb]; exact hdg)
    (fun vm₁ hW₁ => ⟨hf.1, hf.2, hPc (T.setVm vm₁) hT hW₁⟩) with ⟨v, vm₁, ⟨U', l2, c2, s2⟩, hW₁, X', ⟨g', mk, t, L, e1, e2, hq, h1, hL, h2, h3⟩, st⟩ | ⟨q, vm₁, ⟨U', l2, c2, s2⟩, hW₁, X', ⟨g', mk, t, L, E, ce, e1, e2, hq, hce, hcv, hcl, h1, hL, h2, h3⟩, st⟩
  · dsimp only [Pt.U, Pt.locs, Pt.cells, Pt.slots] at X' e1 e2 h1 h2 h3 st
    subst h1; subst h2; subst h3
    exact Or.inl ⟨v, (T.setVm vm₁).calling g' mk (Value.ref b :: As).toArray, t, U', L, hT, X', hL, e1, e2, hq, st⟩
  · dsimp only [Pt.U, Pt.locs, Pt.cells, Pt.slots] at X' e1 e2 h1 h2 h3 st hcl
    subst h1; subst h2; subst h3
    exact Or.inr ⟨q, (T.setVm vm₁).calling g' mk (Value.ref b :: As).toArray, t, U', L, E, ce, hT, X', hL, e1, e2, hq, hce, hcv, vx_cls hW₁ hcl, st⟩
theorem vx_runSX {hh : List (Nat × Nat × Nat × Nat)} (S : CallFix p m c cc nL s args Ts own) (hM : vx_Met l y ws rm Pc Qc XC mc ms free) (cw : vx_CSW R s args own index y bytes maxL ret hh ws rm mc ms n) (hp : PreS s H Pc As)
    (hg : g.method = m) (hn : As.length = n) (hsize : g.locals.size = nL) (hstack : g.stack = As.reverse ++ rest) (hW : 2 * g.monitorRoom + (rest.map fun v => v.category).sum ≤ 8) (hdg : decode cc g.pc = .ok (.invokestatic index, 3)) (hf : cells + mc ≤ R.cells ∧ slots + ms ≤ R.slots) :
    vx_Run p l e R s m args below meth c H locs cells slots mc ms g rest (Qc As.toArray) XC free := by
  obtain ⟨⟨hrc, hrs, hfr, hlo, hws, hcw⟩, hcode, hini, hy, hlen, hl, hstt⟩ := cw
  have hK : vx_Back l R p e below s args y 3 8 (PreOf R mc ms Pc) (PostOf Qc mc ms free) (vx_Post XC mc ms free) := vx_backW (hh := hh) (bytes := bytes) (maxL := maxL) (ret := ret) hM hp.1 hrc hrs hfr hlo hws hcw (fun a' U hW => word_at hW (Or.inl (by first | rfl | simp [Cond.onTables, Cond.keeps, Cond.steady])) hini)
  obtain ⟨hx, hb, hml, ho, -⟩ := S
  intro T hT X
  rcases vx_callSX X hx (hh := hh) (bytes := bytes) (maxL := maxL) (ret := ret) ho hl hstt hini hcode hy hK hg (hsize.trans hml.symm) (argsL := As) (rest := rest) (fun sig h => hn.trans (hlen sig h)) hstack hW (by rw [hb]; exact hdg)
    (fun vm₁ hW₁ => ⟨hf.1, hf.2, hp.2 (T.setVm vm₁) hT hW₁⟩) with ⟨v, vm₁, ⟨U', l2, c2, s2⟩, hW₁, X', ⟨g', mk, t, L, e1, e2, hq, h1, hL, h2, h3⟩, st⟩ | ⟨q, vm₁, ⟨U', l2, c2, s2⟩, hW₁, X', ⟨g', mk, t, L, E, ce, e1, e2, hq, hce, hcv, hcl, h1, hL, h2, h3⟩, st⟩
  · dsimp only [Pt.U, Pt.locs, Pt.cells, Pt.slots] at X' e1 e2 h1 h2 h3 st
    subst h1; subst h2; subst h3
    exact Or.inl ⟨v, (T.setVm vm₁).calling g' mk As.toArray, t, U', L, hT, X', hL, e1, e2, hq, st⟩
  · dsimp only [Pt.U, Pt.locs, Pt.cells, Pt.slots] at X' e1 e2 h1 h2 h3 st hcl
    subst h1; subst h2; subst h3
    exact Or.inr ⟨q, (T.setVm vm₁).calling g' mk As.toArray, t, U', L, E, ce, hT, X', hL, e1, e2, hq, hce, hcv, vx_cls hW₁ hcl, st⟩
end
end VXH
theorem vx_ofWH {l : Launch} {y : MethodName} {ws ws' : List Cond} {rm : Room} {Pc : Array Value → State → Prop} {Qc : Array Value → State → Outcome → State → Prop} {XC : String → State → State → Prop} {mc ms : Nat} {free : Addr → Prop} {cc : ByteArray} {maxL : Nat} {ret : Option FieldType} {hh : List (Nat × Nat × Nat × Nat)}
    (hy : plainName y.cls = true) (hw : ws = Cond.codeWith y cc maxL ret hh :: ws')
    (body : ∀ p e s m args below meth c s₁, BodyLoose p l y (headSpec ws rm) cc maxL ret e s m args below meth c s₁ → c.maxLocals = maxL → Pc args s →
      W p l e (headSpec ws rm).room s m args below meth c s.heap [] 0 0 (vx_MQ below Qc XC args s mc ms free) (entryFrame m args maxL)) : vx_Met l y ws rm Pc Qc XC mc ms free := by
  refine MetFree.of_bodyS (code := cc) (maxLocals := maxL) (ret := ret) hy ?_ ?_
  · intro args s m h hn
    obtain ⟨m9, meth, c, hn9, h1, h2, h3, h4, -, h5, h6, -⟩ := Cond.codeWith_spec (atoms_spec (ws := ws) h _ (by rw [hw]; exact List.mem_cons_self))
    cases hn.symm.trans hn9
    exact ⟨meth, c, h1, h2, h3, h4, h5, h6⟩
  · intro p e s m args below meth c s₁ B hml hP _
    have hh0 : s₁.heap = s.heap := by rw [B.state]; rfl
    obtain ⟨t, a1, o, b1, b2, b3⟩ := body p e s m args below meth c s₁ B hml hP s₁ hh0 (Stand.of_body B)
    exact ⟨t, o, a1, b1, b2, b3⟩
/-! ===== END ===== -/
end
section
/-! THE PURE MACHINE, I: values, locals, and what touches neither heap nor calls. A pure reference is a number; ad tells the address (none: null). -/
def z_cv (ad : Nat → Option Nat) (v : Value) : Value := match v with
  | .ref k => va_rf (ad k)
  | v => v
theorem z_cv_cat (ad : Nat → Option Nat) (v : Value) : (z_cv ad v).category = v.category := by
  cases v with
  | ref k => show (va_rf (ad k)).category = 1; cases ad k <;> rfl
  | _ => rfl
def z_lvm (ad : Nat → Option Nat) (lv : List (Nat × Value)) : List (Nat × Value) := lv.map (fun q => (q.1, z_cv ad q.2))
def z_get : List (Nat × Value) → Nat → Option Value
  | [], _ => none
  | q :: l, i => cond (Nat.beq q.1 i) (some q.2) (z_get l i)
def z_st1 (i : Nat) (v : Value) (lv : List (Nat × Value)) : List (Nat × Value) := (i, v) :: lv.filter (fun q => !(q.1 == i) && !(q.1 + 1 == i && q.2.category == 2))
def z_st2 (i : Nat) (v : Value) (lv : List (Nat × Value)) : List (Nat × Value) := (i, v) :: lv.filter (fun q => !(q.1 == i) && (!(q.1 == i + 1) && !(q.1 + 1 == i && q.2.category == 2)))
theorem z_get_in {lv : List (Nat × Value)} {i : Nat} {v : Value} (h : z_get lv i = some v) : (i, v) ∈ lv := by
  induction lv with
  | nil => cases h
  | cons q l ih =>
    rw [z_get] at h
    cases e : Nat.beq q.1 i with
    | true =>
      rw [e] at h
      obtain ⟨a, b⟩ := q
      have e1 : a = i := Nat.eq_of_beq_eq_true e
      cases h
      subst e1
      exact List.mem_cons_self
    | false =>
      rw [e] at h
      exact List.mem_cons_of_mem _ (ih h)
theorem z_get_at {ad : Nat → Option Nat} {lv : List (Nat × Value)} {ls : Array Slot} {nL i : Nat} {v : Value} (hl : lv_has ls nL (z_lvm ad lv)) (h : z_get lv i = some v) : ls[i]? = some (.val (z_cv ad v)) :=
  hl.2.2 (i, z_cv ad v) (List.mem_map.mpr ⟨(i, v), z_get_in h, rfl⟩)
theorem z_st1_m (ad : Nat → Option Nat) (i : Nat) (v : Value) (lv : List (Nat × Value)) : (i, z_cv ad v) :: (z_lvm ad lv).filter (fun q => !(q.1 == i) && !(q.1 + 1 == i && q.2.category == 2)) = z_lvm ad (z_st1 i v lv) := by
  unfold z_st1 z_lvm
  rw [List.map_cons, List.filter_map]
  congr 2
  refine List.filter_congr fun q _ => ?_
  simp [Function.comp, z_cv_cat]
theorem z_st2_m (ad : Nat → Option Nat) (i : Nat) (v : Value) (lv : List (Nat × Value)) : (i, z_cv ad v) :: (z_lvm ad lv).filter (fun q => !(q.1 == i) && (!(q.1 == i + 1) && !(q.1 + 1 == i && q.2.category == 2))) = z_lvm ad (z_st2 i v lv) := by
  unfold z_st2 z_lvm
  rw [List.map_cons, List.filter_map]
  congr 2
  refine List.filter_congr fun q _ => ?_
  simp [Function.comp, z_cv_cat]
theorem z_st1_in {i : Nat} {v : Value} {lv : List (Nat × Value)} {P : Value → Prop} (hv : P v) (h : ∀ q ∈ lv, P q.2) : ∀ q ∈ z_st1 i v lv, P q.2 := by
  intro q hq
  rcases List.mem_cons.mp hq with rfl | hq
  · exact hv
  · exact h q (List.mem_filter.mp hq).1
theorem z_st2_in {i : Nat} {v : Value} {lv : List (Nat × Value)} {P : Value → Prop} (hv : P v) (h : ∀ q ∈ lv, P q.2) : ∀ q ∈ z_st2 i v lv, P q.2 := by
  intro q hq
  rcases List.mem_cons.mp hq with rfl | hq
  · exact hv
  · exact h q (List.mem_filter.mp hq).1
def z_cmp (c : Jvm.ClassFile.Cond) (x y : Int32) : Bool := match c with
  | .eq => decide (x = y)
  | .ne => !decide (x = y)
  | .lt => decide (x < y)
  | .ge => decide (y ≤ x)
  | .gt => decide (y < x)
  | .le => decide (x ≤ y)
def z_tg (pc : Nat) (off : Int) : Option Nat := if 0 ≤ (pc : Int) + off then some ((pc : Int) + off).toNat else none
theorem z_tg_ok {pc t : Nat} {off : Int} (h : z_tg pc off = some t) : (pc : Int) + off = (t : Int) := by
  unfold z_tg at h
  split at h
  · rename_i h0
    cases h
    exact (Int.toNat_of_nonneg h0).symm
  · cases h
abbrev zR : Type := Nat × List (Nat × Value) × List Value

/-- the lengths of the instructions that z_loc takes -/
def z_len (i : Instr) (len : Nat) : Prop := match i with
  | .iconst _ => len = 1
  | .bipush _ => len = 2
  | .sipush _ => len = 3
  | .lconst _ => len = 1
  | .fconst _ => len = 1
  | .dconst _ => len = 1
  | .aconst_null => len = 1
  | .iload _ => len = 2
  | .iload_n _ => len = 1
  | .lload _ => len = 2
  | .lload_n _ => len = 1
  | .fload _ => len = 2
  | .fload_n _ => len = 1
  | .dload _ => len = 2
  | .dload_n _ => len = 1
  | .aload _ => len = 2
  | .aload_n _ => len = 1
  | .istore _ => len = 2
  | .istore_n _ => len = 1
  | .lstore _ => len = 2
  | .lstore_n _ => len = 1
  | .fstore _ => len = 2
  | .fstore_n _ => len = 1
  | .dstore _ => len = 2
  | .dstore_n _ => len = 1
  | .astore _ => len = 2
  | .astore_n _ => len = 1
  | .iinc _ _ => len = 3
  | .iadd => len = 1
  | .isub => len = 1
  | .imul => len = 1
  | .iand => len = 1
  | .ior => len = 1
  | .ishl => len = 1
  | .ishr => len = 1
  | .iushr => len = 1
  | .idiv => len = 1
  | .irem => len = 1
  | .ladd => len = 1
  | .lsub => len = 1
  | .lmul => len = 1
  | .ldiv => len = 1
  | .lcmp => len = 1
  | .fcmp _ => len = 1
  | .dcmp _ => len = 1
  | .i2l => len = 1
  | .i2b => len = 1
  | .i2c => len = 1
  | .i2d => len = 1
  | .l2f => len = 1
  | .f2d => len = 1
  | .fdiv => len = 1
  | .ddiv => len = 1
  | .dup => len = 1
  | .dup2 => len = 1
  | .pop => len = 1
  | .goto _ => len = 3
  | .if_icmp _ _ => len = 3
  | .ifCond _ _ => len = 3
  | _ => True
/-- the targets of branches are the table's -/
def z_tgt (i : Instr) (pc a : Nat) : Prop := match i with
  | .goto off => (pc : Int) + off = (a : Int)
  | .if_icmp _ off => (pc : Int) + off = (a : Int)
  | .ifCond _ off => (pc : Int) + off = (a : Int)
  | _ => True
/-- one local instruction: where it goes, the locals, the stack -/
def z_loc (i : Instr) (pc a nL : Nat) (lv : List (Nat × Value)) (st : List Value) : Option zR := match i with
  | .iconst n => some (pc + 1, lv, .int (Int32.ofInt n) :: st)
  | .bipush n => some (pc + 2, lv, .int (Int8.ofInt n).toInt32 :: st)
  | .sipush n => some (pc + 3, lv, .int (Int16.ofInt n).toInt32 :: st)
  | .lconst n => some (pc + 1, lv, .long (Int64.ofNat (n : Nat)) :: st)
  | .fconst n => match n with | 0 => some (pc + 1, lv, .float FP.fconst0 :: st) | _ => none
  | .dconst n => match n with | 0 => some (pc + 1, lv, .double FP.dconst0 :: st) | _ => none
  | .aconst_null => some (pc + 1, lv, .null :: st)
  | .iload i => match z_get lv i with | some (.int x) => some (pc + 2, lv, .int x :: st) | _ => none
  | .iload_n i => match z_get lv i with | some (.int x) => some (pc + 1, lv, .int x :: st) | _ => none
  | .lload i => match z_get lv i with | some (.long x) => some (pc + 2, lv, .long x :: st) | _ => none
  | .lload_n i => match z_get lv i with | some (.long x) => some (pc + 1, lv, .long x :: st) | _ => none
  | .fload i => match z_get lv i with | some (.float x) => some (pc + 2, lv, .float x :: st) | _ => none
  | .fload_n i => match z_get lv i with | some (.float x) => some (pc + 1, lv, .float x :: st) | _ => none
  | .dload i => match z_get lv i with | some (.double x) => some (pc + 2, lv, .double x :: st) | _ => none
  | .dload_n i => match z_get lv i with | some (.double x) => some (pc + 1, lv, .double x :: st) | _ => none
  | .aload i => match z_get lv i with | some (.ref x) => some (pc + 2, lv, .ref x :: st) | some .null => some (pc + 2, lv, .null :: st) | _ => none
  | .aload_n i => match z_get lv i with | some (.ref x) => some (pc + 1, lv, .ref x :: st) | some .null => some (pc + 1, lv, .null :: st) | _ => none
  | .istore i => match st with | .int x :: r => if i < nL then some (pc + 2, z_st1 i (.int x) lv, r) else none | _ => none
  | .istore_n i => match st with | .int x :: r => if (i : Nat) < nL then some (pc + 1, z_st1 i (.int x) lv, r) else none | _ => none
  | .lstore i => match st with | .long x :: r => if i + 1 < nL then some (pc + 2, z_st2 i (.long x) lv, r) else none | _ => none
  | .lstore_n i => match st with | .long x :: r => if (i : Nat) + 1 < nL then some (pc + 1, z_st2 i (.long x) lv, r) else none | _ => none
  | .fstore i => match st with | .float x :: r => if i < nL then some (pc + 2, z_st1 i (.float x) lv, r) else none | _ => none
  | .fstore_n i => match st with | .float x :: r => if (i : Nat) < nL then some (pc + 1, z_st1 i (.float x) lv, r) else none | _ => none
  | .dstore i => match st with | .double x :: r => if i + 1 < nL then some (pc + 2, z_st2 i (.double x) lv, r) else none | _ => none
  | .dstore_n i => match st with | .double x :: r => if (i : Nat) + 1 < nL then some (pc + 1, z_st2 i (.double x) lv, r) else none | _ => none
  | .astore i => match st with | .ref x :: r => if (i : Nat) < nL then some (pc + 2, z_st1 i (.ref x) lv, r) else none | .null :: r => if (i : Nat) < nL then some (pc + 2, z_st1 i .null lv, r) else none | _ => none
  | .astore_n i => match st with | .ref x :: r => if (i : Nat) < nL then some (pc + 1, z_st1 i (.ref x) lv, r) else none | .null :: r => if (i : Nat) < nL then some (pc + 1, z_st1 i .null lv, r) else none | _ => none
  | .iinc i n => match z_get lv i with | some (.int x) => if i < nL then some (pc + 3, z_st1 i (.int (x + Int32.ofInt n)) lv, st) else none | _ => none
  | .iadd => match st with | .int y :: .int x :: r => some (pc + 1, lv, .int (x + y) :: r) | _ => none
  | .isub => match st with | .int y :: .int x :: r => some (pc + 1, lv, .int (x - y) :: r) | _ => none
  | .imul => match st with | .int y :: .int x :: r => some (pc + 1, lv, .int (x * y) :: r) | _ => none
  | .iand => match st with | .int y :: .int x :: r => some (pc + 1, lv, .int (x &&& y) :: r) | _ => none
  | .ior => match st with | .int y :: .int x :: r => some (pc + 1, lv, .int (x ||| y) :: r) | _ => none
  | .ishl => match st with | .int y :: .int x :: r => some (pc + 1, lv, .int (x <<< (y &&& 31)) :: r) | _ => none
  | .ishr => match st with | .int y :: .int x :: r => some (pc + 1, lv, .int (x >>> (y &&& 31)) :: r) | _ => none
  | .iushr => match st with | .int y :: .int x :: r => some (pc + 1, lv, .int ((x.toUInt32 >>> (y.toUInt32 &&& Int32.toUInt32 31)).toInt32) :: r) | _ => none
  | .idiv => match st with | .int y :: .int x :: r => if y = 0 then none else some (pc + 1, lv, .int (x / y) :: r) | _ => none
  | .irem => match st with | .int y :: .int x :: r => if y = 0 then none else some (pc + 1, lv, .int (x - x / y * y) :: r) | _ => none
  | .ladd => match st with | .long y :: .long x :: r => some (pc + 1, lv, .long (x + y) :: r) | _ => none
  | .lsub => match st with | .long y :: .long x :: r => some (pc + 1, lv, .long (x - y) :: r) | _ => none
  | .lmul => match st with | .long y :: .long x :: r => some (pc + 1, lv, .long (x * y) :: r) | _ => none
  | .ldiv => match st with | .long y :: .long x :: r => if y = 0 then none else some (pc + 1, lv, .long (x / y) :: r) | _ => none
  | .lcmp => match st with | .long y :: .long x :: r => some (pc + 1, lv, .int (lg_cmp x y) :: r) | _ => none
  | .fcmp op => match st with | .float y :: .float x :: r => some (pc + 1, lv, .int (Op.cmpValue (FP.fcmp x y) op) :: r) | _ => none
  | .dcmp op => match st with | .double y :: .double x :: r => some (pc + 1, lv, .int (Op.cmpValue (FP.dcmp x y) op) :: r) | _ => none
  | .i2l => match st with | .int x :: r => some (pc + 1, lv, .long x.toInt64 :: r) | _ => none
  | .i2b => match st with | .int x :: r => some (pc + 1, lv, .int x.toInt8.toInt32 :: r) | _ => none
  | .i2c => match st with | .int x :: r => some (pc + 1, lv, .int (x.toUInt32 % 65536).toInt32 :: r) | _ => none
  | .i2d => match st with | .int x :: r => some (pc + 1, lv, .double (FP.i2d x) :: r) | _ => none
  | .l2f => match st with | .long x :: r => some (pc + 1, lv, .float (FP.l2f x) :: r) | _ => none
  | .f2d => match st with | .float x :: r => if FP.f2d x &&& 0x7fffffffffffffff ≤ 0x7ff0000000000000 then some (pc + 1, lv, .double (FP.f2d x) :: r) else none | _ => none
  | .fdiv => match st with | .float y :: .float x :: r => if FP.fdiv x y &&& 0x7fffffff ≤ 0x7f800000 then some (pc + 1, lv, .float (FP.fdiv x y) :: r) else none | _ => none
  | .ddiv => match st with | .double y :: .double x :: r => if FP.ddiv x y &&& 0x7fffffffffffffff ≤ 0x7ff0000000000000 then some (pc + 1, lv, .double (FP.ddiv x y) :: r) else none | _ => none
  | .dup => match st with | v :: r => if v.category = 1 then some (pc + 1, lv, v :: v :: r) else none | _ => none
  | .dup2 => match st with | v :: r => if v.category = 2 then some (pc + 1, lv, v :: v :: r) else (match r with | u :: r2 => if v.category = 1 ∧ u.category = 1 then some (pc + 1, lv, v :: u :: v :: u :: r2) else none | _ => none) | _ => none
  | .pop => match st with | v :: r => if v.category = 1 then some (pc + 1, lv, r) else none | _ => none
  | .goto off => some (a, lv, st)
  | .if_icmp c0 off => match st with | .int y :: .int x :: r => (match z_cmp c0 x y with | true => some (a, lv, r) | false => some (pc + 3, lv, r)) | _ => none
  | .ifCond c0 off => match st with | .int x :: r => (match z_cmp c0 x 0 with | true => some (a, lv, r) | false => some (pc + 3, lv, r)) | _ => none
  | .tableswitch dflt lo hi offs => match st with | .int x :: r => if x.toInt < lo ∨ hi < x.toInt then (match z_tg pc dflt with | some t => some (t, lv, r) | none => none) else (match offs[(x.toInt - lo).toNat]? with | some off => (match z_tg pc off with | some t => some (t, lv, r) | none => none) | none => none) | _ => none
  | .lookupswitch dflt ps => match st with | .int x :: r => if (ps.toList.zip (ps.toList.drop 1)).all (fun (a, next) => a.1 < next.1) = true then (match z_tg pc (Op.lookupswitch.offset ps.toList dflt x.toInt) with | some t => some (t, lv, r) | none => none) else none | _ => none
  | _ => none
section ZL
variable {p : Program} {l : Launch} {e : Env} {R : Room} {s : State} {m : MethodId} {args : Array Value} {below : List Frame} {meth : Method} {c : Code} {H : Heap} {locs : List Loc} {cells slots : Nat} {Q : State → Prop}
variable {cc : ByteArray} {pc : Nat} {ls : Array Slot}
set_option maxHeartbeats 4000000 in
theorem z_loc_ok {i : Instr} {len a nL pc2 : Nat} {ad : Nat → Option Nat} {lv lv2 : List (Nat × Value)} {st st2 : List Value} (h : z_loc i pc a nL lv st = some (pc2, lv2, st2)) (hd : decode cc pc = .ok (i, len)) (hn : z_len i len) (ht : z_tgt i pc a) (hx : p.tables.exec = Jvm.exec) (hb : c.code = cc) (hl : lv_has ls nL (z_lvm ad lv))
    (k : ∀ ls2 : Array Slot, lv_has ls2 nL (z_lvm ad lv2) → W p l e R s m args below meth c H locs cells slots Q (F0 m pc2 ls2 (st2.map (z_cv ad)))) : W p l e R s m args below meth c H locs cells slots Q (F0 m pc ls (st.map (z_cv ad))) := by
  cases i
  case iconst n =>
    simp only [z_len] at hn
    subst hn
    simp only [z_loc] at h
    cases h
    exact lv_iconst hx hb hd rfl (k _ hl)
  case bipush n =>
    simp only [z_len] at hn
    subst hn
    simp only [z_loc] at h
    cases h
    exact lv_bipush hx hb hd rfl (k _ hl)
  case sipush n =>
    simp only [z_len] at hn
    subst hn
    simp only [z_loc] at h
    cases h
    exact lv_sipush hx hb hd rfl (k _ hl)
  case lconst n =>
    simp only [z_len] at hn
    subst hn
    simp only [z_loc] at h
    cases h
    exact lv_lconst hx hb hd rfl (k _ hl)
  case fconst n =>
    simp only [z_len] at hn
    subst hn
    simp only [z_loc] at h
    split at h
    · cases h
      exact lv_fconst0 hx hb hd (k _ hl)
    · cases h
  case dconst n =>
    simp only [z_len] at hn
    subst hn
    simp only [z_loc] at h
    split at h
    · cases h
      exact lv_dconst0 hx hb hd (k _ hl)
    · cases h
  case aconst_null =>
    simp only [z_len] at hn
    subst hn
    simp only [z_loc] at h
    cases h
    exact lv_null hx hb hd (k _ hl)
  case iload i =>
    simp only [z_len] at hn
    subst hn
    simp only [z_loc] at h
    split at h
    · rename_i e
      cases h
      exact lv_iload hx hb hd (z_get_at hl e) (k _ hl)
    · cases h
  case iload_n i =>
    simp only [z_len] at hn
    subst hn
    simp only [z_loc] at h
    split at h
    · rename_i e
      cases h
      exact lv_iload_n hx hb hd rfl (z_get_at hl e) (k _ hl)
    · cases h
  case lload i =>
    simp only [z_len] at hn
    subst hn
    simp only [z_loc] at h
    split at h
    · rename_i e
      cases h
      exact lv_lload hx hb hd (z_get_at hl e) (k _ hl)
    · cases h
  case lload_n i =>
    simp only [z_len] at hn
    subst hn
    simp only [z_loc] at h
    split at h
    · rename_i e
      cases h
      exact lv_lload_n hx hb hd rfl (z_get_at hl e) (k _ hl)
    · cases h
  case fload i =>
    simp only [z_len] at hn
    subst hn
    simp only [z_loc] at h
    split at h
    · rename_i e
      cases h
      exact lv_fload hx hb hd (z_get_at hl e) (k _ hl)
    · cases h
  case fload_n i =>
    simp only [z_len] at hn
    subst hn
    simp only [z_loc] at h
    split at h
    · rename_i e
      cases h
      exact lv_fload_n hx hb hd rfl (z_get_at hl e) (k _ hl)
    · cases h
  case dload i =>
    simp only [z_len] at hn
    subst hn
    simp only [z_loc] at h
    split at h
    · rename_i e
      cases h
      exact lv_dload hx hb hd (z_get_at hl e) (k _ hl)
    · cases h
  case dload_n i =>
    simp only [z_len] at hn
    subst hn
    simp only [z_loc] at h
    split at h
    · rename_i e
      cases h
      exact lv_dload_n hx hb hd rfl (z_get_at hl e) (k _ hl)
    · cases h
  case aload i =>
    simp only [z_len] at hn
    subst hn
    simp only [z_loc] at h
    split at h
    · rename_i x eq0
      cases h
      have e1 := z_get_at hl eq0
      have k1 := k _ hl
      change ls[_]? = some (Slot.val (va_rf (ad x))) at e1
      change W p l e R s m args below meth c H locs cells slots Q (F0 m _ ls (va_rf (ad x) :: _)) at k1
      cases hx2 : ad x with
      | none => rw [hx2] at e1 k1; exact lv_aloadN hx hb hd e1 k1
      | some a => rw [hx2] at e1 k1; exact lv_aload hx hb hd e1 k1
    · rename_i e
      cases h
      exact lv_aloadN hx hb hd (z_get_at hl e) (k _ hl)
    · cases h
  case aload_n i =>
    simp only [z_len] at hn
    subst hn
    simp only [z_loc] at h
    split at h
    · rename_i x eq0
      cases h
      have e1 := z_get_at hl eq0
      have k1 := k _ hl
      change ls[_]? = some (Slot.val (va_rf (ad x))) at e1
      change W p l e R s m args below meth c H locs cells slots Q (F0 m _ ls (va_rf (ad x) :: _)) at k1
      cases hx2 : ad x with
      | none => rw [hx2] at e1 k1; exact lv_aload_nN hx hb hd rfl e1 k1
      | some a => rw [hx2] at e1 k1; exact lv_aload_n hx hb hd rfl e1 k1
    · rename_i e
      cases h
      exact lv_aload_nN hx hb hd rfl (z_get_at hl e) (k _ hl)
    · cases h
  case istore i =>
    simp only [z_len] at hn
    subst hn
    simp only [z_loc] at h
    split at h
    · rename_i x r
      split at h
      · rename_i hi
        cases h
        exact lv_istore hx hb hd hl hi (z_st1_m ad i (.int x) lv) (fun ls hl => k ls hl)
      · cases h
    · cases h
  case istore_n i =>
    simp only [z_len] at hn
    subst hn
    simp only [z_loc] at h
    split at h
    · rename_i x r
      split at h
      · rename_i hi
        cases h
        exact lv_istore_n hx hb hd rfl hl hi (z_st1_m ad i (.int x) lv) (fun ls hl => k ls hl)
      · cases h
    · cases h
  case lstore i =>
    simp only [z_len] at hn
    subst hn
    simp only [z_loc] at h
    split at h
    · rename_i x r
      split at h
      · rename_i hi
        cases h
        exact lv_lstore hx hb hd hl hi (z_st2_m ad i (.long x) lv) (fun ls hl => k ls hl)
      · cases h
    · cases h
  case lstore_n i =>
    simp only [z_len] at hn
    subst hn
    simp only [z_loc] at h
    split at h
    · rename_i x r
      split at h
      · rename_i hi
        cases h
        exact lv_lstore_n hx hb hd rfl hl hi (z_st2_m ad i (.long x) lv) (fun ls hl => k ls hl)
      · cases h
    · cases h
  case fstore i =>
    simp only [z_len] at hn
    subst hn
    simp only [z_loc] at h
    split at h
    · rename_i x r
      split at h
      · rename_i hi
        cases h
        exact lv_fstore hx hb hd hl hi (z_st1_m ad i (.float x) lv) (fun ls hl => k ls hl)
      · cases h
    · cases h
  case fstore_n i =>
    simp only [z_len] at hn
    subst hn
    simp only [z_loc] at h
    split at h
    · rename_i x r
      split at h
      · rename_i hi
        cases h
        exact lv_fstore_n hx hb hd rfl hl hi (z_st1_m ad i (.float x) lv) (fun ls hl => k ls hl)
      · cases h
    · cases h
  case dstore i =>
    simp only [z_len] at hn
    subst hn
    simp only [z_loc] at h
    split at h
    · rename_i x r
      split at h
      · rename_i hi
        cases h
        exact lv_dstore hx hb hd hl hi (z_st2_m ad i (.double x) lv) (fun ls hl => k ls hl)
      · cases h
    · cases h
  case dstore_n i =>
    simp only [z_len] at hn
    subst hn
    simp only [z_loc] at h
    split at h
    · rename_i x r
      split at h
      · rename_i hi
        cases h
        exact lv_dstore_n hx hb hd rfl hl hi (z_st2_m ad i (.double x) lv) (fun ls hl => k ls hl)
      · cases h
    · cases h
  case astore i =>
    simp only [z_len] at hn
    subst hn
    simp only [z_loc] at h
    split at h
    · rename_i x r
      split at h
      · rename_i hi
        cases h
        have e2 := z_st1_m ad i (.ref x) lv
        change (_, va_rf (ad x)) :: _ = _ at e2
        change W p l e R s m args below meth c H locs cells slots Q (F0 m pc ls (va_rf (ad x) :: _))
        cases hx2 : ad x with
        | none => rw [hx2] at e2; exact lv_astoreN hx hb hd hl hi e2 (fun ls hl => k ls hl)
        | some a => rw [hx2] at e2; exact lv_astore hx hb hd hl hi e2 (fun ls hl => k ls hl)
      · cases h
    · split at h
      · rename_i hi
        cases h
        exact lv_astoreN hx hb hd hl hi (z_st1_m ad _ .null lv) (fun ls hl => k ls hl)
      · cases h
    · cases h
  case astore_n i =>
    simp only [z_len] at hn
    subst hn
    simp only [z_loc] at h
    split at h
    · rename_i x r
      split at h
      · rename_i hi
        cases h
        have e2 := z_st1_m ad i (.ref x) lv
        change (_, va_rf (ad x)) :: _ = _ at e2
        change W p l e R s m args below meth c H locs cells slots Q (F0 m pc ls (va_rf (ad x) :: _))
        cases hx2 : ad x with
        | none => rw [hx2] at e2; exact lv_astore_nN hx hb hd rfl hl hi e2 (fun ls hl => k ls hl)
        | some a => rw [hx2] at e2; exact lv_astore_n hx hb hd rfl hl hi e2 (fun ls hl => k ls hl)
      · cases h
    · split at h
      · rename_i hi
        cases h
        exact lv_astore_nN hx hb hd rfl hl hi (z_st1_m ad _ .null lv) (fun ls hl => k ls hl)
      · cases h
    · cases h
  case iinc i n =>
    simp only [z_len] at hn
    subst hn
    simp only [z_loc] at h
    split at h
    · rename_i x e
      split at h
      · rename_i hi
        cases h
        obtain ⟨k0, hk0⟩ := List.getElem?_of_mem (List.mem_map.mpr ⟨(i, Value.int x), z_get_in e, rfl⟩ : (i, z_cv ad (.int x)) ∈ z_lvm ad lv)
        exact lv_iinc hx hb hd hl hk0 rfl hi (z_st1_m ad i (.int (x + Int32.ofInt n)) lv) (fun ls hl => k ls hl)
      · cases h
    · cases h
  case iadd =>
    simp only [z_len] at hn
    subst hn
    simp only [z_loc] at h
    split at h
    · cases h
      exact lv_iadd hx hb hd (k _ hl)
    · cases h
  case isub =>
    simp only [z_len] at hn
    subst hn
    simp only [z_loc] at h
    split at h
    · cases h
      exact lv_isub hx hb hd (k _ hl)
    · cases h
  case imul =>
    simp only [z_len] at hn
    subst hn
    simp only [z_loc] at h
    split at h
    · cases h
      exact lv_imul hx hb hd (k _ hl)
    · cases h
  case iand =>
    simp only [z_len] at hn
    subst hn
    simp only [z_loc] at h
    split at h
    · cases h
      exact lv_iand hx hb hd (k _ hl)
    · cases h
  case ior =>
    simp only [z_len] at hn
    subst hn
    simp only [z_loc] at h
    split at h
    · cases h
      exact lv_ior hx hb hd (k _ hl)
    · cases h
  case ishl =>
    simp only [z_len] at hn
    subst hn
    simp only [z_loc] at h
    split at h
    · cases h
      exact lv_ishl hx hb hd (k _ hl)
    · cases h
  case ishr =>
    simp only [z_len] at hn
    subst hn
    simp only [z_loc] at h
    split at h
    · cases h
      exact lv_ishr hx hb hd (k _ hl)
    · cases h
  case iushr =>
    simp only [z_len] at hn
    subst hn
    simp only [z_loc] at h
    split at h
    · cases h
      exact lv_iushr hx hb hd rfl (k _ hl)
    · cases h
  case idiv =>
    simp only [z_len] at hn
    subst hn
    simp only [z_loc] at h
    split at h
    · split at h
      · cases h
      · rename_i hy
        cases h
        exact lv_idiv hx hb hd hy (k _ hl)
    · cases h
  case irem =>
    simp only [z_len] at hn
    subst hn
    simp only [z_loc] at h
    split at h
    · split at h
      · cases h
      · rename_i hy
        cases h
        exact lv_irem hx hb hd hy (k _ hl)
    · cases h
  case ladd =>
    simp only [z_len] at hn
    subst hn
    simp only [z_loc] at h
    split at h
    · cases h
      exact lv_ladd hx hb hd (k _ hl)
    · cases h
  case lsub =>
    simp only [z_len] at hn
    subst hn
    simp only [z_loc] at h
    split at h
    · cases h
      exact lv_lsub hx hb hd (k _ hl)
    · cases h
  case lmul =>
    simp only [z_len] at hn
    subst hn
    simp only [z_loc] at h
    split at h
    · cases h
      exact lv_lmul hx hb hd (k _ hl)
    · cases h
  case ldiv =>
    simp only [z_len] at hn
    subst hn
    simp only [z_loc] at h
    split at h
    · split at h
      · cases h
      · rename_i hy
        cases h
        exact lv_ldiv hx hb hd hy (k _ hl)
    · cases h
  case lcmp =>
    simp only [z_len] at hn
    subst hn
    simp only [z_loc] at h
    split at h
    · cases h
      exact W.lcmp hx hb hd (k _ hl)
    · cases h
  case fcmp op =>
    simp only [z_len] at hn
    subst hn
    simp only [z_loc] at h
    split at h
    · cases h
      exact lv_fcmp hx hb hd (k _ hl)
    · cases h
  case dcmp op =>
    simp only [z_len] at hn
    subst hn
    simp only [z_loc] at h
    split at h
    · cases h
      exact lv_dcmp hx hb hd (k _ hl)
    · cases h
  case i2l =>
    simp only [z_len] at hn
    subst hn
    simp only [z_loc] at h
    split at h
    · cases h
      exact lv_i2l hx hb hd rfl (k _ hl)
    · cases h
  case i2b =>
    simp only [z_len] at hn
    subst hn
    simp only [z_loc] at h
    split at h
    · cases h
      exact lv_i2b hx hb hd rfl (k _ hl)
    · cases h
  case i2c =>
    simp only [z_len] at hn
    subst hn
    simp only [z_loc] at h
    split at h
    · cases h
      exact lv_i2c hx hb hd rfl (k _ hl)
    · cases h
  case i2d =>
    simp only [z_len] at hn
    subst hn
    simp only [z_loc] at h
    split at h
    · cases h
      exact lv_i2d hx hb hd (k _ hl)
    · cases h
  case l2f =>
    simp only [z_len] at hn
    subst hn
    simp only [z_loc] at h
    split at h
    · cases h
      exact lv_l2f hx hb hd (k _ hl)
    · cases h
  case f2d =>
    simp only [z_len] at hn
    subst hn
    simp only [z_loc] at h
    split at h
    · split at h
      · rename_i hn
        cases h
        exact lv_f2d hx hb hd hn (k _ hl)
      · cases h
    · cases h
  case fdiv =>
    simp only [z_len] at hn
    subst hn
    simp only [z_loc] at h
    split at h
    · split at h
      · rename_i hn
        cases h
        exact lv_fdiv hx hb hd hn (k _ hl)
      · cases h
    · cases h
  case ddiv =>
    simp only [z_len] at hn
    subst hn
    simp only [z_loc] at h
    split at h
    · split at h
      · rename_i hn
        cases h
        exact lv_ddiv hx hb hd hn (k _ hl)
      · cases h
    · cases h
  case dup =>
    simp only [z_len] at hn
    subst hn
    simp only [z_loc] at h
    split at h
    · split at h
      · rename_i hc
        cases h
        exact lv_dup hx hb hd ((z_cv_cat ad _).trans hc) (k _ hl)
      · cases h
    · cases h
  case dup2 =>
    simp only [z_len] at hn
    subst hn
    simp only [z_loc] at h
    split at h
    · split at h
      · rename_i hc
        cases h
        exact lv_dup2_2 hx hb hd ((z_cv_cat ad _).trans hc) (k _ hl)
      · split at h
        · split at h
          · rename_i hc
            cases h
            exact lv_dup2_11 hx hb hd ((z_cv_cat ad _).trans hc.1) ((z_cv_cat ad _).trans hc.2) (k _ hl)
          · cases h
        · cases h
    · cases h
  case pop =>
    simp only [z_len] at hn
    subst hn
    simp only [z_loc] at h
    split at h
    · split at h
      · rename_i hc
        cases h
        exact lv_pop hx hb hd ((z_cv_cat ad _).trans hc) (k _ hl)
      · cases h
    · cases h
  case goto off =>
    simp only [z_len] at hn
    subst hn
    simp only [z_tgt] at ht
    simp only [z_loc] at h
    cases h
    exact lv_goto hx hb hd ht (k _ hl)
  case if_icmp c0 off =>
    simp only [z_len] at hn
    subst hn
    simp only [z_tgt] at ht
    simp only [z_loc] at h
    split at h
    · rename_i y x r
      cases c0 with
      | eq =>
        refine lv_icmp_eq hx hb hd ht (fun q => ?_) (fun q => ?_)
        · rw [show z_cmp .eq x y = true from decide_eq_true q] at h; cases h; exact k _ hl
        · rw [show z_cmp .eq x y = false from decide_eq_false q] at h; cases h; exact k _ hl
      | ne =>
        refine lv_icmp_ne hx hb hd ht (fun q => ?_) (fun q => ?_)
        · rw [show z_cmp .ne x y = true by simp [z_cmp, q]] at h; cases h; exact k _ hl
        · rw [show z_cmp .ne x y = false by simp [z_cmp, q]] at h; cases h; exact k _ hl
      | lt =>
        refine lv_icmp_lt hx hb hd ht (fun q => ?_) (fun q => ?_)
        · rw [show z_cmp .lt x y = true from decide_eq_true q] at h; cases h; exact k _ hl
        · rw [show z_cmp .lt x y = false from decide_eq_false q] at h; cases h; exact k _ hl
      | ge =>
        refine lv_icmp_ge hx hb hd ht (fun q => ?_) (fun q => ?_)
        · rw [show z_cmp .ge x y = true from decide_eq_true q] at h; cases h; exact k _ hl
        · rw [show z_cmp .ge x y = false from decide_eq_false q] at h; cases h; exact k _ hl
      | gt =>
        refine lv_icmp_gt hx hb hd ht (fun q => ?_) (fun q => ?_)
        · rw [show z_cmp .gt x y = true from decide_eq_true q] at h; cases h; exact k _ hl
        · rw [show z_cmp .gt x y = false from decide_eq_false q] at h; cases h; exact k _ hl
      | le =>
        refine lv_icmp_le hx hb hd ht (fun q => ?_) (fun q => ?_)
        · rw [show z_cmp .le x y = true from decide_eq_true q] at h; cases h; exact k _ hl
        · rw [show z_cmp .le x y = false from decide_eq_false q] at h; cases h; exact k _ hl
    · cases h
  case ifCond c0 off =>
    simp only [z_len] at hn
    subst hn
    simp only [z_tgt] at ht
    simp only [z_loc] at h
    split at h
    · rename_i x r
      cases c0 with
      | eq =>
        refine lv_if_eq hx hb hd ht (fun q => ?_) (fun q => ?_)
        · rw [show z_cmp .eq x 0 = true from decide_eq_true q] at h; cases h; exact k _ hl
        · rw [show z_cmp .eq x 0 = false from decide_eq_false q] at h; cases h; exact k _ hl
      | ne =>
        refine lv_if_ne hx hb hd ht (fun q => ?_) (fun q => ?_)
        · rw [show z_cmp .ne x 0 = true by simp [z_cmp, q]] at h; cases h; exact k _ hl
        · rw [show z_cmp .ne x 0 = false by simp [z_cmp, q]] at h; cases h; exact k _ hl
      | lt =>
        refine lv_if_lt hx hb hd ht (fun q => ?_) (fun q => ?_)
        · rw [show z_cmp .lt x 0 = true from decide_eq_true q] at h; cases h; exact k _ hl
        · rw [show z_cmp .lt x 0 = false from decide_eq_false q] at h; cases h; exact k _ hl
      | ge =>
        refine lv_if_ge hx hb hd ht (fun q => ?_) (fun q => ?_)
        · rw [show z_cmp .ge x 0 = true from decide_eq_true q] at h; cases h; exact k _ hl
        · rw [show z_cmp .ge x 0 = false from decide_eq_false q] at h; cases h; exact k _ hl
      | gt =>
        refine lv_if_gt hx hb hd ht (fun q => ?_) (fun q => ?_)
        · rw [show z_cmp .gt x 0 = true from decide_eq_true q] at h; cases h; exact k _ hl
        · rw [show z_cmp .gt x 0 = false from decide_eq_false q] at h; cases h; exact k _ hl
      | le =>
        refine lv_if_le hx hb hd ht (fun q => ?_) (fun q => ?_)
        · rw [show z_cmp .le x 0 = true from decide_eq_true q] at h; cases h; exact k _ hl
        · rw [show z_cmp .le x 0 = false from decide_eq_false q] at h; cases h; exact k _ hl
    · cases h
  case tableswitch dflt lo hi offs =>
    simp only [z_loc] at h
    split at h
    · split at h
      · rename_i hq
        split at h
        · rename_i e2
          cases h
          exact lv_tableOut hx hb hd hq (z_tg_ok e2) (k _ hl)
        · cases h
      · rename_i hq
        split at h
        · rename_i e3
          split at h
          · rename_i e2
            cases h
            exact lv_tableIn hx hb hd (fun z => hq (Or.inl z)) (fun z => hq (Or.inr z)) e3 (z_tg_ok e2) (k _ hl)
          · cases h
        · cases h
    · cases h
  case lookupswitch dflt ps =>
    simp only [z_loc] at h
    split at h
    · split at h
      · rename_i hq
        split at h
        · rename_i e2
          cases h
          exact lv_lookup hx hb hd hq rfl (z_tg_ok e2) (k _ hl)
        · cases h
      · cases h
    · cases h
  all_goals (simp [z_loc] at h)
end ZL
end
section
/-! THE PURE MACHINE, II: its heap is a list of (tag, values); tag < 50: an object of that class of cl; 50 and more: an object of scl that nobody writes; 100 + t: an array of the type tf[t]. References from 1000000 on are cells of S, that nobody writes. -/
abbrev zC : Type := Nat × List Value
abbrev zH : Type := List zC
def z_vk (n : Nat) (v : Value) : Prop := match v with
  | .ref k => k < n ∨ 1000000 ≤ k
  | _ => True
def z_hv (h : zH) : Prop := ∀ c ∈ h, ∀ v ∈ c.2, z_vk h.length v
def z_ext (ad ad2 : Nat → Option Nat) (n : Nat) : Prop := ∀ k : Nat, (k < n ∨ 1000000 ≤ k) → ad2 k = ad k
theorem z_ext.rf {ad : Nat → Option Nat} {n : Nat} : z_ext ad ad n := fun _ _ => rfl
theorem z_ext.tr {a b c : Nat → Option Nat} {n k : Nat} (h1 : z_ext a b n) (h2 : z_ext b c k) (hn : n ≤ k) : z_ext a c n := fun q hq => (h2 q (hq.imp (fun z => Nat.lt_of_lt_of_le z hn) id)).trans (h1 q hq)
theorem z_ext.le {a b : Nat → Option Nat} {n k : Nat} (h : z_ext a b n) (hk : k ≤ n) : z_ext a b k := fun q hq => h q (hq.imp (fun z => Nat.lt_of_lt_of_le z hk) id)
theorem z_vk.le {n k : Nat} {v : Value} (h : z_vk n v) (hk : n ≤ k) : z_vk k v := by
  cases v with
  | ref a => exact h.imp (fun z => Nat.lt_of_lt_of_le z hk) id
  | _ => trivial
theorem z_cv_ext {ad ad2 : Nat → Option Nat} {n : Nat} {v : Value} (h : z_ext ad ad2 n) (hv : z_vk n v) : z_cv ad2 v = z_cv ad v := by
  cases v with
  | ref k => exact congrArg va_rf (h k hv)
  | _ => rfl
theorem z_lvm_ext {ad ad2 : Nat → Option Nat} {n : Nat} {lv : List (Nat × Value)} (h : z_ext ad ad2 n) (hv : ∀ q ∈ lv, z_vk n q.2) : z_lvm ad2 lv = z_lvm ad lv :=
  List.map_congr_left fun q hq => by rw [z_cv_ext h (hv q hq)]
theorem z_map_ext {ad ad2 : Nat → Option Nat} {n : Nat} {st : List Value} (h : z_ext ad ad2 n) (hv : ∀ v ∈ st, z_vk n v) : st.map (z_cv ad2) = st.map (z_cv ad) :=
  List.map_congr_left fun v hq => z_cv_ext h (hv v hq)
def z_rI (vs : List Value) (x : vp_A) : Prop := ∃ l : List Int32, vs = l.map Value.int ∧ x = (l.length, .inl (fun j => l.getD j 0))
/-- an array's contents -/
def z_ra (ad : Nat → Option Nat) (ty : FieldType) (vs : List Value) (x : vp_A) : Prop := match ty with
  | .int => z_rI vs x
  | .byte => z_rI vs x
  | .char => z_rI vs x
  | .long => ∃ l : List Int64, vs = l.map Value.long ∧ x = (l.length, .inr (.inl (fun j => l.getD j 0)))
  | .object _ => ∃ l : List (Option Nat), vs = l.map va_rf ∧ x = (l.length, .inr (.inr (.inr (.inr (fun j => (l.getD j none).bind ad)))))
  | _ => False
def z_re (tys : List (ClassId × FieldType)) (ad : Nat → Option Nat) (c : zC) (e : va_E) : Prop :=
  (c.1 < 50 ∧ e = .inr (c.1, c.2.map (z_cv ad))) ∨ (100 ≤ c.1 ∧ ∃ (cA : ClassId) (ty : FieldType) (x : vp_A), tys[c.1 - 100]? = some (cA, ty) ∧ e = .inl (cA, x) ∧ z_ra ad ty c.2 x)
def z_rp (tys : List (ClassId × FieldType)) (ad : Nat → Option Nat) (h : zH) (ws : va_W) : Prop := ws.length = h.length ∧ ∀ (k : Nat) (c : zC), h[k]? = some c → ∃ (q : Nat) (e : va_E), ad k = some q ∧ ws[k]? = some (q, e) ∧ z_re tys ad c e
def z_wd (D : va_G) (cl : List vw_C) (tys : List (ClassId × FieldType)) (A : Nat → Prop) (ad : Nat → Option Nat) (h : zH) (H : Heap) : Prop := ∃ ws : va_W, va_P D cl ws H ∧ va_D A ws ∧ z_rp tys ad h ws
theorem z_bind_ext {ad ad2 : Nat → Option Nat} {n : Nat} (h : z_ext ad ad2 n) {l : List (Option Nat)} (hv : ∀ v ∈ l.map va_rf, z_vk n v) : (fun j => (l.getD j none).bind ad2) = (fun j => (l.getD j none).bind ad) := by
  funext j
  cases e : l[j]? with
  | none => simp [List.getD_eq_getElem?_getD, e]
  | some o =>
    cases o with
    | none => simp [List.getD_eq_getElem?_getD, e]
    | some k =>
      have h1 : z_vk n (va_rf (some k)) := hv _ (List.mem_map.mpr ⟨some k, List.mem_of_getElem? e, rfl⟩)
      simp only [List.getD_eq_getElem?_getD, e, Option.getD_some, Option.bind_some]
      exact h k h1
theorem z_ra_ext {ad ad2 : Nat → Option Nat} {n : Nat} {ty : FieldType} {vs : List Value} {x : vp_A} (h : z_ext ad ad2 n) (hv : ∀ v ∈ vs, z_vk n v) (hr : z_ra ad ty vs x) : z_ra ad2 ty vs x := by
  cases ty with
  | object C =>
    obtain ⟨l, h1, h2⟩ := hr
    refine ⟨l, h1, ?_⟩
    rw [h2, z_bind_ext h (by rw [← h1]; exact hv)]
  | _ => exact hr
theorem z_re_ext {tys : List (ClassId × FieldType)} {ad ad2 : Nat → Option Nat} {n : Nat} {c : zC} {e : va_E} (h : z_ext ad ad2 n) (hv : ∀ v ∈ c.2, z_vk n v) (hr : z_re tys ad c e) : z_re tys ad2 c e := by
  rcases hr with ⟨h1, h2⟩ | ⟨h1, cA, ty, x, h2, h3, h4⟩
  · exact Or.inl ⟨h1, by rw [h2, z_map_ext h hv]⟩
  · exact Or.inr ⟨h1, cA, ty, x, h2, h3, z_ra_ext h hv h4⟩
theorem z_rp_set {tys : List (ClassId × FieldType)} {ad : Nat → Option Nat} {h : zH} {ws : va_W} {k q : Nat} {c : zC} {e : va_E} (hr : z_rp tys ad h ws) (hk : k < h.length) (hq : ad k = some q) (he : z_re tys ad c e) : z_rp tys ad (h.set k c) (ws.set k (q, e)) := by
  refine ⟨by simp [hr.1], fun j d hj => ?_⟩
  rw [List.getElem?_set] at hj
  rw [List.getElem?_set]
  by_cases hjk : k = j
  · subst hjk
    rw [if_pos rfl, if_pos hk] at hj
    rw [if_pos rfl, if_pos (by rw [hr.1]; exact hk)]
    cases hj
    exact ⟨q, e, hq, rfl, he⟩
  · rw [if_neg hjk] at hj
    rw [if_neg hjk]
    exact hr.2 j d hj
def z_ad1 (ad : Nat → Option Nat) (n q : Nat) : Nat → Option Nat := fun k => if k = n then some q else ad k
theorem z_ad1_ext {ad : Nat → Option Nat} {n q : Nat} (hn : n < 1000000) : z_ext ad (z_ad1 ad n q) n := fun k hk => if_neg (by omega)
theorem z_rp_push {tys : List (ClassId × FieldType)} {ad : Nat → Option Nat} {h : zH} {ws : va_W} {q : Nat} {c : zC} {e : va_E} (hr : z_rp tys ad h ws) (hn : h.length < 1000000) (hv : z_hv h) (he : z_re tys (z_ad1 ad h.length q) c e) : z_rp tys (z_ad1 ad h.length q) (h ++ [c]) (ws ++ [(q, e)]) := by
  refine ⟨by simp [hr.1], fun j d hj => ?_⟩
  rcases Nat.lt_trichotomy j h.length with hl | hl | hl
  · rw [List.getElem?_append_left hl] at hj
    rw [List.getElem?_append_left (by rw [hr.1]; exact hl)]
    obtain ⟨q', e', h1, h2, h3⟩ := hr.2 j d hj
    exact ⟨q', e', ((z_ad1_ext hn) j (Or.inl hl)).trans h1, h2, z_re_ext (z_ad1_ext hn) (hv d (List.mem_of_getElem? hj)) h3⟩
  · subst hl
    rw [List.getElem?_append_right (Nat.le_refl _)] at hj
    rw [List.getElem?_append_right (by rw [hr.1]; exact Nat.le_refl _)]
    simp only [Nat.sub_self] at hj
    rw [hr.1, Nat.sub_self]
    cases hj
    exact ⟨q, e, if_pos rfl, rfl, he⟩
  · rw [List.getElem?_eq_none (by simp; omega)] at hj
    cases hj
theorem z_hv_set {h : zH} {k t : Nat} {vs : List Value} (hv : z_hv h) (hx : ∀ v ∈ vs, z_vk h.length v) : z_hv (h.set k (t, vs)) := by
  intro c hc v hvv
  rw [List.length_set]
  rcases List.mem_or_eq_of_mem_set hc with h1 | rfl
  · exact hv c h1 v hvv
  · exact hx v hvv
theorem z_hv_push {h : zH} {c : zC} (hv : z_hv h) (hx : ∀ v ∈ c.2, z_vk h.length v) : z_hv (h ++ [c]) := by
  intro d hd v hvv
  rw [List.length_append]
  rcases List.mem_append.mp hd with h1 | h1
  · exact (hv d h1 v hvv).le (by simp)
  · rw [List.mem_singleton.mp h1] at hvv
    exact (hx v hvv).le (by simp)
theorem z_hv_at {h : zH} {k t : Nat} {vs : List Value} (hv : z_hv h) (hk : h[k]? = some (t, vs)) : ∀ v ∈ vs, z_vk h.length v := hv _ (List.mem_of_getElem? hk)
theorem z_sameA {s : State} {cA cB : ClassId} {ty : FieldType} (h1 : va_RA s cA ty) (h2 : va_RA s cB ty) : cA = cB := by
  cases ty with
  | object C =>
    obtain ⟨_, _, -, -, -, e1⟩ := h1
    obtain ⟨_, _, -, -, -, e2⟩ := h2
    exact Option.some.inj (e1.symm.trans e2)
  | _ => exact Option.some.inj (Eq.trans (Eq.symm (show s.vm.findClass _ = some cA from h1)) (show s.vm.findClass _ = some cB from h2))
/-- an int array's row behind a store -/
theorem z_updI {l : List Int32} {i : Nat} {x : Int32} (hi : i < l.length) : upd (fun j => l.getD j 0) i x = fun j => (l.set i x).getD j 0 := by
  funext j
  unfold upd
  by_cases hj : j = i
  · subst hj
    rw [if_pos rfl]
    simp [List.getD_eq_getElem?_getD, List.getElem?_set, hi]
  · rw [if_neg hj]
    have : ¬ i = j := fun q => hj q.symm
    simp [List.getD_eq_getElem?_getD, List.getElem?_set, this]
theorem z_updL {l : List Int64} {i : Nat} {x : Int64} (hi : i < l.length) : vp_updL (fun j => l.getD j 0) i x = fun j => (l.set i x).getD j 0 := by
  funext j
  unfold vp_updL
  by_cases hj : j = i
  · subst hj
    rw [if_pos rfl]
    simp [List.getD_eq_getElem?_getD, List.getElem?_set, hi]
  · rw [if_neg hj]
    have : ¬ i = j := fun q => hj q.symm
    simp [List.getD_eq_getElem?_getD, List.getElem?_set, this]
theorem z_updQ {ad : Nat → Option Nat} {l : List (Option Nat)} {i : Nat} {x : Option Nat} (hi : i < l.length) : va_up (fun j => (l.getD j none).bind ad) i (x.bind ad) = fun j => ((l.set i x).getD j none).bind ad := by
  funext j
  unfold va_up
  by_cases hj : j = i
  · subst hj
    rw [if_pos rfl]
    simp [List.getD_eq_getElem?_getD, List.getElem?_set, hi]
  · rw [if_neg hj]
    have : ¬ i = j := fun q => hj q.symm
    simp [List.getD_eq_getElem?_getD, List.getElem?_set, this]
/-- what a list of ints holds at a place -/
theorem z_getI {l : List Int32} {i : Nat} {v : Value} (h : (l.map Value.int)[i]? = some v) : i < l.length ∧ v = .int (l.getD i 0) := by
  rw [List.getElem?_map] at h
  cases e : l[i]? with
  | none => rw [e] at h; cases h
  | some x => rw [e] at h; cases h; exact ⟨(List.getElem?_eq_some_iff.mp e).1, by simp [List.getD_eq_getElem?_getD, e]⟩
theorem z_getL {l : List Int64} {i : Nat} {v : Value} (h : (l.map Value.long)[i]? = some v) : i < l.length ∧ v = .long (l.getD i 0) := by
  rw [List.getElem?_map] at h
  cases e : l[i]? with
  | none => rw [e] at h; cases h
  | some x => rw [e] at h; cases h; exact ⟨(List.getElem?_eq_some_iff.mp e).1, by simp [List.getD_eq_getElem?_getD, e]⟩
theorem z_getQ {ad : Nat → Option Nat} {l : List (Option Nat)} {i : Nat} {v : Value} (h : (l.map va_rf)[i]? = some v) : i < l.length ∧ z_cv ad v = va_rf ((l.getD i none).bind ad) := by
  rw [List.getElem?_map] at h
  cases e : l[i]? with
  | none => rw [e] at h; cases h
  | some x =>
    rw [e] at h; cases h
    refine ⟨(List.getElem?_eq_some_iff.mp e).1, ?_⟩
    cases x <;> simp [List.getD_eq_getElem?_getD, e, va_rf, z_cv]
theorem z_in {i : Int32} {n : Nat} (h0 : ¬ i < 0) (h : i.toNatClampNeg < n) : vp_in i n := by
  unfold vp_in
  intro q
  rcases q with q | q
  · exact h0 q
  · omega
end
section
/-! THE PURE MACHINE, III: what reads and writes the heap. -/
def z_hg (S : List zC) (h : zH) (k : Nat) : Option zC := cond (Nat.blt k 1000000) h[k]? S[k - 1000000]?
theorem z_hg_cases {S : List zC} {h : zH} {k : Nat} {c : zC} (e : z_hg S h k = some c) : (k < 1000000 ∧ h[k]? = some c) ∨ (1000000 ≤ k ∧ S[k - 1000000]? = some c) := by
  unfold z_hg at e
  cases hb : Nat.blt k 1000000 with
  | true =>
    rw [hb] at e
    exact Or.inl ⟨by simpa [Nat.blt_eq] using hb, e⟩
  | false =>
    rw [hb] at e
    exact Or.inr ⟨by
      rcases Nat.lt_or_ge k 1000000 with q | q
      · rw [Nat.blt_eq.mpr q] at hb; cases hb
      · exact q, e⟩
/-- the arrays' types: ints, bytes, chars, longs, then references -/
def z_tf (tf : List FieldType) : Prop := tf[0]? = some .int ∧ tf[1]? = some .byte ∧ ∀ (t : Nat) (ty : FieldType), 2 ≤ t → tf[t]? = some ty → ∃ C : String, ty = .object C
abbrev zF : Type := String × String × String × Value
abbrev zS : Type := String × Nat × String × Nat
/-- what holds of the cells and tables that nobody changes -/
def z_stat (scl : List vw_C) (tf : List FieldType) (S : List zC) (sf : List zF) (ss : List zS) (nw : List Cond) (A : Nat → Prop) (ad : Nat → Option Nat) (s : State) : Prop :=
  (∀ (j : Nat) (c : zC), S[j]? = some c → (∀ v ∈ c.2, z_vk 0 v) ∧ ∃ t : Nat, ad (1000000 + j) = some t ∧ ((100 ≤ c.1 ∧ ∃ ty : FieldType, tf[c.1 - 100]? = some ty ∧ va_T ty t c.2.length (fun i => z_cv ad (c.2.getD i .null)) A s s.heap) ∨ (c.1 < 100 ∧ ∃ r : vw_C, scl[c.1 - 50]? = some r ∧ 50 ≤ c.1 ∧ va_O r.1 t A s s.heap ∧ ∀ (k : Nat) (v : Value), c.2[k]? = some v → va_OF (r.2.1 k).1 (r.2.1 k).2.1 (r.2.1 k).2.2.1 (z_cv ad v) t A s s.heap))) ∧
  (∀ (j : Nat) (q : zF), sf[j]? = some q → z_vk 0 q.2.2.2 ∧ va_Z q.1 q.2.1 q.2.2.1 (z_cv ad q.2.2.2) A s s.heap) ∧
  (∀ (j : Nat) (q : zS), ss[j]? = some q → 1000000 ≤ q.2.2.2 ∧ ∃ t : Nat, ad q.2.2.2 = some t ∧ vk_R q.1 q.2.1 q.2.2.1 t s) ∧
  (∀ x y : Nat, 1000000 ≤ x → x < 1000000 → 1000000 ≤ y → y < 1000000 → ad x = ad y → x = y) ∧
  (vx_Zq Bundle.tN "UNASSIGNED_STACK" Bundle.steD A s s.heap ∧ vx_Zq Bundle.tN "SUPPRESSED_SENTINEL" Bundle.listD A s s.heap) ∧
  (∀ w ∈ nw, va_Nw w s)
section ZH
variable {p : Program} {l : Launch} {e : Env} {R : Room} {s : State} {m : MethodId} {args : Array Value} {below : List Frame} {meth : Method} {c : Code} {H H0 : Heap} {locs : List Loc} {cells slots : Nat} {Q : State → Prop}
variable {cc : ByteArray} {pc : Nat} {ls : Array Slot} {rest : List Value}
variable {D : va_G} {cl scl : List vw_C} {tys : List (ClassId × FieldType)} {tf : List FieldType} {S : List zC} {sf : List zF} {ss : List zS} {nw : List Cond} {A : Nat → Prop} {ad ad0 : Nat → Option Nat} {h : zH}
theorem z_dyn {k : Nat} {c : zC} {ws : va_W} (hr : z_rp tys ad h ws) (e : h[k]? = some c) (h100 : 100 ≤ c.1) (hty : ∀ (t : Nat) (x : ClassId × FieldType), tys[t]? = some x → tf[t]? = some x.2) :
    ∃ (q : Nat) (cA : ClassId) (ty : FieldType) (x : vp_A), ad k = some q ∧ ws[k]? = some (q, .inl (cA, x)) ∧ tys[c.1 - 100]? = some (cA, ty) ∧ tf[c.1 - 100]? = some ty ∧ z_ra ad ty c.2 x := by
  obtain ⟨q, e1, h1, h2, h3⟩ := hr.2 k c e
  rcases h3 with ⟨h4, -⟩ | ⟨-, cA, ty, x, h5, h6, h7⟩
  · omega
  · subst h6
    exact ⟨q, cA, ty, x, h1, h2, h5, hty _ _ h5, h7⟩
theorem z_sta {k : Nat} {c : zC} (hst : z_stat scl tf S sf ss nw A ad0 s) (hx0 : z_ext ad0 ad 0) (hk : 1000000 ≤ k) (e : S[k - 1000000]? = some c) (h100 : 100 ≤ c.1) :
    (∀ v ∈ c.2, z_vk 0 v) ∧ ∃ (t : Nat) (ty : FieldType), ad k = some t ∧ tf[c.1 - 100]? = some ty ∧ va_T ty t c.2.length (fun i => z_cv ad0 (c.2.getD i .null)) A s s.heap := by
  obtain ⟨h1, t, h2, h3⟩ := hst.1 _ _ e
  rw [show 1000000 + (k - 1000000) = k by omega] at h2
  rcases h3 with ⟨-, ty, h4, h5⟩ | ⟨h6, -⟩
  · exact ⟨h1, t, ty, (hx0 k (Or.inr hk)).trans h2, h4, h5⟩
  · omega
theorem z_stav {vs : List Value} {i : Nat} {v : Value} (hx0 : z_ext ad0 ad 0) (hv : ∀ v ∈ vs, z_vk 0 v) (e : vs[i]? = some v) : i < vs.length ∧ z_cv ad0 (vs.getD i .null) = z_cv ad v := by
  refine ⟨(List.getElem?_eq_some_iff.mp e).1, ?_⟩
  rw [List.getD_eq_getElem?_getD, e]
  exact (z_cv_ext hx0 (hv v (List.mem_of_getElem? e))).symm

theorem z_iaload (htf : z_tf tf) (hty : ∀ (t : Nat) (x : ClassId × FieldType), tys[t]? = some x → tf[t]? = some x.2) (hx : p.tables.exec = Jvm.exec) (hb : c.code = cc) (hK : va_K D cl tys s) (hst : z_stat scl tf S sf ss nw A ad0 s) (hx0 : z_ext ad0 ad 0) (hw : z_wd D cl tys A ad h H) (hS : va_S A s.heap H locs) {q : Nat} {vs : List Value} {i : Int32} {v : Value} (h1 : z_hg S h q = some (100, vs)) (h2 : ¬ i < 0) (h3 : vs[i.toNatClampNeg]? = some v) (hd : decode cc pc = .ok (.iaload, 1))
    (k : W p l e R s m args below meth c H locs cells slots Q (F0 m (pc + 1) ls (z_cv ad v :: rest))) : W p l e R s m args below meth c H locs cells slots Q (F0 m pc ls (.int i :: va_rf (ad q) :: rest)) := by
  rcases z_hg_cases h1 with ⟨hq, e1⟩ | ⟨hq, e1⟩
  · obtain ⟨ws, hP, hD, hr⟩ := hw
    obtain ⟨q', cA, ty, x, g1, g2, g3, g4, g5⟩ := z_dyn hr e1 (Nat.le_of_ble_eq_true rfl) hty
    have e2 : ty = .int := Option.some.inj (g4.symm.trans htf.1)
    subst e2
    obtain ⟨l0, g6, g7⟩ := g5
    dsimp only at g6
    subst g7
    rw [g6] at h3
    obtain ⟨g8, g9⟩ := z_getI h3
    rw [g1]
    rw [g9] at k
    exact va_iald hx hb hK hP q 0 g2 g3 (z_in h2 g8) hd k
  · obtain ⟨hv, t, ty, g1, g2, g3⟩ := z_sta hst hx0 hq e1 (Nat.le_of_ble_eq_true rfl)
    have e2 : ty = .int := Option.some.inj (g2.symm.trans htf.1)
    subst e2
    obtain ⟨g4, g5⟩ := z_stav hx0 hv h3
    rw [g1]
    exact va_ti hx hb g3 hS (z_in h2 g4) g5 hd k
theorem z_baload (htf : z_tf tf) (hty : ∀ (t : Nat) (x : ClassId × FieldType), tys[t]? = some x → tf[t]? = some x.2) (hx : p.tables.exec = Jvm.exec) (hb : c.code = cc) (hK : va_K D cl tys s) (hst : z_stat scl tf S sf ss nw A ad0 s) (hx0 : z_ext ad0 ad 0) (hw : z_wd D cl tys A ad h H) (hS : va_S A s.heap H locs) {q : Nat} {vs : List Value} {i : Int32} {v : Value} (h1 : z_hg S h q = some (101, vs)) (h2 : ¬ i < 0) (h3 : vs[i.toNatClampNeg]? = some v) (hd : decode cc pc = .ok (.baload, 1))
    (k : W p l e R s m args below meth c H locs cells slots Q (F0 m (pc + 1) ls (z_cv ad v :: rest))) : W p l e R s m args below meth c H locs cells slots Q (F0 m pc ls (.int i :: va_rf (ad q) :: rest)) := by
  rcases z_hg_cases h1 with ⟨hq, e1⟩ | ⟨hq, e1⟩
  · obtain ⟨ws, hP, hD, hr⟩ := hw
    obtain ⟨q', cA, ty, x, g1, g2, g3, g4, g5⟩ := z_dyn hr e1 (Nat.le_of_ble_eq_true rfl) hty
    have e2 : ty = .byte := Option.some.inj (g4.symm.trans htf.2.1)
    subst e2
    obtain ⟨l0, g6, g7⟩ := g5
    dsimp only at g6
    subst g7
    rw [g6] at h3
    obtain ⟨g8, g9⟩ := z_getI h3
    rw [g1]
    rw [g9] at k
    exact va_bald hx hb hK hP q 1 g2 g3 (z_in h2 g8) hd k
  · obtain ⟨hv, t, ty, g1, g2, g3⟩ := z_sta hst hx0 hq e1 (Nat.le_of_ble_eq_true rfl)
    have e2 : ty = .byte := Option.some.inj (g2.symm.trans htf.2.1)
    subst e2
    obtain ⟨g4, g5⟩ := z_stav hx0 hv h3
    rw [g1]
    exact va_tb hx hb g3 hS (z_in h2 g4) g5 hd k
theorem z_aaload (htf : z_tf tf) (hty : ∀ (t : Nat) (x : ClassId × FieldType), tys[t]? = some x → tf[t]? = some x.2) (hx : p.tables.exec = Jvm.exec) (hb : c.code = cc) (hK : va_K D cl tys s) (hst : z_stat scl tf S sf ss nw A ad0 s) (hx0 : z_ext ad0 ad 0) (hw : z_wd D cl tys A ad h H) (hS : va_S A s.heap H locs) {q t0 : Nat} {vs : List Value} {i : Int32} {v : Value} (h1 : z_hg S h q = some (t0, vs)) (h0 : 104 ≤ t0) (h2 : ¬ i < 0) (h3 : vs[i.toNatClampNeg]? = some v) (hd : decode cc pc = .ok (.aaload, 1))
    (k : W p l e R s m args below meth c H locs cells slots Q (F0 m (pc + 1) ls (z_cv ad v :: rest))) : W p l e R s m args below meth c H locs cells slots Q (F0 m pc ls (.int i :: va_rf (ad q) :: rest)) := by
  rcases z_hg_cases h1 with ⟨hq, e1⟩ | ⟨hq, e1⟩
  · obtain ⟨ws, hP, hD, hr⟩ := hw
    obtain ⟨q', cA, ty, x, g1, g2, g3, g4, g5⟩ := z_dyn hr e1 (show 100 ≤ t0 by omega) hty
    obtain ⟨C, e2⟩ := htf.2.2.2.2 _ _ (show 4 ≤ t0 - 100 by omega) g4
    subst e2
    obtain ⟨l0, g6, g7⟩ := g5
    dsimp only at g6
    subst g7
    rw [g6] at h3
    obtain ⟨g8, g9⟩ := z_getQ (ad := ad) h3
    rw [g1]
    rw [g9] at k
    exact va_aldq hx hb hK hP q (t0 - 100) g2 g3 (z_in h2 g8) hd k
  · obtain ⟨hv, t, ty, g1, g2, g3⟩ := z_sta hst hx0 hq e1 (show 100 ≤ t0 by omega)
    obtain ⟨C, e2⟩ := htf.2.2.2.2 _ _ (show 4 ≤ t0 - 100 by omega) g2
    subst e2
    obtain ⟨g4, g5⟩ := z_stav hx0 hv h3
    rw [g1]
    exact vb_tq hx hb g3 hS (z_in h2 g4) g5 hd k
theorem z_alen (hty : ∀ (t : Nat) (x : ClassId × FieldType), tys[t]? = some x → tf[t]? = some x.2) (hx : p.tables.exec = Jvm.exec) (hb : c.code = cc) (hK : va_K D cl tys s) (hst : z_stat scl tf S sf ss nw A ad0 s) (hx0 : z_ext ad0 ad 0) (hw : z_wd D cl tys A ad h H) (hS : va_S A s.heap H locs) {q t0 : Nat} {vs : List Value} (h1 : z_hg S h q = some (t0, vs)) (h0 : 100 ≤ t0) (hd : decode cc pc = .ok (.arraylength, 1))
    (k : W p l e R s m args below meth c H locs cells slots Q (F0 m (pc + 1) ls (.int (Int32.ofNat vs.length) :: rest))) : W p l e R s m args below meth c H locs cells slots Q (F0 m pc ls (va_rf (ad q) :: rest)) := by
  rcases z_hg_cases h1 with ⟨hq, e1⟩ | ⟨hq, e1⟩
  · obtain ⟨ws, hP, hD, hr⟩ := hw
    obtain ⟨q', cA, ty, x, g1, g2, g3, g4, g5⟩ := z_dyn hr e1 h0 hty
    have e2 : x.1 = vs.length := by
      cases ty with
      | int => obtain ⟨l0, g6, g7⟩ := g5; dsimp only at g6; rw [g7, g6, List.length_map]
      | byte => obtain ⟨l0, g6, g7⟩ := g5; dsimp only at g6; rw [g7, g6, List.length_map]
      | char => obtain ⟨l0, g6, g7⟩ := g5; dsimp only at g6; rw [g7, g6, List.length_map]
      | long => obtain ⟨l0, g6, g7⟩ := g5; dsimp only at g6; rw [g7, g6, List.length_map]
      | object C => obtain ⟨l0, g6, g7⟩ := g5; dsimp only at g6; rw [g7, g6, List.length_map]
      | _ => exact g5.elim
    rw [g1]
    exact va_alen hx hb hK hP q (t0 - 100) g2 g3 (by rw [e2]) hd k
  · obtain ⟨hv, t, ty, g1, g2, g3⟩ := z_sta hst hx0 hq e1 h0
    rw [g1]
    exact va_tlen hx hb g3 hS rfl hd k
theorem z_getf {own : String} {Ts : List Cond} (hts : ∀ w ∈ Ts, w.before args s = true) (hown : s.vm.findClass own = some m.cls) (hx : p.tables.exec = Jvm.exec) (hb : c.code = cc) (hK : va_K D cl tys s) (hst : z_stat scl tf S sf ss nw A ad0 s) (hx0 : z_ext ad0 ad 0) (hw : z_wd D cl tys A ad h H) (hS : va_S A s.heap H locs) {q a b idx : Nat} {vs : List Value} {v : Value} {C : String} {T : u_T} {N : Nat} (h1 : z_hg S h q = some (a, vs)) (h100 : a < 100) (h3 : vs[b]? = some v) (hc : (a < 50 ∧ cl[a]? = some (C, T, N)) ∨ (50 ≤ a ∧ scl[a - 50]? = some (C, T, N))) (hin : a < 50 → ∀ w ∈ u_ws C T N, w ∈ Ts) (hbN : b < N) (hl : Cond.fieldLink own idx (T b).1 (T b).2.1 (T b).2.2.1 ∈ Ts) (hd : decode cc pc = .ok (.getfield idx, 3))
    (k : W p l e R s m args below meth c H locs cells slots Q (F0 m (pc + 3) ls (z_cv ad v :: rest))) : W p l e R s m args below meth c H locs cells slots Q (F0 m pc ls (va_rf (ad q) :: rest)) := by
  rcases z_hg_cases h1 with ⟨hq, e1⟩ | ⟨hq, e1⟩
  · obtain ⟨ws, hP, hD, hr⟩ := hw
    obtain ⟨q', e2, g1, g2, g3⟩ := hr.2 q _ e1
    rcases g3 with ⟨g4, g5⟩ | ⟨g4, -⟩
    · dsimp only at g4 g5
      subst g5
      rcases hc with ⟨-, hc⟩ | ⟨hc, -⟩
      · rw [g1]
        exact va_get hx hb hts (hin g4) hown hK hP q g2 hc b hbN (hts _ hl) (fun _ z => z) (by rw [List.getElem?_map, h3]; rfl) hd k
      · omega
    · dsimp only at g4; omega
  · obtain ⟨hv, t, g1, g2⟩ := hst.1 _ _ e1
    rw [show 1000000 + (q - 1000000) = q by omega] at g1
    rcases g2 with ⟨g3, -⟩ | ⟨-, r, g4, g5, g6, g7⟩
    · dsimp only at g3; omega
    · dsimp only at g4 g5 g7
      rcases hc with ⟨hc, -⟩ | ⟨-, hc⟩
      · omega
      · have e2 : r = (C, T, N) := Option.some.inj (g4.symm.trans hc)
        subst e2
        rw [(hx0 q (Or.inr hq)).trans g1]
        have g8 := g7 b v h3
        rw [← z_cv_ext hx0 (hv v (List.mem_of_getElem? h3))] at g8
        exact vk_getf hx hb g8 hS hown (hts _ hl) (fun _ z => z) hd k
def z_fit (ty : FieldType) (v : Value) : Bool := match ty, v with
  | .int, .int _ => true
  | .boolean, .int x => decide (x = 0) || decide (x = 1)
  | .object _, .ref _ => true
  | .object _, .null => true
  | .array _, .ref _ => true
  | .array _, .null => true
  | _, _ => false
theorem z_fit_ok {ty : FieldType} {v : Value} {ad : Nat → Option Nat} (hf : z_fit ty v = true) : narrow ty (z_cv ad v) = z_cv ad v ∧ fits ty (z_cv ad v) = true := by
  unfold z_fit at hf
  split at hf
  · exact ⟨rfl, rfl⟩
  · rename_i x
    simp only [Bool.or_eq_true, decide_eq_true_eq] at hf
    rcases hf with rfl | rfl
    · exact ⟨(by decide : (Value.int ((0 : Int32) &&& 1)) = .int 0), rfl⟩
    · exact ⟨(by decide : (Value.int ((1 : Int32) &&& 1)) = .int 1), rfl⟩
  · rename_i n k
    cases hk : ad k <;> simp [z_cv, hk, va_rf, narrow, fits]
  · exact ⟨rfl, rfl⟩
  · rename_i n k
    cases hk : ad k <;> simp [z_cv, hk, va_rf, narrow, fits]
  · exact ⟨rfl, rfl⟩
  · cases hf
theorem z_putf {own : String} {Ts : List Cond} (hts : ∀ w ∈ Ts, w.before args s = true) (hown : s.vm.findClass own = some m.cls) (hx : p.tables.exec = Jvm.exec) (hb : c.code = cc) (hK : va_K D cl tys s) (hw : z_wd D cl tys A ad h H) (hS : va_S A H0 H locs) {q a b idx : Nat} {vs : List Value} {v : Value} {C : String} {T : u_T} {N : Nat} {ty0 : Nat → FieldType} (h1 : h[q]? = some (a, vs)) (h50 : a < 50) (h3 : b < vs.length) (hc : cl[a]? = some (C, T, N)) (hin : ∀ w ∈ u_ws C T N, w ∈ Ts) (hty : ∀ k, k < N → parseFieldDescriptor (T k).2.2.1 = some (ty0 k)) (hnm : ∀ a, a < N → ∀ b, b < N → a ≠ b → (T a).2.1 ≠ (T b).2.1) (hbN : b < N) (hl : Cond.fieldLink own idx (T b).1 (T b).2.1 (T b).2.2.1 ∈ Ts) (hfin : (T b).2.2.2 = false ∨ ((T b).2.2.2 = true ∧ meth.name = "<init>" ∧ (T b).1 = own)) (hf : z_fit (ty0 b) v = true) (hd : decode cc pc = .ok (.putfield idx, 3))
    (k : ∀ (H1 : Heap) (locs1 : List Loc), z_wd D cl tys A ad (h.set q (a, vs.set b v)) H1 → va_S A H0 H1 locs1 → W p l e R s m args below meth c H1 locs1 cells slots Q (F0 m (pc + 3) ls rest)) : W p l e R s m args below meth c H locs cells slots Q (F0 m pc ls (z_cv ad v :: va_rf (ad q) :: rest)) := by
  obtain ⟨ws, hP, hD, hr⟩ := hw
  obtain ⟨q', e2, g1, g2, g3⟩ := hr.2 q _ h1
  have hql : q < h.length := (List.getElem?_eq_some_iff.mp h1).1
  rcases g3 with ⟨g4, g5⟩ | ⟨g4, -⟩
  · dsimp only at g4 g5
    subst g5
    rw [g1]
    have hfit := z_fit_ok (ad := ad) hf
    have key : ∀ (H1 : Heap) (locs1 : List Loc), va_P D cl (ws.set q (q', .inr (a, (vs.map (z_cv ad)).set b (z_cv ad v)))) H1 → va_D A (ws.set q (q', .inr (a, (vs.map (z_cv ad)).set b (z_cv ad v)))) → va_S A H0 H1 locs1 → W p l e R s m args below meth c H1 locs1 cells slots Q (F0 m (pc + 3) ls rest) := fun H1 locs1 hP1 hD1 hS1 =>
      k H1 locs1 ⟨_, hP1, hD1, z_rp_set hr hql g1 (Or.inl ⟨h50, by rw [List.map_set]⟩)⟩ hS1
    rcases hfin with hfin | ⟨hfin, hin2, hdecl⟩
    · exact va_put hx hb hts hin ty0 hty hnm hown hK hP hD hS q g2 hc b hbN (hts _ hl) (fun _ z => z) hfin (hty b hbN) hfit.1 hfit.2 (by rw [List.length_map]; exact h3) hd key
    · exact va_putF hx hb hts hin ty0 hty hnm hown hK hP hD hS q g2 hc b hbN (hts _ hl) (fun _ z => z) hfin hin2 hdecl (hty b hbN) hfit.1 hfit.2 (by rw [List.length_map]; exact h3) hd key
  · dsimp only at g4; omega
theorem z_iastore (htf : z_tf tf) (hty : ∀ (t : Nat) (x : ClassId × FieldType), tys[t]? = some x → tf[t]? = some x.2) (hx : p.tables.exec = Jvm.exec) (hb : c.code = cc) (hK : va_K D cl tys s) (hw : z_wd D cl tys A ad h H) (hS : va_S A H0 H locs) {q : Nat} {vs : List Value} {i : Int32} {x : Int32} (h1 : h[q]? = some (100, vs)) (h2 : ¬ i < 0) (h3 : i.toNatClampNeg < vs.length) (hd : decode cc pc = .ok (.iastore, 1))
    (k : ∀ (H1 : Heap) (locs1 : List Loc), z_wd D cl tys A ad (h.set q (100, vs.set i.toNatClampNeg (.int x))) H1 → va_S A H0 H1 locs1 → W p l e R s m args below meth c H1 locs1 cells slots Q (F0 m (pc + 1) ls rest)) : W p l e R s m args below meth c H locs cells slots Q (F0 m pc ls (.int x :: .int i :: va_rf (ad q) :: rest)) := by
  obtain ⟨ws, hP, hD, hr⟩ := hw
  have hql : q < h.length := (List.getElem?_eq_some_iff.mp h1).1
  obtain ⟨q', cA, ty, x9, g1, g2, g3, g4, g5⟩ := z_dyn hr h1 (Nat.le_of_ble_eq_true rfl) hty
  have e2 : ty = .int := Option.some.inj (g4.symm.trans htf.1)
  subst e2
  obtain ⟨l0, g6, g7⟩ := g5
  dsimp only at g6 g3
  subst g7
  have g8 : i.toNatClampNeg < l0.length := by rw [g6, List.length_map] at h3; exact h3
  rw [g1]
  refine va_iast hx hb hK hP hD hS q 0 g2 g3 (z_in h2 g8) hd (fun H1 locs1 hP1 hD1 hS1 => ?_)
  refine k H1 locs1 ⟨_, hP1, hD1, z_rp_set hr hql g1 (Or.inr ⟨Nat.le_of_ble_eq_true rfl, cA, .int, _, g3, rfl, ?_⟩)⟩ hS1
  refine ⟨l0.set i.toNatClampNeg (x), ?_, ?_⟩
  · dsimp only; rw [g6, List.map_set]
  · rw [List.length_set, z_updI g8]
theorem z_bastore (htf : z_tf tf) (hty : ∀ (t : Nat) (x : ClassId × FieldType), tys[t]? = some x → tf[t]? = some x.2) (hx : p.tables.exec = Jvm.exec) (hb : c.code = cc) (hK : va_K D cl tys s) (hw : z_wd D cl tys A ad h H) (hS : va_S A H0 H locs) {q : Nat} {vs : List Value} {i : Int32} {x : Int32} (h1 : h[q]? = some (101, vs)) (h2 : ¬ i < 0) (h3 : i.toNatClampNeg < vs.length) (hd : decode cc pc = .ok (.bastore, 1))
    (k : ∀ (H1 : Heap) (locs1 : List Loc), z_wd D cl tys A ad (h.set q (101, vs.set i.toNatClampNeg (.int (vp_nar .byte x)))) H1 → va_S A H0 H1 locs1 → W p l e R s m args below meth c H1 locs1 cells slots Q (F0 m (pc + 1) ls rest)) : W p l e R s m args below meth c H locs cells slots Q (F0 m pc ls (.int x :: .int i :: va_rf (ad q) :: rest)) := by
  obtain ⟨ws, hP, hD, hr⟩ := hw
  have hql : q < h.length := (List.getElem?_eq_some_iff.mp h1).1
  obtain ⟨q', cA, ty, x9, g1, g2, g3, g4, g5⟩ := z_dyn hr h1 (Nat.le_of_ble_eq_true rfl) hty
  have e2 : ty = .byte := Option.some.inj (g4.symm.trans htf.2.1)
  subst e2
  obtain ⟨l0, g6, g7⟩ := g5
  dsimp only at g6 g3
  subst g7
  have g8 : i.toNatClampNeg < l0.length := by rw [g6, List.length_map] at h3; exact h3
  rw [g1]
  refine va_bast hx hb hK hP hD hS q 1 g2 g3 (z_in h2 g8) hd (fun H1 locs1 hP1 hD1 hS1 => ?_)
  refine k H1 locs1 ⟨_, hP1, hD1, z_rp_set hr hql g1 (Or.inr ⟨Nat.le_of_ble_eq_true rfl, cA, .byte, _, g3, rfl, ?_⟩)⟩ hS1
  refine ⟨l0.set i.toNatClampNeg (vp_nar .byte x), ?_, ?_⟩
  · dsimp only; rw [g6, List.map_set]
  · rw [List.length_set, z_updI g8]
theorem z_aastoreN (htf : z_tf tf) (hty : ∀ (t : Nat) (x : ClassId × FieldType), tys[t]? = some x → tf[t]? = some x.2) (hx : p.tables.exec = Jvm.exec) (hb : c.code = cc) (hK : va_K D cl tys s) (hw : z_wd D cl tys A ad h H) (hS : va_S A H0 H locs) {q t0 : Nat} {vs : List Value} {i : Int32} (h1 : h[q]? = some (t0, vs)) (h0 : 104 ≤ t0) (h2 : ¬ i < 0) (h3 : i.toNatClampNeg < vs.length) (hd : decode cc pc = .ok (.aastore, 1))
    (k : ∀ (H1 : Heap) (locs1 : List Loc), z_wd D cl tys A ad (h.set q (t0, vs.set i.toNatClampNeg .null)) H1 → va_S A H0 H1 locs1 → W p l e R s m args below meth c H1 locs1 cells slots Q (F0 m (pc + 1) ls rest)) : W p l e R s m args below meth c H locs cells slots Q (F0 m pc ls (.null :: .int i :: va_rf (ad q) :: rest)) := by
  obtain ⟨ws, hP, hD, hr⟩ := hw
  have hql : q < h.length := (List.getElem?_eq_some_iff.mp h1).1
  obtain ⟨q', cA, ty, x9, g1, g2, g3, g4, g5⟩ := z_dyn hr h1 (show 100 ≤ t0 by omega) hty
  obtain ⟨C, e2⟩ := htf.2.2.2.2 _ _ (show 4 ≤ t0 - 100 by omega) g4
  subst e2
  obtain ⟨l0, g6, g7⟩ := g5
  dsimp only at g6 g3
  subst g7
  have g8 : i.toNatClampNeg < l0.length := by rw [g6, List.length_map] at h3; exact h3
  rw [g1]
  refine va_astqN hx hb hK hP hD hS q (t0 - 100) g2 g3 (z_in h2 g8) hd (fun H1 locs1 hP1 hD1 hS1 => ?_)
  refine k H1 locs1 ⟨_, hP1, hD1, z_rp_set hr hql g1 (Or.inr ⟨by dsimp only; omega, cA, .object C, _, g3, rfl, ?_⟩)⟩ hS1
  refine ⟨l0.set i.toNatClampNeg none, ?_, ?_⟩
  · dsimp only; rw [g6, List.map_set]; rfl
  · rw [List.length_set]
    have := z_updQ (ad := ad) (x := none) g8
    rw [← this]; rfl
theorem z_aastore (htf : z_tf tf) (hty : ∀ (t : Nat) (x : ClassId × FieldType), tys[t]? = some x → tf[t]? = some x.2) (hx : p.tables.exec = Jvm.exec) (hb : c.code = cc) (hK : va_K D cl tys s) (hw : z_wd D cl tys A ad h H) (hS : va_S A H0 H locs) {q t0 w0 tw : Nat} {vs vw : List Value} {i : Int32} {r : vw_C} (h1 : h[q]? = some (t0, vs)) (h0 : 104 ≤ t0) (h2 : ¬ i < 0) (h3 : i.toNatClampNeg < vs.length) (h4 : h[w0]? = some (tw, vw)) (h5 : tw < 50) (hc : cl[tw]? = some r) (ht : tf[t0 - 100]? = some (.object r.1)) (hd : decode cc pc = .ok (.aastore, 1))
    (k : ∀ (H1 : Heap) (locs1 : List Loc), z_wd D cl tys A ad (h.set q (t0, vs.set i.toNatClampNeg (.ref w0))) H1 → va_S A H0 H1 locs1 → W p l e R s m args below meth c H1 locs1 cells slots Q (F0 m (pc + 1) ls rest)) : W p l e R s m args below meth c H locs cells slots Q (F0 m pc ls (va_rf (ad w0) :: .int i :: va_rf (ad q) :: rest)) := by
  obtain ⟨ws, hP, hD, hr⟩ := hw
  have hql : q < h.length := (List.getElem?_eq_some_iff.mp h1).1
  obtain ⟨q', cA, ty, x9, g1, g2, g3, g4, g5⟩ := z_dyn hr h1 (show 100 ≤ t0 by omega) hty
  obtain ⟨v', e3, f1, f2, f3⟩ := hr.2 w0 _ h4
  rcases f3 with ⟨-, f4⟩ | ⟨f4, -⟩
  · dsimp only at f4
    subst f4
    have e2 : ty = .object r.1 := Option.some.inj (g4.symm.trans ht)
    subst e2
    obtain ⟨l0, g6, g7⟩ := g5
    dsimp only at g6 g3
    subst g7
    have g8 : i.toNatClampNeg < l0.length := by rw [g6, List.length_map] at h3; exact h3
    rw [g1, f1]
    refine va_astq hx hb hK hP hD hS q (t0 - 100) w0 tw g2 g3 f2 hc (z_in h2 g8) hd (fun H1 locs1 hP1 hD1 hS1 => ?_)
    refine k H1 locs1 ⟨_, hP1, hD1, z_rp_set hr hql g1 (Or.inr ⟨by dsimp only; omega, cA, .object r.1, _, g3, rfl, ?_⟩)⟩ hS1
    refine ⟨l0.set i.toNatClampNeg (some w0), ?_, ?_⟩
    · dsimp only; rw [g6, List.map_set]; rfl
    · rw [List.length_set]
      have := z_updQ (ad := ad) (x := some w0) g8
      rw [← this, Option.bind_some, f1]
  · dsimp only at f4; omega
end ZH
end
section
/-! THE PURE MACHINE, IV: what makes cells, constants, tests of references; the whole of what one instruction does to the heap. -/
section ZN
variable {p : Program} {l : Launch} {e : Env} {R : Room} {s : State} {m : MethodId} {args : Array Value} {below : List Frame} {meth : Method} {c : Code} {H H0 : Heap} {locs : List Loc} {cells slots : Nat} {Q : State → Prop}
variable {cc : ByteArray} {pc : Nat} {ls : Array Slot} {rest : List Value}
variable {D : va_G} {cl scl : List vw_C} {tys : List (ClassId × FieldType)} {tf : List FieldType} {S : List zC} {sf : List zF} {ss : List zS} {nw : List Cond} {A : Nat → Prop} {ad ad0 : Nat → Option Nat} {h : zH}
theorem z_new {own : String} {Ts : List Cond} (hts : ∀ w ∈ Ts, w.before args s = true) (hown : s.vm.findClass own = some m.cls) (hx : p.tables.exec = Jvm.exec) (hb : c.code = cc) (hK : va_K D cl tys s) (hw : z_wd D cl tys A ad h H) (hS : va_S A H0 H locs) (hA : ∀ q, H0.size ≤ q → A q) (hv : z_hv h) {a N idx : Nat} {C : String} {T : u_T} {ty0 : Nat → FieldType} {fs : List Value} (h50 : a < 50) (hc : cl[a]? = some (C, T, N)) (hin : ∀ w ∈ u_ws C T N, w ∈ Ts) (hty : ∀ k, k < N → parseFieldDescriptor (T k).2.2.1 = some (ty0 k)) (hfs : ∀ j, j < N → defaultValue (ty0 j) = vp_V fs j) (hnr : ∀ v ∈ fs, ∀ f, z_cv f v = v) (h1 : Cond.classLink own idx C ∈ Ts) (h2 : Cond.instantiable C N ∈ Ts) (h3 : Cond.initialized C ∈ Ts) (hn : h.length < 1000000) (hcells : cells + 1 ≤ R.cells) (hslots : slots + N ≤ R.slots) (hd : decode cc pc = .ok (.new idx, 3))
    (k : ∀ (ad2 : Nat → Option Nat) (H1 : Heap), z_ext ad ad2 h.length → z_wd D cl tys A ad2 (h ++ [(a, fs)]) H1 → va_S A H0 H1 locs → W p l e R s m args below meth c H1 locs (cells + 1) (slots + N) Q (F0 m (pc + 3) ls (va_rf (ad2 h.length) :: rest))) : W p l e R s m args below meth c H locs cells slots Q (F0 m pc ls rest) := by
  obtain ⟨ws, hP, hD, hr⟩ := hw
  refine va_new hx hb hts hin ty0 hty hown (hts _ h1) (hts _ h2) (hts _ h3) hK hP hD hS hA hc hfs hcells hslots hd (fun q H1 hP1 hD1 hS1 => ?_)
  have e1 : va_rf (z_ad1 ad h.length q h.length) = .ref q := by unfold z_ad1; rw [if_pos rfl]; rfl
  have k1 := k (z_ad1 ad h.length q) H1 (z_ad1_ext hn) ⟨_, hP1, hD1, z_rp_push hr hn hv (Or.inl ⟨h50, by
    dsimp only
    rw [show fs.map (z_cv (z_ad1 ad h.length q)) = fs from (List.map_congr_left (fun v hv' => hnr v hv' _)).trans (List.map_id fs)]⟩)⟩ hS1
  rw [e1] at k1
  exact k1
theorem z_K2 {x : ClassId × FieldType} (hK : va_K D cl (tys ++ [x]) s) : va_RA s x.1 x.2 := (hK.2 tys.length x (by simp)).2

theorem z_newa_int {Ts : List Cond} (hts : ∀ w ∈ Ts, w.before args s = true) (hx : p.tables.exec = Jvm.exec) (hb : c.code = cc) (hK : va_K D cl tys s) (hw : z_wd D cl tys A ad h H) (hS : va_S A H0 H locs) (hA : ∀ q, H0.size ≤ q → A q) (hv : z_hv h) {n : Int32} (h1 : Cond.arrayClass .int ∈ Ts) {x : ClassId} (hx2 : tys[0]? = some (x, .int)) (h0 : ¬ n < 0) (hbytes : n.toNatClampNeg * 8 ≤ 536870912) (hn : h.length < 1000000) (hcells : cells + 1 ≤ R.cells) (hslots : slots + n.toNatClampNeg ≤ R.slots) (hd : decode cc pc = .ok (.newarray .int, 2))
    (k : ∀ (ad2 : Nat → Option Nat) (H1 : Heap), z_ext ad ad2 h.length → z_wd D cl tys A ad2 (h ++ [(100, List.replicate n.toNatClampNeg (.int 0))]) H1 → va_S A H0 H1 locs → W p l e R s m args below meth c H1 locs (cells + 1) (slots + n.toNatClampNeg) Q (F0 m (pc + 2) ls (va_rf (ad2 h.length) :: rest))) : W p l e R s m args below meth c H locs cells slots Q (F0 m pc ls (.int n :: rest)) := by
  obtain ⟨ws, hP, hD, hr⟩ := hw
  refine va_newa (atype := .int) (ty := .int) (a0 := (n.toNatClampNeg, .inl (fun _ => 0))) hx hb (hts _ h1) rfl hK hP hD hS hA (fun _ => rfl) h0 rfl (by show n.toNatClampNeg * 4 ≤ 536870912; omega) hcells hslots hd (fun q cA H1 hK1 hP1 hD1 hS1 => ?_)
  have e1 : va_rf (z_ad1 ad h.length q h.length) = .ref q := by unfold z_ad1; rw [if_pos rfl]; rfl
  have e2 : cA = x := z_sameA (z_K2 hK1) (hK.2 0 _ hx2).2
  subst e2
  have k1 := k (z_ad1 ad h.length q) H1 (z_ad1_ext hn) ⟨_, hP1, hD1, z_rp_push hr hn hv (Or.inr ⟨Nat.le_of_ble_eq_true rfl, cA, .int, _, hx2, rfl, List.replicate n.toNatClampNeg (0 : Int32), by dsimp only; rw [List.map_replicate], by
    rw [List.length_replicate]
    have e9 : (fun j => (List.replicate n.toNatClampNeg (0 : Int32)).getD j 0) = fun _ => 0 := by
      funext j
      by_cases hj : j < n.toNatClampNeg <;> simp [List.getD_eq_getElem?_getD, List.getElem?_replicate, hj]
    rw [e9]⟩)⟩ hS1
  rw [e1] at k1
  exact k1
theorem z_newa_byte {Ts : List Cond} (hts : ∀ w ∈ Ts, w.before args s = true) (hx : p.tables.exec = Jvm.exec) (hb : c.code = cc) (hK : va_K D cl tys s) (hw : z_wd D cl tys A ad h H) (hS : va_S A H0 H locs) (hA : ∀ q, H0.size ≤ q → A q) (hv : z_hv h) {n : Int32} (h1 : Cond.arrayClass .byte ∈ Ts) {x : ClassId} (hx2 : tys[1]? = some (x, .byte)) (h0 : ¬ n < 0) (hbytes : n.toNatClampNeg * 8 ≤ 536870912) (hn : h.length < 1000000) (hcells : cells + 1 ≤ R.cells) (hslots : slots + n.toNatClampNeg ≤ R.slots) (hd : decode cc pc = .ok (.newarray .byte, 2))
    (k : ∀ (ad2 : Nat → Option Nat) (H1 : Heap), z_ext ad ad2 h.length → z_wd D cl tys A ad2 (h ++ [(101, List.replicate n.toNatClampNeg (.int 0))]) H1 → va_S A H0 H1 locs → W p l e R s m args below meth c H1 locs (cells + 1) (slots + n.toNatClampNeg) Q (F0 m (pc + 2) ls (va_rf (ad2 h.length) :: rest))) : W p l e R s m args below meth c H locs cells slots Q (F0 m pc ls (.int n :: rest)) := by
  obtain ⟨ws, hP, hD, hr⟩ := hw
  refine va_newa (atype := .byte) (ty := .byte) (a0 := (n.toNatClampNeg, .inl (fun _ => 0))) hx hb (hts _ h1) rfl hK hP hD hS hA (fun _ => rfl) h0 rfl (by show n.toNatClampNeg * 1 ≤ 536870912; omega) hcells hslots hd (fun q cA H1 hK1 hP1 hD1 hS1 => ?_)
  have e1 : va_rf (z_ad1 ad h.length q h.length) = .ref q := by unfold z_ad1; rw [if_pos rfl]; rfl
  have e2 : cA = x := z_sameA (z_K2 hK1) (hK.2 1 _ hx2).2
  subst e2
  have k1 := k (z_ad1 ad h.length q) H1 (z_ad1_ext hn) ⟨_, hP1, hD1, z_rp_push hr hn hv (Or.inr ⟨Nat.le_of_ble_eq_true rfl, cA, .byte, _, hx2, rfl, List.replicate n.toNatClampNeg (0 : Int32), by dsimp only; rw [List.map_replicate], by
    rw [List.length_replicate]
    have e9 : (fun j => (List.replicate n.toNatClampNeg (0 : Int32)).getD j 0) = fun _ => 0 := by
      funext j
      by_cases hj : j < n.toNatClampNeg <;> simp [List.getD_eq_getElem?_getD, List.getElem?_replicate, hj]
    rw [e9]⟩)⟩ hS1
  rw [e1] at k1
  exact k1
theorem z_newq {own : String} {Ts : List Cond} (hts : ∀ w ∈ Ts, w.before args s = true) (hown : s.vm.findClass own = some m.cls) (hx : p.tables.exec = Jvm.exec) (hb : c.code = cc) (hK : va_K D cl tys s) (hw : z_wd D cl tys A ad h H) (hS : va_S A H0 H locs) (hA : ∀ q, H0.size ≤ q → A q) (hv : z_hv h) {n : Int32} {C : String} {idx a : Nat} (h1 : Cond.classLink own idx C ∈ Ts) (hAO : va_AO C s) {x : ClassId} (ha : 100 ≤ a) (hx2 : tys[a - 100]? = some (x, .object C)) (h0 : ¬ n < 0) (hbytes : n.toNatClampNeg * 8 ≤ 536870912) (hn : h.length < 1000000) (hcells : cells + 1 ≤ R.cells) (hslots : slots + n.toNatClampNeg ≤ R.slots) (hd : decode cc pc = .ok (.anewarray idx, 3))
    (k : ∀ (ad2 : Nat → Option Nat) (H1 : Heap), z_ext ad ad2 h.length → z_wd D cl tys A ad2 (h ++ [(a, List.replicate n.toNatClampNeg .null)]) H1 → va_S A H0 H1 locs → W p l e R s m args below meth c H1 locs (cells + 1) (slots + n.toNatClampNeg) Q (F0 m (pc + 3) ls (va_rf (ad2 h.length) :: rest))) : W p l e R s m args below meth c H locs cells slots Q (F0 m pc ls (.int n :: rest)) := by
  obtain ⟨ws, hP, hD, hr⟩ := hw
  refine va_newq hx hb hown (hts _ h1) hAO hK hP hD hS hA h0 rfl (by omega) hcells hslots hd (fun q cA H1 hK1 hP1 hD1 hS1 => ?_)
  have e1 : va_rf (z_ad1 ad h.length q h.length) = .ref q := by unfold z_ad1; rw [if_pos rfl]; rfl
  have e2 : cA = x := z_sameA (z_K2 hK1) (hK.2 _ _ hx2).2
  subst e2
  have k1 := k (z_ad1 ad h.length q) H1 (z_ad1_ext hn) ⟨_, hP1, hD1, z_rp_push hr hn hv (Or.inr ⟨ha, cA, .object C, _, hx2, rfl, List.replicate n.toNatClampNeg none, by dsimp only; rw [List.map_replicate]; rfl, by
    rw [List.length_replicate]
    have e9 : (fun j => ((List.replicate n.toNatClampNeg (none : Option Nat)).getD j none).bind (z_ad1 ad h.length q)) = fun _ => none := by
      funext j
      by_cases hj : j < n.toNatClampNeg <;> simp [List.getD_eq_getElem?_getD, List.getElem?_replicate, hj]
    rw [e9]⟩)⟩ hS1
  rw [e1] at k1
  exact k1
/-- a known cell has an address -/
theorem z_hg_ad (hst : z_stat scl tf S sf ss nw A ad0 s) (hx0 : z_ext ad0 ad 0) (hw : z_wd D cl tys A ad h H) {q : Nat} {c : zC} (e : z_hg S h q = some c) : ∃ a : Nat, ad q = some a := by
  rcases z_hg_cases e with ⟨hq, e1⟩ | ⟨hq, e1⟩
  · obtain ⟨ws, hP, hD, hr⟩ := hw
    obtain ⟨a, _, h1, -⟩ := hr.2 q _ e1
    exact ⟨a, h1⟩
  · obtain ⟨-, t, h1, -⟩ := hst.1 _ _ e1
    rw [show 1000000 + (q - 1000000) = q by omega] at h1
    exact ⟨t, (hx0 q (Or.inr hq)).trans h1⟩
/-- an object that a method is called of -/
theorem z_recv (hK : va_K D cl tys s) (hst : z_stat scl tf S sf ss nw A ad0 s) (hx0 : z_ext ad0 ad 0) (hw : z_wd D cl tys A ad h H) (hS : va_S A s.heap H locs) {q a : Nat} {vs : List Value} {r : vw_C} (e : z_hg S h q = some (a, vs)) (h100 : a < 100) (hc : (a < 50 ∧ cl[a]? = some r) ∨ (50 ≤ a ∧ scl[a - 50]? = some r)) : ∃ b : Nat, ad q = some b ∧ ∃ cell : Cell, H[b]? = some cell ∧ cell.vm.isStatics = false ∧ s.vm.findClass r.1 = some cell.cls := by
  rcases z_hg_cases e with ⟨hq, e1⟩ | ⟨hq, e1⟩
  · obtain ⟨ws, hP, hD, hr⟩ := hw
    obtain ⟨b, e2, h1, h2, h3⟩ := hr.2 q _ e1
    rcases h3 with ⟨h4, h5⟩ | ⟨h4, -⟩
    · dsimp only at h4 h5
      subst h5
      rcases hc with ⟨-, hc⟩ | ⟨hc, -⟩
      · exact ⟨b, h1, va_recv hK hP hc h2⟩
      · omega
    · dsimp only at h4; omega
  · obtain ⟨-, t, h1, h2⟩ := hst.1 _ _ e1
    rw [show 1000000 + (q - 1000000) = q by omega] at h1
    rcases h2 with ⟨h3, -⟩ | ⟨-, r', h4, h5, h6, -⟩
    · dsimp only at h3; omega
    · dsimp only at h4 h5
      rcases hc with ⟨hc, -⟩ | ⟨-, hc⟩
      · omega
      · have e3 : r' = r := Option.some.inj (h4.symm.trans hc)
        subst e3
        obtain ⟨cell, g1, g2, g3, -⟩ := h6.kept hS.2.1
        exact ⟨t, (hx0 q (Or.inr hq)).trans h1, cell, g1, g2, g3⟩
theorem z_ldcSW {own tx : String} {index q : Nat} (hx : p.tables.exec = Jvm.exec) (hb : c.code = cc) (hown : s.vm.findClass own = some m.cls) (hZ : vk_R own index tx q s) (hdg : decode cc pc = .ok (.ldc_w index, 3))
    (k : W p l e R s m args below meth c H locs cells slots Q (F0 m (pc + 3) ls (.ref q :: rest))) : W p l e R s m args below meth c H locs cells slots Q (F0 m pc ls rest) := by
  intro T hT X
  obtain ⟨t, a1, b1⟩ := k T hT X
  exact ⟨t, X.ldcStringW hx hown (text := tx) (a := q) hZ.1 hZ.2 (g := F0 m pc ls rest) rfl (by rw [hb]; exact hdg) t a1, b1⟩
end ZN
abbrev zHR : Type := Nat × List Value × zH × Nat × Nat
/-- the tables that the pure machine reads: cells that nobody writes, static fields, string constants, number constants, the fields' types, a new object's fields, the class that an array's elements have -/
abbrev zT : Type := List zC × List zF × List zS × List Value × (Nat → Nat → FieldType) × (Nat → List Value) × (Nat → Nat)
def z_ald (T : zT) (t0 pc : Nat) (st : List Value) (h : zH) : Option zHR := match st with
  | .int i :: .ref q :: r => (match z_hg T.1 h q with
    | some (t, vs) => if t = t0 ∧ ¬ i < 0 then (match vs[i.toNatClampNeg]? with | some v => some (pc + 1, v :: r, h, 0, 0) | none => none) else none
    | none => none)
  | _ => none
def z_mk (pc a N : Nat) (fs : List Value) (r : List Value) (h : zH) : Option zHR := if h.length < 1000000 then some (pc, .ref h.length :: r, h ++ [(a, fs)], 1, N) else none
def z_cs (st : List Value) : Nat := (st.map fun v => v.category).sum
def z_hp (T : zT) (i : Instr) (pc a b : Nat) (st : List Value) (h : zH) : Option zHR := match i with
  | .getfield _ => (match st with
    | .ref q :: r => (match z_hg T.1 h q with | some (t, vs) => if t = a then (match vs[b]? with | some v => some (pc + 3, v :: r, h, 0, 0) | none => none) else none | none => none)
    | _ => none)
  | .putfield _ => (match st with
    | v :: .ref q :: r => (match h[q]? with | some (t, vs) => if t = a ∧ b < vs.length ∧ z_fit (T.2.2.2.2.1 a b) v = true then some (pc + 3, r, h.set q (t, vs.set b v), 0, 0) else none | none => none)
    | _ => none)
  | .getstatic _ => (match T.2.1[b]? with | some f => some (pc + 3, f.2.2.2 :: st, h, 0, 0) | none => none)
  | .ldc _ => (match a with
    | 0 => (match T.2.2.2.1[b]? with | some v => some (pc + 2, v :: st, h, 0, 0) | none => none)
    | _ => (match T.2.2.1[b]? with | some f => some (pc + 2, .ref f.2.2.2 :: st, h, 0, 0) | none => none))
  | .ldc_w _ => (match T.2.2.1[b]? with | some f => some (pc + 3, .ref f.2.2.2 :: st, h, 0, 0) | none => none)
  | .ldc2_w _ => (match T.2.2.2.1[b]? with | some v => some (pc + 3, v :: st, h, 0, 0) | none => none)
  | .arraylength => (match st with
    | .ref q :: r => (match z_hg T.1 h q with | some (t, vs) => if 100 ≤ t then some (pc + 1, .int (Int32.ofNat vs.length) :: r, h, 0, 0) else none | none => none)
    | _ => none)
  | .iaload => z_ald T 100 pc st h
  | .baload => z_ald T 101 pc st h
  | .aaload => (match st with
    | .int i :: .ref q :: r => (match z_hg T.1 h q with
      | some (t, vs) => if 104 ≤ t ∧ ¬ i < 0 then (match vs[i.toNatClampNeg]? with | some v => some (pc + 1, v :: r, h, 0, 0) | none => none) else none
      | none => none)
    | _ => none)
  | .iastore => (match st with
    | .int x :: .int i :: .ref q :: r => (match h[q]? with | some (t, vs) => if t = 100 ∧ ¬ i < 0 ∧ i.toNatClampNeg < vs.length then some (pc + 1, r, h.set q (t, vs.set i.toNatClampNeg (.int x)), 0, 0) else none | none => none)
    | _ => none)
  | .bastore => (match st with
    | .int x :: .int i :: .ref q :: r => (match h[q]? with | some (t, vs) => if t = 101 ∧ ¬ i < 0 ∧ i.toNatClampNeg < vs.length then some (pc + 1, r, h.set q (t, vs.set i.toNatClampNeg (.int (vp_nar .byte x))), 0, 0) else none | none => none)
    | _ => none)
  | .aastore => (match st with
    | .null :: .int i :: .ref q :: r => (match h[q]? with | some (t, vs) => if 104 ≤ t ∧ ¬ i < 0 ∧ i.toNatClampNeg < vs.length then some (pc + 1, r, h.set q (t, vs.set i.toNatClampNeg .null), 0, 0) else none | none => none)
    | .ref w :: .int i :: .ref q :: r => (match h[q]?, h[w]? with | some (t, vs), some (tw, _) => if (104 ≤ t ∧ t < 106) ∧ ¬ i < 0 ∧ i.toNatClampNeg < vs.length ∧ tw = T.2.2.2.2.2.2 t then some (pc + 1, r, h.set q (t, vs.set i.toNatClampNeg (.ref w)), 0, 0) else none | _, _ => none)
    | _ => none)
  | .new _ => z_mk (pc + 3) a b (T.2.2.2.2.2.1 a) st h
  | .newarray t => (match st with
    | .int n :: r => if ¬ n < 0 ∧ n.toNatClampNeg * 8 ≤ 536870912 then (match t with
      | .int => z_mk (pc + 2) 100 n.toNatClampNeg (List.replicate n.toNatClampNeg (.int 0)) r h
      | .byte => z_mk (pc + 2) 101 n.toNatClampNeg (List.replicate n.toNatClampNeg (.int 0)) r h
      | _ => none) else none
    | _ => none)
  | .anewarray _ => (match st with
    | .int n :: r => if ¬ n < 0 ∧ n.toNatClampNeg * 8 ≤ 536870912 then z_mk (pc + 3) a n.toNatClampNeg (List.replicate n.toNatClampNeg .null) r h else none
    | _ => none)
  | .invokespecial _ => (match st with
    | .ref q :: r => (match z_hg T.1 h q with | some _ => if z_cs r ≤ 8 then some (pc + 3, r, h, 0, 0) else none | none => none)
    | _ => none)
  | .invokestatic _ => (match st with
    | .int y :: .int x :: r => if z_cs r ≤ 7 then some (pc + 3, .int (cond (Nat.beq a 9998) (if x < y then y else x) (if x < y then x else y)) :: r, h, 0, 0) else none
    | _ => none)
  | .ifnull _ => (match st with
    | .null :: r => some (a, r, h, 0, 0)
    | .ref q :: r => (match z_hg T.1 h q with | some _ => some (pc + 3, r, h, 0, 0) | none => none)
    | _ => none)
  | .ifnonnull _ => (match st with
    | .null :: r => some (pc + 3, r, h, 0, 0)
    | .ref q :: r => (match z_hg T.1 h q with | some _ => some (a, r, h, 0, 0) | none => none)
    | _ => none)
  | .if_acmp c0 _ => (match c0 with
    | .ne => (match st with
      | .ref y :: .ref x :: r => if 1000000 ≤ x ∧ x < 1000000 ∧ 1000000 ≤ y ∧ y < 1000000 then (if x = y then some (pc + 3, r, h, 0, 0) else some (a, r, h, 0, 0)) else none
      | _ => none)
    | _ => none)
  | _ => none
/-- what the tables must say of an instruction -/
def z_okh (cl scl : List vw_C) (tf : List FieldType) (nw : List Cond) (T : zT) (own nm : String) (Ts : List Cond) (i : Instr) (len pc a b : Nat) : Prop := match i with
  | .getfield idx => len = 3 ∧ a < 100 ∧ ∃ (C : String) (F : u_T) (N : Nat), ((a < 50 ∧ cl[a]? = some (C, F, N)) ∨ (50 ≤ a ∧ scl[a - 50]? = some (C, F, N))) ∧ b < N ∧ Cond.fieldLink own idx (F b).1 (F b).2.1 (F b).2.2.1 ∈ Ts
  | .putfield idx => len = 3 ∧ a < 50 ∧ ∃ (C : String) (F : u_T) (N : Nat), cl[a]? = some (C, F, N) ∧ b < N ∧ Cond.fieldLink own idx (F b).1 (F b).2.1 (F b).2.2.1 ∈ Ts ∧ ((F b).2.2.2 = false ∨ ((F b).2.2.2 = true ∧ nm = "<init>" ∧ (F b).1 = own))
  | .getstatic idx => len = 3 ∧ ∃ f : zF, T.2.1[b]? = some f ∧ Cond.fieldLink own idx f.1 f.2.1 f.2.2.1 ∈ Ts
  | .ldc idx => len = 2 ∧ ((a = 0 ∧ ∃ x : Int32, T.2.2.2.1[b]? = some (.int x) ∧ Jvm.Cond.constant own idx x ∈ Ts) ∨ (a = 1 ∧ ∃ f : zS, T.2.2.1[b]? = some f ∧ f.1 = own ∧ f.2.1 = idx))
  | .ldc_w idx => len = 3 ∧ ∃ f : zS, T.2.2.1[b]? = some f ∧ f.1 = own ∧ f.2.1 = idx
  | .ldc2_w idx => len = 3 ∧ ∃ x : Int64, T.2.2.2.1[b]? = some (.long x) ∧ Jvm.Cond.constantLong own idx x ∈ Ts
  | .arraylength => len = 1
  | .iaload => len = 1
  | .baload => len = 1
  | .aaload => len = 1
  | .iastore => len = 1
  | .bastore => len = 1
  | .aastore => len = 1
  | .new idx => len = 3 ∧ a < 50 ∧ ∃ (C : String) (F : u_T), cl[a]? = some (C, F, b) ∧ (∀ j, j < b → defaultValue (T.2.2.2.2.1 a j) = vp_V (T.2.2.2.2.2.1 a) j) ∧ (∀ v ∈ T.2.2.2.2.2.1 a, v = .null ∨ v = .int 0) ∧ Cond.classLink own idx C ∈ Ts ∧ Cond.instantiable C b ∈ Ts ∧ Cond.initialized C ∈ Ts
  | .newarray t => len = 2 ∧ Cond.arrayClass (newarray.typeOf t) ∈ Ts
  | .anewarray idx => len = 3 ∧ (104 ≤ a ∧ a < 106) ∧ ∃ C : String, tf[a - 100]? = some (.object C) ∧ Cond.classLink own idx C ∈ Ts ∧ Cond.arrayOver (.object C) ∈ nw
  | .invokespecial idx => len = 3 ∧ Cond.methodLink own idx objectInit ∈ Ts ∧ Cond.instanceMethod objectInit ∈ Ts ∧ Cond.code objectInit ⟨#[0xb1]⟩ 1 none ∈ Ts
  | .invokestatic idx => len = 3 ∧ ((a = 9998 ∧ Cond.methodLink own idx Lib.Math.max.name ∈ Ts ∧ Cond.static Lib.Math.max.name ∈ Ts ∧ Cond.initialized "java/lang/Math" ∈ Ts ∧ Cond.code Lib.Math.max.name Lib.Math.max.code 2 (some .int) ∈ Ts) ∨ (a = 9997 ∧ Cond.methodLink own idx Lib.Math.min.name ∈ Ts ∧ Cond.static Lib.Math.min.name ∈ Ts ∧ Cond.initialized "java/lang/Math" ∈ Ts ∧ Cond.code Lib.Math.min.name Lib.Math.min.code 2 (some .int) ∈ Ts))
  | .ifnull off => len = 3 ∧ (pc : Int) + off = (a : Int)
  | .ifnonnull off => len = 3 ∧ (pc : Int) + off = (a : Int)
  | .if_acmp _ off => len = 3 ∧ (pc : Int) + off = (a : Int)
  | _ => False
/-- what the tables must say of the classes -/
def z_okc (cl : List vw_C) (tf : List FieldType) (T : zT) (Ts : List Cond) : Prop :=
  (∀ (ci : Nat) (r : vw_C), cl[ci]? = some r → (∀ w ∈ u_ws r.1 r.2.1 r.2.2, w ∈ Ts) ∧ (∀ k, k < r.2.2 → parseFieldDescriptor (r.2.1 k).2.2.1 = some (T.2.2.2.2.1 ci k)) ∧ (∀ a, a < r.2.2 → ∀ b, b < r.2.2 → a ≠ b → (r.2.1 a).2.1 ≠ (r.2.1 b).2.1)) ∧
  (∀ t : Nat, 104 ≤ t → t < 106 → ∀ ty : FieldType, tf[t - 100]? = some ty → T.2.2.2.2.2.2 t < 50 ∧ ∃ r : vw_C, cl[T.2.2.2.2.2.2 t]? = some r ∧ ty = .object r.1)
section ZP
variable {p : Program} {l : Launch} {e : Env} {R : Room} {s : State} {m : MethodId} {args : Array Value} {below : List Frame} {meth : Method} {c : Code} {H : Heap} {locs : List Loc} {cells slots : Nat} {Q : State → Prop}
variable {cc : ByteArray} {pc : Nat} {ls : Array Slot}
variable {D : va_G} {cl scl : List vw_C} {tys : List (ClassId × FieldType)} {tf : List FieldType} {nw : List Cond} {A : Nat → Prop} {ad ad0 : Nat → Option Nat} {h : zH}

end ZP
end
section
/-! THE PURE MACHINE, V: one instruction of the heap is what the machine does. -/
theorem z_ald_inv {T : zT} {t0 pc pc2 dc ds : Nat} {st st2 : List Value} {h h2 : zH} (e : z_ald T t0 pc st h = some (pc2, st2, h2, dc, ds)) : ∃ (i : Int32) (q : Nat) (r vs : List Value) (v : Value), st = .int i :: .ref q :: r ∧ z_hg T.1 h q = some (t0, vs) ∧ ¬ i < 0 ∧ vs[i.toNatClampNeg]? = some v ∧ (pc + 1, v :: r, h, 0, 0) = (pc2, st2, h2, dc, ds) := by
  unfold z_ald at e
  split at e
  · rename_i i q r
    split at e
    · rename_i t vs e1
      split at e
      · rename_i e2
        split at e
        · rename_i v e3
          obtain ⟨e4, e5⟩ := e2
          subst e4
          exact ⟨i, q, r, vs, v, rfl, e1, e5, e3, Option.some.inj e⟩
        · cases e
      · cases e
    · cases e
  · cases e
theorem z_mk_inv {pc a N pc2 dc ds : Nat} {fs r st2 : List Value} {h h2 : zH} (e : z_mk pc a N fs r h = some (pc2, st2, h2, dc, ds)) : h.length < 1000000 ∧ (pc, Value.ref h.length :: r, h ++ [(a, fs)], 1, N) = (pc2, st2, h2, dc, ds) := by
  unfold z_mk at e
  split at e
  · rename_i e1
    exact ⟨e1, Option.some.inj e⟩
  · cases e
theorem z_cs_map (ad : Nat → Option Nat) (st : List Value) : ((st.map (z_cv ad)).map fun v => v.category).sum = z_cs st := by
  unfold z_cs
  rw [List.map_map]
  congr 1
  exact List.map_congr_left fun v _ => z_cv_cat ad v
section ZQ
variable {p : Program} {l : Launch} {e : Env} {R : Room} {s : State} {m : MethodId} {args : Array Value} {below : List Frame} {meth : Method} {c : Code} {H : Heap} {locs : List Loc} {cells slots : Nat} {Q : State → Prop}
variable {cc : ByteArray} {pc : Nat} {ls : Array Slot}
variable {D : va_G} {cl scl : List vw_C} {tys : List (ClassId × FieldType)} {tf : List FieldType} {nw : List Cond} {A : Nat → Prop} {ad ad0 : Nat → Option Nat} {h : zH}
theorem z_hgv {S : List zC} {sf : List zF} {ss : List zS} (hst : z_stat scl tf S sf ss nw A ad0 s) (hv : z_hv h) {q t : Nat} {vs : List Value} (e1 : z_hg S h q = some (t, vs)) : ∀ v ∈ vs, z_vk h.length v := by
  rcases z_hg_cases e1 with ⟨-, g⟩ | ⟨-, g⟩
  · exact z_hv_at hv g
  · exact fun v hv' => ((hst.1 _ _ g).1 v hv').le (Nat.zero_le _)
theorem z_setv {q t : Nat} {vs : List Value} {b : Nat} {v : Value} (hv : z_hv h) (e1 : h[q]? = some (t, vs)) (hx : z_vk h.length v) : z_hv (h.set q (t, vs.set b v)) :=
  z_hv_set hv fun u hu => by
    rcases List.mem_or_eq_of_mem_set hu with h1 | rfl
    · exact z_hv_at hv e1 u h1
    · exact hx
set_option maxHeartbeats 8000000 in
theorem z_hp_ok {T : zT} {own nm : String} {Ts : List Cond} {i : Instr} {len a b pc2 dc ds nL : Nat} {st st2 : List Value} {h2 : zH} (hh : z_hp T i pc a b st h = some (pc2, st2, h2, dc, ds)) (ho : z_okh cl scl tf nw T own nm Ts i len pc a b) (hc : z_okc cl tf T Ts) (htf : z_tf tf) (hty : ∀ (t : Nat) (x : ClassId × FieldType), tys[t]? = some x → tf[t]? = some x.2) (hty4 : ∀ t : Nat, t < 6 → ∀ ty : FieldType, tf[t]? = some ty → ∃ x : ClassId, tys[t]? = some (x, ty)) (hts : ∀ w ∈ Ts, w.before args s = true) (hown : s.vm.findClass own = some m.cls) (hx : p.tables.exec = Jvm.exec) (hb : c.code = cc) (hml : c.maxLocals = nL) (hlz : ls.size = nL) (hnm : nm = "<init>" → meth.name = "<init>") (hK : va_K D cl tys s) (hst : z_stat scl tf T.1 T.2.1 T.2.2.1 nw A ad0 s) (hx0 : z_ext ad0 ad 0) (hw : z_wd D cl tys A ad h H) (hS : va_S A s.heap H locs) (hA : ∀ q, s.heap.size ≤ q → A q) (hv : z_hv h) (hsv : ∀ v ∈ st, z_vk h.length v) (hR : 1 ≤ R.frames ∧ 20 ≤ R.locals) (hroom : cells + dc ≤ R.cells ∧ slots + ds ≤ R.slots) (hd : decode cc pc = .ok (i, len))
    (k : ∀ (ad2 : Nat → Option Nat) (H2 : Heap) (locs2 : List Loc), z_ext ad ad2 h.length → z_wd D cl tys A ad2 h2 H2 → va_S A s.heap H2 locs2 → z_hv h2 → h.length ≤ h2.length → (∀ v ∈ st2, z_vk h2.length v) → W p l e R s m args below meth c H2 locs2 (cells + dc) (slots + ds) Q (F0 m pc2 ls (st2.map (z_cv ad2)))) : W p l e R s m args below meth c H locs cells slots Q (F0 m pc ls (st.map (z_cv ad))) := by
  have hcons : ∀ {v : Value} {r : List Value}, z_vk h.length v → (∀ u ∈ r, z_vk h.length u) → ∀ u ∈ v :: r, z_vk h.length u := fun h1 h2 u hu => by
    rcases List.mem_cons.mp hu with rfl | hu
    · exact h1
    · exact h2 u hu
  cases i
  case getfield idx =>
    simp only [z_hp] at hh
    simp only [z_okh] at ho
    obtain ⟨rfl, h100, C, F, N, hcl, hbN, hlk⟩ := ho
    split at hh
    · rename_i q r
      split at hh
      · rename_i t vs e1
        split at hh
        · rename_i e2
          subst e2
          split at hh
          · rename_i v e3
            cases hh
            refine z_getf hts hown hx hb hK hst hx0 hw hS e1 h100 e3 hcl (fun h5 => ?_) hbN hlk hd (k ad H locs z_ext.rf hw hS hv (Nat.le_refl _) (hcons (z_hgv hst hv e1 v (List.mem_of_getElem? e3)) (fun u hu => hsv u (List.mem_cons_of_mem _ hu))))
            rcases hcl with ⟨-, hcl⟩ | ⟨h6, -⟩
            · exact (hc.1 _ _ hcl).1
            · omega
          · cases hh
        · cases hh
      · cases hh
    · cases hh
  case putfield idx =>
    simp only [z_hp] at hh
    simp only [z_okh] at ho
    obtain ⟨rfl, h50, C, F, N, hcl, hbN, hlk, hfin⟩ := ho
    split at hh
    · rename_i v q r
      split at hh
      · rename_i t vs e1
        split at hh
        · rename_i e2
          obtain ⟨e2, e3, e4⟩ := e2
          subst e2
          cases hh
          have hc1 := hc.1 _ _ hcl
          refine z_putf hts hown hx hb hK hw hS e1 h50 e3 hcl hc1.1 hc1.2.1 hc1.2.2 hbN hlk (hfin.imp id (fun z => ⟨z.1, hnm z.2.1, z.2.2⟩)) e4 hd (fun H1 locs1 hw1 hS1 => ?_)
          exact k ad H1 locs1 z_ext.rf hw1 hS1 (z_setv hv e1 (hsv v List.mem_cons_self)) (by rw [List.length_set]; exact Nat.le_refl _) (fun u hu => by rw [List.length_set]; exact hsv u (List.mem_cons_of_mem _ (List.mem_cons_of_mem _ hu)))
        · cases hh
      · cases hh
    · cases hh
  case getstatic idx =>
    simp only [z_hp] at hh
    simp only [z_okh] at ho
    obtain ⟨rfl, f, e1, hlk⟩ := ho
    rw [e1] at hh
    cases hh
    obtain ⟨g1, g2⟩ := hst.2.1 _ _ e1
    refine va_gets hx hb g2 hS hown (hts _ hlk) (fun _ z => z) hd ?_
    rw [← z_cv_ext hx0 g1]
    exact k ad H locs z_ext.rf hw hS hv (Nat.le_refl _) (hcons (g1.le (Nat.zero_le _)) hsv)
  case ldc idx =>
    simp only [z_okh] at ho
    obtain ⟨rfl, ho⟩ := ho
    rcases ho with ⟨rfl, x, e1, hlk⟩ | ⟨rfl, f, e1, e2, e3⟩
    · simp only [z_hp, e1] at hh
      cases hh
      exact lv_ldc hx hb hown (hts _ hlk) hd (k ad H locs z_ext.rf hw hS hv (Nat.le_refl _) (hcons trivial hsv))
    · simp only [z_hp, e1] at hh
      cases hh
      obtain ⟨g1, t, g2, g3⟩ := hst.2.2.1 _ _ e1
      rw [e2, e3] at g3
      have k1 := k ad H locs z_ext.rf hw hS hv (Nat.le_refl _) (hcons (Or.inr g1) hsv)
      change W p l e R s m args below meth c H locs cells slots Q (F0 m (pc + 2) ls (va_rf (ad f.2.2.2) :: _)) at k1
      rw [hx0 _ (Or.inr g1), g2] at k1
      exact va_ldcS hx hb hown g3 hd k1
  case ldc_w idx =>
    simp only [z_okh] at ho
    obtain ⟨rfl, f, e1, e2, e3⟩ := ho
    simp only [z_hp, e1] at hh
    cases hh
    obtain ⟨g1, t, g2, g3⟩ := hst.2.2.1 _ _ e1
    rw [e2, e3] at g3
    have k1 := k ad H locs z_ext.rf hw hS hv (Nat.le_refl _) (hcons (Or.inr g1) hsv)
    change W p l e R s m args below meth c H locs cells slots Q (F0 m (pc + 3) ls (va_rf (ad f.2.2.2) :: _)) at k1
    rw [hx0 _ (Or.inr g1), g2] at k1
    exact z_ldcSW hx hb hown g3 hd k1
  case ldc2_w idx =>
    simp only [z_okh] at ho
    obtain ⟨rfl, x, e1, hlk⟩ := ho
    simp only [z_hp, e1] at hh
    cases hh
    exact lv_ldc2 hx hb hown (hts _ hlk) hd (k ad H locs z_ext.rf hw hS hv (Nat.le_refl _) (hcons trivial hsv))
  case arraylength =>
    simp only [z_hp] at hh
    simp only [z_okh] at ho
    subst ho
    split at hh
    · rename_i q r
      split at hh
      · rename_i t vs e1
        split at hh
        · rename_i e2
          cases hh
          exact z_alen hty hx hb hK hst hx0 hw hS e1 e2 hd (k ad H locs z_ext.rf hw hS hv (Nat.le_refl _) (hcons trivial (fun u hu => hsv u (List.mem_cons_of_mem _ hu))))
        · cases hh
      · cases hh
    · cases hh
  case iaload =>
    simp only [z_hp] at hh
    simp only [z_okh] at ho
    subst ho
    obtain ⟨i, q, r, vs, v, rfl, e1, e2, e3, e4⟩ := z_ald_inv hh
    cases e4
    exact z_iaload htf hty hx hb hK hst hx0 hw hS e1 e2 e3 hd (k ad H locs z_ext.rf hw hS hv (Nat.le_refl _) (hcons (z_hgv hst hv e1 v (List.mem_of_getElem? e3)) (fun u hu => hsv u (List.mem_cons_of_mem _ (List.mem_cons_of_mem _ hu)))))
  case baload =>
    simp only [z_hp] at hh
    simp only [z_okh] at ho
    subst ho
    obtain ⟨i, q, r, vs, v, rfl, e1, e2, e3, e4⟩ := z_ald_inv hh
    cases e4
    exact z_baload htf hty hx hb hK hst hx0 hw hS e1 e2 e3 hd (k ad H locs z_ext.rf hw hS hv (Nat.le_refl _) (hcons (z_hgv hst hv e1 v (List.mem_of_getElem? e3)) (fun u hu => hsv u (List.mem_cons_of_mem _ (List.mem_cons_of_mem _ hu)))))
  case aaload =>
    simp only [z_hp] at hh
    simp only [z_okh] at ho
    subst ho
    split at hh
    · rename_i i q r
      split at hh
      · rename_i t vs e1
        split at hh
        · rename_i e2
          split at hh
          · rename_i v e3
            cases hh
            exact z_aaload htf hty hx hb hK hst hx0 hw hS e1 e2.1 e2.2 e3 hd (k ad H locs z_ext.rf hw hS hv (Nat.le_refl _) (hcons (z_hgv hst hv e1 v (List.mem_of_getElem? e3)) (fun u hu => hsv u (List.mem_cons_of_mem _ (List.mem_cons_of_mem _ hu)))))
          · cases hh
        · cases hh
      · cases hh
    · cases hh
  case iastore =>
    simp only [z_hp] at hh
    simp only [z_okh] at ho
    subst ho
    split at hh
    · rename_i x i q r
      split at hh
      · rename_i t vs e1
        split at hh
        · rename_i e2
          obtain ⟨e2, e3, e4⟩ := e2
          subst e2
          cases hh
          refine z_iastore htf hty hx hb hK hw hS e1 e3 e4 hd (fun H1 locs1 hw1 hS1 => ?_)
          exact k ad H1 locs1 z_ext.rf hw1 hS1 (z_setv hv e1 trivial) (by rw [List.length_set]; exact Nat.le_refl _) (fun u hu => by rw [List.length_set]; exact hsv u (List.mem_cons_of_mem _ (List.mem_cons_of_mem _ (List.mem_cons_of_mem _ hu))))
        · cases hh
      · cases hh
    · cases hh
  case bastore =>
    simp only [z_hp] at hh
    simp only [z_okh] at ho
    subst ho
    split at hh
    · rename_i x i q r
      split at hh
      · rename_i t vs e1
        split at hh
        · rename_i e2
          obtain ⟨e2, e3, e4⟩ := e2
          subst e2
          cases hh
          refine z_bastore htf hty hx hb hK hw hS e1 e3 e4 hd (fun H1 locs1 hw1 hS1 => ?_)
          exact k ad H1 locs1 z_ext.rf hw1 hS1 (z_setv hv e1 trivial) (by rw [List.length_set]; exact Nat.le_refl _) (fun u hu => by rw [List.length_set]; exact hsv u (List.mem_cons_of_mem _ (List.mem_cons_of_mem _ (List.mem_cons_of_mem _ hu))))
        · cases hh
      · cases hh
    · cases hh
  case aastore =>
    simp only [z_hp] at hh
    simp only [z_okh] at ho
    subst ho
    split at hh
    · rename_i i q r
      split at hh
      · rename_i t vs e1
        split at hh
        · rename_i e2
          cases hh
          refine z_aastoreN htf hty hx hb hK hw hS e1 e2.1 e2.2.1 e2.2.2 hd (fun H1 locs1 hw1 hS1 => ?_)
          exact k ad H1 locs1 z_ext.rf hw1 hS1 (z_setv hv e1 trivial) (by rw [List.length_set]; exact Nat.le_refl _) (fun u hu => by rw [List.length_set]; exact hsv u (List.mem_cons_of_mem _ (List.mem_cons_of_mem _ (List.mem_cons_of_mem _ hu))))
        · cases hh
      · cases hh
    · rename_i w0 i q r
      split at hh
      · rename_i t vs tw vw e1 e5
        split at hh
        · rename_i e2
          obtain ⟨⟨e2, e2'⟩, e3, e4, e6⟩ := e2
          cases hh
          obtain ⟨ws9, -, -, hr9⟩ := id hw
          obtain ⟨q9, cA9, ty9, x9, g1, g2, g3, g4, g5⟩ := z_dyn hr9 e1 (show 100 ≤ t by omega) hty
          dsimp only at g3 g4
          obtain ⟨h50, r9, g6, g7⟩ := hc.2 t e2 e2' ty9 g4
          rw [← e6] at h50 g6
          subst g7
          refine z_aastore htf hty hx hb hK hw hS e1 e2 e3 e4 e5 h50 g6 g4 hd (fun H1 locs1 hw1 hS1 => ?_)
          exact k ad H1 locs1 z_ext.rf hw1 hS1 (z_setv hv e1 (hsv _ List.mem_cons_self)) (by rw [List.length_set]; exact Nat.le_refl _) (fun u hu => by rw [List.length_set]; exact hsv u (List.mem_cons_of_mem _ (List.mem_cons_of_mem _ (List.mem_cons_of_mem _ hu))))
        · cases hh
      · cases hh
    · cases hh
  case new idx =>
    simp only [z_hp] at hh
    simp only [z_okh] at ho
    obtain ⟨rfl, h50, C, F, hcl, hdf, hnr, h1, h2', h3⟩ := ho
    obtain ⟨hn, e1⟩ := z_mk_inv hh
    cases e1
    have hc1 := hc.1 _ _ hcl
    refine z_new hts hown hx hb hK hw hS hA hv h50 hcl hc1.1 hc1.2.1 hdf (fun v hv' f => by rcases hnr v hv' with rfl | rfl <;> rfl) h1 h2' h3 hn hroom.1 hroom.2 hd (fun ad2 H1 hx1 hw1 hS1 => ?_)
    have k1 := k ad2 H1 locs hx1 hw1 hS1 (z_hv_push hv (fun v hv' => by rcases hnr v hv' with rfl | rfl <;> trivial)) (by simp) (fun u hu => by
      rcases List.mem_cons.mp hu with rfl | hu
      · exact Or.inl (by simp)
      · exact (hsv u hu).le (by simp))
    rw [List.map_cons, z_map_ext hx1 hsv] at k1
    exact k1
  case newarray t =>
    simp only [z_hp] at hh
    simp only [z_okh] at ho
    obtain ⟨rfl, h1⟩ := ho
    split at hh
    · rename_i n r
      split at hh
      · rename_i e1
        have hr : ∀ v ∈ r, z_vk h.length v := fun u hu => hsv u (List.mem_cons_of_mem _ hu)
        split at hh
        · obtain ⟨hn, e2⟩ := z_mk_inv hh
          cases e2
          obtain ⟨x, hx2⟩ := hty4 0 (by decide) .int htf.1
          refine z_newa_int hts hx hb hK hw hS hA hv h1 hx2 e1.1 e1.2 hn hroom.1 hroom.2 hd (fun ad2 H1 hx1 hw1 hS1 => ?_)
          have k1 := k ad2 H1 locs hx1 hw1 hS1 (z_hv_push hv (fun v hv' => by rw [List.eq_of_mem_replicate hv']; trivial)) (by simp) (fun u hu => by
            rcases List.mem_cons.mp hu with rfl | hu
            · exact Or.inl (by simp)
            · exact (hr u hu).le (by simp))
          rw [List.map_cons, z_map_ext hx1 hr] at k1
          exact k1
        · obtain ⟨hn, e2⟩ := z_mk_inv hh
          cases e2
          obtain ⟨x, hx2⟩ := hty4 1 (by decide) .byte htf.2.1
          refine z_newa_byte hts hx hb hK hw hS hA hv h1 hx2 e1.1 e1.2 hn hroom.1 hroom.2 hd (fun ad2 H1 hx1 hw1 hS1 => ?_)
          have k1 := k ad2 H1 locs hx1 hw1 hS1 (z_hv_push hv (fun v hv' => by rw [List.eq_of_mem_replicate hv']; trivial)) (by simp) (fun u hu => by
            rcases List.mem_cons.mp hu with rfl | hu
            · exact Or.inl (by simp)
            · exact (hr u hu).le (by simp))
          rw [List.map_cons, z_map_ext hx1 hr] at k1
          exact k1
        · cases hh
      · cases hh
    · cases hh
  case anewarray idx =>
    simp only [z_hp] at hh
    simp only [z_okh] at ho
    obtain ⟨rfl, ⟨h104, h106⟩, C, htC, h1, hAO⟩ := ho
    split at hh
    · rename_i n r
      split at hh
      · rename_i e1
        have hr : ∀ v ∈ r, z_vk h.length v := fun u hu => hsv u (List.mem_cons_of_mem _ hu)
        obtain ⟨hn, e2⟩ := z_mk_inv hh
        cases e2
        obtain ⟨x, hx2⟩ := hty4 (a - 100) (by omega) _ htC
        refine z_newq hts hown hx hb hK hw hS hA hv h1 (hst.2.2.2.2.2 _ hAO) (by omega) hx2 e1.1 e1.2 hn hroom.1 hroom.2 hd (fun ad2 H1 hx1 hw1 hS1 => ?_)
        have k1 := k ad2 H1 locs hx1 hw1 hS1 (z_hv_push hv (fun v hv' => by rw [List.eq_of_mem_replicate hv']; trivial)) (by simp) (fun u hu => by
          rcases List.mem_cons.mp hu with rfl | hu
          · exact Or.inl (by simp)
          · exact (hr u hu).le (by simp))
        rw [List.map_cons, z_map_ext hx1 hr] at k1
        exact k1
      · cases hh
    · cases hh
  case invokespecial idx =>
    simp only [z_hp] at hh
    simp only [z_okh] at ho
    obtain ⟨rfl, h1, h2', h3⟩ := ho
    split at hh
    · rename_i q r
      split at hh
      · rename_i c9 e1
        split at hh
        · rename_i e2
          have e3 := z_cs_map ad r
          cases hh
          obtain ⟨a9, g1⟩ := z_hg_ad hst hx0 hw e1
          have k1 := k ad H locs z_ext.rf hw hS hv (Nat.le_refl _) (fun u hu => hsv u (List.mem_cons_of_mem _ hu))
          rw [List.map_cons, show z_cv ad (.ref q) = .ref a9 from congrArg va_rf g1]
          refine W.objInit hx hb hown (hts _ h1) (hts _ h2') (hts _ h3) rfl (by rw [hml]; exact hlz) rfl hd hR.1 ?_ k1
          show 2 * 0 + _ + 12 ≤ _
          omega
        · cases hh
      · cases hh
    · cases hh
  case invokestatic idx =>
    simp only [z_hp] at hh
    simp only [z_okh] at ho
    obtain ⟨rfl, ho⟩ := ho
    split at hh
    · rename_i y x r
      split at hh
      · rename_i e2
        have e3 := z_cs_map ad r
        cases hh
        have k1 := k ad H locs z_ext.rf hw hS hv (Nat.le_refl _) (fun u hu => by
          rcases List.mem_cons.mp hu with rfl | hu
          · trivial
          · exact hsv u (List.mem_cons_of_mem _ (List.mem_cons_of_mem _ hu)))
        rcases ho with ⟨rfl, h1, h2', h3, h4⟩ | ⟨rfl, h1, h2', h3, h4⟩
        · exact va_mmax hx hb (hml.trans hlz.symm) hown (hts _ h1) (hts _ h2') (hts _ h3) (hts _ h4) hR.1 (by rw [e3]; omega) (by omega) (by omega) hd k1
        · exact va_mmin hx hb (hml.trans hlz.symm) hown (hts _ h1) (hts _ h2') (hts _ h3) (hts _ h4) hR.1 (by rw [e3]; omega) (by omega) (by omega) hd k1
      · cases hh
    · cases hh
  case ifnull off =>
    simp only [z_hp] at hh
    simp only [z_okh] at ho
    obtain ⟨rfl, h1⟩ := ho
    split at hh
    · cases hh
      exact lv_ifnullN hx hb hd h1 (k ad H locs z_ext.rf hw hS hv (Nat.le_refl _) (fun u hu => hsv u (List.mem_cons_of_mem _ hu)))
    · rename_i q r
      split at hh
      · rename_i c9 e1
        cases hh
        obtain ⟨a9, g1⟩ := z_hg_ad hst hx0 hw e1
        rw [List.map_cons, show z_cv ad (.ref q) = .ref a9 from congrArg va_rf g1]
        exact lv_ifnull hx hb hd (k ad H locs z_ext.rf hw hS hv (Nat.le_refl _) (fun u hu => hsv u (List.mem_cons_of_mem _ hu)))
      · cases hh
    · cases hh
  case ifnonnull off =>
    simp only [z_hp] at hh
    simp only [z_okh] at ho
    obtain ⟨rfl, h1⟩ := ho
    split at hh
    · cases hh
      exact lv_ifnonnullN hx hb hd (k ad H locs z_ext.rf hw hS hv (Nat.le_refl _) (fun u hu => hsv u (List.mem_cons_of_mem _ hu)))
    · rename_i q r
      split at hh
      · rename_i c9 e1
        cases hh
        obtain ⟨a9, g1⟩ := z_hg_ad hst hx0 hw e1
        rw [List.map_cons, show z_cv ad (.ref q) = .ref a9 from congrArg va_rf g1]
        exact lv_ifnonnull hx hb hd h1 (k ad H locs z_ext.rf hw hS hv (Nat.le_refl _) (fun u hu => hsv u (List.mem_cons_of_mem _ hu)))
      · cases hh
    · cases hh
  case if_acmp c0 off =>
    simp only [z_hp] at hh
    simp only [z_okh] at ho
    obtain ⟨rfl, h1⟩ := ho
    split at hh
    · split at hh
      · rename_i y x r
        have hr : ∀ v ∈ r, z_vk h.length v := fun u hu => hsv u (List.mem_cons_of_mem _ (List.mem_cons_of_mem _ hu))
        split at hh
        · rename_i e1
          obtain ⟨e1, e2, e3, e4⟩ := e1
          refine lv_acmp_ne (rx := ad x) (ry := ad y) hx hb hd h1 (fun z => ?_) (fun z => ?_)
          · split at hh
            · rename_i e5
              exact absurd (by rw [e5]) z
            · cases hh
              exact k ad H locs z_ext.rf hw hS hv (Nat.le_refl _) hr
          · split at hh
            · cases hh
              exact k ad H locs z_ext.rf hw hS hv (Nat.le_refl _) hr
            · rename_i e5
              rw [hx0 _ (Or.inr e1), hx0 _ (Or.inr e3)] at z
              exact absurd (hst.2.2.2.1 x y e1 e2 e3 e4 z) e5
        · cases hh
      · cases hh
    · cases hh
  all_goals (simp [z_hp] at hh)
end ZQ
end
section
/-! THE PURE MACHINE, VI: methods, calls, throws. f: fuel; d: how deep calls may go; y: the method; cs, ss: cells and slots made so far by this call. -/
abbrev zE : Type := Nat × Instr × Nat × Nat × Nat
abbrev zX : Type := (Nat × Nat × Nat × Nat) × Nat × Int32
/-- the methods: code, locals, handlers (row, exception, the handler's answer), the receiver's tag, what is returned; which exceptions pass which handlers -/
abbrev zP : Type := (Nat → List zE) × (Nat → Nat) × (Nat → List zX) × (Nat → Nat) × (Nat → Option FieldType) × List (Nat × Nat)
abbrev zO : Type := (Option Value ⊕ Nat) × zH × Nat × Nat
def z_at : List zE → Nat → Option (Instr × Nat × Nat × Nat)
  | [], _ => none
  | q :: l, pc => cond (Nat.beq q.1 pc) (some q.2) (z_at l pc)
theorem z_at_in {l : List zE} {pc : Nat} {r : Instr × Nat × Nat × Nat} (h : z_at l pc = some r) : (pc, r) ∈ l := by
  induction l with
  | nil => cases h
  | cons q l ih =>
    rw [z_at] at h
    cases e : Nat.beq q.1 pc with
    | true =>
      rw [e] at h
      obtain ⟨a, b⟩ := q
      have e1 : a = pc := Nat.eq_of_beq_eq_true e
      cases h
      subst e1
      exact List.mem_cons_self
    | false =>
      rw [e] at h
      exact List.mem_cons_of_mem _ (ih h)
/-- 0: local; 1: the heap; 2: a call with a receiver; 3: a static call; 4: an answer; 5: return; 6: new E(text), thrown; 7: a constructor, or an inherited method (b is 1000 and more): no throw comes out of it -/
def z_kind (i : Instr) (a b : Nat) : Nat := match i with
  | .invokevirtual _ => cond (Nat.ble 1000 b) 7 2
  | .invokestatic _ => cond (Nat.ble 9997 a) 1 3
  | .invokespecial _ => cond (Nat.beq a 9999) 1 7
  | .ireturn => 4
  | .lreturn => 4
  | .freturn => 4
  | .dreturn => 4
  | .areturn => 4
  | .return_ => 5
  | .new _ => cond (Nat.ble 1000 b) 6 1
  | .getfield _ => 1
  | .putfield _ => 1
  | .getstatic _ => 1
  | .ldc _ => 1
  | .ldc_w _ => 1
  | .ldc2_w _ => 1
  | .arraylength => 1
  | .iaload => 1
  | .baload => 1
  | .caload => 1
  | .laload => 1
  | .aaload => 1
  | .iastore => 1
  | .bastore => 1
  | .castore => 1
  | .lastore => 1
  | .aastore => 1
  | .newarray _ => 1
  | .anewarray _ => 1
  | .ifnull _ => 1
  | .ifnonnull _ => 1
  | .if_acmp _ _ => 1
  | _ => 0
/-- how many values a call takes off the stack -/
def z_nn (k b : Nat) : Nat := b % 1000 + cond (Nat.beq k 3) 0 1
def z_rcv (T : zT) (h : zH) (st : List Value) (t : Nat) : Bool := match st with
  | .ref q :: _ => (match z_hg T.1 h q with | some c => Nat.beq c.1 t | none => false)
  | _ => false
def z_rok (i : Instr) (rt : Option FieldType) (v : Value) : Bool := match i, rt, v with
  | .ireturn, some .int, .int _ => true
  | .ireturn, some .boolean, .int x => decide (x = 0) || decide (x = 1)
  | .ireturn, some .byte, .int x => decide (x.toInt8.toInt32 = x)
  | .ireturn, some .char, .int x => decide (x.toUInt32.toUInt16.toUInt32.toInt32 = x)
  | .lreturn, some .long, .long _ => true
  | .freturn, some .float, .float _ => true
  | .dreturn, some .double, .double _ => true
  | .areturn, some (.object _), .ref _ => true
  | .areturn, some (.object _), .null => true
  | .areturn, some (.array _), .ref _ => true
  | _, _, _ => false
def z_catch (nc : List (Nat × Nat)) : List zX → Nat → Nat → Option zX
  | [], _, _ => none
  | x :: l, pc, e => if x.1.1 ≤ pc ∧ pc < x.1.2.1 then (if x.2.1 = e then some x else if (e, x.2.1) ∈ nc then z_catch nc l pc e else none) else z_catch nc l pc e
def z_run (T : zT) (P : zP) : Nat → Nat → Nat → Nat → List (Nat × Value) → List Value → zH → Nat → Nat → Option zO
  | 0, _, _, _, _, _, _, _, _ => none
  | f + 1, d, y, pc, lv, st, h, cs, ss =>
    match z_at (P.1 y) pc with
    | none => none
    | some (i, _, a, b) =>
      match z_kind i a b with
      | 0 => (match z_loc i pc a (P.2.1 y) lv st with
        | some (pc2, lv2, st2) => z_run T P f d y pc2 lv2 st2 h cs ss
        | none => none)
      | 1 => (match z_hp T i pc a b st h with
        | some (pc2, st2, h2, dc, ds) => z_run T P f d y pc2 lv st2 h2 (cs + dc) (ss + ds)
        | none => none)
      | 4 => (match st with
        | v :: r => if r = [] ∧ z_rok i (P.2.2.2.2.1 y) v = true then some (.inl (some v), h, cs, ss) else none
        | _ => none)
      | 5 => if st = [] ∧ P.2.2.2.2.1 y = none then some (.inl none, h, cs, ss) else none
      | 6 => if z_cs st ≤ 8 ∧ P.2.2.1 y = [] then some (.inr a, h, cs + 1, ss + 6) else none
      | k => (match d with
        | 0 => none
        | d + 1 =>
          if z_nn k b ≤ st.length ∧ z_cs (st.drop (z_nn k b)) ≤ 8 ∧ z_cs (st.take (z_nn k b)) ≤ P.2.1 a ∧ (k ≠ 3 → z_rcv T h (st.take (z_nn k b)).reverse (P.2.2.2.1 a) = true) then
            (match z_run T P f d a 0 (lv_args 0 (st.take (z_nn k b)).reverse) [] h 0 0 with
            | none => none
            | some (.inl o, h2, dc, ds) => z_run T P f (d + 1) y (pc + 3) lv (o.toList ++ st.drop (z_nn k b)) h2 (cs + dc) (ss + ds)
            | some (.inr e, h2, dc, ds) => if k = 7 then none else (match P.2.2.1 y with
              | [] => some (.inr e, h2, cs + dc, ss + ds)
              | x :: l => (match z_catch P.2.2.2.2.2 (x :: l) pc e with
                | some w => some (.inl (some (.int w.2.2)), h2, cs + dc, ss + ds)
                | none => none)))
          else none)
/-- what has been made is never less -/
theorem z_run_mono (T : zT) (P : zP) : ∀ (f d y pc : Nat) (lv : List (Nat × Value)) (st : List Value) (h : zH) (cs ss : Nat) (o : Option Value ⊕ Nat) (h2 : zH) (c2 s2 : Nat), z_run T P f d y pc lv st h cs ss = some (o, h2, c2, s2) → cs ≤ c2 ∧ ss ≤ s2 := by
  intro f
  induction f with
  | zero => intro d y pc lv st h cs ss o h2 c2 s2 e; cases e
  | succ f ih =>
    intro d y pc lv st h cs ss o h2 c2 s2 e
    rw [z_run] at e
    split at e
    · cases e
    · rename_i i len a b e1
      split at e
      · split at e
        · exact ih _ _ _ _ _ _ _ _ _ _ _ _ e
        · cases e
      · split at e
        · have := ih _ _ _ _ _ _ _ _ _ _ _ _ e
          exact ⟨by omega, by omega⟩
        · cases e
      · split at e
        · split at e
          · cases e; exact ⟨Nat.le_refl _, Nat.le_refl _⟩
          · cases e
        · cases e
      · split at e
        · cases e; exact ⟨Nat.le_refl _, Nat.le_refl _⟩
        · cases e
      · split at e
        · cases e; exact ⟨by omega, by omega⟩
        · cases e
      · split at e
        · cases e
        · split at e
          · split at e
            · cases e
            · have := ih _ _ _ _ _ _ _ _ _ _ _ _ e
              exact ⟨by omega, by omega⟩
            · split at e
              · cases e
              · split at e
                · cases e; exact ⟨by omega, by omega⟩
                · split at e
                  · cases e; exact ⟨by omega, by omega⟩
                  · cases e
          · cases e
end
section
/-! THE PURE MACHINE, VII: references stay valid; what nobody changes holds for every later state; the frame of a method. -/
theorem z_c {n : Nat} {v : Value} {r : List Value} (h1 : z_vk n v) (h2 : ∀ u ∈ r, z_vk n u) : ∀ u ∈ v :: r, z_vk n u := fun u hu => by
  rcases List.mem_cons.mp hu with rfl | hu
  · exact h1
  · exact h2 u hu
theorem z_t {n : Nat} {v : Value} {r : List Value} (h : ∀ u ∈ v :: r, z_vk n u) : ∀ u ∈ r, z_vk n u := fun u hu => h u (List.mem_cons_of_mem _ hu)
theorem z_hd {n : Nat} {v : Value} {r : List Value} (h : ∀ u ∈ v :: r, z_vk n u) : z_vk n v := h v List.mem_cons_self
set_option maxHeartbeats 4000000 in
theorem z_loc_v {i : Instr} {pc a nL pc2 n : Nat} {lv lv2 : List (Nat × Value)} {st st2 : List Value} (h : z_loc i pc a nL lv st = some (pc2, lv2, st2)) (hl : ∀ q ∈ lv, z_vk n q.2) (hs : ∀ v ∈ st, z_vk n v) : (∀ q ∈ lv2, z_vk n q.2) ∧ ∀ v ∈ st2, z_vk n v := by
  cases i <;> simp only [z_loc] at h <;> (repeat' split at h) <;> first
    | (exfalso; cases h; done)
    | (cases h; first
      | exact ⟨hl, hs⟩
      | exact ⟨hl, z_c trivial hs⟩
      | exact ⟨hl, z_t hs⟩
      | exact ⟨hl, z_t (z_t hs)⟩
      | exact ⟨hl, z_c trivial (z_t hs)⟩
      | exact ⟨hl, z_c trivial (z_t (z_t hs))⟩
      | exact ⟨hl, z_c (hl _ (z_get_in (by assumption))) hs⟩
      | exact ⟨z_st1_in trivial hl, hs⟩
      | exact ⟨z_st1_in (z_hd hs) hl, z_t hs⟩
      | exact ⟨z_st2_in (z_hd hs) hl, z_t hs⟩
      | exact ⟨hl, z_c (z_hd hs) hs⟩
      | exact ⟨hl, z_c (z_hd hs) (z_c (z_hd (z_t hs)) hs)⟩)
/-- the words that hold at every later state, though they are not of the good ones -/
def z_nwk (w : Cond) : Prop := match w with
  | .methodLinkNest _ _ _ _ => True
  | .arrayOver (.object _) => True
  | .castable _ _ => True
  | .declares _ => True
  | _ => False
theorem z_nw_moved {w : Cond} (hk : z_nwk w) {u U : State} (hW : u.WarmedH U.vm) (h : va_Nw w u) : va_Nw w U := by
  unfold z_nwk at hk
  split at hk
  · exact va_Nw.warmM hW h
  · exact va_AO.moved hW.alike h
  · exact va_Nw.warmC hW h
  · rename_i x
    have h1 : (Cond.declares x).before #[] (u.setVm U.vm) = true := Cond.before_shiftedFace (State.Shifted.of_warmed hW) _ rfl h
    exact va_tabs (c := Cond.declares x) rfl (u := u.setVm U.vm) (U := U) rfl h1
  · exact hk.elim
theorem z_stat_moved {scl : List vw_C} {tf : List FieldType} {S : List zC} {sf : List zF} {ss : List zS} {nw : List Cond} {A : Nat → Prop} {ad : Nat → Option Nat} {u U : State} (hnw : ∀ w ∈ nw, z_nwk w) (hW : u.WarmedH U.vm) (hq : ∀ a : Nat, a < u.heap.size → ¬ A a → U.heap[a]? = u.heap[a]?) (h : z_stat scl tf S sf ss nw A ad u) : z_stat scl tf S sf ss nw A ad U := by
  obtain ⟨h1, h2, h3, h4, h5, h6⟩ := h
  refine ⟨fun j c e => ?_, fun j q e => ?_, fun j q e => ?_, h4, ⟨vx_Zq.moved hW.alike (vx_Zq.kept h5.1 hq), vx_Zq.moved hW.alike (vx_Zq.kept h5.2 hq)⟩, fun w hw => z_nw_moved (hnw w hw) hW (h6 w hw)⟩
  · obtain ⟨g1, t, g2, g3⟩ := h1 j c e
    refine ⟨g1, t, g2, ?_⟩
    rcases g3 with ⟨g4, ty, g5, g6⟩ | ⟨g4, r, g5, g6, g7, g8⟩
    · exact Or.inl ⟨g4, ty, g5, va_T.moved hW.alike (va_T.kept g6 hq)⟩
    · exact Or.inr ⟨g4, r, g5, g6, va_O.moved hW.alike (va_O.kept g7 hq), fun k v hv => va_OF.moved hW.alike (va_OF.kept (g8 k v hv) hq)⟩
  · obtain ⟨g1, g2⟩ := h2 j q e
    exact ⟨g1, va_Z.moved hW.alike (va_Z.kept g2 hq)⟩
  · obtain ⟨g1, t, g2, g3⟩ := h3 j q e
    exact ⟨g1, t, g2, vk_R.warm hW g3⟩
/-- the names behind the numbers: methods, their bytes, exceptions; the words; classes of objects, of objects that nobody writes; the arrays' types -/
abbrev zM : Type := (Nat → MethodName) × (Nat → ByteArray) × (Nat → String) × List Cond × List Cond × List vw_C × List vw_C × List FieldType
def z_head (P : zP) (M : zM) (y : Nat) : Cond := match P.2.2.1 y with
  | [] => .code (M.1 y) (M.2.1 y) (P.2.1 y) (P.2.2.2.2.1 y)
  | x :: l => .codeWith (M.1 y) (M.2.1 y) (P.2.1 y) (P.2.2.2.2.1 y) ((x :: l).map (·.1))
/-- what holds at every state of a run -/
def z_fx (T : zT) (P : zP) (M : zM) (D : va_G) (tys : List (ClassId × FieldType)) (A : Nat → Prop) (ad0 : Nat → Option Nat) (s : State) : Prop :=
  (∀ q : Nat, s.heap.size ≤ q → A q) ∧ va_K D M.2.2.2.2.2.1 tys s ∧ z_stat M.2.2.2.2.2.2.1 M.2.2.2.2.2.2.2 T.1 T.2.1 T.2.2.1 M.2.2.2.2.1 A ad0 s ∧ ∀ q ∈ P.2.2.2.2.2, va_Nc (M.2.2.1 q.1) (M.2.2.1 q.2) s
theorem z_fx_moved {T : zT} {P : zP} {M : zM} {D : va_G} {tys : List (ClassId × FieldType)} {A : Nat → Prop} {ad0 : Nat → Option Nat} {u U : State} (hnw : ∀ w ∈ M.2.2.2.2.1, z_nwk w) (hW : u.WarmedH U.vm) (hz : u.heap.size ≤ U.heap.size) (hq : ∀ a : Nat, a < u.heap.size → ¬ A a → U.heap[a]? = u.heap[a]?) (h : z_fx T P M D tys A ad0 u) : z_fx T P M D tys A ad0 U :=
  ⟨fun q hq' => h.1 q (Nat.le_trans hz hq'), va_K.moved hW.alike h.2.1, z_stat_moved hnw hW hq h.2.2.1, fun q hq' => va_Nc.moved hW.alike (h.2.2.2 q hq')⟩
def z_Q (M : zM) (D : va_G) (tys : List (ClassId × FieldType)) (A : Nat → Prop) (ad : Nat → Option Nat) (n0 : Nat) (o : Option Value ⊕ Nat) (h2 : zH) : Array Value → State → Outcome → State → Prop := fun _ st oc t =>
  (∃ (v : Option Value) (ad2 : Nat → Option Nat), o = .inl v ∧ oc = .returned (v.map (z_cv ad2)) ∧ z_ext ad ad2 n0 ∧ z_wd D M.2.2.2.2.2.1 tys A ad2 h2 t.heap ∧ z_hv h2 ∧ n0 ≤ h2.length ∧ ∀ w : Value, v = some w → z_vk h2.length w) ∧ va_F A st t
def z_X (M : zM) (D : va_G) (tys : List (ClassId × FieldType)) (A : Nat → Prop) (ad : Nat → Option Nat) (n0 : Nat) (o : Option Value ⊕ Nat) (h2 : zH) : String → State → State → Prop := fun E st t =>
  ∃ (e : Nat) (ad2 : Nat → Option Nat), o = .inr e ∧ E = M.2.2.1 e ∧ z_ext ad ad2 n0 ∧ z_wd D M.2.2.2.2.2.1 tys A ad2 h2 t.heap ∧ z_hv h2 ∧ n0 ≤ h2.length ∧ va_F A st t
def z_rm (d mc ms : Nat) : Room := { frames := d + 1, cells := mc, slots := ms, locals := 35 * d + 20 }
section ZA
variable {p : Program} {l : Launch} {e : Env} {R : Room} {s : State} {m : MethodId} {args : Array Value} {below : List Frame} {meth : Method} {c : Code} {H H0 : Heap} {locs : List Loc} {cells slots mc ms : Nat} {Q : State → Prop}
variable {pc : Nat} {ls : Array Slot} {st0 rest : List Value} {A : Nat → Prop}
/-- behind a call -/
theorem z_after {Qa : State → Outcome → State → Prop} {XC : String → State → State → Prop} (hr : vx_Run p l e R s m args below meth c H locs cells slots mc ms (F0 m pc ls st0) rest Qa XC A) (hS : va_S A H0 H locs)
    (kk : ∀ (v : Option Value) (st t : State) (locs1 : List Loc), st.heap = H → s.vm.Alike t.vm → Qa st (.returned v) t → (va_F A st t → va_S A H0 t.heap locs1) → W p l e R s m args below meth c t.heap locs1 (cells + mc) (slots + ms) Q (F0 m (pc + 3) ls (v.toList ++ rest)))
    (kx : ∀ (E : String) (q : Addr) (ce : Cell) (st t : State) (locs1 : List Loc), st.heap = H → s.vm.Alike t.vm → XC E st t → (va_F A st t → va_S A H0 t.heap locs1) → t.heap[q]? = some ce → ce.vm = .none → s.vm.findClass E = some ce.cls → vx_W p l e R s m args below meth c t.heap locs1 (cells + mc) (slots + ms) Q (F0 m pc ls rest) q) : W p l e R s m args below meth c H locs cells slots Q (F0 m pc ls st0) := by
  intro T hT X
  rcases hr T hT X with ⟨v, st₀, t, T', L, h0, X', hL, e1, e2, hq, st⟩ | ⟨q, st₀, t, T', L, E, ce, h0, X', hL, e1, e2, hq, hce, hcv, hcl, st⟩
  · obtain ⟨t2, a1, b1⟩ := kk v st₀ t (locs ++ L) h0 (by rw [← e2]; exact X'.warmed.alike) hq (fun hF => by
      have := (vx_keep (T' := T') h0 e1 hS (fun _ _ z => z) (fun _ z => z) hL hF).2.2
      rw [e1] at this
      exact this) T' e1 X'
    exact ⟨t2, st t2 a1, b1⟩
  · obtain ⟨t2, a1, b1⟩ := kx E q ce st₀ t (locs ++ L) h0 (by rw [← e2]; exact X'.warmed.alike) hq (fun hF => by
      have := (vx_keep (T' := T') h0 e1 hS (fun _ _ z => z) (fun _ z => z) hL hF).2.2
      rw [e1] at this
      exact this) hce hcv hcl T' e1 X'
    exact ⟨t2, st.trans a1, b1⟩
end ZA
theorem z_args_m (ad : Nat → Option Nat) : ∀ (vs : List Value) (k : Nat), lv_args k (vs.map (z_cv ad)) = z_lvm ad (lv_args k vs) := by
  intro vs
  induction vs with
  | nil => intro k; rfl
  | cons v vs ih =>
    intro k
    rw [List.map_cons, lv_args, lv_args, z_cv_cat, ih]
    rfl
theorem z_args_in : ∀ (vs : List Value) (k : Nat) (q : Nat × Value), q ∈ lv_args k vs → q.2 ∈ vs := by
  intro vs
  induction vs with
  | nil => intro k q h; cases h
  | cons v vs ih =>
    intro k q h
    rw [lv_args] at h
    rcases List.mem_cons.mp h with rfl | h
    · exact List.mem_cons_self
    · exact List.mem_cons_of_mem _ (ih _ q h)
theorem z_sl_len (vs : List Value) : (lg_sl vs).length = z_cs vs := by
  induction vs with
  | nil => rfl
  | cons v vs ih =>
    have e1 : lg_sl (v :: vs) = (if v.category = 2 then [Slot.val v, .second] else [.val v]) ++ lg_sl vs := by simp [lg_sl]
    rw [e1, List.length_append, ih]
    unfold z_cs
    rw [List.map_cons, List.sum_cons]
    rcases lv_cat v with h1 | h1 <;> simp [h1]
theorem z_cs_m (ad : Nat → Option Nat) (vs : List Value) : z_cs (vs.map (z_cv ad)) = z_cs vs := z_cs_map ad vs
theorem z_cs_rev (vs : List Value) : z_cs vs.reverse = z_cs vs := by
  unfold z_cs
  rw [List.map_reverse, List.sum_reverse]
end
section
/-! THE PURE MACHINE, VIII: what the tables must say of a method; the contract of a method out of its pure run. -/
/-- of a callee -/
def z_okd (P : zP) (M : zM) (a b : Nat) : Prop := ((M.1 a).cls ≠ "java/lang/invoke/MethodHandle" ∧ (M.1 a).cls ≠ "java/lang/invoke/VarHandle" ∧ (parseMethodDescriptor (M.1 a).desc).map (fun d => d.parameters.length) = some b) ∧ z_head P M a ∈ M.2.2.2.1 ∧ Cond.initialized (M.1 a).cls ∈ M.2.2.2.1 ∧ P.2.1 a ≤ 16
/-- of a call with a receiver, of its own class -/
def z_okv (P : zP) (M : zM) (own : String) (i : Instr) (a b : Nat) : Prop := match i with
  | .invokevirtual idx => P.2.2.1 a = [] ∧ z_okd P M a (b % 1000) ∧ Cond.instanceMethod (M.1 a) ∈ M.2.2.2.1 ∧ P.2.2.2.1 a < 100 ∧ (∃ r : vw_C, ((P.2.2.2.1 a < 50 ∧ M.2.2.2.2.2.1[P.2.2.2.1 a]? = some r) ∨ (50 ≤ P.2.2.2.1 a ∧ M.2.2.2.2.2.2.1[P.2.2.2.1 a - 50]? = some r)) ∧ r.1 = (M.1 a).cls) ∧ Cond.methodLink own idx (M.1 a) ∈ M.2.2.2.1 ∧ Cond.selects (M.1 a).cls (M.1 a) (M.1 a) ∈ M.2.2.2.1
  | _ => False
/-- of a constructor, of an inherited method -/
def z_okn (P : zP) (M : zM) (own : String) (i : Instr) (a b : Nat) : Prop := match i with
  | .invokevirtual idx => P.2.2.1 a = [] ∧ z_okd P M a (b % 1000) ∧ Cond.instanceMethod (M.1 a) ∈ M.2.2.2.1 ∧ P.2.2.2.1 a < 100 ∧ ∃ r : vw_C, ((P.2.2.2.1 a < 50 ∧ M.2.2.2.2.2.1[P.2.2.2.1 a]? = some r) ∨ (50 ≤ P.2.2.2.1 a ∧ M.2.2.2.2.2.2.1[P.2.2.2.1 a - 50]? = some r)) ∧ ∃ x : MethodName, M.1 a = ⟨(M.1 a).cls, x.name, x.desc⟩ ∧ Cond.methodLink own idx x ∈ M.2.2.2.1 ∧ Cond.sameMethod x.cls (M.1 a).cls x.name x.desc ∈ M.2.2.2.1 ∧ Cond.selects r.1 x (M.1 a) ∈ M.2.2.2.1
  | .invokespecial idx => P.2.2.1 a = [] ∧ z_okd P M a (b % 1000) ∧ (M.1 a).name = "<init>" ∧ P.2.2.2.2.1 a = none ∧ Cond.instanceMethod (M.1 a) ∈ M.2.2.2.1 ∧ (Cond.methodLink own idx (M.1 a) ∈ M.2.2.2.1 ∨ ∃ host : String, Cond.methodLinkNest own idx (M.1 a) host ∈ M.2.2.2.2.1)
  | _ => False
def z_oks (P : zP) (M : zM) (own : String) (i : Instr) (a b : Nat) : Prop := match i with
  | .invokestatic idx => z_okd P M a (b % 1000) ∧ Cond.methodLink own idx (M.1 a) ∈ M.2.2.2.1 ∧ Cond.static (M.1 a) ∈ M.2.2.2.1
  | _ => False
/-- of a handler: it answers a constant -/
def z_okx (P : zP) (M : zM) (y : Nat) (x : zX) : Prop := x.1.2.2.2 ≠ 0 ∧ Cond.classLink (M.1 y).cls x.1.2.2.2 (M.2.2.1 x.2.1) ∈ M.2.2.2.1 ∧ Cond.castable (M.2.2.1 x.2.1) (M.2.2.1 x.2.1) ∈ M.2.2.2.2.1 ∧ P.2.2.2.2.1 y = some .int ∧
  ∃ len : Nat, ((∃ kk : Fin 4, decode (M.2.1 y) x.1.2.2.1 = .ok (.astore_n kk, 1) ∧ (kk : Nat) < P.2.1 y ∧ len = 1) ∨ (∃ k : Nat, decode (M.2.1 y) x.1.2.2.1 = .ok (.astore k, 2) ∧ k < P.2.1 y ∧ len = 2)) ∧ ∃ n : Int, decode (M.2.1 y) (x.1.2.2.1 + len) = .ok (.iconst n, 1) ∧ Int32.ofInt n = x.2.2 ∧ decode (M.2.1 y) (x.1.2.2.1 + len + 1) = .ok (.ireturn, 1)
def z_oke (T : zT) (P : zP) (M : zM) (y : Nat) (q : zE) : Prop := match q with
  | (pc, i, len, a, b) => decode (M.2.1 y) pc = .ok (i, len) ∧ (match z_kind i a b with
    | 0 => z_len i len ∧ z_tgt i pc a
    | 1 => z_okh M.2.2.2.2.2.1 M.2.2.2.2.2.2.1 M.2.2.2.2.2.2.2 M.2.2.2.2.1 T (M.1 y).cls (M.1 y).name M.2.2.2.1 i len pc a b
    | 2 => len = 3 ∧ z_okv P M (M.1 y).cls i a b
    | 7 => len = 3 ∧ z_okn P M (M.1 y).cls i a b
    | 3 => len = 3 ∧ z_oks P M (M.1 y).cls i a b
    | 4 => len = 1
    | 5 => i = .return_ ∧ len = 1
    | _ => True)
def z_okm (T : zT) (P : zP) (M : zM) (y : Nat) : Prop := (∀ q ∈ P.1 y, z_oke T P M y q) ∧ ∀ x ∈ P.2.2.1 y, z_okx P M y x
/-- of the whole: the classes, the arrays, the words; a method's name is a plain one where it has code -/
def z_okS (T : zT) (P : zP) (M : zM) (tys : List (ClassId × FieldType)) : Prop :=
  z_okc M.2.2.2.2.2.1 M.2.2.2.2.2.2.2 T M.2.2.2.1 ∧ z_tf M.2.2.2.2.2.2.2 ∧ (∀ (t : Nat) (x : ClassId × FieldType), tys[t]? = some x → M.2.2.2.2.2.2.2[t]? = some x.2) ∧ (∀ t : Nat, t < 6 → ∀ ty : FieldType, M.2.2.2.2.2.2.2[t]? = some ty → ∃ x : ClassId, tys[t]? = some (x, ty)) ∧
  (∀ w ∈ M.2.2.2.2.1, z_nwk w) ∧ (∀ w ∈ M.2.2.2.1, (w.onTables && w.keeps) = true ∨ ∃ ty, w = .arrayClass ty) ∧ ∀ y : Nat, plainName (M.1 y).cls = true ∧ z_okm T P M y
theorem z_catch_ok {nc : List (Nat × Nat)} {pc e : Nat} {w : zX} : ∀ {l : List zX}, z_catch nc l pc e = some w → ∃ pre suf : List zX, l = pre ++ w :: suf ∧ (∀ z ∈ pre, ¬ (z.1.1 ≤ pc ∧ pc < z.1.2.1) ∨ (e, z.2.1) ∈ nc) ∧ (w.1.1 ≤ pc ∧ pc < w.1.2.1) ∧ w.2.1 = e := by
  intro l
  induction l with
  | nil => intro h; cases h
  | cons x l ih =>
    intro h
    rw [z_catch] at h
    split at h
    · rename_i h1
      split at h
      · rename_i h2
        cases h
        exact ⟨[], l, rfl, fun z hz => (by cases hz), h1, h2⟩
      · split at h
        · rename_i h3
          obtain ⟨pre, suf, e1, e2, e3, e4⟩ := ih h
          exact ⟨x :: pre, suf, by rw [e1]; rfl, fun z hz => by
            rcases List.mem_cons.mp hz with rfl | hz
            · exact Or.inr h3
            · exact e2 z hz, e3, e4⟩
        · cases h
    · rename_i h1
      obtain ⟨pre, suf, e1, e2, e3, e4⟩ := ih h
      exact ⟨x :: pre, suf, by rw [e1]; rfl, fun z hz => by
        rcases List.mem_cons.mp hz with rfl | hz
        · exact Or.inl h1
        · exact e2 z hz, e3, e4⟩
/-- a pure run of f steps is a run of the machine -/
def z_S (T : zT) (P : zP) (M : zM) (D : va_G) (tys : List (ClassId × FieldType)) (A : Nat → Prop) (ad0 : Nat → Option Nat) (l : Launch) (f : Nat) : Prop :=
  ∀ (d y pc : Nat) (lv : List (Nat × Value)) (st : List Value) (h : zH) (cs ss : Nat) (o : Option Value ⊕ Nat) (h2 : zH) (c2 s2 : Nat), z_run T P f d y pc lv st h cs ss = some (o, h2, c2, s2) → (∃ v0, o = .inl v0) →
  ∀ (p : Program) (e : Env) (R : Room) (s : State) (m : MethodId) (args : Array Value) (below : List Frame) (meth : Method) (c : Code) (H : Heap) (locs : List Loc) (ls : Array Slot) (ad ad1 : Nat → Option Nat) (n0 : Nat) (Q : State → Prop),
  p.tables.exec = Jvm.exec → c.code = M.2.1 y → c.maxLocals = P.2.1 y → s.vm.findClass (M.1 y).cls = some m.cls → (∀ w ∈ M.2.2.2.1, w.before args s = true) → ((M.1 y).name = "<init>" → meth.name = "<init>") → (P.2.2.1 y ≠ [] → c.exceptionTable.toList = tableOf ((P.2.2.1 y).map (·.1))) →
  z_fx T P M D tys A ad0 s → (d + 1 ≤ R.frames ∧ 35 * d + 20 ≤ R.locals) → c2 ≤ R.cells → s2 ≤ R.slots → z_ext ad0 ad 0 → z_ext ad1 ad n0 → n0 ≤ h.length → z_wd D M.2.2.2.2.2.1 tys A ad h H → va_S A s.heap H locs → z_hv h → (∀ q ∈ lv, z_vk h.length q.2) → (∀ v ∈ st, z_vk h.length v) → lv_has ls (P.2.1 y) (z_lvm ad lv) →
  (∀ (pc' : Nat) (i : Instr) (v : Option Value) (ls' : Array Slot) (H' : Heap) (locs' : List Loc) (ad' : Nat → Option Nat), decode (M.2.1 y) pc' = .ok (i, 1) → o = .inl v → (match v with | some w => z_rok i (P.2.2.2.2.1 y) w = true | none => i = .return_ ∧ P.2.2.2.2.1 y = none) → z_ext ad1 ad' n0 → z_wd D M.2.2.2.2.2.1 tys A ad' h2 H' → va_S A s.heap H' locs' → z_hv h2 → n0 ≤ h2.length → (∀ w : Value, v = some w → z_vk h2.length w) → W p l e R s m args below meth c H' locs' c2 s2 Q (F0 m pc' ls' (v.toList.map (z_cv ad')))) →
  W p l e R s m args below meth c H locs cs ss Q (F0 m pc ls (st.map (z_cv ad)))
/-- the contract of a method, of a pure run of f steps -/
def z_C (T : zT) (P : zP) (M : zM) (D : va_G) (tys : List (ClassId × FieldType)) (A : Nat → Prop) (ad0 : Nat → Option Nat) (l : Launch) (f : Nat) : Prop :=
  ∀ (d y : Nat) (as : List Value) (h : zH) (o : Option Value ⊕ Nat) (h2 : zH) (mc ms : Nat), z_run T P f d y 0 (lv_args 0 as) [] h 0 0 = some (o, h2, mc, ms) → (∃ v0, o = .inl v0) → z_cs as ≤ P.2.1 y → ∀ ad : Nat → Option Nat, z_ext ad0 ad 0 → z_hv h → (∀ v ∈ as, z_vk h.length v) →
  vx_Met l (M.1 y) (z_head P M y :: M.2.2.2.1) (z_rm d mc ms) (va_Pc (as.map (z_cv ad)) (fun U => z_fx T P M D tys A ad0 U ∧ z_wd D M.2.2.2.2.2.1 tys A ad h U.heap)) (z_Q M D tys A ad h.length o h2) (z_X M D tys A ad h.length o h2) mc ms A
theorem z_rfc (ad : Nat → Option Nat) (k : Nat) : z_cv ad (.ref k) = .null ∨ ∃ a, z_cv ad (.ref k) = .ref a := by
  show va_rf (ad k) = .null ∨ ∃ a, va_rf (ad k) = .ref a
  cases ad k with
  | none => exact Or.inl rfl
  | some a => exact Or.inr ⟨a, rfl⟩
section ZC
variable {T : zT} {P : zP} {M : zM} {D : va_G} {tys : List (ClassId × FieldType)} {A : Nat → Prop} {ad0 : Nat → Option Nat} {l : Launch} {f : Nat}
set_option maxHeartbeats 4000000 in
/-- the body of a method: its ends -/
theorem z_body (hS : z_S T P M D tys A ad0 l f) (hok : z_okS T P M tys) (hl0 : l.stackTraces = false) {d y : Nat} {as : List Value} {h h2 : zH} {o : Option Value ⊕ Nat} {mc ms : Nat} (hr : z_run T P f d y 0 (lv_args 0 as) [] h 0 0 = some (o, h2, mc, ms)) (hno : ∃ v0, o = .inl v0) (hcs : z_cs as ≤ P.2.1 y) {ad : Nat → Option Nat} (hx0 : z_ext ad0 ad 0) (hv : z_hv h) (has : ∀ v ∈ as, z_vk h.length v)
    {p : Program} {e : Env} {s : State} {m : MethodId} {below : List Frame} {meth : Method} {c : Code} (hx : p.tables.exec = Jvm.exec) (hb : c.code = M.2.1 y) (hml : c.maxLocals = P.2.1 y) (hown : s.vm.findClass (M.1 y).cls = some m.cls) (hts : ∀ w ∈ M.2.2.2.1, w.before (as.map (z_cv ad)).toArray s = true) (hnm : meth.name = (M.1 y).name) (hrt : meth.sig.returnType = P.2.2.2.2.1 y) (hlocks : meth.locks = false) (htab : c.exceptionTable.toList = tableOf ((P.2.2.1 y).map (·.1))) (hfx : z_fx T P M D tys A ad0 s) (hw : z_wd D M.2.2.2.2.2.1 tys A ad h s.heap) :
    W p l e (z_rm d mc ms) s m (as.map (z_cv ad)).toArray below meth c s.heap [] 0 0 (vx_MQ below (z_Q M D tys A ad h.length o h2) (z_X M D tys A ad h.length o h2) (as.map (z_cv ad)).toArray s mc ms A) (entryFrame m (as.map (z_cv ad)).toArray (P.2.1 y)) := by
  have hlen : (lg_sl (as.map (z_cv ad))).length ≤ P.2.1 y := by rw [z_sl_len, z_cs_m]; exact hcs
  have hl := lv_entry (as.map (z_cv ad)) (n := P.2.1 y) hlen
  rw [lg_entry_eq]
  rw [z_args_m] at hl
  generalize (lg_sl (as.map (z_cv ad)) ++ List.replicate (P.2.1 y - (lg_sl (as.map (z_cv ad))).length) Slot.unset).toArray = ls at hl ⊢
  have htab0 : P.2.2.1 y = [] → ∀ pc : Nat, ∀ x ∈ c.exceptionTable.toList, covers x pc = false := fun h0 pc x hx' => by
    rw [htab, h0] at hx'
    cases hx'
  refine hS d y 0 (lv_args 0 as) [] h 0 0 o h2 mc ms hr hno p e (z_rm d mc ms) s m (as.map (z_cv ad)).toArray below meth c s.heap [] ls ad ad h.length _ hx hb hml hown hts (fun z => hnm.trans z) (fun _ => htab) hfx ⟨Nat.le_refl _, Nat.le_refl _⟩ (Nat.le_refl _) (Nat.le_refl _) hx0 z_ext.rf (Nat.le_refl _) hw va_S.rf hv (fun q hq => has _ (z_args_in as 0 q hq)) (fun v hv' => by cases hv') hl ?_
  · intro pc' i v ls' H' locs' ad' hd ho hro hxt hw' hS' hv2 hn2 hvv
    have hq : ∀ t : State, t.heap = H' → z_Q M D tys A ad h.length o h2 (as.map (z_cv ad)).toArray s (.returned (v.map (z_cv ad'))) t := fun t ht => ⟨⟨v, ad', ho, rfl, hxt, by rw [ht]; exact hw', hv2, hn2, hvv⟩, hS'.F ht⟩
    cases v with
    | none =>
      obtain ⟨rfl, hr0⟩ := hro
      exact vx_ret (W.vret hx hb (hrt.trans hr0) (fun t ht _ => hq t ht) hS'.2.2 hd)
    | some w =>
      replace hro : z_rok i (P.2.2.2.2.1 y) w = true := hro
      unfold z_rok at hro
      split at hro
      · rename_i g
        exact vx_ret (W.iret hx hb (hrt.trans g) (fun t ht _ => hq t ht) hS'.2.2 hd)
      · rename_i x g
        refine vx_ret (W.zret hx hb (hrt.trans g) ?_ (fun t ht _ => hq t ht) hS'.2.2 hd)
        simp only [Bool.or_eq_true, decide_eq_true_eq] at hro
        rcases hro with rfl | rfl
        · exact (by decide : (Value.int ((0 : Int32) &&& 1)) = .int 0)
        · exact (by decide : (Value.int ((1 : Int32) &&& 1)) = .int 1)
      · rename_i x g
        exact vx_ret (W.zret hx hb (hrt.trans g) (congrArg Value.int (of_decide_eq_true hro)) (fun t ht _ => hq t ht) hS'.2.2 hd)
      · rename_i x g
        exact vx_ret (W.zret hx hb (hrt.trans g) (congrArg Value.int (of_decide_eq_true hro)) (fun t ht _ => hq t ht) hS'.2.2 hd)
      · rename_i g
        exact vx_ret (W.lret hx hb (hrt.trans g) (fun t ht _ => hq t ht) hS'.2.2 hd)
      · rename_i g
        exact vx_ret (W.fret hx hb (hrt.trans g) (fun t ht _ => hq t ht) hS'.2.2 hd)
      · rename_i g
        exact vx_ret (W.dret hx hb (hrt.trans g) (fun t ht _ => hq t ht) hS'.2.2 hd)
      · rename_i g
        exact vx_ret (W.aret hx hb (hrt.trans g) (Or.inl ⟨_, rfl⟩) (z_rfc ad' _) (fun t ht _ => hq t ht) hS'.2.2 hd)
      · rename_i g
        exact vx_ret (W.aret hx hb (hrt.trans g) (Or.inl ⟨_, rfl⟩) (Or.inl rfl) (fun t ht _ => hq t ht) hS'.2.2 hd)
      · rename_i g
        exact vx_ret (W.aret hx hb (hrt.trans g) (Or.inr ⟨_, rfl⟩) (z_rfc ad' _) (fun t ht _ => hq t ht) hS'.2.2 hd)
      · cases hro
theorem z_con (hS : z_S T P M D tys A ad0 l f) (hok : z_okS T P M tys) (hl0 : l.stackTraces = false) : z_C T P M D tys A ad0 l f := by
  intro d y as h o h2 mc ms hr hno hcs ad hx0 hv has
  have hpn : plainName (M.1 y).cls = true := (hok.2.2.2.2.2.2 y).1
  cases hex : P.2.2.1 y with
  | nil =>
    have hh : z_head P M y = .code (M.1 y) (M.2.1 y) (P.2.1 y) (P.2.2.2.2.1 y) := by unfold z_head; rw [hex]
    rw [hh]
    refine vx_ofW (cc := M.2.1 y) (maxL := P.2.1 y) (ret := P.2.2.2.2.1 y) hpn rfl ?_
    intro p e s m args below meth c s₁ B hml htab hP
    obtain ⟨rfl, hfx, hw⟩ := hP
    have hts := atoms_spec (ws := Cond.code (M.1 y) (M.2.1 y) (P.2.1 y) (P.2.2.2.2.1 y) :: M.2.2.2.1) B.pre
    refine z_body hS hok hl0 hr hno hcs hx0 hv has B.exec B.bytes hml (findClass_of_methodNamed B.named) (fun w hw' => hts w (List.mem_cons_of_mem _ hw')) (name_of_methodNamed B.named B.method).1 B.returns B.notSynchronized ?_ hfx hw
    rw [hex]
    exact List.eq_nil_iff_forall_not_mem.mpr htab
  | cons x0 l0 =>
    have hh : z_head P M y = .codeWith (M.1 y) (M.2.1 y) (P.2.1 y) (P.2.2.2.2.1 y) ((x0 :: l0).map (fun q : zX => q.1)) := by unfold z_head; rw [hex]
    rw [hh]
    refine vx_ofWH (cc := M.2.1 y) (maxL := P.2.1 y) (ret := P.2.2.2.2.1 y) (hh := (x0 :: l0).map (·.1)) hpn rfl ?_
    intro p e s m args below meth c s₁ B hml hP
    obtain ⟨rfl, hfx, hw⟩ := hP
    have hts := atoms_spec (ws := Cond.codeWith (M.1 y) (M.2.1 y) (P.2.1 y) (P.2.2.2.2.1 y) ((x0 :: l0).map (fun q : zX => q.1)) :: M.2.2.2.1) B.pre
    refine z_body hS hok hl0 hr hno hcs hx0 hv has B.exec B.bytes hml (findClass_of_methodNamed B.named) (fun w hw' => hts w (List.mem_cons_of_mem _ hw')) (name_of_methodNamed B.named B.method).1 B.returns B.notSynchronized ?_ hfx hw
    rw [hex]
    exact vx_table (x := M.1 y) B (hts _ List.mem_cons_self)
end ZC
end
section
/-! THE PURE MACHINE, IX: a pure run is a run of the machine. -/
theorem z_imp {l : Launch} {x : MethodName} {S : Spec} {P : Array Value → State → Prop} {K : Program → Env → List Frame → State → Array Value → Prop} {Q Q' : Array Value → State → Outcome → State → Prop} (h : MetFree l x S P K Q) (hq : ∀ a st o t, Q a st o t → Q' a st o t) : MetFree l x S P K Q' := by
  intro p e ha hc hk s m args below hf happ hP hK
  obtain ⟨n, o, h1, h2, h3, h4⟩ := h p e ha hc hk s m args below hf happ hP hK
  exact ⟨n, o, h1, h2, h3, hq _ _ _ _ h4⟩
section ZD
variable {T : zT} {P : zP} {M : zM} {D : va_G} {tys : List (ClassId × FieldType)} {A : Nat → Prop} {ad0 ad : Nat → Option Nat} {l : Launch} {f : Nat}
variable {p : Program} {e : Env} {R : Room} {s : State} {m : MethodId} {args : Array Value} {below : List Frame} {meth : Method} {c : Code} {H : Heap} {locs : List Loc} {cells slots : Nat} {Q : State → Prop}
variable {own : String} {cc : ByteArray} {nL pc : Nat} {ls : Array Slot} {h h2 : zH} {st : List Value} {d a b mc ms : Nat} {o : Option Value ⊕ Nat} {i : Instr}
theorem z_good (hok : z_okS T P M tys) {ws : List Cond} (hw : ∀ w ∈ ws, w ∈ M.2.2.2.1) : GoodIn M.2.2.2.1 ws := fun w hw' => ⟨hw w hw', hok.2.2.2.2.2.1 w (hw w hw')⟩
theorem z_pc (hok : z_okS T P M tys) (hfx : z_fx T P M D tys A ad0 s) (hw : z_wd D M.2.2.2.2.2.1 tys A ad h H) (hS : va_S A s.heap H locs) : ∀ U : State, U.heap = H → s.WarmedH U.vm → z_fx T P M D tys A ad0 U ∧ z_wd D M.2.2.2.2.2.1 tys A ad h U.heap := fun U hU hW =>
  ⟨z_fx_moved hok.2.2.2.2.1 hW (by rw [hU]; exact hS.1) (fun q h1 h2 => by rw [hU]; exact hS.2.1 q h1 h2) hfx, by rw [hU]; exact hw⟩
theorem z_blind (hok : z_okS T P M tys) {h : zH} {as : List Value} : FrameBlind (va_Pc as (fun U => z_fx T P M D tys A ad0 U ∧ z_wd D M.2.2.2.2.2.1 tys A ad h U.heap)) := fun a U g mk q =>
  ⟨q.1, z_fx_moved (U := U.calling g mk a) hok.2.2.2.2.1 (State.WarmedH.refl U) (Nat.le_refl _) (fun _ _ _ => rfl) q.2.1, q.2.2⟩
theorem z_recvT (hfx : z_fx T P M D tys A ad0 s) (hx0 : z_ext ad0 ad 0) (hw : z_wd D M.2.2.2.2.2.1 tys A ad h H) (hS : va_S A s.heap H locs) {as : List Value} {t : Nat} (hr : z_rcv T h as t = true) : ∃ (q b : Nat) (r vs : List Value), as = .ref q :: r ∧ z_hg T.1 h q = some (t, vs) ∧ ad q = some b := by
  unfold z_rcv at hr
  split at hr
  · rename_i q r
    split at hr
    · rename_i c0 e1
      have e2 : c0.1 = t := Nat.eq_of_beq_eq_true hr
      obtain ⟨b, e3⟩ := z_hg_ad hfx.2.2.1 hx0 hw e1
      obtain ⟨t', vs⟩ := c0
      dsimp only at e2
      subst e2
      exact ⟨q, b, r, vs, rfl, e1, e3⟩
    · cases hr
  · cases hr
/-- a call of a static method -/
theorem z_runS (hC : z_C T P M D tys A ad0 l f) (hok : z_okS T P M tys) (hx : p.tables.exec = Jvm.exec) (hb : c.code = cc) (hml : c.maxLocals = nL) (hown : s.vm.findClass own = some m.cls) (hts : ∀ w ∈ M.2.2.2.1, w.before args s = true) (hfx : z_fx T P M D tys A ad0 s) (hx0 : z_ext ad0 ad 0) (hw : z_wd D M.2.2.2.2.2.1 tys A ad h H) (hS : va_S A s.heap H locs) (hv : z_hv h)
    (hR : d + 1 + 1 ≤ R.frames ∧ 35 * (d + 1) + 20 ≤ R.locals) (hroom : cells + mc ≤ R.cells ∧ slots + ms ≤ R.slots) (hlz : ls.size = nL) {as rest : List Value} (hst : st = as.reverse ++ rest) (has : ∀ v ∈ as, z_vk h.length v) (hcs : z_cs as ≤ P.2.1 a) (hrest : z_cs rest ≤ 8) (hn : as.length = b % 1000)
    (hr : z_run T P f d a 0 (lv_args 0 as) [] h 0 0 = some (o, h2, mc, ms)) (hno : ∃ v0, o = .inl v0) (ho : z_oks P M own i a b) (hd : decode cc pc = .ok (i, 3)) :
    ∃ ar, vx_Run p l e R s m args below meth c H locs cells slots mc ms (F0 m pc ls (st.map (z_cv ad))) (rest.map (z_cv ad)) (z_Q M D tys A ad h.length o h2 ar) (z_X M D tys A ad h.length o h2) A := by
  have hM := hC d a as h o h2 mc ms hr hno hcs ad hx0 hv has
  unfold z_oks at ho
  split at ho
  · rename_i idx
    obtain ⟨⟨⟨k1, k2, k3⟩, hhead, hini, h40⟩, hlink, hstat⟩ := ho
    have hws : ∀ w ∈ z_head P M a :: M.2.2.2.1, w ∈ M.2.2.2.1 := fun w hw' => by
      rcases List.mem_cons.mp hw' with rfl | hw'
      · exact hhead
      · exact hw'
    have hpS : PreS s H (va_Pc (as.map (z_cv ad)) (fun U => z_fx T P M D tys A ad0 U ∧ z_wd D M.2.2.2.2.2.1 tys A ad h U.heap)) (as.map (z_cv ad)) := ⟨z_blind hok, fun U hU hW => ⟨rfl, z_pc hok hfx hw hS U hU hW⟩⟩
    have hRR : (z_rm d mc ms).frames + 1 ≤ R.frames ∧ 8 + (P.2.1 a + 11) + (z_rm d mc ms).locals ≤ R.locals := ⟨by show d + 1 + 1 ≤ _; omega, by show 8 + (P.2.1 a + 11) + (35 * d + 20) ≤ _; omega⟩
    have hstk : (F0 m pc ls (st.map (z_cv ad))).stack = (as.map (z_cv ad)).reverse ++ rest.map (z_cv ad) := by
      show st.map (z_cv ad) = _
      rw [hst, List.map_append, List.map_reverse]
    have hrW : 2 * (F0 m pc ls (st.map (z_cv ad))).monitorRoom + ((rest.map (z_cv ad)).map fun v => v.category).sum ≤ 8 := by
      have e1 : ((rest.map (z_cv ad)).map fun v => v.category).sum = z_cs rest := z_cs_map ad rest
      rw [e1]
      show 2 * 0 + _ ≤ 8
      omega
    cases hex : P.2.2.1 a with
    | nil =>
      have hh : z_head P M a = .code (M.1 a) (M.2.1 a) (P.2.1 a) (P.2.2.2.2.1 a) := by unfold z_head; rw [hex]
      rw [hh] at hM hws hhead
      have hG := z_good hok hws
      exact ⟨_, vx_runS (n := b % 1000) ⟨hx, hb, hml, hown, hts⟩ hM ⟨callB_of (b % 1000) hts hG rfl rfl rfl (hts _ hini) (hts _ hlink) ⟨k1, k2, k3⟩ hRR, hts _ hstat⟩ hpS rfl (by rw [List.length_map]; exact hn) hlz hstk hrW hd hroom⟩
    | cons x0 l0 =>
      have hh : z_head P M a = .codeWith (M.1 a) (M.2.1 a) (P.2.1 a) (P.2.2.2.2.1 a) ((x0 :: l0).map (fun q : zX => q.1)) := by unfold z_head; rw [hex]
      rw [hh] at hM hws hhead
      have hG := z_good hok hws
      refine ⟨_, vx_runSX (n := b % 1000) ⟨hx, hb, hml, hown, hts⟩ hM ⟨⟨rfl, rfl, hRR.1, hRR.2, pay_in hts hG, List.mem_cons_self⟩, hts _ hhead, hts _ hini, ⟨k1, k2⟩, fun sig hg => ?_, hts _ hlink, hts _ hstat⟩ hpS rfl (by rw [List.length_map]; exact hn) hlz hstk hrW hd hroom⟩
      rw [hg] at k3
      exact (Option.some.inj k3).symm
  · exact ho.elim
/-- a call of a method of the receiver's own class -/
theorem z_runV (hC : z_C T P M D tys A ad0 l f) (hok : z_okS T P M tys) (hx : p.tables.exec = Jvm.exec) (hb : c.code = cc) (hml : c.maxLocals = nL) (hown : s.vm.findClass own = some m.cls) (hts : ∀ w ∈ M.2.2.2.1, w.before args s = true) (hfx : z_fx T P M D tys A ad0 s) (hx0 : z_ext ad0 ad 0) (hw : z_wd D M.2.2.2.2.2.1 tys A ad h H) (hS : va_S A s.heap H locs) (hv : z_hv h)
    (hR : d + 1 + 1 ≤ R.frames ∧ 35 * (d + 1) + 20 ≤ R.locals) (hroom : cells + mc ≤ R.cells ∧ slots + ms ≤ R.slots) (hlz : ls.size = nL) {as rest : List Value} (hst : st = as.reverse ++ rest) (has : ∀ v ∈ as, z_vk h.length v) (hcs : z_cs as ≤ P.2.1 a) (hrest : z_cs rest ≤ 8) (hn : as.length = b % 1000 + 1) (hrv : z_rcv T h as (P.2.2.2.1 a) = true)
    (hr : z_run T P f d a 0 (lv_args 0 as) [] h 0 0 = some (o, h2, mc, ms)) (hno : ∃ v0, o = .inl v0) (ho : z_okv P M own i a b) (hd : decode cc pc = .ok (i, 3)) :
    ∃ ar, vx_Run p l e R s m args below meth c H locs cells slots mc ms (F0 m pc ls (st.map (z_cv ad))) (rest.map (z_cv ad)) (z_Q M D tys A ad h.length o h2 ar) (z_X M D tys A ad h.length o h2) A := by
  have hM := hC d a as h o h2 mc ms hr hno hcs ad hx0 hv has
  unfold z_okv at ho
  split at ho
  · rename_i idx
    obtain ⟨hex, ⟨⟨k1, k2, k3⟩, hhead, hini, h40⟩, hin, h100, ⟨r, hcl, hrc⟩, hlink, hsel⟩ := ho
    obtain ⟨q, b9, r9, vs, rfl, e1, e2⟩ := z_recvT hfx hx0 hw hS hrv
    obtain ⟨b8, e3, hrecv⟩ := z_recv hfx.2.1 hfx.2.2.1 hx0 hw hS e1 h100 hcl
    have e4 : b8 = b9 := Option.some.inj (e3.symm.trans e2)
    subst e4
    have hh : z_head P M a = .code (M.1 a) (M.2.1 a) (P.2.1 a) (P.2.2.2.2.1 a) := by unfold z_head; rw [hex]
    have hcvq : (Value.ref q :: r9).map (z_cv ad) = .ref b8 :: r9.map (z_cv ad) := by
      rw [List.map_cons, show z_cv ad (.ref q) = .ref b8 from congrArg va_rf e2]
    rw [hh] at hM hhead
    have hws : ∀ w ∈ Cond.code (M.1 a) (M.2.1 a) (P.2.1 a) (P.2.2.2.2.1 a) :: M.2.2.2.1, w ∈ M.2.2.2.1 := fun w hw' => by
      rcases List.mem_cons.mp hw' with rfl | hw'
      · exact hhead
      · exact hw'
    have hG := z_good hok hws
    have hpV : PreV s H (M.1 a).cls b8 (va_Pc ((Value.ref q :: r9).map (z_cv ad)) (fun U => z_fx T P M D tys A ad0 U ∧ z_wd D M.2.2.2.2.2.1 tys A ad h U.heap)) (r9.map (z_cv ad)) :=
      ⟨z_blind hok, by rw [hrc] at hrecv; exact hrecv, fun U hU hW => ⟨by rw [hcvq], z_pc hok hfx hw hS U hU hW⟩⟩
    have hRR : (z_rm d mc ms).frames + 1 ≤ R.frames ∧ 8 + (P.2.1 a + 11) + (z_rm d mc ms).locals ≤ R.locals := ⟨by show d + 1 + 1 ≤ _; omega, by show 8 + (P.2.1 a + 11) + (35 * d + 20) ≤ _; omega⟩
    have hstk : (F0 m pc ls (st.map (z_cv ad))).stack = (r9.map (z_cv ad)).reverse ++ .ref b8 :: rest.map (z_cv ad) := by
      show st.map (z_cv ad) = _
      rw [hst, List.map_append, List.map_reverse, hcvq]
      simp
    have hrW : 2 * (F0 m pc ls (st.map (z_cv ad))).monitorRoom + ((rest.map (z_cv ad)).map fun v => v.category).sum ≤ 8 := by
      have e1 : ((rest.map (z_cv ad)).map fun v => v.category).sum = z_cs rest := z_cs_map ad rest
      rw [e1]
      show 2 * 0 + _ ≤ 8
      omega
    exact ⟨_, vx_runV (n := b % 1000) (C := (M.1 a).cls) ⟨hx, hb, hml, hown, hts⟩ hM ⟨callB_of (b % 1000) hts hG rfl rfl rfl (hts _ hini) (hts _ hlink) ⟨k1, k2, k3⟩ hRR, hts _ hin, hts _ hsel⟩ hpV rfl (by rw [List.length_map]; simp only [List.length_cons] at hn; omega) hlz hstk hrW hd hroom⟩
  · exact ho.elim
/-- a run that does not throw -/
theorem z_vxr {g : JFrame} {rest : List Value} {Qa : State → Outcome → State → Prop} {XC : String → State → State → Prop} {fr : Addr → Prop} (h : va_Run p l e R s m args below meth c H locs cells slots mc ms g rest Qa fr) : vx_Run p l e R s m args below meth c H locs cells slots mc ms g rest Qa XC fr := fun T hT X => Or.inl (h T hT X)
/-- a call of a constructor, or of an inherited method, from which nothing is thrown -/
theorem z_runN (hC : z_C T P M D tys A ad0 l f) (hok : z_okS T P M tys) (hx : p.tables.exec = Jvm.exec) (hb : c.code = cc) (hml : c.maxLocals = nL) (hown : s.vm.findClass own = some m.cls) (hts : ∀ w ∈ M.2.2.2.1, w.before args s = true) (hfx : z_fx T P M D tys A ad0 s) (hx0 : z_ext ad0 ad 0) (hw : z_wd D M.2.2.2.2.2.1 tys A ad h H) (hS : va_S A s.heap H locs) (hv : z_hv h)
    (hR : d + 1 + 1 ≤ R.frames ∧ 35 * (d + 1) + 20 ≤ R.locals) (hroom : cells + mc ≤ R.cells ∧ slots + ms ≤ R.slots) (hlz : ls.size = nL) {as rest : List Value} (hst : st = as.reverse ++ rest) (has : ∀ v ∈ as, z_vk h.length v) (hcs : z_cs as ≤ P.2.1 a) (hrest : z_cs rest ≤ 8) (hn : as.length = b % 1000 + 1) (hrv : z_rcv T h as (P.2.2.2.1 a) = true) {v0 : Option Value} (hov : o = .inl v0)
    (hr : z_run T P f d a 0 (lv_args 0 as) [] h 0 0 = some (o, h2, mc, ms)) (hno : ∃ v0, o = .inl v0) (ho : z_okn P M own i a b) (hd : decode cc pc = .ok (i, 3)) :
    ∃ ar, vx_Run p l e R s m args below meth c H locs cells slots mc ms (F0 m pc ls (st.map (z_cv ad))) (rest.map (z_cv ad)) (z_Q M D tys A ad h.length o h2 ar) (z_X M D tys A ad h.length o h2) A := by
  have hM0 := hC d a as h o h2 mc ms hr hno hcs ad hx0 hv has
  have hM : Met l (M.1 a) (z_head P M a :: M.2.2.2.1) (z_rm d mc ms) (va_Pc (as.map (z_cv ad)) (fun U => z_fx T P M D tys A ad0 U ∧ z_wd D M.2.2.2.2.2.1 tys A ad h U.heap)) (z_Q M D tys A ad h.length o h2) mc ms A := by
    refine z_imp hM0 (fun a0 st0 o0 t0 hq => ?_)
    rcases hq with hq | ⟨q, -, E, ce, L, ⟨e', ad2, he, -⟩, -⟩
    · exact hq
    · rw [hov] at he
      cases he
  obtain ⟨q, b8, r9, vs, rfl, e1, e2⟩ := z_recvT hfx hx0 hw hS hrv
  have hcvq : (Value.ref q :: r9).map (z_cv ad) = .ref b8 :: r9.map (z_cv ad) := by
    rw [List.map_cons, show z_cv ad (.ref q) = .ref b8 from congrArg va_rf e2]
  have hstk : (F0 m pc ls (st.map (z_cv ad))).stack = (r9.map (z_cv ad)).reverse ++ .ref b8 :: rest.map (z_cv ad) := by
    show st.map (z_cv ad) = _
    rw [hst, List.map_append, List.map_reverse, hcvq]
    simp
  have hrW : 2 * (F0 m pc ls (st.map (z_cv ad))).monitorRoom + ((rest.map (z_cv ad)).map fun v => v.category).sum ≤ 8 := by
    have e1 : ((rest.map (z_cv ad)).map fun v => v.category).sum = z_cs rest := z_cs_map ad rest
    rw [e1]
    show 2 * 0 + _ ≤ 8
    omega
  unfold z_okn at ho
  split at ho
  · rename_i idx
    obtain ⟨hex, ⟨⟨k1, k2, k3⟩, hhead, hini, h40⟩, hin, h100, r, hcl, x, hxe, hlink, hsame, hsel⟩ := ho
    obtain ⟨b7, e3, hrecv⟩ := z_recv hfx.2.1 hfx.2.2.1 hx0 hw hS e1 h100 hcl
    have e4 : b7 = b8 := Option.some.inj (e3.symm.trans e2)
    subst e4
    have hh : z_head P M a = .code (M.1 a) (M.2.1 a) (P.2.1 a) (P.2.2.2.2.1 a) := by unfold z_head; rw [hex]
    rw [hh] at hM hhead
    have hws : ∀ w ∈ Cond.code (M.1 a) (M.2.1 a) (P.2.1 a) (P.2.2.2.2.1 a) :: M.2.2.2.1, w ∈ M.2.2.2.1 := fun w hw' => by
      rcases List.mem_cons.mp hw' with rfl | hw'
      · exact hhead
      · exact hw'
    have hRR : (z_rm d mc ms).frames + 1 ≤ R.frames ∧ 8 + (P.2.1 a + 11) + (z_rm d mc ms).locals ≤ R.locals := ⟨by show d + 1 + 1 ≤ _; omega, by show 8 + (P.2.1 a + 11) + (35 * d + 20) ≤ _; omega⟩
    have hdesc : (M.1 a).desc = x.desc := by rw [hxe]
    have hG := z_good hok (ws := va_wsU own idx r.1 (M.1 a).cls x (M.1 a) (Cond.code (M.1 a) (M.2.1 a) (P.2.1 a) (P.2.2.2.2.1 a) :: M.2.2.2.1)) (fun w hw' => by
      unfold va_wsU at hw'
      rcases List.mem_append.mp hw' with h9 | h9
      · simp only [List.mem_cons, List.not_mem_nil, or_false] at h9
        rcases h9 with rfl | rfl | rfl | rfl | rfl
        · exact hlink
        · exact hsame
        · exact hsel
        · exact hin
        · exact hini
      · exact hws w h9)
    have hpV : PreV s H r.1 b7 (va_Pc ((Value.ref q :: r9).map (z_cv ad)) (fun U => z_fx T P M D tys A ad0 U ∧ z_wd D M.2.2.2.2.2.1 tys A ad h U.heap)) (r9.map (z_cv ad)) :=
      ⟨z_blind hok, hrecv, fun U hU hW => ⟨by rw [hcvq], z_pc hok hfx hw hS U hU hW⟩⟩
    have cw := va_cwU (R := R) (mc := mc) (ms := ms) (index := idx) (b % 1000) hts hG rfl (rm := z_rm d mc ms) rfl rfl hxe ⟨k1, k2, by rw [← hdesc]; exact k3⟩ hRR
    exact ⟨_, z_vxr (va_runU ⟨hx, hb, hml, hown, hts⟩ hM cw hpV rfl (by rw [List.length_map]; simp only [List.length_cons] at hn; omega) hlz hstk hrW hd hroom)⟩
  · rename_i idx
    obtain ⟨hex, ⟨⟨k1, k2, k3⟩, hhead, hini, h40⟩, hnm, hret, hin, hl⟩ := ho
    have hh : z_head P M a = .code (M.1 a) (M.2.1 a) (P.2.1 a) none := by unfold z_head; rw [hex, hret]
    rw [hh] at hM hhead
    have hws : ∀ w ∈ Cond.code (M.1 a) (M.2.1 a) (P.2.1 a) none :: M.2.2.2.1, w ∈ M.2.2.2.1 := fun w hw' => by
      rcases List.mem_cons.mp hw' with rfl | hw'
      · exact hhead
      · exact hw'
    have hG := z_good hok hws
    have hRR : (z_rm d mc ms).frames + 1 ≤ R.frames ∧ 8 + (P.2.1 a + 11) + (z_rm d mc ms).locals ≤ R.locals := ⟨by show d + 1 + 1 ≤ _; omega, by show 8 + (P.2.1 a + 11) + (35 * d + 20) ≤ _; omega⟩
    have hpS : PreS s H (va_Pc ((Value.ref q :: r9).map (z_cv ad)) (fun U => z_fx T P M D tys A ad0 U ∧ z_wd D M.2.2.2.2.2.1 tys A ad h U.heap)) (.ref b8 :: r9.map (z_cv ad)) := ⟨z_blind hok, fun U hU hW => ⟨by rw [hcvq], z_pc hok hfx hw hS U hU hW⟩⟩
    rcases hl with hl | ⟨host, hl⟩
    · exact ⟨_, z_vxr (va_runI (n := b % 1000) ⟨hx, hb, hml, hown, hts⟩ hM (cwI (b % 1000) hts hG rfl rfl rfl (hts _ hini) (hts _ hl) (hts _ hin) hnm ⟨k1, k2, k3⟩ hRR) hpS rfl (by rw [List.length_map]; simp only [List.length_cons] at hn; omega) hlz hstk hrW hd hroom)⟩
    · exact ⟨_, z_vxr (va_runIN (n := b % 1000) ⟨hx, hb, hml, hown, hts⟩ hM ⟨va_cnB (b % 1000) hts hG rfl rfl rfl (hfx.2.2.1.2.2.2.2.2 _ hl) (hts _ hini) ⟨k1, k2, k3⟩ hRR, hnm, hts _ hin⟩ hpS rfl (by rw [List.length_map]; simp only [List.length_cons] at hn; omega) hlz hstk hrW hd hroom)⟩
  · exact ho.elim
theorem z_kind_le (i : Instr) (a b : Nat) : z_kind i a b ≤ 7 := by
  unfold z_kind
  split <;> first
    | exact Nat.le_of_ble_eq_true rfl
    | (cases Nat.ble 1000 b <;> exact Nat.le_of_ble_eq_true rfl)
    | (cases Nat.beq a 9999 <;> exact Nat.le_of_ble_eq_true rfl)
    | (cases Nat.ble 9997 a <;> exact Nat.le_of_ble_eq_true rfl)
/-- a call -/
theorem z_runA (hC : z_C T P M D tys A ad0 l f) (hok : z_okS T P M tys) (hx : p.tables.exec = Jvm.exec) (hb : c.code = cc) (hml : c.maxLocals = nL) (hown : s.vm.findClass own = some m.cls) (hts : ∀ w ∈ M.2.2.2.1, w.before args s = true) (hfx : z_fx T P M D tys A ad0 s) (hx0 : z_ext ad0 ad 0) (hw : z_wd D M.2.2.2.2.2.1 tys A ad h H) (hS : va_S A s.heap H locs) (hv : z_hv h)
    (hR : d + 1 + 1 ≤ R.frames ∧ 35 * (d + 1) + 20 ≤ R.locals) (hroom : cells + mc ≤ R.cells ∧ slots + ms ≤ R.slots) (hlz : ls.size = nL) (hsv : ∀ v ∈ st, z_vk h.length v) {k : Nat} (hc1 : z_nn k b ≤ st.length) (hrest : z_cs (st.drop (z_nn k b)) ≤ 8) (hcs : z_cs (st.take (z_nn k b)) ≤ P.2.1 a) (hrv : k ≠ 3 → z_rcv T h (st.take (z_nn k b)).reverse (P.2.2.2.1 a) = true)
    (hr : z_run T P f d a 0 (lv_args 0 (st.take (z_nn k b)).reverse) [] h 0 0 = some (o, h2, mc, ms)) (hno : ∃ v0, o = .inl v0) (ho : (k = 2 ∧ z_okv P M own i a b) ∨ (k = 3 ∧ z_oks P M own i a b) ∨ (k = 7 ∧ z_okn P M own i a b ∧ ∃ v0, o = .inl v0)) (hd : decode cc pc = .ok (i, 3)) :
    ∃ ar, vx_Run p l e R s m args below meth c H locs cells slots mc ms (F0 m pc ls (st.map (z_cv ad))) ((st.drop (z_nn k b)).map (z_cv ad)) (z_Q M D tys A ad h.length o h2 ar) (z_X M D tys A ad h.length o h2) A := by
  have hst : st = (st.take (z_nn k b)).reverse.reverse ++ st.drop (z_nn k b) := by rw [List.reverse_reverse, List.take_append_drop]
  have has : ∀ v ∈ (st.take (z_nn k b)).reverse, z_vk h.length v := fun v hv' => hsv v (List.mem_of_mem_take (List.mem_reverse.mp hv'))
  have hcs2 : z_cs (st.take (z_nn k b)).reverse ≤ P.2.1 a := by rw [z_cs_rev]; exact hcs
  have hlen : (st.take (z_nn k b)).reverse.length = z_nn k b := by rw [List.length_reverse, List.length_take]; omega
  rcases ho with ⟨rfl, ho⟩ | ⟨rfl, ho⟩ | ⟨rfl, ho, v0, hv0⟩
  · exact z_runV hC hok hx hb hml hown hts hfx hx0 hw hS hv hR hroom hlz hst has hcs2 hrest (by rw [hlen]; rfl) (hrv (by decide)) hr hno ho hd
  · exact z_runS hC hok hx hb hml hown hts hfx hx0 hw hS hv hR hroom hlz hst has hcs2 hrest (by rw [hlen]; rfl) hr hno ho hd
  · exact z_runN hC hok hx hb hml hown hts hfx hx0 hw hS hv hR hroom hlz hst has hcs2 hrest (by rw [hlen]; rfl) (hrv (by decide)) hv0 hr hno ho hd
end ZD
set_option maxHeartbeats 4000000 in
theorem z_Sall {T : zT} {P : zP} {M : zM} {D : va_G} {tys : List (ClassId × FieldType)} {A : Nat → Prop} {ad0 : Nat → Option Nat} {l : Launch} (hok : z_okS T P M tys) (hl0 : l.stackTraces = false) (hnh : ∀ y, P.2.2.1 y = []) : ∀ f : Nat, z_S T P M D tys A ad0 l f := by
  intro f
  induction f with
  | zero => intro d y pc lv st h cs ss o h2 c2 s2 e; cases e
  | succ f ih =>
    intro d y pc lv st h cs ss o h2 c2 s2 er hno p e R s m args below meth c H locs ls ad ad1 n0 Q hx hb hml hown hts hnm htab hfx hR hc2 hs2 hx0 hx1 hn0 hw hS hv hlv hsv hl K1
    have hmono := z_run_mono T P (f + 1) d y pc lv st h cs ss o h2 c2 s2 er
    rw [z_run] at er
    split at er
    · cases er
    · rename_i i len a b e1
      have hq := ((hok.2.2.2.2.2.2 y).2).1 _ (z_at_in e1)
      have hxt := ((hok.2.2.2.2.2.2 y).2).2
      unfold z_oke at hq
      obtain ⟨hd, hq⟩ := hq
      have hlz : ls.size = P.2.1 y := hl.1
      split at er
      · rename_i hk
        rw [hk] at hq
        split at er
        · rename_i pc2 lv2 st2 e2
          have hval := z_loc_v e2 hlv hsv
          exact z_loc_ok e2 hd hq.1 hq.2 hx hb hl (fun ls2 hl2 => ih d y pc2 lv2 st2 h cs ss o h2 c2 s2 er hno p e R s m args below meth c H locs ls2 ad ad1 n0 Q hx hb hml hown hts hnm htab hfx hR hc2 hs2 hx0 hx1 hn0 hw hS hv hval.1 hval.2 hl2 K1)
        · cases er
      · rename_i hk
        rw [hk] at hq
        split at er
        · rename_i pc2 st2 h3 dc ds e2
          have hm := z_run_mono T P f d y pc2 lv st2 h3 (cs + dc) (ss + ds) o h2 c2 s2 er
          exact z_hp_ok e2 hq hok.1 hok.2.1 hok.2.2.1 hok.2.2.2.1 hts hown hx hb hml hlz hnm hfx.2.1 hfx.2.2.1 hx0 hw hS hfx.1 hv hsv ⟨by omega, by omega⟩ ⟨by omega, by omega⟩ hd (fun ad2 H2 locs2 hext hw2 hS2 hv2 hle hsv2 =>
            ih d y pc2 lv st2 h3 (cs + dc) (ss + ds) o h2 c2 s2 er hno p e R s m args below meth c H2 locs2 ls ad2 ad1 n0 Q hx hb hml hown hts hnm htab hfx hR hc2 hs2 (hx0.tr hext (Nat.zero_le _)) (hx1.tr hext hn0) (Nat.le_trans hn0 hle) hw2 hS2 hv2 (fun q hq' => (hlv q hq').le hle) hsv2 (by rw [z_lvm_ext hext hlv]; exact hl) K1)
        · cases er
      · rename_i hk
        rw [hk] at hq
        split at er
        · rename_i v r
          split at er
          · rename_i hr
            cases er
            obtain ⟨rfl, hr⟩ := hr
            subst hq
            exact K1 pc i (some v) ls H locs ad hd rfl hr hx1 hw hS hv hn0 (fun w hw' => by cases hw'; exact hsv _ List.mem_cons_self)
          · cases er
        · cases er
      · rename_i hk
        rw [hk] at hq
        split at er
        · rename_i hr
          cases er
          obtain ⟨rfl, hr⟩ := hr
          obtain ⟨rfl, rfl⟩ := hq
          exact K1 pc .return_ none ls H locs ad hd rfl ⟨rfl, hr⟩ hx1 hw hS hv hn0 (fun w hw' => by cases hw')
        · cases er
      · rename_i hk
        rw [hk] at hq
        split at er
        · rename_i hr
          cases er
          obtain ⟨v0, hv0⟩ := hno
          cases hv0
        · cases er
      · rename_i hk0 hk1 hk4 hk5 hk6
        have hk7 := z_kind_le i a b
        split at er
        · cases er
        · rename_i d'
          have hR' : d' + 1 + 1 ≤ R.frames ∧ 35 * (d' + 1) + 20 ≤ R.locals := hR
          have hk3 : z_kind i a b = 2 ∨ z_kind i a b = 3 ∨ z_kind i a b = 7 := by
            have g0 : z_kind i a b ≠ 0 := hk0
            have g1 : z_kind i a b ≠ 1 := hk1
            have g4 : z_kind i a b ≠ 4 := hk4
            have g5 : z_kind i a b ≠ 5 := hk5
            have g6 : z_kind i a b ≠ 6 := hk6
            omega
          generalize hkk : z_kind i a b = k at *
          have hq3 : decode (M.2.1 y) pc = .ok (i, 3) ∧ ((k = 2 ∧ z_okv P M (M.1 y).cls i a b) ∨ (k = 3 ∧ z_oks P M (M.1 y).cls i a b) ∨ (k = 7 ∧ z_okn P M (M.1 y).cls i a b)) := by
            rcases hk3 with rfl | rfl | rfl
            · obtain ⟨rfl, hq⟩ := hq
              exact ⟨hd, Or.inl ⟨rfl, hq⟩⟩
            · obtain ⟨rfl, hq⟩ := hq
              exact ⟨hd, Or.inr (Or.inl ⟨rfl, hq⟩)⟩
            · obtain ⟨rfl, hq⟩ := hq
              exact ⟨hd, Or.inr (Or.inr ⟨rfl, hq⟩)⟩
          have hC := z_con (ad0 := ad0) (A := A) (D := D) ih hok hl0
          split at er
          · rename_i hc
            obtain ⟨hc1, hc3, hc4, hc5⟩ := hc
            have hrv : ∀ v ∈ st.drop (z_nn k b), z_vk h.length v := fun v hv' => hsv v (List.mem_of_mem_drop hv')
            split at er
            · cases er
            · rename_i ov h3 dc ds e2
              have hm := z_run_mono T P f (d' + 1) y (pc + 3) lv (ov.toList ++ st.drop (z_nn k b)) h3 (cs + dc) (ss + ds) o h2 c2 s2 er
              have ho3 : (k = 2 ∧ z_okv P M (M.1 y).cls i a b) ∨ (k = 3 ∧ z_oks P M (M.1 y).cls i a b) ∨ (k = 7 ∧ z_okn P M (M.1 y).cls i a b ∧ ∃ v0, (Sum.inl ov : Option Value ⊕ Nat) = .inl v0) := by
                rcases hq3.2 with g | g | g
                · exact Or.inl g
                · exact Or.inr (Or.inl g)
                · exact Or.inr (Or.inr ⟨g.1, g.2, ov, rfl⟩)
              obtain ⟨ar, hrun⟩ := z_runA (slots := ss) (cells := cs) (e := e) (below := below) (meth := meth) hC hok hx hb hml hown hts hfx hx0 hw hS hv hR' ⟨by omega, by omega⟩ hlz hsv hc1 hc3 hc4 hc5 e2 ⟨ov, rfl⟩ ho3 hq3.1
              refine z_after hrun hS (fun v st0 t locs1 h0 hal hQ hF => ?_) (fun E q ce st0 t locs1 h0 hal hX hF hce hcv hcl => ?_)
              · obtain ⟨⟨v', ad2, ho, hoc, hext, hw2, hv2, hle, hvv⟩, hF'⟩ := hQ
                cases ho
                have hv9 : v = ov.map (z_cv ad2) := by injection hoc
                subst hv9
                have estk : (ov.map (z_cv ad2)).toList ++ (st.drop (z_nn k b)).map (z_cv ad) = (ov.toList ++ st.drop (z_nn k b)).map (z_cv ad2) := by
                  rw [List.map_append, z_map_ext hext hrv]
                  cases ov <;> rfl
                rw [estk]
                refine ih (d' + 1) y (pc + 3) lv (ov.toList ++ st.drop (z_nn k b)) h3 (cs + dc) (ss + ds) o h2 c2 s2 er hno p e R s m args below meth c t.heap locs1 ls ad2 ad1 n0 Q hx hb hml hown hts hnm htab hfx hR hc2 hs2 (hx0.tr hext (Nat.zero_le _)) (hx1.tr hext hn0) (Nat.le_trans hn0 hle) hw2 (hF hF') hv2 (fun q hq' => (hlv q hq').le hle) (fun u hu => ?_) (by rw [z_lvm_ext hext hlv]; exact hl) K1
                rcases List.mem_append.mp hu with hu | hu
                · cases ov with
                  | none => cases hu
                  | some w =>
                    rw [Option.toList_some, List.mem_singleton] at hu
                    subst hu
                    exact hvv _ rfl
                · exact (hrv u hu).le hle
              · obtain ⟨e', ad2, ho, -⟩ := hX
                cases ho
            · rename_i ex h3 dc ds e2
              split at er
              · cases er
              · rw [hnh y] at er
                cases er
                obtain ⟨v0, hv0⟩ := hno
                cases hv0
          · cases er
end
section
/-! THE TABLES of this claim's class, law and reference, by program out of what is printed of them: statics, fields, methods, words. -/
def z_nth {α : Type} : List α → Nat → α → α
  | [], _, d => d
  | a :: _, 0, _ => a
  | _ :: l, n + 1, d => z_nth l n d
def z_g2 {α : Type} (l : List (List α)) (d : α) (y : Nat) : α := z_nth (z_nth l (y / 16) []) (y % 16) d
def za_S0 : List zC := [(101, [.int 97, .int 99, .int 97, .int 98, .int 97, .int 97, .int 98, .int 97, .int 99, .int 99, .int 97, .int 98, .int 97, .int 98]),
  (50, [.ref 1000000, .int 0]),
  (101, [.int 97, .int 98, .int 97, .int 99, .int 97, .int 98]),
  (50, [.ref 1000002, .int 0])]
def za_sf : List zF := [("java/lang/String", "COMPACT_STRINGS", "Z", .int 1),
  ("jdk/internal/util/Preconditions", "SIOOBE_FORMATTER", "Ljava/util/function/BiFunction;", .ref 2000000)]
def za_ss : List zS := [("LyndonBench", 55, "acabaabaccabab", 1000001),
  ("LyndonBench", 61, "abacab", 1000003),
  ("LyndonBench", 102, "there are 2 to 9 letters", 3000002),
  ("LyndonBench", 110, "a letter is still used", 3000003),
  ("LyndonBench", 123, "a text has at most 120 letters", 3000004),
  ("LyndonBench", 154, "the text is empty", 3000005),
  ("LyndonBench", 159, "the greatest length is 1 to 120", 3000006),
  ("LyndonBench", 164, "there is no next Lyndon word", 3000007),
  ("LyndonBench", 181, "the factor can't be kept", 3000008),
  ("LyndonBench", 186, "the text can't be kept", 3000009),
  ("LyndonBench", 194, "there is no such kept word", 3000010),
  ("LyndonBench", 203, "the kept words can't be joined", 3000011),
  ("LyndonBench", 295, "this is not one of the letters", 3000012),
  ("LyndonBench", 297, "the text has not so many letters", 3000013),
  ("LyndonBench", 299, "the text has no such part", 3000014),
  ("LyndonBench", 306, "there is no such factor", 3000015)]
def za_num : List Value := [.long 10, .long 2000, .long 31, .long 37]
def za_T0 : u_T := fun k => match k with
  | 0 => ("LyndonBench", "now", "LLyndonBench$State;", true)
  | 1 => ("LyndonBench", "history", "LLyndonBench$History;", true)
  | 2 => ("LyndonBench", "snapshot", "LLyndonBench$State;", true)
  | 3 => ("LyndonBench", "snapshotSaved", "Z", false)
  | 4 => ("LyndonBench", "script", "LLyndonBench$Script;", true)
  | 5 => ("LyndonBench", "report", "LLyndonBench$Word;", true)
  | _ => ("LyndonBench", "trial", "LLyndonBench$Word;", true)
def za_T1 : u_T := fun k => match k with
  | 0 => ("LyndonBench$History", "states", "[LLyndonBench$State;", true)
  | _ => ("LyndonBench$History", "count", "I", false)
def za_T2 : u_T := fun k => match k with
  | 0 => ("LyndonBench$Script", "source", "LLyndonBench$Word;", true)
  | 1 => ("LyndonBench$Script", "state", "LLyndonBench$State;", true)
  | 2 => ("LyndonBench$Script", "errorKind", "I", false)
  | 3 => ("LyndonBench$Script", "errorOffset", "I", false)
  | 4 => ("LyndonBench$Script", "token", "I", false)
  | 5 => ("LyndonBench$Script", "tokenStart", "I", false)
  | 6 => ("LyndonBench$Script", "position", "I", false)
  | 7 => ("LyndonBench$Script", "number", "I", false)
  | 8 => ("LyndonBench$Script", "executed", "I", false)
  | 9 => ("LyndonBench$Script", "nesting", "I", false)
  | 10 => ("LyndonBench$Script", "bodies", "[I", true)
  | _ => ("LyndonBench$Script", "rounds", "[I", true)
def za_T3 : u_T := fun k => match k with
  | 0 => ("LyndonBench$State", "letterCount", "I", false)
  | 1 => ("LyndonBench$State", "text", "LLyndonBench$Word;", true)
  | 2 => ("LyndonBench$State", "shelf", "[LLyndonBench$Word;", true)
  | _ => ("LyndonBench$State", "keptWords", "I", false)
def za_T4 : u_T := fun k => match k with
  | 0 => ("LyndonBench$Word", "row", "[B", true)
  | _ => ("LyndonBench$Word", "size", "I", false)
def za_U0 : u_T := fun k => match k with
  | 0 => ("java/lang/String", "value", "[B", true)
  | _ => ("java/lang/String", "coder", "B", true)
def za_cl : List vw_C := [("LyndonBench", za_T0, 7), ("LyndonBench$History", za_T1, 2), ("LyndonBench$Script", za_T2, 12), ("LyndonBench$State", za_T3, 4), ("LyndonBench$Word", za_T4, 2)]
def za_scl : List vw_C := [("java/lang/String", za_U0, 2)]
def za_tf : List FieldType := [.int, .byte, .object "LyndonBench$Word", .object "LyndonBench$State", .object "LyndonBench$Word", .object "LyndonBench$State"]
def za_fts : List (List FieldType) := [[.object "LyndonBench$State", .object "LyndonBench$History", .object "LyndonBench$State", .boolean, .object "LyndonBench$Script", .object "LyndonBench$Word", .object "LyndonBench$Word"], [.array (.object "LyndonBench$State"), .int], [.object "LyndonBench$Word", .object "LyndonBench$State", .int, .int, .int, .int, .int, .int, .int, .int, .array (.int), .array (.int)], [.int, .object "LyndonBench$Word", .array (.object "LyndonBench$Word"), .int], [.array (.byte), .int]]
def za_fty (a b : Nat) : FieldType := z_nth (z_nth za_fts a []) b .int
def za_frs : List (List Value) := [[.null, .null, .null, .int 0, .null, .null, .null], [.null, .int 0], [.null, .null, .int 0, .int 0, .int 0, .int 0, .int 0, .int 0, .int 0, .int 0, .null, .null], [.int 0, .null, .null, .int 0], [.null, .int 0]]
def za_fresh (a : Nat) : List Value := z_nth za_frs a []
def za_elem (t : Nat) : Nat := cond (Nat.beq t 104) 4 3
/-- the tables; xs: the script, the last of the cells that nobody writes -/
def za_T (xs : List Int32) : zT := (za_S0 ++ [(100, xs.map Value.int)], za_sf, za_ss, za_num, za_fty, za_fresh, za_elem)
/-- LyndonBench$History.<init>()V -/
abbrev zc_0 : List zE := [(0, .aload_n 0, 1, 0, 0), (1, .invokespecial 3, 3, 9999, 0), (4, .aload_n 0, 1, 0, 0), (5, .bipush 8, 2, 0, 0), (7, .anewarray 9, 3, 103, 0), (10, .putfield 11, 3, 1, 0), (13, .aload_n 0, 1, 0, 0), (14, .iconst 0, 1, 0, 0), (15, .putfield 17, 3, 1, 1), (18, .iconst 0, 1, 0, 0), (19, .istore_n 1, 1, 0, 0), (20, .iload_n 1, 1, 0, 0), (21, .aload_n 0, 1, 0, 0), (22, .getfield 11, 3, 1, 0), (25, .arraylength, 1, 0, 0), (26, .if_icmp .ge 22, 3, 48, 0), (29, .aload_n 0, 1, 0, 0), (30, .getfield 11, 3, 1, 0), (33, .iload_n 1, 1, 0, 0), (34, .new 9, 3, 3, 4), (37, .dup, 1, 0, 0), (38, .invokespecial 21, 3, 5, 0), (41, .aastore, 1, 0, 0), (42, .iinc 1 1, 3, 0, 0), (45, .goto (-25), 3, 20, 0), (48, .return_, 1, 0, 0)]
/-- LyndonBench$History.remember(LLyndonBench$State;)V -/
abbrev zc_1 : List zE := [(0, .aload_n 0, 1, 0, 0), (1, .getfield 17, 3, 1, 1), (4, .aload_n 0, 1, 0, 0), (5, .getfield 11, 3, 1, 0), (8, .arraylength, 1, 0, 0), (9, .if_icmp .lt 7, 3, 16, 0), (12, .aload_n 0, 1, 0, 0), (13, .invokevirtual 22, 3, 2, 0), (16, .aload_n 0, 1, 0, 0), (17, .getfield 17, 3, 1, 1), (20, .ifCond .lt 50, 3, 70, 0), (23, .aload_n 0, 1, 0, 0), (24, .getfield 17, 3, 1, 1), (27, .aload_n 0, 1, 0, 0), (28, .getfield 11, 3, 1, 0), (31, .arraylength, 1, 0, 0), (32, .if_icmp .ge 38, 3, 70, 0), (35, .aload_n 0, 1, 0, 0), (36, .getfield 11, 3, 1, 0), (39, .aload_n 0, 1, 0, 0), (40, .getfield 17, 3, 1, 1), (43, .aaload, 1, 0, 0), (44, .ifnull 26, 3, 70, 0), (47, .aload_n 0, 1, 0, 0), (48, .getfield 11, 3, 1, 0), (51, .aload_n 0, 1, 0, 0), (52, .getfield 17, 3, 1, 1), (55, .aaload, 1, 0, 0), (56, .aload_n 1, 1, 0, 0), (57, .invokevirtual 25, 3, 7, 1), (60, .aload_n 0, 1, 0, 0), (61, .dup, 1, 0, 0), (62, .getfield 17, 3, 1, 1), (65, .iconst 1, 1, 0, 0), (66, .iadd, 1, 0, 0), (67, .putfield 17, 3, 1, 1), (70, .return_, 1, 0, 0)]
abbrev zc_2_0 : List zE := [(0, .aload_n 0, 1, 0, 0), (1, .getfield 11, 3, 1, 0), (4, .arraylength, 1, 0, 0), (5, .ifCond .ne 4, 3, 9, 0), (8, .return_, 1, 0, 0), (9, .aload_n 0, 1, 0, 0), (10, .getfield 11, 3, 1, 0), (13, .iconst 0, 1, 0, 0), (14, .aaload, 1, 0, 0), (15, .astore_n 1, 1, 0, 0), (16, .iconst 1, 1, 0, 0), (17, .istore_n 2, 1, 0, 0), (18, .iload_n 2, 1, 0, 0), (19, .aload_n 0, 1, 0, 0), (20, .getfield 11, 3, 1, 0), (23, .arraylength, 1, 0, 0), (24, .if_icmp .ge 23, 3, 47, 0), (27, .aload_n 0, 1, 0, 0), (28, .getfield 11, 3, 1, 0), (31, .iload_n 2, 1, 0, 0), (32, .iconst 1, 1, 0, 0), (33, .isub, 1, 0, 0), (34, .aload_n 0, 1, 0, 0), (35, .getfield 11, 3, 1, 0), (38, .iload_n 2, 1, 0, 0), (39, .aaload, 1, 0, 0), (40, .aastore, 1, 0, 0), (41, .iinc 2 1, 3, 0, 0), (44, .goto (-26), 3, 18, 0), (47, .aload_n 0, 1, 0, 0), (48, .getfield 11, 3, 1, 0), (51, .aload_n 0, 1, 0, 0), (52, .getfield 11, 3, 1, 0), (55, .arraylength, 1, 0, 0), (56, .iconst 1, 1, 0, 0), (57, .isub, 1, 0, 0), (58, .aload_n 1, 1, 0, 0), (59, .aastore, 1, 0, 0), (60, .aload_n 0, 1, 0, 0), (61, .aload_n 0, 1, 0, 0)]
abbrev zc_2_1 : List zE := [(62, .getfield 11, 3, 1, 0), (65, .arraylength, 1, 0, 0), (66, .iconst 1, 1, 0, 0), (67, .isub, 1, 0, 0), (68, .putfield 17, 3, 1, 1), (71, .return_, 1, 0, 0)]
/-- LyndonBench$History.forgetOldest()V -/
abbrev zc_2 : List zE := zc_2_0 ++ (zc_2_1 ++ ([]))
/-- LyndonBench$History.bringBack(LLyndonBench$State;)Z -/
abbrev zc_3 : List zE := [(0, .aload_n 0, 1, 0, 0), (1, .getfield 17, 3, 1, 1), (4, .iconst 1, 1, 0, 0), (5, .if_icmp .lt 29, 3, 34, 0), (8, .aload_n 0, 1, 0, 0), (9, .getfield 17, 3, 1, 1), (12, .aload_n 0, 1, 0, 0), (13, .getfield 11, 3, 1, 0), (16, .arraylength, 1, 0, 0), (17, .if_icmp .gt 17, 3, 34, 0), (20, .aload_n 0, 1, 0, 0), (21, .getfield 11, 3, 1, 0), (24, .aload_n 0, 1, 0, 0), (25, .getfield 17, 3, 1, 1), (28, .iconst 1, 1, 0, 0), (29, .isub, 1, 0, 0), (30, .aaload, 1, 0, 0), (31, .ifnonnull 5, 3, 36, 0), (34, .iconst 0, 1, 0, 0), (35, .ireturn, 1, 0, 0), (36, .aload_n 0, 1, 0, 0), (37, .dup, 1, 0, 0), (38, .getfield 17, 3, 1, 1), (41, .iconst 1, 1, 0, 0), (42, .isub, 1, 0, 0), (43, .putfield 17, 3, 1, 1), (46, .aload_n 1, 1, 0, 0), (47, .aload_n 0, 1, 0, 0), (48, .getfield 11, 3, 1, 0), (51, .aload_n 0, 1, 0, 0), (52, .getfield 17, 3, 1, 1), (55, .aaload, 1, 0, 0), (56, .invokevirtual 25, 3, 7, 1), (59, .iconst 1, 1, 0, 0), (60, .ireturn, 1, 0, 0)]
abbrev zc_4_0 : List zE := [(0, .aload_n 0, 1, 0, 0), (1, .invokespecial 3, 3, 9999, 0), (4, .aload_n 0, 1, 0, 0), (5, .new 9, 3, 4, 2), (8, .dup, 1, 0, 0), (9, .sipush 600, 3, 0, 0), (12, .invokespecial 11, 3, 19, 1), (15, .putfield 14, 3, 2, 0), (18, .aload_n 0, 1, 0, 0), (19, .new 20, 3, 3, 4), (22, .dup, 1, 0, 0), (23, .invokespecial 22, 3, 5, 0), (26, .putfield 23, 3, 2, 1), (29, .aload_n 0, 1, 0, 0), (30, .iconst 0, 1, 0, 0), (31, .putfield 27, 3, 2, 2), (34, .aload_n 0, 1, 0, 0), (35, .iconst (-1), 1, 0, 0), (36, .putfield 31, 3, 2, 3), (39, .aload_n 0, 1, 0, 0), (40, .iconst 0, 1, 0, 0), (41, .putfield 34, 3, 2, 4), (44, .aload_n 0, 1, 0, 0), (45, .iconst 0, 1, 0, 0), (46, .putfield 37, 3, 2, 5), (49, .aload_n 0, 1, 0, 0), (50, .iconst 0, 1, 0, 0), (51, .putfield 40, 3, 2, 6), (54, .aload_n 0, 1, 0, 0), (55, .iconst 0, 1, 0, 0), (56, .putfield 43, 3, 2, 7), (59, .aload_n 0, 1, 0, 0), (60, .iconst 0, 1, 0, 0), (61, .putfield 46, 3, 2, 8), (64, .aload_n 0, 1, 0, 0), (65, .iconst 0, 1, 0, 0), (66, .putfield 49, 3, 2, 9), (69, .aload_n 0, 1, 0, 0), (70, .iconst 2, 1, 0, 0), (71, .newarray .int, 2, 0, 0)]
abbrev zc_4_1 : List zE := [(73, .putfield 52, 3, 2, 10), (76, .aload_n 0, 1, 0, 0), (77, .iconst 2, 1, 0, 0), (78, .newarray .int, 2, 0, 0), (80, .putfield 56, 3, 2, 11), (83, .return_, 1, 0, 0)]
/-- LyndonBench$Script.<init>()V -/
abbrev zc_4 : List zE := zc_4_0 ++ (zc_4_1 ++ ([]))
/-- LyndonBench$State.<init>()V -/
abbrev zc_5 : List zE := [(0, .aload_n 0, 1, 0, 0), (1, .invokespecial 3, 3, 9999, 0), (4, .aload_n 0, 1, 0, 0), (5, .iconst 2, 1, 0, 0), (6, .putfield 9, 3, 3, 0), (9, .aload_n 0, 1, 0, 0), (10, .new 15, 3, 4, 2), (13, .dup, 1, 0, 0), (14, .bipush 120, 2, 0, 0), (16, .invokespecial 17, 3, 19, 1), (19, .putfield 20, 3, 3, 1), (22, .aload_n 0, 1, 0, 0), (23, .bipush 8, 2, 0, 0), (25, .anewarray 15, 3, 102, 0), (28, .putfield 24, 3, 3, 2), (31, .aload_n 0, 1, 0, 0), (32, .iconst 0, 1, 0, 0), (33, .putfield 28, 3, 3, 3), (36, .iconst 0, 1, 0, 0), (37, .istore_n 1, 1, 0, 0), (38, .iload_n 1, 1, 0, 0), (39, .aload_n 0, 1, 0, 0), (40, .getfield 24, 3, 3, 2), (43, .arraylength, 1, 0, 0), (44, .if_icmp .ge 24, 3, 68, 0), (47, .aload_n 0, 1, 0, 0), (48, .getfield 24, 3, 3, 2), (51, .iload_n 1, 1, 0, 0), (52, .new 15, 3, 4, 2), (55, .dup, 1, 0, 0), (56, .bipush 40, 2, 0, 0), (58, .invokespecial 17, 3, 19, 1), (61, .aastore, 1, 0, 0), (62, .iinc 1 1, 3, 0, 0), (65, .goto (-27), 3, 38, 0), (68, .return_, 1, 0, 0)]
/-- LyndonBench$State.clear(I)V -/
abbrev zc_6 : List zE := [(0, .aload_n 0, 1, 0, 0), (1, .iload_n 1, 1, 0, 0), (2, .putfield 9, 3, 3, 0), (5, .aload_n 0, 1, 0, 0), (6, .getfield 20, 3, 3, 1), (9, .invokevirtual 31, 3, 22, 0), (12, .aload_n 0, 1, 0, 0), (13, .iconst 0, 1, 0, 0), (14, .putfield 28, 3, 3, 3), (17, .return_, 1, 0, 0)]
/-- LyndonBench$State.copyFrom(LLyndonBench$State;)V -/
abbrev zc_7 : List zE := [(0, .aload_n 0, 1, 0, 0), (1, .aload_n 1, 1, 0, 0), (2, .getfield 9, 3, 3, 0), (5, .putfield 9, 3, 3, 0), (8, .aload_n 0, 1, 0, 0), (9, .getfield 20, 3, 3, 1), (12, .aload_n 1, 1, 0, 0), (13, .getfield 20, 3, 3, 1), (16, .invokevirtual 34, 3, 26, 1), (19, .aload_n 0, 1, 0, 0), (20, .iconst 0, 1, 0, 0), (21, .putfield 28, 3, 3, 3), (24, .iconst 0, 1, 0, 0), (25, .istore_n 2, 1, 0, 0), (26, .iload_n 2, 1, 0, 0), (27, .aload_n 1, 1, 0, 0), (28, .getfield 28, 3, 3, 3), (31, .if_icmp .ge 29, 3, 60, 0), (34, .aload_n 1, 1, 0, 0), (35, .iload_n 2, 1, 0, 0), (36, .invokevirtual 38, 3, 11, 1), (39, .astore_n 3, 1, 0, 0), (40, .aload_n 3, 1, 0, 0), (41, .ifnull 13, 3, 54, 0), (44, .aload_n 0, 1, 0, 0), (45, .aload_n 3, 1, 0, 0), (46, .iconst 0, 1, 0, 0), (47, .aload_n 3, 1, 0, 0), (48, .getfield 42, 3, 4, 1), (51, .invokevirtual 45, 3, 13, 3), (54, .iinc 2 1, 3, 0, 0), (57, .goto (-31), 3, 26, 0), (60, .return_, 1, 0, 0)]
/-- LyndonBench$State.isLetter(I)Z -/
abbrev zc_8 : List zE := [(0, .iload_n 1, 1, 0, 0), (1, .bipush 97, 2, 0, 0), (3, .if_icmp .lt 18, 3, 21, 0), (6, .iload_n 1, 1, 0, 0), (7, .bipush 97, 2, 0, 0), (9, .aload_n 0, 1, 0, 0), (10, .getfield 9, 3, 3, 0), (13, .iadd, 1, 0, 0), (14, .if_icmp .ge 7, 3, 21, 0), (17, .iconst 1, 1, 0, 0), (18, .goto 4, 3, 22, 0), (21, .iconst 0, 1, 0, 0), (22, .ireturn, 1, 0, 0)]
/-- LyndonBench$State.greatestLetter()I -/
abbrev zc_9 : List zE := [(0, .bipush 97, 2, 0, 0), (2, .aload_n 0, 1, 0, 0), (3, .getfield 9, 3, 3, 0), (6, .iadd, 1, 0, 0), (7, .iconst 1, 1, 0, 0), (8, .isub, 1, 0, 0), (9, .ireturn, 1, 0, 0)]
/-- LyndonBench$State.fitsLetters(I)Z -/
abbrev zc_10 : List zE := [(0, .iconst 0, 1, 0, 0), (1, .istore_n 2, 1, 0, 0), (2, .iload_n 2, 1, 0, 0), (3, .aload_n 0, 1, 0, 0), (4, .getfield 28, 3, 3, 3), (7, .if_icmp .ge 29, 3, 36, 0), (10, .aload_n 0, 1, 0, 0), (11, .iload_n 2, 1, 0, 0), (12, .invokevirtual 38, 3, 11, 1), (15, .astore_n 3, 1, 0, 0), (16, .aload_n 3, 1, 0, 0), (17, .ifnull 13, 3, 30, 0), (20, .aload_n 3, 1, 0, 0), (21, .iload_n 1, 1, 0, 0), (22, .invokevirtual 49, 3, 31, 1), (25, .ifCond .ne 5, 3, 30, 0), (28, .iconst 0, 1, 0, 0), (29, .ireturn, 1, 0, 0), (30, .iinc 2 1, 3, 0, 0), (33, .goto (-31), 3, 2, 0), (36, .aload_n 0, 1, 0, 0), (37, .getfield 20, 3, 3, 1), (40, .iload_n 1, 1, 0, 0), (41, .invokevirtual 49, 3, 31, 1), (44, .ireturn, 1, 0, 0)]
/-- LyndonBench$State.keptAt(I)LLyndonBench$Word; -/
abbrev zc_11 : List zE := [(0, .iload_n 1, 1, 0, 0), (1, .ifCond .lt 29, 3, 30, 0), (4, .iload_n 1, 1, 0, 0), (5, .aload_n 0, 1, 0, 0), (6, .getfield 28, 3, 3, 3), (9, .if_icmp .ge 21, 3, 30, 0), (12, .iload_n 1, 1, 0, 0), (13, .aload_n 0, 1, 0, 0), (14, .getfield 24, 3, 3, 2), (17, .arraylength, 1, 0, 0), (18, .if_icmp .ge 12, 3, 30, 0), (21, .aload_n 0, 1, 0, 0), (22, .getfield 24, 3, 3, 2), (25, .iload_n 1, 1, 0, 0), (26, .aaload, 1, 0, 0), (27, .goto 4, 3, 31, 0), (30, .aconst_null, 1, 0, 0), (31, .areturn, 1, 0, 0)]
/-- LyndonBench$State.canKeep(I)Z -/
abbrev zc_12 : List zE := [(0, .iload_n 1, 1, 0, 0), (1, .iconst 1, 1, 0, 0), (2, .if_icmp .lt 22, 3, 24, 0), (5, .iload_n 1, 1, 0, 0), (6, .bipush 40, 2, 0, 0), (8, .if_icmp .gt 16, 3, 24, 0), (11, .aload_n 0, 1, 0, 0), (12, .getfield 28, 3, 3, 3), (15, .bipush 8, 2, 0, 0), (17, .if_icmp .ge 7, 3, 24, 0), (20, .iconst 1, 1, 0, 0), (21, .goto 4, 3, 25, 0), (24, .iconst 0, 1, 0, 0), (25, .ireturn, 1, 0, 0)]
/-- LyndonBench$State.keep(LLyndonBench$Word;II)V -/
abbrev zc_13 : List zE := [(0, .aload_n 0, 1, 0, 0), (1, .getfield 28, 3, 3, 3), (4, .ifCond .lt 15, 3, 19, 0), (7, .aload_n 0, 1, 0, 0), (8, .getfield 28, 3, 3, 3), (11, .aload_n 0, 1, 0, 0), (12, .getfield 24, 3, 3, 2), (15, .arraylength, 1, 0, 0), (16, .if_icmp .lt 4, 3, 20, 0), (19, .return_, 1, 0, 0), (20, .aload_n 0, 1, 0, 0), (21, .getfield 24, 3, 3, 2), (24, .aload_n 0, 1, 0, 0), (25, .getfield 28, 3, 3, 3), (28, .aaload, 1, 0, 0), (29, .astore 4, 2, 0, 0), (31, .aload 4, 2, 0, 0), (33, .ifnull 26, 3, 59, 0), (36, .aload 4, 2, 0, 0), (38, .invokevirtual 31, 3, 22, 0), (41, .aload 4, 2, 0, 0), (43, .aload_n 1, 1, 0, 0), (44, .iload_n 2, 1, 0, 0), (45, .iload_n 3, 1, 0, 0), (46, .invokevirtual 53, 3, 25, 3), (49, .aload_n 0, 1, 0, 0), (50, .dup, 1, 0, 0), (51, .getfield 28, 3, 3, 3), (54, .iconst 1, 1, 0, 0), (55, .iadd, 1, 0, 0), (56, .putfield 28, 3, 3, 3), (59, .return_, 1, 0, 0)]
/-- LyndonBench$State.takeFromShelf(I)V -/
abbrev zc_14 : List zE := [(0, .iload_n 1, 1, 0, 0), (1, .istore_n 2, 1, 0, 0), (2, .iload_n 2, 1, 0, 0), (3, .aload_n 0, 1, 0, 0), (4, .getfield 28, 3, 3, 3), (7, .iconst 1, 1, 0, 0), (8, .isub, 1, 0, 0), (9, .if_icmp .ge 39, 3, 48, 0), (12, .aload_n 0, 1, 0, 0), (13, .iload_n 2, 1, 0, 0), (14, .invokevirtual 38, 3, 11, 1), (17, .astore_n 3, 1, 0, 0), (18, .aload_n 0, 1, 0, 0), (19, .iload_n 2, 1, 0, 0), (20, .iconst 1, 1, 0, 0), (21, .iadd, 1, 0, 0), (22, .invokevirtual 38, 3, 11, 1), (25, .astore 4, 2, 0, 0), (27, .aload_n 3, 1, 0, 0), (28, .ifnull 14, 3, 42, 0), (31, .aload 4, 2, 0, 0), (33, .ifnull 9, 3, 42, 0), (36, .aload_n 3, 1, 0, 0), (37, .aload 4, 2, 0, 0), (39, .invokevirtual 34, 3, 26, 1), (42, .iinc 2 1, 3, 0, 0), (45, .goto (-43), 3, 2, 0), (48, .iload_n 1, 1, 0, 0), (49, .ifCond .lt 21, 3, 70, 0), (52, .iload_n 1, 1, 0, 0), (53, .aload_n 0, 1, 0, 0), (54, .getfield 28, 3, 3, 3), (57, .if_icmp .ge 13, 3, 70, 0), (60, .aload_n 0, 1, 0, 0), (61, .dup, 1, 0, 0), (62, .getfield 28, 3, 3, 3), (65, .iconst 1, 1, 0, 0), (66, .isub, 1, 0, 0), (67, .putfield 28, 3, 3, 3), (70, .return_, 1, 0, 0)]
abbrev zc_15_0 : List zE := [(0, .iconst (-1), 1, 0, 0), (1, .istore_n 2, 1, 0, 0), (2, .aconst_null, 1, 0, 0), (3, .astore_n 3, 1, 0, 0), (4, .iconst 0, 1, 0, 0), (5, .istore 4, 2, 0, 0), (7, .iload 4, 2, 0, 0), (9, .aload_n 0, 1, 0, 0), (10, .getfield 28, 3, 3, 3), (13, .if_icmp .ge 65, 3, 78, 0), (16, .iload_n 1, 1, 0, 0), (17, .iload 4, 2, 0, 0), (19, .ishr, 1, 0, 0), (20, .iconst 1, 1, 0, 0), (21, .iand, 1, 0, 0), (22, .ifCond .ne 12, 3, 34, 0), (25, .aload_n 0, 1, 0, 0), (26, .iload 4, 2, 0, 0), (28, .invokevirtual 38, 3, 11, 1), (31, .goto 4, 3, 35, 0), (34, .aconst_null, 1, 0, 0), (35, .astore 5, 2, 0, 0), (37, .aload 5, 2, 0, 0), (39, .ifnull 33, 3, 72, 0), (42, .aload_n 3, 1, 0, 0), (43, .ifnull 23, 3, 66, 0), (46, .aload 5, 2, 0, 0), (48, .iconst 0, 1, 0, 0), (49, .aload 5, 2, 0, 0), (51, .getfield 42, 3, 4, 1), (54, .aload_n 3, 1, 0, 0), (55, .iconst 0, 1, 0, 0), (56, .aload_n 3, 1, 0, 0), (57, .getfield 42, 3, 4, 1), (60, .invokevirtual 56, 3, 32, 5), (63, .ifCond .le 9, 3, 72, 0), (66, .iload 4, 2, 0, 0), (68, .istore_n 2, 1, 0, 0), (69, .aload 5, 2, 0, 0), (71, .astore_n 3, 1, 0, 0)]
abbrev zc_15_1 : List zE := [(72, .iinc 4 1, 3, 0, 0), (75, .goto (-68), 3, 7, 0), (78, .iload_n 2, 1, 0, 0), (79, .ireturn, 1, 0, 0)]
/-- LyndonBench$State.greatestOfShelf(I)I -/
abbrev zc_15 : List zE := zc_15_0 ++ (zc_15_1 ++ ([]))
/-- LyndonBench$State.canJoin()Z -/
abbrev zc_16 : List zE := [(0, .iconst 0, 1, 0, 0), (1, .istore_n 1, 1, 0, 0), (2, .iconst 0, 1, 0, 0), (3, .istore_n 2, 1, 0, 0), (4, .iload_n 2, 1, 0, 0), (5, .aload_n 0, 1, 0, 0), (6, .getfield 28, 3, 3, 3), (9, .if_icmp .ge 30, 3, 39, 0), (12, .aload_n 0, 1, 0, 0), (13, .iload_n 2, 1, 0, 0), (14, .invokevirtual 38, 3, 11, 1), (17, .astore_n 3, 1, 0, 0), (18, .iload_n 1, 1, 0, 0), (19, .aload_n 3, 1, 0, 0), (20, .ifnonnull 7, 3, 27, 0), (23, .iconst 0, 1, 0, 0), (24, .goto 7, 3, 31, 0), (27, .aload_n 3, 1, 0, 0), (28, .getfield 42, 3, 4, 1), (31, .iadd, 1, 0, 0), (32, .istore_n 1, 1, 0, 0), (33, .iinc 2 1, 3, 0, 0), (36, .goto (-32), 3, 4, 0), (39, .aload_n 0, 1, 0, 0), (40, .getfield 28, 3, 3, 3), (43, .ifCond .le 13, 3, 56, 0), (46, .iload_n 1, 1, 0, 0), (47, .bipush 120, 2, 0, 0), (49, .if_icmp .gt 7, 3, 56, 0), (52, .iconst 1, 1, 0, 0), (53, .goto 4, 3, 57, 0), (56, .iconst 0, 1, 0, 0), (57, .ireturn, 1, 0, 0)]
/-- LyndonBench$State.joinShelf()V -/
abbrev zc_17 : List zE := [(0, .aload_n 0, 1, 0, 0), (1, .getfield 20, 3, 3, 1), (4, .invokevirtual 31, 3, 22, 0), (7, .iconst 0, 1, 0, 0), (8, .istore_n 1, 1, 0, 0), (9, .iconst 0, 1, 0, 0), (10, .istore_n 2, 1, 0, 0), (11, .iload_n 2, 1, 0, 0), (12, .aload_n 0, 1, 0, 0), (13, .getfield 28, 3, 3, 3), (16, .if_icmp .ge 48, 3, 64, 0), (19, .aload_n 0, 1, 0, 0), (20, .iload_n 1, 1, 0, 0), (21, .invokevirtual 60, 3, 15, 1), (24, .istore_n 3, 1, 0, 0), (25, .aload_n 0, 1, 0, 0), (26, .iload_n 3, 1, 0, 0), (27, .invokevirtual 38, 3, 11, 1), (30, .astore 4, 2, 0, 0), (32, .aload 4, 2, 0, 0), (34, .ifnull 24, 3, 58, 0), (37, .aload_n 0, 1, 0, 0), (38, .getfield 20, 3, 3, 1), (41, .aload 4, 2, 0, 0), (43, .iconst 0, 1, 0, 0), (44, .aload 4, 2, 0, 0), (46, .getfield 42, 3, 4, 1), (49, .invokevirtual 53, 3, 25, 3), (52, .iload_n 1, 1, 0, 0), (53, .iconst 1, 1, 0, 0), (54, .iload_n 3, 1, 0, 0), (55, .ishl, 1, 0, 0), (56, .ior, 1, 0, 0), (57, .istore_n 1, 1, 0, 0), (58, .iinc 2 1, 3, 0, 0), (61, .goto (-50), 3, 11, 0), (64, .return_, 1, 0, 0)]
/-- LyndonBench$State.hasNext(I)Z -/
abbrev zc_18 : List zE := [(0, .aload_n 0, 1, 0, 0), (1, .getfield 20, 3, 3, 1), (4, .getfield 42, 3, 4, 1), (7, .iload_n 1, 1, 0, 0), (8, .if_icmp .gt 32, 3, 40, 0), (11, .aload_n 0, 1, 0, 0), (12, .getfield 20, 3, 3, 1), (15, .invokevirtual 64, 3, 36, 0), (18, .ifCond .eq 22, 3, 40, 0), (21, .aload_n 0, 1, 0, 0), (22, .getfield 20, 3, 3, 1), (25, .iconst 0, 1, 0, 0), (26, .invokevirtual 68, 3, 20, 1), (29, .aload_n 0, 1, 0, 0), (30, .invokevirtual 71, 3, 9, 0), (33, .if_icmp .eq 7, 3, 40, 0), (36, .iconst 1, 1, 0, 0), (37, .goto 4, 3, 41, 0), (40, .iconst 0, 1, 0, 0), (41, .ireturn, 1, 0, 0)]
/-- LyndonBench$Word.<init>(I)V -/
abbrev zc_19 : List zE := [(0, .aload_n 0, 1, 0, 0), (1, .invokespecial 3, 3, 9999, 0), (4, .aload_n 0, 1, 0, 0), (5, .iconst 0, 1, 0, 0), (6, .putfield 9, 3, 4, 1), (9, .aload_n 0, 1, 0, 0), (10, .iload_n 1, 1, 0, 0), (11, .iconst 0, 1, 0, 0), (12, .invokestatic 15, 3, 9998, 0), (15, .newarray .byte, 2, 0, 0), (17, .putfield 21, 3, 4, 0), (20, .return_, 1, 0, 0)]
/-- LyndonBench$Word.at(I)I -/
abbrev zc_20 : List zE := [(0, .iload_n 1, 1, 0, 0), (1, .ifCond .lt 33, 3, 34, 0), (4, .iload_n 1, 1, 0, 0), (5, .aload_n 0, 1, 0, 0), (6, .getfield 9, 3, 4, 1), (9, .if_icmp .ge 25, 3, 34, 0), (12, .iload_n 1, 1, 0, 0), (13, .aload_n 0, 1, 0, 0), (14, .getfield 21, 3, 4, 0), (17, .arraylength, 1, 0, 0), (18, .if_icmp .ge 16, 3, 34, 0), (21, .aload_n 0, 1, 0, 0), (22, .getfield 21, 3, 4, 0), (25, .iload_n 1, 1, 0, 0), (26, .baload, 1, 0, 0), (27, .sipush 255, 3, 0, 0), (30, .iand, 1, 0, 0), (31, .goto 4, 3, 35, 0), (34, .iconst (-1), 1, 0, 0), (35, .ireturn, 1, 0, 0)]
/-- LyndonBench$Word.put(II)V -/
abbrev zc_21 : List zE := [(0, .iload_n 1, 1, 0, 0), (1, .ifCond .lt 28, 3, 29, 0), (4, .iload_n 1, 1, 0, 0), (5, .aload_n 0, 1, 0, 0), (6, .getfield 9, 3, 4, 1), (9, .if_icmp .ge 20, 3, 29, 0), (12, .iload_n 1, 1, 0, 0), (13, .aload_n 0, 1, 0, 0), (14, .getfield 21, 3, 4, 0), (17, .arraylength, 1, 0, 0), (18, .if_icmp .ge 11, 3, 29, 0), (21, .aload_n 0, 1, 0, 0), (22, .getfield 21, 3, 4, 0), (25, .iload_n 1, 1, 0, 0), (26, .iload_n 2, 1, 0, 0), (27, .i2b, 1, 0, 0), (28, .bastore, 1, 0, 0), (29, .return_, 1, 0, 0)]
/-- LyndonBench$Word.clear()V -/
abbrev zc_22 : List zE := [(0, .aload_n 0, 1, 0, 0), (1, .iconst 0, 1, 0, 0), (2, .putfield 9, 3, 4, 1), (5, .return_, 1, 0, 0)]
/-- LyndonBench$Word.add(I)V -/
abbrev zc_23 : List zE := [(0, .aload_n 0, 1, 0, 0), (1, .getfield 9, 3, 4, 1), (4, .ifCond .lt 36, 3, 40, 0), (7, .aload_n 0, 1, 0, 0), (8, .getfield 9, 3, 4, 1), (11, .aload_n 0, 1, 0, 0), (12, .getfield 21, 3, 4, 0), (15, .arraylength, 1, 0, 0), (16, .if_icmp .ge 24, 3, 40, 0), (19, .aload_n 0, 1, 0, 0), (20, .getfield 21, 3, 4, 0), (23, .aload_n 0, 1, 0, 0), (24, .getfield 9, 3, 4, 1), (27, .iload_n 1, 1, 0, 0), (28, .i2b, 1, 0, 0), (29, .bastore, 1, 0, 0), (30, .aload_n 0, 1, 0, 0), (31, .dup, 1, 0, 0), (32, .getfield 9, 3, 4, 1), (35, .iconst 1, 1, 0, 0), (36, .iadd, 1, 0, 0), (37, .putfield 9, 3, 4, 1), (40, .return_, 1, 0, 0)]
/-- LyndonBench$Word.addString(Ljava/lang/String;)V -/
abbrev zc_24 : List zE := [(0, .iconst 0, 1, 0, 0), (1, .istore_n 2, 1, 0, 0), (2, .iload_n 2, 1, 0, 0), (3, .aload_n 1, 1, 0, 0), (4, .invokevirtual 29, 3, 78, 0), (7, .if_icmp .ge 18, 3, 25, 0), (10, .aload_n 0, 1, 0, 0), (11, .aload_n 1, 1, 0, 0), (12, .iload_n 2, 1, 0, 0), (13, .invokevirtual 35, 3, 79, 1), (16, .invokevirtual 25, 3, 23, 1), (19, .iinc 2 1, 3, 0, 0), (22, .goto (-20), 3, 2, 0), (25, .return_, 1, 0, 0)]
/-- LyndonBench$Word.addPart(LLyndonBench$Word;II)V -/
abbrev zc_25 : List zE := [(0, .iload_n 2, 1, 0, 0), (1, .istore 4, 2, 0, 0), (3, .iload 4, 2, 0, 0), (5, .iload_n 3, 1, 0, 0), (6, .if_icmp .ge 19, 3, 25, 0), (9, .aload_n 0, 1, 0, 0), (10, .aload_n 1, 1, 0, 0), (11, .iload 4, 2, 0, 0), (13, .invokevirtual 39, 3, 20, 1), (16, .invokevirtual 25, 3, 23, 1), (19, .iinc 4 1, 3, 0, 0), (22, .goto (-19), 3, 3, 0), (25, .return_, 1, 0, 0)]
/-- LyndonBench$Word.copyFrom(LLyndonBench$Word;)V -/
abbrev zc_26 : List zE := [(0, .aload_n 0, 1, 0, 0), (1, .invokevirtual 43, 3, 22, 0), (4, .aload_n 0, 1, 0, 0), (5, .aload_n 1, 1, 0, 0), (6, .iconst 0, 1, 0, 0), (7, .aload_n 1, 1, 0, 0), (8, .getfield 9, 3, 4, 1), (11, .invokevirtual 46, 3, 25, 3), (14, .return_, 1, 0, 0)]
/-- LyndonBench$Word.shortenTo(I)V -/
abbrev zc_27 : List zE := [(0, .iload_n 1, 1, 0, 0), (1, .ifCond .lt 16, 3, 17, 0), (4, .iload_n 1, 1, 0, 0), (5, .aload_n 0, 1, 0, 0), (6, .getfield 9, 3, 4, 1), (9, .if_icmp .ge 8, 3, 17, 0), (12, .aload_n 0, 1, 0, 0), (13, .iload_n 1, 1, 0, 0), (14, .putfield 9, 3, 4, 1), (17, .return_, 1, 0, 0)]
/-- LyndonBench$Word.cutTo(II)V -/
abbrev zc_28 : List zE := [(0, .iload_n 1, 1, 0, 0), (1, .istore_n 3, 1, 0, 0), (2, .iload_n 3, 1, 0, 0), (3, .iload_n 2, 1, 0, 0), (4, .if_icmp .ge 21, 3, 25, 0), (7, .aload_n 0, 1, 0, 0), (8, .iload_n 3, 1, 0, 0), (9, .iload_n 1, 1, 0, 0), (10, .isub, 1, 0, 0), (11, .aload_n 0, 1, 0, 0), (12, .iload_n 3, 1, 0, 0), (13, .invokevirtual 39, 3, 20, 1), (16, .invokevirtual 50, 3, 21, 2), (19, .iinc 3 1, 3, 0, 0), (22, .goto (-20), 3, 2, 0), (25, .aload_n 0, 1, 0, 0), (26, .iload_n 2, 1, 0, 0), (27, .iload_n 1, 1, 0, 0), (28, .isub, 1, 0, 0), (29, .invokevirtual 54, 3, 27, 1), (32, .return_, 1, 0, 0)]
/-- LyndonBench$Word.mirror(II)V -/
abbrev zc_29 : List zE := [(0, .iload_n 1, 1, 0, 0), (1, .istore_n 3, 1, 0, 0), (2, .iload_n 2, 1, 0, 0), (3, .iconst 1, 1, 0, 0), (4, .isub, 1, 0, 0), (5, .istore 4, 2, 0, 0), (7, .iload_n 3, 1, 0, 0), (8, .iload 4, 2, 0, 0), (10, .if_icmp .ge 38, 3, 48, 0), (13, .aload_n 0, 1, 0, 0), (14, .iload_n 3, 1, 0, 0), (15, .invokevirtual 39, 3, 20, 1), (18, .istore 5, 2, 0, 0), (20, .aload_n 0, 1, 0, 0), (21, .iload_n 3, 1, 0, 0), (22, .aload_n 0, 1, 0, 0), (23, .iload 4, 2, 0, 0), (25, .invokevirtual 39, 3, 20, 1), (28, .invokevirtual 50, 3, 21, 2), (31, .aload_n 0, 1, 0, 0), (32, .iload 4, 2, 0, 0), (34, .iload 5, 2, 0, 0), (36, .invokevirtual 50, 3, 21, 2), (39, .iinc 3 1, 3, 0, 0), (42, .iinc 4 (-1), 3, 0, 0), (45, .goto (-38), 3, 7, 0), (48, .return_, 1, 0, 0)]
/-- LyndonBench$Word.turn(I)V -/
abbrev zc_30 : List zE := [(0, .aload_n 0, 1, 0, 0), (1, .iconst 0, 1, 0, 0), (2, .iload_n 1, 1, 0, 0), (3, .invokevirtual 57, 3, 29, 2), (6, .aload_n 0, 1, 0, 0), (7, .iload_n 1, 1, 0, 0), (8, .aload_n 0, 1, 0, 0), (9, .getfield 9, 3, 4, 1), (12, .invokevirtual 57, 3, 29, 2), (15, .aload_n 0, 1, 0, 0), (16, .iconst 0, 1, 0, 0), (17, .aload_n 0, 1, 0, 0), (18, .getfield 9, 3, 4, 1), (21, .invokevirtual 57, 3, 29, 2), (24, .return_, 1, 0, 0)]
/-- LyndonBench$Word.fitsLetters(I)Z -/
abbrev zc_31 : List zE := [(0, .iconst 0, 1, 0, 0), (1, .istore_n 2, 1, 0, 0), (2, .iload_n 2, 1, 0, 0), (3, .aload_n 0, 1, 0, 0), (4, .getfield 9, 3, 4, 1), (7, .if_icmp .ge 23, 3, 30, 0), (10, .aload_n 0, 1, 0, 0), (11, .iload_n 2, 1, 0, 0), (12, .invokevirtual 39, 3, 20, 1), (15, .bipush 97, 2, 0, 0), (17, .iload_n 1, 1, 0, 0), (18, .iadd, 1, 0, 0), (19, .if_icmp .lt 5, 3, 24, 0), (22, .iconst 0, 1, 0, 0), (23, .ireturn, 1, 0, 0), (24, .iinc 2 1, 3, 0, 0), (27, .goto (-25), 3, 2, 0), (30, .iconst 1, 1, 0, 0), (31, .ireturn, 1, 0, 0)]
abbrev zc_32_0 : List zE := [(0, .iload_n 2, 1, 0, 0), (1, .iload_n 1, 1, 0, 0), (2, .isub, 1, 0, 0), (3, .istore 6, 2, 0, 0), (5, .iload 5, 2, 0, 0), (7, .iload 4, 2, 0, 0), (9, .isub, 1, 0, 0), (10, .istore 7, 2, 0, 0), (12, .iconst 0, 1, 0, 0), (13, .istore 8, 2, 0, 0), (15, .iload 8, 2, 0, 0), (17, .iload 6, 2, 0, 0), (19, .if_icmp .ge 57, 3, 76, 0), (22, .iload 8, 2, 0, 0), (24, .iload 7, 2, 0, 0), (26, .if_icmp .ge 50, 3, 76, 0), (29, .aload_n 0, 1, 0, 0), (30, .iload_n 1, 1, 0, 0), (31, .iload 8, 2, 0, 0), (33, .iadd, 1, 0, 0), (34, .invokevirtual 39, 3, 20, 1), (37, .istore 9, 2, 0, 0), (39, .aload_n 3, 1, 0, 0), (40, .iload 4, 2, 0, 0), (42, .iload 8, 2, 0, 0), (44, .iadd, 1, 0, 0), (45, .invokevirtual 39, 3, 20, 1), (48, .istore 10, 2, 0, 0), (50, .iload 9, 2, 0, 0), (52, .iload 10, 2, 0, 0), (54, .if_icmp .eq 16, 3, 70, 0), (57, .iload 9, 2, 0, 0), (59, .iload 10, 2, 0, 0), (61, .if_icmp .ge 7, 3, 68, 0), (64, .iconst (-1), 1, 0, 0), (65, .goto 4, 3, 69, 0), (68, .iconst 1, 1, 0, 0), (69, .ireturn, 1, 0, 0), (70, .iinc 8 1, 3, 0, 0), (73, .goto (-58), 3, 15, 0)]
abbrev zc_32_1 : List zE := [(76, .iload 6, 2, 0, 0), (78, .iload 7, 2, 0, 0), (80, .if_icmp .ne 5, 3, 85, 0), (83, .iconst 0, 1, 0, 0), (84, .ireturn, 1, 0, 0), (85, .iload 6, 2, 0, 0), (87, .iload 7, 2, 0, 0), (89, .if_icmp .ge 7, 3, 96, 0), (92, .iconst (-1), 1, 0, 0), (93, .goto 4, 3, 97, 0), (96, .iconst 1, 1, 0, 0), (97, .ireturn, 1, 0, 0)]
/-- LyndonBench$Word.order(IILLyndonBench$Word;II)I -/
abbrev zc_32 : List zE := zc_32_0 ++ (zc_32_1 ++ ([]))
/-- LyndonBench$Word.lyndonEnd(I)I -/
abbrev zc_33 : List zE := [(0, .iconst 1, 1, 0, 0), (1, .istore_n 2, 1, 0, 0), (2, .iload_n 1, 1, 0, 0), (3, .iconst 1, 1, 0, 0), (4, .iadd, 1, 0, 0), (5, .istore_n 3, 1, 0, 0), (6, .iload_n 3, 1, 0, 0), (7, .aload_n 0, 1, 0, 0), (8, .getfield 9, 3, 4, 1), (11, .if_icmp .ge 45, 3, 56, 0), (14, .aload_n 0, 1, 0, 0), (15, .iload_n 3, 1, 0, 0), (16, .invokevirtual 39, 3, 20, 1), (19, .aload_n 0, 1, 0, 0), (20, .iload_n 3, 1, 0, 0), (21, .iload_n 2, 1, 0, 0), (22, .isub, 1, 0, 0), (23, .invokevirtual 39, 3, 20, 1), (26, .if_icmp .lt 30, 3, 56, 0), (29, .aload_n 0, 1, 0, 0), (30, .iload_n 3, 1, 0, 0), (31, .invokevirtual 39, 3, 20, 1), (34, .aload_n 0, 1, 0, 0), (35, .iload_n 3, 1, 0, 0), (36, .iload_n 2, 1, 0, 0), (37, .isub, 1, 0, 0), (38, .invokevirtual 39, 3, 20, 1), (41, .if_icmp .le 9, 3, 50, 0), (44, .iload_n 3, 1, 0, 0), (45, .iload_n 1, 1, 0, 0), (46, .isub, 1, 0, 0), (47, .iconst 1, 1, 0, 0), (48, .iadd, 1, 0, 0), (49, .istore_n 2, 1, 0, 0), (50, .iinc 3 1, 3, 0, 0), (53, .goto (-47), 3, 6, 0), (56, .iload_n 1, 1, 0, 0), (57, .iload_n 2, 1, 0, 0), (58, .iadd, 1, 0, 0), (59, .ireturn, 1, 0, 0)]
/-- LyndonBench$Word.factorEnd(II)I -/
abbrev zc_34 : List zE := [(0, .iload_n 2, 1, 0, 0), (1, .iload_n 2, 1, 0, 0), (2, .iadd, 1, 0, 0), (3, .iload_n 1, 1, 0, 0), (4, .isub, 1, 0, 0), (5, .istore_n 3, 1, 0, 0), (6, .iload_n 2, 1, 0, 0), (7, .iload_n 1, 1, 0, 0), (8, .if_icmp .le 25, 3, 33, 0), (11, .iload_n 3, 1, 0, 0), (12, .aload_n 0, 1, 0, 0), (13, .getfield 9, 3, 4, 1), (16, .if_icmp .gt 17, 3, 33, 0), (19, .aload_n 0, 1, 0, 0), (20, .iload_n 1, 1, 0, 0), (21, .iload_n 2, 1, 0, 0), (22, .aload_n 0, 1, 0, 0), (23, .iload_n 2, 1, 0, 0), (24, .iload_n 3, 1, 0, 0), (25, .invokevirtual 60, 3, 32, 5), (28, .ifCond .ne 5, 3, 33, 0), (31, .iload_n 3, 1, 0, 0), (32, .ireturn, 1, 0, 0), (33, .aload_n 0, 1, 0, 0), (34, .iload_n 2, 1, 0, 0), (35, .invokevirtual 64, 3, 33, 1), (38, .ireturn, 1, 0, 0)]
/-- LyndonBench$Word.countFactors()I -/
abbrev zc_35 : List zE := [(0, .iconst 0, 1, 0, 0), (1, .istore_n 1, 1, 0, 0), (2, .iconst 0, 1, 0, 0), (3, .istore_n 2, 1, 0, 0), (4, .iconst 0, 1, 0, 0), (5, .istore_n 3, 1, 0, 0), (6, .iconst 0, 1, 0, 0), (7, .istore 4, 2, 0, 0), (9, .iload 4, 2, 0, 0), (11, .aload_n 0, 1, 0, 0), (12, .getfield 9, 3, 4, 1), (15, .if_icmp .ge 33, 3, 48, 0), (18, .iload_n 3, 1, 0, 0), (19, .aload_n 0, 1, 0, 0), (20, .getfield 9, 3, 4, 1), (23, .if_icmp .ge 25, 3, 48, 0), (26, .aload_n 0, 1, 0, 0), (27, .iload_n 2, 1, 0, 0), (28, .iload_n 3, 1, 0, 0), (29, .invokevirtual 67, 3, 34, 2), (32, .istore 5, 2, 0, 0), (34, .iinc 1 1, 3, 0, 0), (37, .iload_n 3, 1, 0, 0), (38, .istore_n 2, 1, 0, 0), (39, .iload 5, 2, 0, 0), (41, .istore_n 3, 1, 0, 0), (42, .iinc 4 1, 3, 0, 0), (45, .goto (-36), 3, 9, 0), (48, .iload_n 1, 1, 0, 0), (49, .ireturn, 1, 0, 0)]
/-- LyndonBench$Word.isOneFactor()Z -/
abbrev zc_36 : List zE := [(0, .aload_n 0, 1, 0, 0), (1, .getfield 9, 3, 4, 1), (4, .ifCond .le 19, 3, 23, 0), (7, .aload_n 0, 1, 0, 0), (8, .iconst 0, 1, 0, 0), (9, .invokevirtual 64, 3, 33, 1), (12, .aload_n 0, 1, 0, 0), (13, .getfield 9, 3, 4, 1), (16, .if_icmp .ne 7, 3, 23, 0), (19, .iconst 1, 1, 0, 0), (20, .goto 4, 3, 24, 0), (23, .iconst 0, 1, 0, 0), (24, .ireturn, 1, 0, 0)]
/-- LyndonBench$Word.beginOfFactor(I)I -/
abbrev zc_37 : List zE := [(0, .iconst 0, 1, 0, 0), (1, .istore_n 2, 1, 0, 0), (2, .iconst 0, 1, 0, 0), (3, .istore_n 3, 1, 0, 0), (4, .iconst 0, 1, 0, 0), (5, .istore 4, 2, 0, 0), (7, .iload 4, 2, 0, 0), (9, .iload_n 1, 1, 0, 0), (10, .if_icmp .ge 30, 3, 40, 0), (13, .iload_n 3, 1, 0, 0), (14, .aload_n 0, 1, 0, 0), (15, .getfield 9, 3, 4, 1), (18, .if_icmp .ge 22, 3, 40, 0), (21, .aload_n 0, 1, 0, 0), (22, .iload_n 2, 1, 0, 0), (23, .iload_n 3, 1, 0, 0), (24, .invokevirtual 67, 3, 34, 2), (27, .istore 5, 2, 0, 0), (29, .iload_n 3, 1, 0, 0), (30, .istore_n 2, 1, 0, 0), (31, .iload 5, 2, 0, 0), (33, .istore_n 3, 1, 0, 0), (34, .iinc 4 1, 3, 0, 0), (37, .goto (-30), 3, 7, 0), (40, .iload_n 1, 1, 0, 0), (41, .ifCond .lt 15, 3, 56, 0), (44, .iload_n 3, 1, 0, 0), (45, .aload_n 0, 1, 0, 0), (46, .getfield 9, 3, 4, 1), (49, .if_icmp .ge 7, 3, 56, 0), (52, .iload_n 3, 1, 0, 0), (53, .goto 4, 3, 57, 0), (56, .iconst (-1), 1, 0, 0), (57, .ireturn, 1, 0, 0)]
/-- LyndonBench$Word.factorWith(I)I -/
abbrev zc_38 : List zE := [(0, .iload_n 1, 1, 0, 0), (1, .ifCond .lt 11, 3, 12, 0), (4, .iload_n 1, 1, 0, 0), (5, .aload_n 0, 1, 0, 0), (6, .getfield 9, 3, 4, 1), (9, .if_icmp .lt 5, 3, 14, 0), (12, .iconst (-1), 1, 0, 0), (13, .ireturn, 1, 0, 0), (14, .iconst (-1), 1, 0, 0), (15, .istore_n 2, 1, 0, 0), (16, .iconst 0, 1, 0, 0), (17, .istore_n 3, 1, 0, 0), (18, .iconst 0, 1, 0, 0), (19, .istore 4, 2, 0, 0), (21, .iconst 0, 1, 0, 0), (22, .istore 5, 2, 0, 0), (24, .iload 5, 2, 0, 0), (26, .aload_n 0, 1, 0, 0), (27, .getfield 9, 3, 4, 1), (30, .if_icmp .ge 34, 3, 64, 0), (33, .iload 4, 2, 0, 0), (35, .iload_n 1, 1, 0, 0), (36, .if_icmp .gt 28, 3, 64, 0), (39, .aload_n 0, 1, 0, 0), (40, .iload_n 3, 1, 0, 0), (41, .iload 4, 2, 0, 0), (43, .invokevirtual 67, 3, 34, 2), (46, .istore 6, 2, 0, 0), (48, .iload 5, 2, 0, 0), (50, .istore_n 2, 1, 0, 0), (51, .iload 4, 2, 0, 0), (53, .istore_n 3, 1, 0, 0), (54, .iload 6, 2, 0, 0), (56, .istore 4, 2, 0, 0), (58, .iinc 5 1, 3, 0, 0), (61, .goto (-37), 3, 24, 0), (64, .iload_n 2, 1, 0, 0), (65, .ireturn, 1, 0, 0)]
/-- LyndonBench$Word.isLyndonPart(II)Z -/
abbrev zc_39 : List zE := [(0, .iload_n 1, 1, 0, 0), (1, .iconst 1, 1, 0, 0), (2, .iadd, 1, 0, 0), (3, .istore_n 3, 1, 0, 0), (4, .iload_n 3, 1, 0, 0), (5, .iload_n 2, 1, 0, 0), (6, .if_icmp .ge 23, 3, 29, 0), (9, .aload_n 0, 1, 0, 0), (10, .iload_n 1, 1, 0, 0), (11, .iload_n 2, 1, 0, 0), (12, .aload_n 0, 1, 0, 0), (13, .iload_n 3, 1, 0, 0), (14, .iload_n 2, 1, 0, 0), (15, .invokevirtual 60, 3, 32, 5), (18, .ifCond .lt 5, 3, 23, 0), (21, .iconst 0, 1, 0, 0), (22, .ireturn, 1, 0, 0), (23, .iinc 3 1, 3, 0, 0), (26, .goto (-22), 3, 4, 0), (29, .iload_n 1, 1, 0, 0), (30, .iload_n 2, 1, 0, 0), (31, .if_icmp .ge 7, 3, 38, 0), (34, .iconst 1, 1, 0, 0), (35, .goto 4, 3, 39, 0), (38, .iconst 0, 1, 0, 0), (39, .ireturn, 1, 0, 0)]
abbrev zc_40_0 : List zE := [(0, .iconst 0, 1, 0, 0), (1, .istore_n 1, 1, 0, 0), (2, .iconst 1, 1, 0, 0), (3, .istore_n 2, 1, 0, 0), (4, .iconst 0, 1, 0, 0), (5, .istore_n 3, 1, 0, 0), (6, .iconst 0, 1, 0, 0), (7, .istore 4, 2, 0, 0), (9, .iload 4, 2, 0, 0), (11, .iconst 4, 1, 0, 0), (12, .aload_n 0, 1, 0, 0), (13, .getfield 9, 3, 4, 1), (16, .imul, 1, 0, 0), (17, .if_icmp .ge 88, 3, 105, 0), (20, .iload_n 2, 1, 0, 0), (21, .aload_n 0, 1, 0, 0), (22, .getfield 9, 3, 4, 1), (25, .if_icmp .ge 80, 3, 105, 0), (28, .iload_n 3, 1, 0, 0), (29, .aload_n 0, 1, 0, 0), (30, .getfield 9, 3, 4, 1), (33, .if_icmp .ge 72, 3, 105, 0), (36, .aload_n 0, 1, 0, 0), (37, .iload_n 1, 1, 0, 0), (38, .iload_n 3, 1, 0, 0), (39, .iadd, 1, 0, 0), (40, .invokevirtual 77, 3, 41, 1), (43, .istore 5, 2, 0, 0), (45, .aload_n 0, 1, 0, 0), (46, .iload_n 2, 1, 0, 0), (47, .iload_n 3, 1, 0, 0), (48, .iadd, 1, 0, 0), (49, .invokevirtual 77, 3, 41, 1), (52, .istore 6, 2, 0, 0), (54, .iload 5, 2, 0, 0), (56, .iload 6, 2, 0, 0), (58, .if_icmp .ne 9, 3, 67, 0), (61, .iinc 3 1, 3, 0, 0), (64, .goto 35, 3, 99, 0), (67, .iload 5, 2, 0, 0)]
abbrev zc_40_1 : List zE := [(69, .iload 6, 2, 0, 0), (71, .if_icmp .le 20, 3, 91, 0), (74, .iload_n 2, 1, 0, 0), (75, .iload_n 1, 1, 0, 0), (76, .iload_n 3, 1, 0, 0), (77, .iadd, 1, 0, 0), (78, .iconst 1, 1, 0, 0), (79, .iadd, 1, 0, 0), (80, .invokestatic 15, 3, 9998, 0), (83, .istore_n 1, 1, 0, 0), (84, .iload_n 1, 1, 0, 0), (85, .iconst 1, 1, 0, 0), (86, .iadd, 1, 0, 0), (87, .istore_n 2, 1, 0, 0), (88, .goto 9, 3, 97, 0), (91, .iload_n 2, 1, 0, 0), (92, .iload_n 3, 1, 0, 0), (93, .iadd, 1, 0, 0), (94, .iconst 1, 1, 0, 0), (95, .iadd, 1, 0, 0), (96, .istore_n 2, 1, 0, 0), (97, .iconst 0, 1, 0, 0), (98, .istore_n 3, 1, 0, 0), (99, .iinc 4 1, 3, 0, 0), (102, .goto (-93), 3, 9, 0), (105, .iload_n 1, 1, 0, 0), (106, .ireturn, 1, 0, 0)]
/-- LyndonBench$Word.leastTurn()I -/
abbrev zc_40 : List zE := zc_40_0 ++ (zc_40_1 ++ ([]))
/-- LyndonBench$Word.atAround(I)I -/
abbrev zc_41 : List zE := [(0, .aload_n 0, 1, 0, 0), (1, .iload_n 1, 1, 0, 0), (2, .aload_n 0, 1, 0, 0), (3, .getfield 9, 3, 4, 1), (6, .if_icmp .ge 7, 3, 13, 0), (9, .iload_n 1, 1, 0, 0), (10, .goto 9, 3, 19, 0), (13, .iload_n 1, 1, 0, 0), (14, .aload_n 0, 1, 0, 0), (15, .getfield 9, 3, 4, 1), (18, .isub, 1, 0, 0), (19, .invokevirtual 39, 3, 20, 1), (22, .ireturn, 1, 0, 0)]
/-- LyndonBench$Word.extremeEnding(I)I -/
abbrev zc_42 : List zE := [(0, .aload_n 0, 1, 0, 0), (1, .getfield 9, 3, 4, 1), (4, .iconst 1, 1, 0, 0), (5, .isub, 1, 0, 0), (6, .istore_n 2, 1, 0, 0), (7, .aload_n 0, 1, 0, 0), (8, .getfield 9, 3, 4, 1), (11, .iconst 2, 1, 0, 0), (12, .isub, 1, 0, 0), (13, .istore_n 3, 1, 0, 0), (14, .iload_n 3, 1, 0, 0), (15, .ifCond .lt 30, 3, 45, 0), (18, .aload_n 0, 1, 0, 0), (19, .iload_n 3, 1, 0, 0), (20, .aload_n 0, 1, 0, 0), (21, .getfield 9, 3, 4, 1), (24, .aload_n 0, 1, 0, 0), (25, .iload_n 2, 1, 0, 0), (26, .aload_n 0, 1, 0, 0), (27, .getfield 9, 3, 4, 1), (30, .invokevirtual 60, 3, 32, 5), (33, .iload_n 1, 1, 0, 0), (34, .if_icmp .ne 5, 3, 39, 0), (37, .iload_n 3, 1, 0, 0), (38, .istore_n 2, 1, 0, 0), (39, .iinc 3 (-1), 3, 0, 0), (42, .goto (-28), 3, 14, 0), (45, .aload_n 0, 1, 0, 0), (46, .getfield 9, 3, 4, 1), (49, .ifCond .ne 7, 3, 56, 0), (52, .iconst (-1), 1, 0, 0), (53, .goto 4, 3, 57, 0), (56, .iload_n 2, 1, 0, 0), (57, .ireturn, 1, 0, 0)]
abbrev zc_43_0 : List zE := [(0, .aload_n 0, 1, 0, 0), (1, .getfield 9, 3, 4, 1), (4, .istore_n 3, 1, 0, 0), (5, .iload_n 3, 1, 0, 0), (6, .ifCond .ne 4, 3, 10, 0), (9, .return_, 1, 0, 0), (10, .iload_n 3, 1, 0, 0), (11, .istore 4, 2, 0, 0), (13, .iload 4, 2, 0, 0), (15, .iload_n 1, 1, 0, 0), (16, .if_icmp .ge 21, 3, 37, 0), (19, .aload_n 0, 1, 0, 0), (20, .aload_n 0, 1, 0, 0), (21, .iload 4, 2, 0, 0), (23, .iload_n 3, 1, 0, 0), (24, .isub, 1, 0, 0), (25, .invokevirtual 39, 3, 20, 1), (28, .invokevirtual 25, 3, 23, 1), (31, .iinc 4 1, 3, 0, 0), (34, .goto (-21), 3, 13, 0), (37, .aload_n 0, 1, 0, 0), (38, .getfield 9, 3, 4, 1), (41, .iconst 1, 1, 0, 0), (42, .isub, 1, 0, 0), (43, .istore 4, 2, 0, 0), (45, .iconst 0, 1, 0, 0), (46, .istore 5, 2, 0, 0), (48, .iload 5, 2, 0, 0), (50, .iload_n 1, 1, 0, 0), (51, .if_icmp .ge 22, 3, 73, 0), (54, .aload_n 0, 1, 0, 0), (55, .iload 4, 2, 0, 0), (57, .invokevirtual 39, 3, 20, 1), (60, .iload_n 2, 1, 0, 0), (61, .if_icmp .ne 12, 3, 73, 0), (64, .iinc 4 (-1), 3, 0, 0), (67, .iinc 5 1, 3, 0, 0), (70, .goto (-22), 3, 48, 0), (73, .aload_n 0, 1, 0, 0), (74, .iload 4, 2, 0, 0)]
abbrev zc_43_1 : List zE := [(76, .iconst 1, 1, 0, 0), (77, .iadd, 1, 0, 0), (78, .invokevirtual 54, 3, 27, 1), (81, .aload_n 0, 1, 0, 0), (82, .iload 4, 2, 0, 0), (84, .aload_n 0, 1, 0, 0), (85, .iload 4, 2, 0, 0), (87, .invokevirtual 39, 3, 20, 1), (90, .iconst 1, 1, 0, 0), (91, .iadd, 1, 0, 0), (92, .invokevirtual 50, 3, 21, 2), (95, .return_, 1, 0, 0)]
/-- LyndonBench$Word.stepLyndon(II)V -/
abbrev zc_43 : List zE := zc_43_0 ++ (zc_43_1 ++ ([]))
abbrev zc_44_0 : List zE := [(0, .aload_n 0, 1, 0, 0), (1, .invokespecial 3, 3, 9999, 0), (4, .aload_n 0, 1, 0, 0), (5, .new 9, 3, 3, 4), (8, .dup, 1, 0, 0), (9, .invokespecial 11, 3, 5, 0), (12, .putfield 12, 3, 0, 0), (15, .aload_n 0, 1, 0, 0), (16, .new 16, 3, 1, 2), (19, .dup, 1, 0, 0), (20, .invokespecial 18, 3, 0, 0), (23, .putfield 19, 3, 0, 1), (26, .aload_n 0, 1, 0, 0), (27, .new 9, 3, 3, 4), (30, .dup, 1, 0, 0), (31, .invokespecial 11, 3, 5, 0), (34, .putfield 23, 3, 0, 2), (37, .aload_n 0, 1, 0, 0), (38, .iconst 0, 1, 0, 0), (39, .putfield 26, 3, 0, 3), (42, .aload_n 0, 1, 0, 0), (43, .new 30, 3, 2, 12), (46, .dup, 1, 0, 0), (47, .invokespecial 32, 3, 4, 0), (50, .putfield 33, 3, 0, 4), (53, .aload_n 0, 1, 0, 0), (54, .new 37, 3, 4, 2), (57, .dup, 1, 0, 0), (58, .sipush 240, 3, 0, 0), (61, .invokespecial 39, 3, 19, 1), (64, .putfield 42, 3, 0, 5), (67, .aload_n 0, 1, 0, 0), (68, .new 37, 3, 4, 2), (71, .dup, 1, 0, 0), (72, .bipush 121, 2, 0, 0), (74, .invokespecial 39, 3, 19, 1), (77, .putfield 46, 3, 0, 6), (80, .aload_n 0, 1, 0, 0), (81, .getfield 12, 3, 0, 0), (84, .iconst 3, 1, 0, 0)]
abbrev zc_44_1 : List zE := [(85, .invokevirtual 49, 3, 6, 1), (88, .aload_n 0, 1, 0, 0), (89, .getfield 12, 3, 0, 0), (92, .getfield 52, 3, 3, 1), (95, .ldc 55, 2, 1, 0), (97, .invokevirtual 57, 3, 24, 1), (100, .aload_n 0, 1, 0, 0), (101, .getfield 46, 3, 0, 6), (104, .ldc 61, 2, 1, 1), (106, .invokevirtual 57, 3, 24, 1), (109, .aload_n 0, 1, 0, 0), (110, .getfield 12, 3, 0, 0), (113, .aload_n 0, 1, 0, 0), (114, .getfield 46, 3, 0, 6), (117, .iconst 0, 1, 0, 0), (118, .iconst 4, 1, 0, 0), (119, .invokevirtual 63, 3, 13, 3), (122, .aload_n 0, 1, 0, 0), (123, .getfield 12, 3, 0, 0), (126, .aload_n 0, 1, 0, 0), (127, .getfield 46, 3, 0, 6), (130, .iconst 4, 1, 0, 0), (131, .bipush 6, 2, 0, 0), (133, .invokevirtual 63, 3, 13, 3), (136, .return_, 1, 0, 0)]
/-- LyndonBench.<init>()V -/
abbrev zc_44 : List zE := zc_44_0 ++ (zc_44_1 ++ ([]))
/-- LyndonBench.setLetters(I)I -/
abbrev zc_45 : List zE := [(0, .iload_n 1, 1, 0, 0), (1, .iconst 2, 1, 0, 0), (2, .if_icmp .lt 9, 3, 11, 0), (5, .iload_n 1, 1, 0, 0), (6, .bipush 9, 2, 0, 0), (8, .if_icmp .le 13, 3, 21, 0), (11, .new 77, 3, 0, 1000), (21, .aload_n 0, 1, 0, 0), (22, .getfield 12, 3, 0, 0), (25, .iload_n 1, 1, 0, 0), (26, .invokevirtual 104, 3, 10, 1), (29, .ifCond .ne 13, 3, 42, 0), (32, .new 108, 3, 1, 1000), (42, .aload_n 0, 1, 0, 0), (43, .getfield 19, 3, 0, 1), (46, .aload_n 0, 1, 0, 0), (47, .getfield 12, 3, 0, 0), (50, .invokevirtual 92, 3, 1, 1), (53, .aload_n 0, 1, 0, 0), (54, .getfield 12, 3, 0, 0), (57, .getfield 113, 3, 3, 0), (60, .istore_n 2, 1, 0, 0), (61, .aload_n 0, 1, 0, 0), (62, .getfield 12, 3, 0, 0), (65, .iload_n 1, 1, 0, 0), (66, .putfield 113, 3, 3, 0), (69, .iload_n 2, 1, 0, 0), (70, .ireturn, 1, 0, 0)]
/-- LyndonBench.appendLetter(I)I -/
abbrev zc_46 : List zE := [(0, .aload_n 0, 1, 0, 0), (1, .iload_n 1, 1, 0, 0), (2, .invokevirtual 128, 3, 73, 1), (5, .aload_n 0, 1, 0, 0), (6, .getfield 12, 3, 0, 0), (9, .getfield 52, 3, 3, 1), (12, .getfield 70, 3, 4, 1), (15, .bipush 120, 2, 0, 0), (17, .if_icmp .lt 13, 3, 30, 0), (20, .new 108, 3, 1, 1000), (30, .aload_n 0, 1, 0, 0), (31, .getfield 19, 3, 0, 1), (34, .aload_n 0, 1, 0, 0), (35, .getfield 12, 3, 0, 0), (38, .invokevirtual 92, 3, 1, 1), (41, .aload_n 0, 1, 0, 0), (42, .getfield 12, 3, 0, 0), (45, .getfield 52, 3, 3, 1), (48, .iload_n 1, 1, 0, 0), (49, .invokevirtual 131, 3, 23, 1), (52, .aload_n 0, 1, 0, 0), (53, .getfield 12, 3, 0, 0), (56, .getfield 52, 3, 3, 1), (59, .invokevirtual 134, 3, 35, 0), (62, .ireturn, 1, 0, 0)]
/-- LyndonBench.dropLast(I)I -/
abbrev zc_47 : List zE := [(0, .aload_n 0, 1, 0, 0), (1, .iload_n 1, 1, 0, 0), (2, .invokevirtual 138, 3, 74, 1), (5, .aload_n 0, 1, 0, 0), (6, .getfield 19, 3, 0, 1), (9, .aload_n 0, 1, 0, 0), (10, .getfield 12, 3, 0, 0), (13, .invokevirtual 92, 3, 1, 1), (16, .aload_n 0, 1, 0, 0), (17, .getfield 12, 3, 0, 0), (20, .getfield 52, 3, 3, 1), (23, .aload_n 0, 1, 0, 0), (24, .getfield 12, 3, 0, 0), (27, .getfield 52, 3, 3, 1), (30, .getfield 70, 3, 4, 1), (33, .iload_n 1, 1, 0, 0), (34, .isub, 1, 0, 0), (35, .invokevirtual 83, 3, 27, 1), (38, .aload_n 0, 1, 0, 0), (39, .getfield 12, 3, 0, 0), (42, .getfield 52, 3, 3, 1), (45, .invokevirtual 134, 3, 35, 0), (48, .ireturn, 1, 0, 0)]
/-- LyndonBench.cutPart(II)I -/
abbrev zc_48 : List zE := [(0, .aload_n 0, 1, 0, 0), (1, .iload_n 1, 1, 0, 0), (2, .iload_n 2, 1, 0, 0), (3, .invokevirtual 141, 3, 75, 2), (6, .aload_n 0, 1, 0, 0), (7, .getfield 19, 3, 0, 1), (10, .aload_n 0, 1, 0, 0), (11, .getfield 12, 3, 0, 0), (14, .invokevirtual 92, 3, 1, 1), (17, .aload_n 0, 1, 0, 0), (18, .getfield 12, 3, 0, 0), (21, .getfield 52, 3, 3, 1), (24, .iload_n 1, 1, 0, 0), (25, .iload_n 2, 1, 0, 0), (26, .invokevirtual 145, 3, 28, 2), (29, .aload_n 0, 1, 0, 0), (30, .getfield 12, 3, 0, 0), (33, .getfield 52, 3, 3, 1), (36, .getfield 70, 3, 4, 1), (39, .ireturn, 1, 0, 0)]
/-- LyndonBench.rotate(I)I -/
abbrev zc_49 : List zE := [(0, .aload_n 0, 1, 0, 0), (1, .iload_n 1, 1, 0, 0), (2, .invokevirtual 138, 3, 74, 1), (5, .aload_n 0, 1, 0, 0), (6, .getfield 19, 3, 0, 1), (9, .aload_n 0, 1, 0, 0), (10, .getfield 12, 3, 0, 0), (13, .invokevirtual 92, 3, 1, 1), (16, .aload_n 0, 1, 0, 0), (17, .getfield 12, 3, 0, 0), (20, .getfield 52, 3, 3, 1), (23, .iload_n 1, 1, 0, 0), (24, .invokevirtual 148, 3, 30, 1), (27, .aload_n 0, 1, 0, 0), (28, .getfield 12, 3, 0, 0), (31, .getfield 52, 3, 3, 1), (34, .invokevirtual 134, 3, 35, 0), (37, .ireturn, 1, 0, 0)]
/-- LyndonBench.reverse()I -/
abbrev zc_50 : List zE := [(0, .aload_n 0, 1, 0, 0), (1, .getfield 19, 3, 0, 1), (4, .aload_n 0, 1, 0, 0), (5, .getfield 12, 3, 0, 0), (8, .invokevirtual 92, 3, 1, 1), (11, .aload_n 0, 1, 0, 0), (12, .getfield 12, 3, 0, 0), (15, .getfield 52, 3, 3, 1), (18, .iconst 0, 1, 0, 0), (19, .aload_n 0, 1, 0, 0), (20, .getfield 12, 3, 0, 0), (23, .getfield 52, 3, 3, 1), (26, .getfield 70, 3, 4, 1), (29, .invokevirtual 151, 3, 29, 2), (32, .aload_n 0, 1, 0, 0), (33, .getfield 12, 3, 0, 0), (36, .getfield 52, 3, 3, 1), (39, .invokevirtual 134, 3, 35, 0), (42, .ireturn, 1, 0, 0)]
/-- LyndonBench.rotateToLeast()I -/
abbrev zc_51 : List zE := [(0, .aload_n 0, 1, 0, 0), (1, .getfield 12, 3, 0, 0), (4, .getfield 52, 3, 3, 1), (7, .getfield 70, 3, 4, 1), (10, .ifCond .ne 13, 3, 23, 0), (13, .new 108, 3, 1, 1000), (23, .aload_n 0, 1, 0, 0), (24, .getfield 19, 3, 0, 1), (27, .aload_n 0, 1, 0, 0), (28, .getfield 12, 3, 0, 0), (31, .invokevirtual 92, 3, 1, 1), (34, .aload_n 0, 1, 0, 0), (35, .getfield 12, 3, 0, 0), (38, .getfield 52, 3, 3, 1), (41, .invokevirtual 156, 3, 40, 0), (44, .istore_n 1, 1, 0, 0), (45, .aload_n 0, 1, 0, 0), (46, .getfield 12, 3, 0, 0), (49, .getfield 52, 3, 3, 1), (52, .iload_n 1, 1, 0, 0), (53, .invokevirtual 148, 3, 30, 1), (56, .iload_n 1, 1, 0, 0), (57, .ireturn, 1, 0, 0)]
/-- LyndonBench.nextLyndon(I)I -/
abbrev zc_52 : List zE := [(0, .iload_n 1, 1, 0, 0), (1, .iconst 1, 1, 0, 0), (2, .if_icmp .lt 9, 3, 11, 0), (5, .iload_n 1, 1, 0, 0), (6, .bipush 120, 2, 0, 0), (8, .if_icmp .le 13, 3, 21, 0), (11, .new 77, 3, 0, 1000), (21, .aload_n 0, 1, 0, 0), (22, .getfield 12, 3, 0, 0), (25, .iload_n 1, 1, 0, 0), (26, .invokevirtual 161, 3, 18, 1), (29, .ifCond .ne 13, 3, 42, 0), (32, .new 108, 3, 1, 1000), (42, .aload_n 0, 1, 0, 0), (43, .getfield 19, 3, 0, 1), (46, .aload_n 0, 1, 0, 0), (47, .getfield 12, 3, 0, 0), (50, .invokevirtual 92, 3, 1, 1), (53, .aload_n 0, 1, 0, 0), (54, .getfield 12, 3, 0, 0), (57, .getfield 52, 3, 3, 1), (60, .iload_n 1, 1, 0, 0), (61, .aload_n 0, 1, 0, 0), (62, .getfield 12, 3, 0, 0), (65, .invokevirtual 166, 3, 9, 0), (68, .invokevirtual 169, 3, 43, 2), (71, .aload_n 0, 1, 0, 0), (72, .getfield 12, 3, 0, 0), (75, .getfield 52, 3, 3, 1), (78, .getfield 70, 3, 4, 1), (81, .ireturn, 1, 0, 0)]
/-- LyndonBench.keepFactor(I)I -/
abbrev zc_53 : List zE := [(0, .aload_n 0, 1, 0, 0), (1, .iload_n 1, 1, 0, 0), (2, .invokevirtual 172, 3, 76, 1), (5, .istore_n 2, 1, 0, 0), (6, .aload_n 0, 1, 0, 0), (7, .getfield 12, 3, 0, 0), (10, .getfield 52, 3, 3, 1), (13, .iload_n 2, 1, 0, 0), (14, .invokevirtual 175, 3, 33, 1), (17, .istore_n 3, 1, 0, 0), (18, .aload_n 0, 1, 0, 0), (19, .getfield 12, 3, 0, 0), (22, .iload_n 3, 1, 0, 0), (23, .iload_n 2, 1, 0, 0), (24, .isub, 1, 0, 0), (25, .invokevirtual 178, 3, 12, 1), (28, .ifCond .ne 13, 3, 41, 0), (31, .new 108, 3, 1, 1000), (41, .aload_n 0, 1, 0, 0), (42, .getfield 19, 3, 0, 1), (45, .aload_n 0, 1, 0, 0), (46, .getfield 12, 3, 0, 0), (49, .invokevirtual 92, 3, 1, 1), (52, .aload_n 0, 1, 0, 0), (53, .getfield 12, 3, 0, 0), (56, .aload_n 0, 1, 0, 0), (57, .getfield 12, 3, 0, 0), (60, .getfield 52, 3, 3, 1), (63, .iload_n 2, 1, 0, 0), (64, .iload_n 3, 1, 0, 0), (65, .invokevirtual 63, 3, 13, 3), (68, .aload_n 0, 1, 0, 0), (69, .getfield 12, 3, 0, 0), (72, .getfield 183, 3, 3, 3), (75, .ireturn, 1, 0, 0)]
/-- LyndonBench.keepText()I -/
abbrev zc_54 : List zE := [(0, .aload_n 0, 1, 0, 0), (1, .getfield 12, 3, 0, 0), (4, .aload_n 0, 1, 0, 0), (5, .getfield 12, 3, 0, 0), (8, .getfield 52, 3, 3, 1), (11, .getfield 70, 3, 4, 1), (14, .invokevirtual 178, 3, 12, 1), (17, .ifCond .ne 13, 3, 30, 0), (20, .new 108, 3, 1, 1000), (30, .aload_n 0, 1, 0, 0), (31, .getfield 19, 3, 0, 1), (34, .aload_n 0, 1, 0, 0), (35, .getfield 12, 3, 0, 0), (38, .invokevirtual 92, 3, 1, 1), (41, .aload_n 0, 1, 0, 0), (42, .getfield 12, 3, 0, 0), (45, .aload_n 0, 1, 0, 0), (46, .getfield 12, 3, 0, 0), (49, .getfield 52, 3, 3, 1), (52, .iconst 0, 1, 0, 0), (53, .aload_n 0, 1, 0, 0), (54, .getfield 12, 3, 0, 0), (57, .getfield 52, 3, 3, 1), (60, .getfield 70, 3, 4, 1), (63, .invokevirtual 63, 3, 13, 3), (66, .aload_n 0, 1, 0, 0), (67, .getfield 12, 3, 0, 0), (70, .getfield 183, 3, 3, 3), (73, .ireturn, 1, 0, 0)]
/-- LyndonBench.removeKept(I)I -/
abbrev zc_55 : List zE := [(0, .aload_n 0, 1, 0, 0), (1, .getfield 12, 3, 0, 0), (4, .iload_n 1, 1, 0, 0), (5, .invokevirtual 188, 3, 11, 1), (8, .ifnonnull 13, 3, 21, 0), (11, .new 192, 3, 2, 1000), (21, .aload_n 0, 1, 0, 0), (22, .getfield 19, 3, 0, 1), (25, .aload_n 0, 1, 0, 0), (26, .getfield 12, 3, 0, 0), (29, .invokevirtual 92, 3, 1, 1), (32, .aload_n 0, 1, 0, 0), (33, .getfield 12, 3, 0, 0), (36, .iload_n 1, 1, 0, 0), (37, .invokevirtual 197, 3, 14, 1), (40, .aload_n 0, 1, 0, 0), (41, .getfield 12, 3, 0, 0), (44, .getfield 183, 3, 3, 3), (47, .ireturn, 1, 0, 0)]
/-- LyndonBench.joinKept()I -/
abbrev zc_56 : List zE := [(0, .aload_n 0, 1, 0, 0), (1, .getfield 12, 3, 0, 0), (4, .invokevirtual 200, 3, 16, 0), (7, .ifCond .ne 13, 3, 20, 0), (10, .new 108, 3, 1, 1000), (20, .aload_n 0, 1, 0, 0), (21, .getfield 19, 3, 0, 1), (24, .aload_n 0, 1, 0, 0), (25, .getfield 12, 3, 0, 0), (28, .invokevirtual 92, 3, 1, 1), (31, .aload_n 0, 1, 0, 0), (32, .getfield 12, 3, 0, 0), (35, .invokevirtual 205, 3, 17, 0), (38, .aload_n 0, 1, 0, 0), (39, .getfield 12, 3, 0, 0), (42, .getfield 52, 3, 3, 1), (45, .getfield 70, 3, 4, 1), (48, .ireturn, 1, 0, 0)]
/-- LyndonBench.undo()I -/
abbrev zc_57 : List zE := [(0, .aload_n 0, 1, 0, 0), (1, .getfield 19, 3, 0, 1), (4, .aload_n 0, 1, 0, 0), (5, .getfield 12, 3, 0, 0), (8, .invokevirtual 208, 3, 3, 1), (11, .ifCond .eq 13, 3, 24, 0), (14, .aload_n 0, 1, 0, 0), (15, .getfield 19, 3, 0, 1), (18, .getfield 212, 3, 1, 1), (21, .goto 4, 3, 25, 0), (24, .iconst (-1), 1, 0, 0), (25, .ireturn, 1, 0, 0)]
/-- LyndonBench.undoCount()I -/
abbrev zc_58 : List zE := [(0, .aload_n 0, 1, 0, 0), (1, .getfield 19, 3, 0, 1), (4, .getfield 212, 3, 1, 1), (7, .ireturn, 1, 0, 0)]
/-- LyndonBench.letters()I -/
abbrev zc_59 : List zE := [(0, .aload_n 0, 1, 0, 0), (1, .getfield 12, 3, 0, 0), (4, .getfield 113, 3, 3, 0), (7, .ireturn, 1, 0, 0)]
/-- LyndonBench.length()I -/
abbrev zc_60 : List zE := [(0, .aload_n 0, 1, 0, 0), (1, .getfield 12, 3, 0, 0), (4, .getfield 52, 3, 3, 1), (7, .getfield 70, 3, 4, 1), (10, .ireturn, 1, 0, 0)]
/-- LyndonBench.letterAt(I)I -/
abbrev zc_61 : List zE := [(0, .aload_n 0, 1, 0, 0), (1, .getfield 12, 3, 0, 0), (4, .getfield 52, 3, 3, 1), (7, .iload_n 1, 1, 0, 0), (8, .invokevirtual 116, 3, 20, 1), (11, .ireturn, 1, 0, 0)]
/-- LyndonBench.factorCount()I -/
abbrev zc_62 : List zE := [(0, .aload_n 0, 1, 0, 0), (1, .getfield 12, 3, 0, 0), (4, .getfield 52, 3, 3, 1), (7, .invokevirtual 134, 3, 35, 0), (10, .ireturn, 1, 0, 0)]
/-- LyndonBench.factorStart(I)I -/
abbrev zc_63 : List zE := [(0, .aload_n 0, 1, 0, 0), (1, .iload_n 1, 1, 0, 0), (2, .invokevirtual 172, 3, 76, 1), (5, .ireturn, 1, 0, 0)]
/-- LyndonBench.factorLength(I)I -/
abbrev zc_64 : List zE := [(0, .aload_n 0, 1, 0, 0), (1, .iload_n 1, 1, 0, 0), (2, .invokevirtual 172, 3, 76, 1), (5, .istore_n 2, 1, 0, 0), (6, .aload_n 0, 1, 0, 0), (7, .getfield 12, 3, 0, 0), (10, .getfield 52, 3, 3, 1), (13, .iload_n 2, 1, 0, 0), (14, .invokevirtual 175, 3, 33, 1), (17, .iload_n 2, 1, 0, 0), (18, .isub, 1, 0, 0), (19, .ireturn, 1, 0, 0)]
/-- LyndonBench.factorOf(I)I -/
abbrev zc_65 : List zE := [(0, .aload_n 0, 1, 0, 0), (1, .getfield 12, 3, 0, 0), (4, .getfield 52, 3, 3, 1), (7, .iload_n 1, 1, 0, 0), (8, .invokevirtual 234, 3, 38, 1), (11, .ireturn, 1, 0, 0)]
/-- LyndonBench.factorsIfAppended(I)I -/
abbrev zc_66 : List zE := [(0, .aload_n 0, 1, 0, 0), (1, .iload_n 1, 1, 0, 0), (2, .invokevirtual 128, 3, 73, 1), (5, .aload_n 0, 1, 0, 0), (6, .getfield 46, 3, 0, 6), (9, .aload_n 0, 1, 0, 0), (10, .getfield 12, 3, 0, 0), (13, .getfield 52, 3, 3, 1), (16, .invokevirtual 240, 3, 26, 1), (19, .aload_n 0, 1, 0, 0), (20, .getfield 46, 3, 0, 6), (23, .iload_n 1, 1, 0, 0), (24, .invokevirtual 131, 3, 23, 1), (27, .aload_n 0, 1, 0, 0), (28, .getfield 46, 3, 0, 6), (31, .invokevirtual 134, 3, 35, 0), (34, .ireturn, 1, 0, 0)]
/-- LyndonBench.isLyndon()Z -/
abbrev zc_67 : List zE := [(0, .aload_n 0, 1, 0, 0), (1, .getfield 12, 3, 0, 0), (4, .getfield 52, 3, 3, 1), (7, .invokevirtual 250, 3, 36, 0), (10, .ireturn, 1, 0, 0)]
/-- LyndonBench.leastSuffix()I -/
abbrev zc_68 : List zE := [(0, .aload_n 0, 1, 0, 0), (1, .getfield 12, 3, 0, 0), (4, .getfield 52, 3, 3, 1), (7, .iconst (-1), 1, 0, 0), (8, .invokevirtual 262, 3, 42, 1), (11, .ireturn, 1, 0, 0)]
/-- LyndonBench.keptCount()I -/
abbrev zc_69 : List zE := [(0, .aload_n 0, 1, 0, 0), (1, .getfield 12, 3, 0, 0), (4, .getfield 183, 3, 3, 3), (7, .ireturn, 1, 0, 0)]
/-- LyndonBench.keptLength(I)I -/
abbrev zc_70 : List zE := [(0, .aload_n 0, 1, 0, 0), (1, .getfield 12, 3, 0, 0), (4, .iload_n 1, 1, 0, 0), (5, .invokevirtual 188, 3, 11, 1), (8, .astore_n 2, 1, 0, 0), (9, .aload_n 2, 1, 0, 0), (10, .ifnonnull 13, 3, 23, 0), (13, .new 192, 3, 2, 1000), (23, .aload_n 2, 1, 0, 0), (24, .getfield 70, 3, 4, 1), (27, .ireturn, 1, 0, 0)]
/-- LyndonBench.keptLetter(II)I -/
abbrev zc_71 : List zE := [(0, .aload_n 0, 1, 0, 0), (1, .getfield 12, 3, 0, 0), (4, .iload_n 1, 1, 0, 0), (5, .invokevirtual 188, 3, 11, 1), (8, .astore_n 3, 1, 0, 0), (9, .aload_n 3, 1, 0, 0), (10, .ifnonnull 13, 3, 23, 0), (13, .new 192, 3, 2, 1000), (23, .aload_n 3, 1, 0, 0), (24, .iload_n 2, 1, 0, 0), (25, .invokevirtual 116, 3, 20, 1), (28, .ireturn, 1, 0, 0)]
abbrev zc_72_0 : List zE := [(0, .aload_n 0, 1, 0, 0), (1, .getfield 12, 3, 0, 0), (4, .getfield 52, 3, 3, 1), (7, .astore_n 1, 1, 0, 0), (8, .iconst 0, 1, 0, 0), (9, .istore_n 2, 1, 0, 0), (10, .iconst 0, 1, 0, 0), (11, .istore_n 3, 1, 0, 0), (12, .iconst 0, 1, 0, 0), (13, .istore 4, 2, 0, 0), (15, .iconst 0, 1, 0, 0), (16, .istore 5, 2, 0, 0), (18, .iload 5, 2, 0, 0), (20, .aload_n 1, 1, 0, 0), (21, .getfield 70, 3, 4, 1), (24, .if_icmp .ge 70, 3, 94, 0), (27, .iload 4, 2, 0, 0), (29, .aload_n 1, 1, 0, 0), (30, .getfield 70, 3, 4, 1), (33, .if_icmp .ge 61, 3, 94, 0), (36, .aload_n 1, 1, 0, 0), (37, .iload 4, 2, 0, 0), (39, .invokevirtual 175, 3, 33, 1), (42, .istore 6, 2, 0, 0), (44, .aload_n 1, 1, 0, 0), (45, .iload 4, 2, 0, 0), (47, .iload 6, 2, 0, 0), (49, .invokevirtual 289, 3, 39, 2), (52, .ifCond .ne 6, 3, 58, 0), (55, .iinc 2 1, 3, 0, 0), (58, .iload 5, 2, 0, 0), (60, .ifCond .le 21, 3, 81, 0), (63, .aload_n 1, 1, 0, 0), (64, .iload 4, 2, 0, 0), (66, .iload 6, 2, 0, 0), (68, .aload_n 1, 1, 0, 0), (69, .iload_n 3, 1, 0, 0), (70, .iload 4, 2, 0, 0), (72, .invokevirtual 226, 3, 32, 5), (75, .ifCond .le 6, 3, 81, 0)]
abbrev zc_72_1 : List zE := [(78, .iinc 2 1, 3, 0, 0), (81, .iload 4, 2, 0, 0), (83, .istore_n 3, 1, 0, 0), (84, .iload 6, 2, 0, 0), (86, .istore 4, 2, 0, 0), (88, .iinc 5 1, 3, 0, 0), (91, .goto (-73), 3, 18, 0), (94, .iload 4, 2, 0, 0), (96, .aload_n 1, 1, 0, 0), (97, .getfield 70, 3, 4, 1), (100, .if_icmp .eq 6, 3, 106, 0), (103, .iinc 2 1, 3, 0, 0), (106, .aload_n 1, 1, 0, 0), (107, .getfield 70, 3, 4, 1), (110, .ifCond .le 15, 3, 125, 0), (113, .iload_n 3, 1, 0, 0), (114, .aload_n 1, 1, 0, 0), (115, .iconst (-1), 1, 0, 0), (116, .invokevirtual 262, 3, 42, 1), (119, .if_icmp .eq 6, 3, 125, 0), (122, .iinc 2 1, 3, 0, 0), (125, .iload_n 2, 1, 0, 0), (126, .ireturn, 1, 0, 0)]
/-- LyndonBench.violations()I -/
abbrev zc_72 : List zE := zc_72_0 ++ (zc_72_1 ++ ([]))
/-- LyndonBench.checkLetter(I)V -/
abbrev zc_73 : List zE := [(0, .aload_n 0, 1, 0, 0), (1, .getfield 12, 3, 0, 0), (4, .iload_n 1, 1, 0, 0), (5, .invokevirtual 120, 3, 8, 1), (8, .ifCond .ne 14, 3, 22, 0), (11, .new 77, 3, 0, 1000), (22, .return_, 1, 0, 0)]
/-- LyndonBench.checkCount(I)V -/
abbrev zc_74 : List zE := [(0, .iload_n 1, 1, 0, 0), (1, .ifCond .lt 17, 3, 18, 0), (4, .iload_n 1, 1, 0, 0), (5, .aload_n 0, 1, 0, 0), (6, .getfield 12, 3, 0, 0), (9, .getfield 52, 3, 3, 1), (12, .getfield 70, 3, 4, 1), (15, .if_icmp .le 14, 3, 29, 0), (18, .new 77, 3, 0, 1000), (29, .return_, 1, 0, 0)]
/-- LyndonBench.checkPart(II)V -/
abbrev zc_75 : List zE := [(0, .iload_n 1, 1, 0, 0), (1, .ifCond .lt 22, 3, 23, 0), (4, .iload_n 2, 1, 0, 0), (5, .iload_n 1, 1, 0, 0), (6, .if_icmp .lt 17, 3, 23, 0), (9, .iload_n 2, 1, 0, 0), (10, .aload_n 0, 1, 0, 0), (11, .getfield 12, 3, 0, 0), (14, .getfield 52, 3, 3, 1), (17, .getfield 70, 3, 4, 1), (20, .if_icmp .le 14, 3, 34, 0), (23, .new 77, 3, 0, 1000), (34, .return_, 1, 0, 0)]
/-- LyndonBench.checkedBegin(I)I -/
abbrev zc_76 : List zE := [(0, .aload_n 0, 1, 0, 0), (1, .getfield 12, 3, 0, 0), (4, .getfield 52, 3, 3, 1), (7, .iload_n 1, 1, 0, 0), (8, .invokevirtual 303, 3, 37, 1), (11, .istore_n 2, 1, 0, 0), (12, .iload_n 2, 1, 0, 0), (13, .iconst (-1), 1, 0, 0), (14, .if_icmp .ne 14, 3, 28, 0), (17, .new 192, 3, 2, 1000), (28, .iload_n 2, 1, 0, 0), (29, .ireturn, 1, 0, 0)]
/-- java/lang/Integer.compare(II)I -/
abbrev zc_77 : List zE := [(0, .iload_n 0, 1, 0, 0), (1, .iload_n 1, 1, 0, 0), (2, .if_icmp .ge 7, 3, 9, 0), (5, .iconst (-1), 1, 0, 0), (6, .goto 13, 3, 19, 0), (9, .iload_n 0, 1, 0, 0), (10, .iload_n 1, 1, 0, 0), (11, .if_icmp .ne 7, 3, 18, 0), (14, .iconst 0, 1, 0, 0), (15, .goto 4, 3, 19, 0), (18, .iconst 1, 1, 0, 0), (19, .ireturn, 1, 0, 0)]
/-- java/lang/String.length()I -/
abbrev zc_78 : List zE := [(0, .aload_n 0, 1, 0, 0), (1, .getfield 9, 3, 50, 0), (4, .arraylength, 1, 0, 0), (5, .aload_n 0, 1, 0, 0), (6, .invokevirtual 335, 3, 80, 0), (9, .ishr, 1, 0, 0), (10, .ireturn, 1, 0, 0)]
/-- java/lang/String.charAt(I)C -/
abbrev zc_79 : List zE := [(0, .aload_n 0, 1, 0, 0), (1, .invokevirtual 492, 3, 81, 0), (4, .ifCond .eq 12, 3, 16, 0), (7, .aload_n 0, 1, 0, 0), (8, .getfield 9, 3, 50, 0), (11, .iload_n 1, 1, 0, 0), (12, .invokestatic 495, 3, 83, 2), (15, .ireturn, 1, 0, 0), (16, .aload_n 0, 1, 0, 0), (17, .getfield 9, 3, 50, 0), (20, .iload_n 1, 1, 0, 0), (24, .ireturn, 1, 0, 0)]
/-- java/lang/String.coder()B -/
abbrev zc_80 : List zE := [(0, .getstatic 38, 3, 0, 0), (3, .ifCond .eq 10, 3, 13, 0), (6, .aload_n 0, 1, 0, 0), (7, .getfield 15, 3, 50, 1), (10, .goto 4, 3, 14, 0), (13, .iconst 1, 1, 0, 0), (14, .ireturn, 1, 0, 0)]
/-- java/lang/String.isLatin1()Z -/
abbrev zc_81 : List zE := [(0, .getstatic 38, 3, 0, 0), (3, .ifCond .eq 14, 3, 17, 0), (6, .aload_n 0, 1, 0, 0), (7, .getfield 15, 3, 50, 1), (10, .ifCond .ne 7, 3, 17, 0), (13, .iconst 1, 1, 0, 0), (14, .goto 4, 3, 18, 0), (17, .iconst 0, 1, 0, 0), (18, .ireturn, 1, 0, 0)]
/-- java/lang/String.checkIndex(II)V -/
abbrev zc_82 : List zE := [(0, .iload_n 0, 1, 0, 0), (1, .iload_n 1, 1, 0, 0), (2, .getstatic 1053, 3, 0, 1), (5, .invokestatic 1059, 3, 84, 3), (8, .pop, 1, 0, 0), (9, .return_, 1, 0, 0)]
/-- java/lang/StringLatin1.charAt([BI)C -/
abbrev zc_83 : List zE := [(0, .iload_n 1, 1, 0, 0), (1, .aload_n 0, 1, 0, 0), (2, .arraylength, 1, 0, 0), (3, .invokestatic 9, 3, 82, 2), (6, .aload_n 0, 1, 0, 0), (7, .iload_n 1, 1, 0, 0), (8, .baload, 1, 0, 0), (9, .sipush 255, 3, 0, 0), (12, .iand, 1, 0, 0), (13, .i2c, 1, 0, 0), (14, .ireturn, 1, 0, 0)]
/-- jdk/internal/util/Preconditions.checkIndex(IILjava/util/function/BiFunction;)I -/
abbrev zc_84 : List zE := [(0, .iload_n 0, 1, 0, 0), (1, .ifCond .lt 8, 3, 9, 0), (4, .iload_n 0, 1, 0, 0), (5, .iload_n 1, 1, 0, 0), (6, .if_icmp .lt 10, 3, 16, 0), (9, .aload_n 2, 1, 0, 0), (10, .iload_n 0, 1, 0, 0), (11, .iload_n 1, 1, 0, 0), (16, .iload_n 0, 1, 0, 0), (17, .ireturn, 1, 0, 0)]
/-- LyndonBenchLaw.cell([II)I -/
abbrev zc_85 : List zE := [(0, .iload_n 1, 1, 0, 0), (1, .aload_n 0, 1, 0, 0), (2, .arraylength, 1, 0, 0), (3, .if_icmp .ge 9, 3, 12, 0), (6, .aload_n 0, 1, 0, 0), (7, .iload_n 1, 1, 0, 0), (8, .iaload, 1, 0, 0), (9, .goto 4, 3, 13, 0), (12, .iconst 0, 1, 0, 0), (13, .ireturn, 1, 0, 0)]
abbrev zc_86_0 : List zE := [(0, .aload_n 0, 1, 0, 0), (1, .invokevirtual 7, 3, 60, 0), (4, .istore_n 2, 1, 0, 0), (5, .iload_n 1, 1, 0, 0), (6, .iconst 4, 1, 0, 0), (7, .iushr, 1, 0, 0), (8, .sipush 1023, 3, 0, 0), (11, .iand, 1, 0, 0), (12, .istore_n 3, 1, 0, 0), (13, .iload_n 1, 1, 0, 0), (14, .bipush 14, 2, 0, 0), (16, .iushr, 1, 0, 0), (17, .sipush 255, 3, 0, 0), (20, .iand, 1, 0, 0), (21, .istore 4, 2, 0, 0), (23, .iload_n 1, 1, 0, 0), (24, .bipush 15, 2, 0, 0), (26, .iand, 1, 0, 0), (27, .tableswitch 389 0 14 #[73, 73, 73, 73, 122, 148, 169, 177, 189, 227, 227, 269, 296, 317, 341], 73, 0, 0), (100, .iconst 0, 1, 0, 0), (101, .istore 5, 2, 0, 0), (103, .iload 5, 2, 0, 0), (105, .iload_n 3, 1, 0, 0), (106, .iconst 5, 1, 0, 0), (107, .irem, 1, 0, 0), (108, .if_icmp .gt 38, 3, 146, 0), (111, .aload_n 0, 1, 0, 0), (112, .invokevirtual 7, 3, 60, 0), (115, .bipush 40, 2, 0, 0), (117, .if_icmp .ge 29, 3, 146, 0), (120, .aload_n 0, 1, 0, 0), (121, .bipush 97, 2, 0, 0), (123, .iload 4, 2, 0, 0), (125, .iload 5, 2, 0, 0), (127, .iload_n 3, 1, 0, 0), (128, .imul, 1, 0, 0), (129, .iadd, 1, 0, 0), (130, .aload_n 0, 1, 0, 0), (131, .invokevirtual 13, 3, 59, 0), (134, .irem, 1, 0, 0)]
abbrev zc_86_1 : List zE := [(135, .iadd, 1, 0, 0), (136, .invokevirtual 16, 3, 46, 1), (139, .pop, 1, 0, 0), (140, .iinc 5 1, 3, 0, 0), (143, .goto (-40), 3, 103, 0), (146, .goto 287, 3, 433, 0), (149, .aload_n 0, 1, 0, 0), (150, .iload_n 2, 1, 0, 0), (151, .ifCond .ne 7, 3, 158, 0), (154, .iconst 0, 1, 0, 0), (155, .goto 13, 3, 168, 0), (158, .iload_n 3, 1, 0, 0), (159, .iload_n 2, 1, 0, 0), (160, .iconst 1, 1, 0, 0), (161, .iadd, 1, 0, 0), (162, .bipush 6, 2, 0, 0), (164, .invokestatic 20, 3, 9997, 0), (167, .irem, 1, 0, 0), (168, .invokevirtual 26, 3, 47, 1), (171, .pop, 1, 0, 0), (172, .goto 261, 3, 433, 0), (175, .aload_n 0, 1, 0, 0), (176, .iload_n 2, 1, 0, 0), (177, .ifCond .ne 7, 3, 184, 0), (180, .iconst 0, 1, 0, 0), (181, .goto 8, 3, 189, 0), (184, .iload_n 3, 1, 0, 0), (185, .iload_n 2, 1, 0, 0), (186, .iconst 1, 1, 0, 0), (187, .iadd, 1, 0, 0), (188, .irem, 1, 0, 0), (189, .invokevirtual 29, 3, 49, 1), (192, .pop, 1, 0, 0), (193, .goto 240, 3, 433, 0), (196, .aload_n 0, 1, 0, 0), (197, .invokevirtual 32, 3, 50, 0), (200, .pop, 1, 0, 0), (201, .goto 232, 3, 433, 0), (204, .iload_n 2, 1, 0, 0), (205, .ifCond .le 228, 3, 433, 0)]
abbrev zc_86_2 : List zE := [(208, .aload_n 0, 1, 0, 0), (209, .invokevirtual 35, 3, 51, 0), (212, .pop, 1, 0, 0), (213, .goto 220, 3, 433, 0), (216, .aload_n 0, 1, 0, 0), (217, .invokevirtual 38, 3, 67, 0), (220, .ifCond .eq 213, 3, 433, 0), (223, .iload_n 2, 1, 0, 0), (224, .iconst 1, 1, 0, 0), (225, .iload_n 3, 1, 0, 0), (226, .bipush 20, 2, 0, 0), (228, .irem, 1, 0, 0), (229, .iadd, 1, 0, 0), (230, .if_icmp .gt 203, 3, 433, 0), (233, .aload_n 0, 1, 0, 0), (234, .invokestatic 42, 3, 88, 1), (237, .ifCond .ne 196, 3, 433, 0), (240, .aload_n 0, 1, 0, 0), (241, .iconst 1, 1, 0, 0), (242, .iload_n 3, 1, 0, 0), (243, .bipush 20, 2, 0, 0), (245, .irem, 1, 0, 0), (246, .iadd, 1, 0, 0), (247, .invokevirtual 48, 3, 52, 1), (250, .pop, 1, 0, 0), (251, .goto 182, 3, 433, 0), (254, .iload_n 2, 1, 0, 0), (255, .ifCond .le 178, 3, 433, 0), (258, .aload_n 0, 1, 0, 0), (259, .invokevirtual 51, 3, 69, 0), (262, .bipush 8, 2, 0, 0), (264, .if_icmp .ge 169, 3, 433, 0), (267, .aload_n 0, 1, 0, 0), (268, .iload_n 3, 1, 0, 0), (269, .aload_n 0, 1, 0, 0), (270, .invokevirtual 54, 3, 62, 0), (273, .irem, 1, 0, 0), (274, .invokevirtual 57, 3, 64, 1), (277, .bipush 40, 2, 0, 0), (279, .if_icmp .gt 154, 3, 433, 0)]
abbrev zc_86_3 : List zE := [(282, .aload_n 0, 1, 0, 0), (283, .iload_n 3, 1, 0, 0), (284, .aload_n 0, 1, 0, 0), (285, .invokevirtual 54, 3, 62, 0), (288, .irem, 1, 0, 0), (289, .invokevirtual 60, 3, 53, 1), (292, .pop, 1, 0, 0), (293, .goto 140, 3, 433, 0), (296, .iload_n 2, 1, 0, 0), (297, .ifCond .le 136, 3, 433, 0), (300, .iload_n 2, 1, 0, 0), (301, .bipush 40, 2, 0, 0), (303, .if_icmp .gt 130, 3, 433, 0), (306, .aload_n 0, 1, 0, 0), (307, .invokevirtual 51, 3, 69, 0), (310, .bipush 8, 2, 0, 0), (312, .if_icmp .ge 121, 3, 433, 0), (315, .aload_n 0, 1, 0, 0), (316, .invokevirtual 63, 3, 54, 0), (319, .pop, 1, 0, 0), (320, .goto 113, 3, 433, 0), (323, .aload_n 0, 1, 0, 0), (324, .invokevirtual 51, 3, 69, 0), (327, .ifCond .le 106, 3, 433, 0), (330, .aload_n 0, 1, 0, 0), (331, .iload_n 3, 1, 0, 0), (332, .aload_n 0, 1, 0, 0), (333, .invokevirtual 51, 3, 69, 0), (336, .irem, 1, 0, 0), (337, .invokevirtual 66, 3, 55, 1), (340, .pop, 1, 0, 0), (341, .goto 92, 3, 433, 0), (344, .aload_n 0, 1, 0, 0), (345, .invokevirtual 51, 3, 69, 0), (348, .ifCond .le 85, 3, 433, 0), (351, .aload_n 0, 1, 0, 0), (352, .invokestatic 69, 3, 87, 1), (355, .bipush 60, 2, 0, 0), (357, .if_icmp .gt 76, 3, 433, 0), (360, .aload_n 0, 1, 0, 0)]
abbrev zc_86_4 : List zE := [(361, .invokevirtual 73, 3, 56, 0), (364, .pop, 1, 0, 0), (365, .goto 68, 3, 433, 0), (368, .iload_n 2, 1, 0, 0), (369, .ifCond .ne 7, 3, 376, 0), (372, .iconst 0, 1, 0, 0), (373, .goto 8, 3, 381, 0), (376, .iload_n 3, 1, 0, 0), (377, .iload_n 2, 1, 0, 0), (378, .iconst 1, 1, 0, 0), (379, .iadd, 1, 0, 0), (380, .irem, 1, 0, 0), (381, .istore 5, 2, 0, 0), (383, .aload_n 0, 1, 0, 0), (384, .iload 5, 2, 0, 0), (386, .iload 5, 2, 0, 0), (388, .iload_n 2, 1, 0, 0), (389, .iload 5, 2, 0, 0), (391, .isub, 1, 0, 0), (392, .ifCond .ne 7, 3, 399, 0), (395, .iconst 0, 1, 0, 0), (396, .goto 12, 3, 408, 0), (399, .iload 4, 2, 0, 0), (401, .iload_n 2, 1, 0, 0), (402, .iload 5, 2, 0, 0), (404, .isub, 1, 0, 0), (405, .iconst 1, 1, 0, 0), (406, .iadd, 1, 0, 0), (407, .irem, 1, 0, 0), (408, .iadd, 1, 0, 0), (409, .invokevirtual 76, 3, 48, 2), (412, .pop, 1, 0, 0), (413, .goto 20, 3, 433, 0), (416, .aload_n 0, 1, 0, 0), (417, .aload_n 0, 1, 0, 0), (418, .invokevirtual 13, 3, 59, 0), (421, .iconst 2, 1, 0, 0), (422, .iload_n 3, 1, 0, 0), (423, .iconst 4, 1, 0, 0), (424, .irem, 1, 0, 0)]
abbrev zc_86_5 : List zE := [(425, .iadd, 1, 0, 0), (426, .invokestatic 79, 3, 9998, 0), (429, .invokevirtual 82, 3, 45, 1), (432, .pop, 1, 0, 0), (433, .return_, 1, 0, 0)]
/-- LyndonBenchLaw.deed(LLyndonBench;I)V -/
abbrev zc_86 : List zE := zc_86_0 ++ (zc_86_1 ++ (zc_86_2 ++ (zc_86_3 ++ (zc_86_4 ++ (zc_86_5 ++ ([]))))))
/-- LyndonBenchLaw.shelf(LLyndonBench;)I -/
abbrev zc_87 : List zE := [(0, .iconst 0, 1, 0, 0), (1, .istore_n 1, 1, 0, 0), (2, .iconst 0, 1, 0, 0), (3, .istore_n 2, 1, 0, 0), (4, .iload_n 2, 1, 0, 0), (5, .aload_n 0, 1, 0, 0), (6, .invokevirtual 51, 3, 69, 0), (9, .if_icmp .ge 17, 3, 26, 0), (12, .iload_n 1, 1, 0, 0), (13, .aload_n 0, 1, 0, 0), (14, .iload_n 2, 1, 0, 0), (15, .invokevirtual 85, 3, 70, 1), (18, .iadd, 1, 0, 0), (19, .istore_n 1, 1, 0, 0), (20, .iinc 2 1, 3, 0, 0), (23, .goto (-19), 3, 4, 0), (26, .iload_n 1, 1, 0, 0), (27, .ireturn, 1, 0, 0)]
/-- LyndonBenchLaw.isGreatest(LLyndonBench;)Z -/
abbrev zc_88 : List zE := [(0, .aload_n 0, 1, 0, 0), (1, .invokevirtual 7, 3, 60, 0), (4, .iconst 1, 1, 0, 0), (5, .if_icmp .ne 22, 3, 27, 0), (8, .aload_n 0, 1, 0, 0), (9, .iconst 0, 1, 0, 0), (10, .invokevirtual 88, 3, 61, 1), (13, .bipush 96, 2, 0, 0), (15, .aload_n 0, 1, 0, 0), (16, .invokevirtual 13, 3, 59, 0), (19, .iadd, 1, 0, 0), (20, .if_icmp .ne 7, 3, 27, 0), (23, .iconst 1, 1, 0, 0), (24, .goto 4, 3, 28, 0), (27, .iconst 0, 1, 0, 0), (28, .ireturn, 1, 0, 0)]
/-- LyndonBenchLaw.word(LLyndonBench;)[I -/
abbrev zc_89 : List zE := [(0, .aload_n 0, 1, 0, 0), (1, .invokevirtual 7, 3, 60, 0), (4, .newarray .int, 2, 0, 0), (6, .astore_n 1, 1, 0, 0), (7, .iconst 0, 1, 0, 0), (8, .istore_n 2, 1, 0, 0), (9, .iload_n 2, 1, 0, 0), (10, .aload_n 1, 1, 0, 0), (11, .arraylength, 1, 0, 0), (12, .if_icmp .ge 17, 3, 29, 0), (15, .aload_n 1, 1, 0, 0), (16, .iload_n 2, 1, 0, 0), (17, .aload_n 0, 1, 0, 0), (18, .iload_n 2, 1, 0, 0), (19, .invokevirtual 88, 3, 61, 1), (22, .iastore, 1, 0, 0), (23, .iinc 2 1, 3, 0, 0), (26, .goto (-17), 3, 9, 0), (29, .aload_n 1, 1, 0, 0), (30, .areturn, 1, 0, 0)]
/-- LyndonBenchLaw.order([III[III)I -/
abbrev zc_90 : List zE := [(0, .iconst 0, 1, 0, 0), (1, .istore 6, 2, 0, 0), (3, .iload 6, 2, 0, 0), (5, .iload_n 2, 1, 0, 0), (6, .if_icmp .ge 54, 3, 60, 0), (9, .iload 6, 2, 0, 0), (11, .iload 5, 2, 0, 0), (13, .if_icmp .ge 47, 3, 60, 0), (16, .aload_n 0, 1, 0, 0), (17, .iload_n 1, 1, 0, 0), (18, .iload 6, 2, 0, 0), (20, .iadd, 1, 0, 0), (21, .iaload, 1, 0, 0), (22, .aload_n 3, 1, 0, 0), (23, .iload 4, 2, 0, 0), (25, .iload 6, 2, 0, 0), (27, .iadd, 1, 0, 0), (28, .iaload, 1, 0, 0), (29, .if_icmp .eq 25, 3, 54, 0), (32, .aload_n 0, 1, 0, 0), (33, .iload_n 1, 1, 0, 0), (34, .iload 6, 2, 0, 0), (36, .iadd, 1, 0, 0), (37, .iaload, 1, 0, 0), (38, .aload_n 3, 1, 0, 0), (39, .iload 4, 2, 0, 0), (41, .iload 6, 2, 0, 0), (43, .iadd, 1, 0, 0), (44, .iaload, 1, 0, 0), (45, .if_icmp .ge 7, 3, 52, 0), (48, .iconst (-1), 1, 0, 0), (49, .goto 4, 3, 53, 0), (52, .iconst 1, 1, 0, 0), (53, .ireturn, 1, 0, 0), (54, .iinc 6 1, 3, 0, 0), (57, .goto (-54), 3, 3, 0), (60, .iload_n 2, 1, 0, 0), (61, .iload 5, 2, 0, 0), (63, .invokestatic 91, 3, 77, 2), (66, .ireturn, 1, 0, 0)]
/-- LyndonBenchLaw.isLyndon([III)Z -/
abbrev zc_91 : List zE := [(0, .iconst 1, 1, 0, 0), (1, .istore_n 3, 1, 0, 0), (2, .iload_n 3, 1, 0, 0), (3, .iload_n 2, 1, 0, 0), (4, .if_icmp .ge 27, 3, 31, 0), (7, .aload_n 0, 1, 0, 0), (8, .iload_n 1, 1, 0, 0), (9, .iload_n 2, 1, 0, 0), (10, .aload_n 0, 1, 0, 0), (11, .iload_n 1, 1, 0, 0), (12, .iload_n 3, 1, 0, 0), (13, .iadd, 1, 0, 0), (14, .iload_n 2, 1, 0, 0), (15, .iload_n 3, 1, 0, 0), (16, .isub, 1, 0, 0), (17, .invokestatic 96, 3, 90, 6), (20, .ifCond .lt 5, 3, 25, 0), (23, .iconst 0, 1, 0, 0), (24, .ireturn, 1, 0, 0), (25, .iinc 3 1, 3, 0, 0), (28, .goto (-26), 3, 2, 0), (31, .iload_n 2, 1, 0, 0), (32, .ifCond .le 7, 3, 39, 0), (35, .iconst 1, 1, 0, 0), (36, .goto 4, 3, 40, 0), (39, .iconst 0, 1, 0, 0), (40, .ireturn, 1, 0, 0)]
abbrev zc_92_0 : List zE := [(0, .aload_n 0, 1, 0, 0), (1, .invokestatic 100, 3, 89, 1), (4, .astore_n 1, 1, 0, 0), (5, .aload_n 1, 1, 0, 0), (6, .arraylength, 1, 0, 0), (7, .istore_n 2, 1, 0, 0), (8, .aload_n 0, 1, 0, 0), (9, .invokevirtual 54, 3, 62, 0), (12, .istore_n 3, 1, 0, 0), (13, .iconst 0, 1, 0, 0), (14, .istore 4, 2, 0, 0), (16, .aload_n 0, 1, 0, 0), (17, .invokevirtual 104, 3, 72, 0), (20, .ifCond .ne 48, 3, 68, 0), (23, .iload_n 2, 1, 0, 0), (24, .bipush 120, 2, 0, 0), (26, .if_icmp .gt 42, 3, 68, 0), (29, .iload_n 3, 1, 0, 0), (30, .ifCond .ne 7, 3, 37, 0), (33, .iconst 1, 1, 0, 0), (34, .goto 4, 3, 38, 0), (37, .iconst 0, 1, 0, 0), (38, .iload_n 2, 1, 0, 0), (39, .ifCond .ne 7, 3, 46, 0), (42, .iconst 1, 1, 0, 0), (43, .goto 4, 3, 47, 0), (46, .iconst 0, 1, 0, 0), (47, .if_icmp .ne 21, 3, 68, 0), (50, .aload_n 0, 1, 0, 0), (51, .iload_n 2, 1, 0, 0), (52, .invokevirtual 88, 3, 61, 1), (55, .iconst (-1), 1, 0, 0), (56, .if_icmp .ne 12, 3, 68, 0), (59, .aload_n 0, 1, 0, 0), (60, .iconst (-1), 1, 0, 0), (61, .invokevirtual 88, 3, 61, 1), (64, .iconst (-1), 1, 0, 0), (65, .if_icmp .eq 5, 3, 70, 0), (68, .iconst 0, 1, 0, 0), (69, .ireturn, 1, 0, 0)]
abbrev zc_92_1 : List zE := [(70, .iconst 0, 1, 0, 0), (71, .istore 5, 2, 0, 0), (73, .iload 5, 2, 0, 0), (75, .iload_n 3, 1, 0, 0), (76, .if_icmp .ge 139, 3, 215, 0), (79, .aload_n 0, 1, 0, 0), (80, .iload 5, 2, 0, 0), (82, .invokevirtual 57, 3, 64, 1), (85, .istore 6, 2, 0, 0), (87, .aload_n 0, 1, 0, 0), (88, .iload 5, 2, 0, 0), (90, .invokevirtual 107, 3, 63, 1), (93, .iload 4, 2, 0, 0), (95, .if_icmp .ne 14, 3, 109, 0), (98, .aload_n 1, 1, 0, 0), (99, .iload 4, 2, 0, 0), (101, .iload 6, 2, 0, 0), (103, .invokestatic 110, 3, 91, 3), (106, .ifCond .ne 5, 3, 111, 0), (109, .iconst 0, 1, 0, 0), (110, .ireturn, 1, 0, 0), (111, .iload 5, 2, 0, 0), (113, .ifCond .le 33, 3, 146, 0), (116, .aload_n 1, 1, 0, 0), (117, .iload 4, 2, 0, 0), (119, .iload 6, 2, 0, 0), (121, .aload_n 1, 1, 0, 0), (122, .aload_n 0, 1, 0, 0), (123, .iload 5, 2, 0, 0), (125, .iconst 1, 1, 0, 0), (126, .isub, 1, 0, 0), (127, .invokevirtual 107, 3, 63, 1), (130, .aload_n 0, 1, 0, 0), (131, .iload 5, 2, 0, 0), (133, .iconst 1, 1, 0, 0), (134, .isub, 1, 0, 0), (135, .invokevirtual 57, 3, 64, 1), (138, .invokestatic 96, 3, 90, 6), (141, .ifCond .le 5, 3, 146, 0), (144, .iconst 0, 1, 0, 0)]
abbrev zc_92_2 : List zE := [(145, .ireturn, 1, 0, 0), (146, .iload 4, 2, 0, 0), (148, .istore 7, 2, 0, 0), (150, .iload 7, 2, 0, 0), (152, .iload 4, 2, 0, 0), (154, .iload 6, 2, 0, 0), (156, .iadd, 1, 0, 0), (157, .if_icmp .ge 45, 3, 202, 0), (160, .aload_n 0, 1, 0, 0), (161, .iload 7, 2, 0, 0), (163, .invokevirtual 113, 3, 65, 1), (166, .iload 5, 2, 0, 0), (168, .if_icmp .ne 26, 3, 194, 0), (171, .aload_n 1, 1, 0, 0), (172, .iload 7, 2, 0, 0), (174, .iaload, 1, 0, 0), (175, .bipush 97, 2, 0, 0), (177, .if_icmp .lt 17, 3, 194, 0), (180, .aload_n 1, 1, 0, 0), (181, .iload 7, 2, 0, 0), (183, .iaload, 1, 0, 0), (184, .bipush 97, 2, 0, 0), (186, .aload_n 0, 1, 0, 0), (187, .invokevirtual 13, 3, 59, 0), (190, .iadd, 1, 0, 0), (191, .if_icmp .lt 5, 3, 196, 0), (194, .iconst 0, 1, 0, 0), (195, .ireturn, 1, 0, 0), (196, .iinc 7 1, 3, 0, 0), (199, .goto (-49), 3, 150, 0), (202, .iload 4, 2, 0, 0), (204, .iload 6, 2, 0, 0), (206, .iadd, 1, 0, 0), (207, .istore 4, 2, 0, 0), (209, .iinc 5 1, 3, 0, 0), (212, .goto (-139), 3, 73, 0), (215, .iconst (-1), 1, 0, 0), (216, .istore 5, 2, 0, 0), (218, .iconst 0, 1, 0, 0), (219, .istore 6, 2, 0, 0)]
abbrev zc_92_3 : List zE := [(221, .iconst 0, 1, 0, 0), (222, .istore 7, 2, 0, 0), (224, .iload 7, 2, 0, 0), (226, .iload_n 2, 1, 0, 0), (227, .if_icmp .ge 39, 3, 266, 0), (230, .iload 5, 2, 0, 0), (232, .iconst (-1), 1, 0, 0), (233, .if_icmp .eq 23, 3, 256, 0), (236, .aload_n 1, 1, 0, 0), (237, .iload 7, 2, 0, 0), (239, .iload_n 2, 1, 0, 0), (240, .iload 7, 2, 0, 0), (242, .isub, 1, 0, 0), (243, .aload_n 1, 1, 0, 0), (244, .iload 5, 2, 0, 0), (246, .iload_n 2, 1, 0, 0), (247, .iload 5, 2, 0, 0), (249, .isub, 1, 0, 0), (250, .invokestatic 96, 3, 90, 6), (253, .ifCond .ge 7, 3, 260, 0), (256, .iload 7, 2, 0, 0), (258, .istore 5, 2, 0, 0), (260, .iinc 7 1, 3, 0, 0), (263, .goto (-39), 3, 224, 0), (266, .iconst 0, 1, 0, 0), (267, .istore 7, 2, 0, 0), (269, .iload 7, 2, 0, 0), (271, .aload_n 0, 1, 0, 0), (272, .invokevirtual 51, 3, 69, 0), (275, .if_icmp .ge 50, 3, 325, 0), (278, .iload 6, 2, 0, 0), (280, .aload_n 0, 1, 0, 0), (281, .iload 7, 2, 0, 0), (283, .invokevirtual 85, 3, 70, 1), (286, .invokestatic 79, 3, 9998, 0), (289, .istore 6, 2, 0, 0), (291, .aload_n 0, 1, 0, 0), (292, .iload 7, 2, 0, 0), (294, .invokevirtual 85, 3, 70, 1), (297, .iconst 1, 1, 0, 0)]
abbrev zc_92_4 : List zE := [(298, .if_icmp .lt 19, 3, 317, 0), (301, .aload_n 0, 1, 0, 0), (302, .iload 7, 2, 0, 0), (304, .aload_n 0, 1, 0, 0), (305, .iload 7, 2, 0, 0), (307, .invokevirtual 85, 3, 70, 1), (310, .invokevirtual 116, 3, 71, 2), (313, .iconst (-1), 1, 0, 0), (314, .if_icmp .eq 5, 3, 319, 0), (317, .iconst 0, 1, 0, 0), (318, .ireturn, 1, 0, 0), (319, .iinc 7 1, 3, 0, 0), (322, .goto (-53), 3, 269, 0), (325, .iload 4, 2, 0, 0), (327, .iload_n 2, 1, 0, 0), (328, .if_icmp .ne 57, 3, 385, 0), (331, .aload_n 0, 1, 0, 0), (332, .invokevirtual 119, 3, 68, 0), (335, .iload 5, 2, 0, 0), (337, .if_icmp .ne 48, 3, 385, 0), (340, .iload_n 3, 1, 0, 0), (341, .ifCond .eq 15, 3, 356, 0), (344, .aload_n 0, 1, 0, 0), (345, .iload_n 3, 1, 0, 0), (346, .iconst 1, 1, 0, 0), (347, .isub, 1, 0, 0), (348, .invokevirtual 107, 3, 63, 1), (351, .iload 5, 2, 0, 0), (353, .if_icmp .ne 32, 3, 385, 0), (356, .iload 6, 2, 0, 0), (358, .bipush 40, 2, 0, 0), (360, .if_icmp .gt 25, 3, 385, 0), (363, .aload_n 0, 1, 0, 0), (364, .invokevirtual 51, 3, 69, 0), (367, .bipush 8, 2, 0, 0), (369, .if_icmp .gt 16, 3, 385, 0), (372, .aload_n 0, 1, 0, 0), (373, .iload_n 2, 1, 0, 0), (374, .invokevirtual 113, 3, 65, 1), (377, .iconst (-1), 1, 0, 0)]
abbrev zc_92_5 : List zE := [(378, .if_icmp .ne 7, 3, 385, 0), (381, .iconst 1, 1, 0, 0), (382, .goto 4, 3, 386, 0), (385, .iconst 0, 1, 0, 0), (386, .ireturn, 1, 0, 0)]
/-- LyndonBenchLaw.holds(LLyndonBench;)Z -/
abbrev zc_92 : List zE := zc_92_0 ++ (zc_92_1 ++ (zc_92_2 ++ (zc_92_3 ++ (zc_92_4 ++ (zc_92_5 ++ ([]))))))
abbrev zc_93_0 : List zE := [(0, .aload_n 0, 1, 0, 0), (1, .invokevirtual 13, 3, 59, 0), (4, .i2l, 1, 0, 0), (5, .ldc2_w 122, 3, 0, 0), (8, .aload_n 0, 1, 0, 0), (9, .invokevirtual 7, 3, 60, 0), (12, .i2l, 1, 0, 0), (13, .lmul, 1, 0, 0), (14, .ladd, 1, 0, 0), (15, .ldc2_w 124, 3, 0, 1), (18, .aload_n 0, 1, 0, 0), (19, .invokevirtual 51, 3, 69, 0), (22, .i2l, 1, 0, 0), (23, .lmul, 1, 0, 0), (24, .ladd, 1, 0, 0), (25, .lstore_n 1, 1, 0, 0), (26, .iconst 0, 1, 0, 0), (27, .istore_n 3, 1, 0, 0), (28, .iload_n 3, 1, 0, 0), (29, .aload_n 0, 1, 0, 0), (30, .invokevirtual 7, 3, 60, 0), (33, .if_icmp .ge 22, 3, 55, 0), (36, .ldc2_w 126, 3, 0, 2), (39, .lload_n 1, 1, 0, 0), (40, .lmul, 1, 0, 0), (41, .aload_n 0, 1, 0, 0), (42, .iload_n 3, 1, 0, 0), (43, .invokevirtual 88, 3, 61, 1), (46, .i2l, 1, 0, 0), (47, .ladd, 1, 0, 0), (48, .lstore_n 1, 1, 0, 0), (49, .iinc 3 1, 3, 0, 0), (52, .goto (-24), 3, 28, 0), (55, .iconst 0, 1, 0, 0), (56, .istore_n 3, 1, 0, 0), (57, .iload_n 3, 1, 0, 0), (58, .aload_n 0, 1, 0, 0), (59, .invokevirtual 51, 3, 69, 0), (62, .if_icmp .ge 43, 3, 105, 0), (65, .iconst 0, 1, 0, 0)]
abbrev zc_93_1 : List zE := [(66, .istore 4, 2, 0, 0), (68, .iload 4, 2, 0, 0), (70, .aload_n 0, 1, 0, 0), (71, .iload_n 3, 1, 0, 0), (72, .invokevirtual 85, 3, 70, 1), (75, .if_icmp .ge 24, 3, 99, 0), (78, .ldc2_w 128, 3, 0, 3), (81, .lload_n 1, 1, 0, 0), (82, .lmul, 1, 0, 0), (83, .aload_n 0, 1, 0, 0), (84, .iload_n 3, 1, 0, 0), (85, .iload 4, 2, 0, 0), (87, .invokevirtual 116, 3, 71, 2), (90, .i2l, 1, 0, 0), (91, .ladd, 1, 0, 0), (92, .lstore_n 1, 1, 0, 0), (93, .iinc 4 1, 3, 0, 0), (96, .goto (-28), 3, 68, 0), (99, .iinc 3 1, 3, 0, 0), (102, .goto (-45), 3, 57, 0), (105, .lload_n 1, 1, 0, 0), (106, .lreturn, 1, 0, 0)]
/-- LyndonBenchLaw.sum(LLyndonBench;)J -/
abbrev zc_93 : List zE := zc_93_0 ++ (zc_93_1 ++ ([]))
abbrev zc_94_0 : List zE := [(0, .aload_n 0, 1, 0, 0), (1, .invokevirtual 7, 3, 60, 0), (4, .bipush 120, 2, 0, 0), (6, .if_icmp .ne 5, 3, 11, 0), (9, .iconst 1, 1, 0, 0), (10, .ireturn, 1, 0, 0), (11, .aload_n 0, 1, 0, 0), (12, .invokevirtual 54, 3, 62, 0), (15, .istore_n 2, 1, 0, 0), (16, .aload_n 0, 1, 0, 0), (17, .invokevirtual 7, 3, 60, 0), (20, .istore_n 3, 1, 0, 0), (21, .iload_n 2, 1, 0, 0), (22, .iconst 1, 1, 0, 0), (23, .iadd, 1, 0, 0), (24, .newarray .int, 2, 0, 0), (26, .astore 4, 2, 0, 0), (28, .iconst 0, 1, 0, 0), (29, .istore 5, 2, 0, 0), (31, .iload 5, 2, 0, 0), (33, .iload_n 2, 1, 0, 0), (34, .if_icmp .ge 20, 3, 54, 0), (37, .aload 4, 2, 0, 0), (39, .iload 5, 2, 0, 0), (41, .aload_n 0, 1, 0, 0), (42, .iload 5, 2, 0, 0), (44, .invokevirtual 107, 3, 63, 1), (47, .iastore, 1, 0, 0), (48, .iinc 5 1, 3, 0, 0), (51, .goto (-20), 3, 31, 0), (54, .aload_n 0, 1, 0, 0), (55, .iload_n 1, 1, 0, 0), (56, .invokevirtual 130, 3, 66, 1), (59, .istore 5, 2, 0, 0), (61, .aload_n 0, 1, 0, 0), (62, .iload_n 1, 1, 0, 0), (63, .invokevirtual 16, 3, 46, 1), (66, .istore 6, 2, 0, 0), (68, .iload 5, 2, 0, 0), (70, .iload 6, 2, 0, 0)]
abbrev zc_94_1 : List zE := [(72, .if_icmp .ne 14, 3, 86, 0), (75, .aload_n 0, 1, 0, 0), (76, .invokestatic 133, 3, 92, 1), (79, .ifCond .eq 7, 3, 86, 0), (82, .iconst 1, 1, 0, 0), (83, .goto 4, 3, 87, 0), (86, .iconst 0, 1, 0, 0), (87, .istore 7, 2, 0, 0), (89, .iconst 1, 1, 0, 0), (90, .istore 8, 2, 0, 0), (92, .iconst 0, 1, 0, 0), (93, .istore 9, 2, 0, 0), (95, .iload 9, 2, 0, 0), (97, .iload 6, 2, 0, 0), (99, .if_icmp .ge 162, 3, 261, 0), (102, .iload 9, 2, 0, 0), (104, .iload_n 2, 1, 0, 0), (105, .if_icmp .ge 156, 3, 261, 0), (108, .aload_n 0, 1, 0, 0), (109, .iload 9, 2, 0, 0), (111, .invokevirtual 107, 3, 63, 1), (114, .aload_n 0, 1, 0, 0), (115, .iload 9, 2, 0, 0), (117, .invokevirtual 57, 3, 64, 1), (120, .iadd, 1, 0, 0), (121, .iload_n 3, 1, 0, 0), (122, .if_icmp .gt 7, 3, 129, 0), (125, .iconst 1, 1, 0, 0), (126, .goto 4, 3, 130, 0), (129, .iconst 0, 1, 0, 0), (130, .istore 10, 2, 0, 0), (132, .iload 8, 2, 0, 0), (134, .ifCond .ne 60, 3, 194, 0), (137, .iload 10, 2, 0, 0), (139, .ifCond .eq 55, 3, 194, 0), (142, .iload 9, 2, 0, 0), (144, .iconst 1, 1, 0, 0), (145, .iadd, 1, 0, 0), (146, .iload 6, 2, 0, 0), (148, .if_icmp .ge 46, 3, 194, 0)]
abbrev zc_94_2 : List zE := [(151, .aload_n 0, 1, 0, 0), (152, .iload 9, 2, 0, 0), (154, .invokevirtual 107, 3, 63, 1), (157, .aload 4, 2, 0, 0), (159, .iload 9, 2, 0, 0), (161, .iaload, 1, 0, 0), (162, .if_icmp .ne 32, 3, 194, 0), (165, .iload 9, 2, 0, 0), (167, .iconst 1, 1, 0, 0), (168, .iadd, 1, 0, 0), (169, .iload_n 2, 1, 0, 0), (170, .if_icmp .ge 24, 3, 194, 0), (173, .aload_n 0, 1, 0, 0), (174, .iload 9, 2, 0, 0), (176, .iconst 1, 1, 0, 0), (177, .iadd, 1, 0, 0), (178, .invokevirtual 107, 3, 63, 1), (181, .aload 4, 2, 0, 0), (183, .iload 9, 2, 0, 0), (185, .iconst 1, 1, 0, 0), (186, .iadd, 1, 0, 0), (187, .iaload, 1, 0, 0), (188, .if_icmp .ne 6, 3, 194, 0), (191, .iconst 0, 1, 0, 0), (192, .istore 7, 2, 0, 0), (194, .iload 8, 2, 0, 0), (196, .ifCond .eq 56, 3, 252, 0), (199, .aload_n 0, 1, 0, 0), (200, .iload 9, 2, 0, 0), (202, .invokevirtual 107, 3, 63, 1), (205, .aload 4, 2, 0, 0), (207, .iload 9, 2, 0, 0), (209, .iaload, 1, 0, 0), (210, .if_icmp .ne 42, 3, 252, 0), (213, .iload 9, 2, 0, 0), (215, .iconst 1, 1, 0, 0), (216, .iadd, 1, 0, 0), (217, .iload 6, 2, 0, 0), (219, .if_icmp .ge 29, 3, 248, 0), (222, .iload 9, 2, 0, 0)]
abbrev zc_94_3 : List zE := [(224, .iconst 1, 1, 0, 0), (225, .iadd, 1, 0, 0), (226, .iload_n 2, 1, 0, 0), (227, .if_icmp .ge 21, 3, 248, 0), (230, .aload_n 0, 1, 0, 0), (231, .iload 9, 2, 0, 0), (233, .iconst 1, 1, 0, 0), (234, .iadd, 1, 0, 0), (235, .invokevirtual 107, 3, 63, 1), (238, .aload 4, 2, 0, 0), (240, .iload 9, 2, 0, 0), (242, .iconst 1, 1, 0, 0), (243, .iadd, 1, 0, 0), (244, .iaload, 1, 0, 0), (245, .if_icmp .ne 7, 3, 252, 0), (248, .iconst 1, 1, 0, 0), (249, .goto 4, 3, 253, 0), (252, .iconst 0, 1, 0, 0), (253, .istore 8, 2, 0, 0), (255, .iinc 9 1, 3, 0, 0), (258, .goto (-163), 3, 95, 0), (261, .aload_n 0, 1, 0, 0), (262, .invokevirtual 136, 3, 57, 0), (265, .pop, 1, 0, 0), (266, .iload 7, 2, 0, 0), (268, .ifCond .eq 23, 3, 291, 0), (271, .aload_n 0, 1, 0, 0), (272, .invokevirtual 7, 3, 60, 0), (275, .iload_n 3, 1, 0, 0), (276, .if_icmp .ne 15, 3, 291, 0), (279, .aload_n 0, 1, 0, 0), (280, .invokevirtual 54, 3, 62, 0), (283, .iload_n 2, 1, 0, 0), (284, .if_icmp .ne 7, 3, 291, 0), (287, .iconst 1, 1, 0, 0), (288, .goto 4, 3, 292, 0), (291, .iconst 0, 1, 0, 0), (292, .ireturn, 1, 0, 0)]
/-- LyndonBenchLaw.isAppended(LLyndonBench;I)Z -/
abbrev zc_94 : List zE := zc_94_0 ++ (zc_94_1 ++ (zc_94_2 ++ (zc_94_3 ++ ([]))))
abbrev zc_95_0 : List zE := [(0, .new 8, 3, 0, 7), (3, .dup, 1, 0, 0), (4, .invokespecial 139, 3, 44, 0), (7, .astore_n 1, 1, 0, 0), (8, .aload_n 1, 1, 0, 0), (9, .invokestatic 133, 3, 92, 1), (12, .ifCond .ne 5, 3, 17, 0), (15, .iconst 0, 1, 0, 0), (16, .ireturn, 1, 0, 0), (17, .iconst 0, 1, 0, 0), (18, .istore_n 2, 1, 0, 0), (19, .iload_n 2, 1, 0, 0), (20, .bipush 14, 2, 0, 0), (22, .if_icmp .ge 157, 3, 179, 0), (25, .aload_n 0, 1, 0, 0), (26, .iload_n 2, 1, 0, 0), (27, .invokestatic 140, 3, 85, 2), (30, .istore_n 3, 1, 0, 0), (31, .aload_n 1, 1, 0, 0), (32, .invokevirtual 144, 3, 58, 0), (35, .istore 4, 2, 0, 0), (37, .aload_n 1, 1, 0, 0), (38, .invokestatic 147, 3, 93, 1), (41, .lstore 5, 2, 0, 0), (43, .aload_n 1, 1, 0, 0), (44, .iload_n 3, 1, 0, 0), (45, .invokestatic 151, 3, 86, 2), (48, .aload_n 1, 1, 0, 0), (49, .invokevirtual 144, 3, 58, 0), (52, .iload 4, 2, 0, 0), (54, .if_icmp .le 7, 3, 61, 0), (57, .iconst 1, 1, 0, 0), (58, .goto 4, 3, 62, 0), (61, .iconst 0, 1, 0, 0), (62, .istore 7, 2, 0, 0), (64, .aload_n 1, 1, 0, 0), (65, .invokestatic 133, 3, 92, 1), (68, .ifCond .eq 25, 3, 93, 0), (71, .iload 7, 2, 0, 0), (73, .ifCond .ne 22, 3, 95, 0)]
abbrev zc_95_1 : List zE := [(76, .iload 4, 2, 0, 0), (78, .bipush 8, 2, 0, 0), (80, .if_icmp .ge 15, 3, 95, 0), (83, .aload_n 1, 1, 0, 0), (84, .invokestatic 147, 3, 93, 1), (87, .lload 5, 2, 0, 0), (89, .lcmp, 1, 0, 0), (90, .ifCond .eq 5, 3, 95, 0), (93, .iconst 0, 1, 0, 0), (94, .ireturn, 1, 0, 0), (95, .iload 7, 2, 0, 0), (97, .ifCond .eq 52, 3, 149, 0), (100, .iload 4, 2, 0, 0), (102, .bipush 7, 2, 0, 0), (104, .if_icmp .ge 45, 3, 149, 0), (107, .aload_n 1, 1, 0, 0), (108, .invokevirtual 144, 3, 58, 0), (111, .iload 4, 2, 0, 0), (113, .iconst 1, 1, 0, 0), (114, .iadd, 1, 0, 0), (115, .if_icmp .ne 34, 3, 149, 0), (118, .iload_n 3, 1, 0, 0), (119, .bipush 29, 2, 0, 0), (121, .iushr, 1, 0, 0), (122, .iconst 3, 1, 0, 0), (123, .iand, 1, 0, 0), (124, .iconst 1, 1, 0, 0), (125, .if_icmp .ne 24, 3, 149, 0), (128, .aload_n 1, 1, 0, 0), (129, .invokevirtual 136, 3, 57, 0), (132, .iload 4, 2, 0, 0), (134, .if_icmp .ne 13, 3, 147, 0), (137, .aload_n 1, 1, 0, 0), (138, .invokestatic 147, 3, 93, 1), (141, .lload 5, 2, 0, 0), (143, .lcmp, 1, 0, 0), (144, .ifCond .eq 5, 3, 149, 0), (147, .iconst 0, 1, 0, 0), (148, .ireturn, 1, 0, 0), (149, .aload_n 1, 1, 0, 0)]
abbrev zc_95_2 : List zE := [(150, .bipush 97, 2, 0, 0), (152, .iload_n 3, 1, 0, 0), (153, .bipush 7, 2, 0, 0), (155, .iushr, 1, 0, 0), (156, .bipush 15, 2, 0, 0), (158, .iand, 1, 0, 0), (159, .aload_n 1, 1, 0, 0), (160, .invokevirtual 13, 3, 59, 0), (163, .irem, 1, 0, 0), (164, .iadd, 1, 0, 0), (165, .invokestatic 155, 3, 94, 2), (168, .ifCond .ne 5, 3, 173, 0), (171, .iconst 0, 1, 0, 0), (172, .ireturn, 1, 0, 0), (173, .iinc 2 1, 3, 0, 0), (176, .goto (-157), 3, 19, 0), (179, .iconst 1, 1, 0, 0), (180, .ireturn, 1, 0, 0)]
/-- LyndonBenchLaw.law([I)Z -/
abbrev zc_95 : List zE := zc_95_0 ++ (zc_95_1 ++ (zc_95_2 ++ ([])))
noncomputable def za_c : List (List (List zE)) := [[zc_0, zc_1, zc_2, zc_3, zc_4, zc_5, zc_6, zc_7, zc_8, zc_9, zc_10, zc_11, zc_12, zc_13, zc_14, zc_15],
  [zc_16, zc_17, zc_18, zc_19, zc_20, zc_21, zc_22, zc_23, zc_24, zc_25, zc_26, zc_27, zc_28, zc_29, zc_30, zc_31],
  [zc_32, zc_33, zc_34, zc_35, zc_36, zc_37, zc_38, zc_39, zc_40, zc_41, zc_42, zc_43, zc_44, zc_45, zc_46, zc_47],
  [zc_48, zc_49, zc_50, zc_51, zc_52, zc_53, zc_54, zc_55, zc_56, zc_57, zc_58, zc_59, zc_60, zc_61, zc_62, zc_63],
  [zc_64, zc_65, zc_66, zc_67, zc_68, zc_69, zc_70, zc_71, zc_72, zc_73, zc_74, zc_75, zc_76, zc_77, zc_78, zc_79],
  [zc_80, zc_81, zc_82, zc_83, zc_84, zc_85, zc_86, zc_87, zc_88, zc_89, zc_90, zc_91, zc_92, zc_93, zc_94, zc_95]]
def za_l : List (List Nat) := [[2, 2, 3, 2, 1, 2, 2, 4, 2, 1, 4, 2, 2, 5, 5, 6],
  [4, 5, 2, 2, 2, 3, 1, 2, 3, 5, 2, 2, 4, 6, 2, 3],
  [11, 4, 4, 6, 1, 6, 7, 4, 7, 2, 4, 6, 1, 3, 2, 2],
  [3, 2, 1, 2, 2, 4, 1, 2, 1, 1, 1, 1, 1, 2, 1, 2],
  [3, 2, 2, 1, 1, 1, 3, 4, 7, 2, 2, 3, 3, 2, 1, 2],
  [1, 1, 2, 2, 3, 2, 6, 3, 1, 3, 7, 4, 8, 5, 11, 8]]
def za_h : List (List (List zX)) := [[[], [], [], [], [], [], [], [], [], [], [], [], [], [], [], []],
  [[], [], [], [], [], [], [], [], [], [], [], [], [], [], [], []],
  [[], [], [], [], [], [], [], [], [], [], [], [], [], [], [], []],
  [[], [], [], [], [], [], [], [], [], [], [], [], [], [], [], []],
  [[], [], [], [], [], [], [], [], [], [], [], [], [], [], [], []],
  [[], [], [], [], [], [], [], [], [], [], [], [], [], [], [], []]]
def za_t : List (List Nat) := [[1, 1, 1, 1, 2, 3, 3, 3, 3, 3, 3, 3, 3, 3, 3, 3],
  [3, 3, 3, 4, 4, 4, 4, 4, 4, 4, 4, 4, 4, 4, 4, 4],
  [4, 4, 4, 4, 4, 4, 4, 4, 4, 4, 4, 4, 0, 0, 0, 0],
  [0, 0, 0, 0, 0, 0, 0, 0, 0, 0, 0, 0, 0, 0, 0, 0],
  [0, 0, 0, 0, 0, 0, 0, 0, 0, 0, 0, 0, 0, 99, 50, 50],
  [50, 50, 50, 99, 99, 99, 99, 99, 99, 99, 99, 99, 99, 99, 99, 99]]
def za_r : List (List (Option FieldType)) := [[none, none, none, (some .boolean), none, none, none, none, (some .boolean), (some .int), (some .boolean), (some (.object "LyndonBench$Word")), (some .boolean), none, none, (some .int)],
  [(some .boolean), none, (some .boolean), none, (some .int), none, none, none, none, none, none, none, none, none, none, (some .boolean)],
  [(some .int), (some .int), (some .int), (some .int), (some .boolean), (some .int), (some .int), (some .boolean), (some .int), (some .int), (some .int), none, none, (some .int), (some .int), (some .int)],
  [(some .int), (some .int), (some .int), (some .int), (some .int), (some .int), (some .int), (some .int), (some .int), (some .int), (some .int), (some .int), (some .int), (some .int), (some .int), (some .int)],
  [(some .int), (some .int), (some .int), (some .boolean), (some .int), (some .int), (some .int), (some .int), (some .int), none, none, none, (some .int), (some .int), (some .int), (some .char)],
  [(some .byte), (some .boolean), none, (some .char), (some .int), (some .int), none, (some .int), (some .boolean), (some (.array .int)), (some .int), (some .boolean), (some .boolean), (some .long), (some .boolean), (some .boolean)]]
def za_nc : List (Nat × Nat) := []
noncomputable def za_P : zP := (z_g2 za_c [], z_g2 za_l 0, z_g2 za_h [], z_g2 za_t 99, z_g2 za_r none, za_nc)
def za_n : List (List MethodName) := [[⟨"LyndonBench$History", "<init>", "()V"⟩, ⟨"LyndonBench$History", "remember", "(LLyndonBench$State;)V"⟩, ⟨"LyndonBench$History", "forgetOldest", "()V"⟩, ⟨"LyndonBench$History", "bringBack", "(LLyndonBench$State;)Z"⟩, ⟨"LyndonBench$Script", "<init>", "()V"⟩, ⟨"LyndonBench$State", "<init>", "()V"⟩, ⟨"LyndonBench$State", "clear", "(I)V"⟩, ⟨"LyndonBench$State", "copyFrom", "(LLyndonBench$State;)V"⟩, ⟨"LyndonBench$State", "isLetter", "(I)Z"⟩, ⟨"LyndonBench$State", "greatestLetter", "()I"⟩, ⟨"LyndonBench$State", "fitsLetters", "(I)Z"⟩, ⟨"LyndonBench$State", "keptAt", "(I)LLyndonBench$Word;"⟩, ⟨"LyndonBench$State", "canKeep", "(I)Z"⟩, ⟨"LyndonBench$State", "keep", "(LLyndonBench$Word;II)V"⟩, ⟨"LyndonBench$State", "takeFromShelf", "(I)V"⟩, ⟨"LyndonBench$State", "greatestOfShelf", "(I)I"⟩],
  [⟨"LyndonBench$State", "canJoin", "()Z"⟩, ⟨"LyndonBench$State", "joinShelf", "()V"⟩, ⟨"LyndonBench$State", "hasNext", "(I)Z"⟩, ⟨"LyndonBench$Word", "<init>", "(I)V"⟩, ⟨"LyndonBench$Word", "at", "(I)I"⟩, ⟨"LyndonBench$Word", "put", "(II)V"⟩, ⟨"LyndonBench$Word", "clear", "()V"⟩, ⟨"LyndonBench$Word", "add", "(I)V"⟩, ⟨"LyndonBench$Word", "addString", "(Ljava/lang/String;)V"⟩, ⟨"LyndonBench$Word", "addPart", "(LLyndonBench$Word;II)V"⟩, ⟨"LyndonBench$Word", "copyFrom", "(LLyndonBench$Word;)V"⟩, ⟨"LyndonBench$Word", "shortenTo", "(I)V"⟩, ⟨"LyndonBench$Word", "cutTo", "(II)V"⟩, ⟨"LyndonBench$Word", "mirror", "(II)V"⟩, ⟨"LyndonBench$Word", "turn", "(I)V"⟩, ⟨"LyndonBench$Word", "fitsLetters", "(I)Z"⟩],
  [⟨"LyndonBench$Word", "order", "(IILLyndonBench$Word;II)I"⟩, ⟨"LyndonBench$Word", "lyndonEnd", "(I)I"⟩, ⟨"LyndonBench$Word", "factorEnd", "(II)I"⟩, ⟨"LyndonBench$Word", "countFactors", "()I"⟩, ⟨"LyndonBench$Word", "isOneFactor", "()Z"⟩, ⟨"LyndonBench$Word", "beginOfFactor", "(I)I"⟩, ⟨"LyndonBench$Word", "factorWith", "(I)I"⟩, ⟨"LyndonBench$Word", "isLyndonPart", "(II)Z"⟩, ⟨"LyndonBench$Word", "leastTurn", "()I"⟩, ⟨"LyndonBench$Word", "atAround", "(I)I"⟩, ⟨"LyndonBench$Word", "extremeEnding", "(I)I"⟩, ⟨"LyndonBench$Word", "stepLyndon", "(II)V"⟩, ⟨"LyndonBench", "<init>", "()V"⟩, ⟨"LyndonBench", "setLetters", "(I)I"⟩, ⟨"LyndonBench", "appendLetter", "(I)I"⟩, ⟨"LyndonBench", "dropLast", "(I)I"⟩],
  [⟨"LyndonBench", "cutPart", "(II)I"⟩, ⟨"LyndonBench", "rotate", "(I)I"⟩, ⟨"LyndonBench", "reverse", "()I"⟩, ⟨"LyndonBench", "rotateToLeast", "()I"⟩, ⟨"LyndonBench", "nextLyndon", "(I)I"⟩, ⟨"LyndonBench", "keepFactor", "(I)I"⟩, ⟨"LyndonBench", "keepText", "()I"⟩, ⟨"LyndonBench", "removeKept", "(I)I"⟩, ⟨"LyndonBench", "joinKept", "()I"⟩, ⟨"LyndonBench", "undo", "()I"⟩, ⟨"LyndonBench", "undoCount", "()I"⟩, ⟨"LyndonBench", "letters", "()I"⟩, ⟨"LyndonBench", "length", "()I"⟩, ⟨"LyndonBench", "letterAt", "(I)I"⟩, ⟨"LyndonBench", "factorCount", "()I"⟩, ⟨"LyndonBench", "factorStart", "(I)I"⟩],
  [⟨"LyndonBench", "factorLength", "(I)I"⟩, ⟨"LyndonBench", "factorOf", "(I)I"⟩, ⟨"LyndonBench", "factorsIfAppended", "(I)I"⟩, ⟨"LyndonBench", "isLyndon", "()Z"⟩, ⟨"LyndonBench", "leastSuffix", "()I"⟩, ⟨"LyndonBench", "keptCount", "()I"⟩, ⟨"LyndonBench", "keptLength", "(I)I"⟩, ⟨"LyndonBench", "keptLetter", "(II)I"⟩, ⟨"LyndonBench", "violations", "()I"⟩, ⟨"LyndonBench", "checkLetter", "(I)V"⟩, ⟨"LyndonBench", "checkCount", "(I)V"⟩, ⟨"LyndonBench", "checkPart", "(II)V"⟩, ⟨"LyndonBench", "checkedBegin", "(I)I"⟩, ⟨"java/lang/Integer", "compare", "(II)I"⟩, ⟨"java/lang/String", "length", "()I"⟩, ⟨"java/lang/String", "charAt", "(I)C"⟩],
  [⟨"java/lang/String", "coder", "()B"⟩, ⟨"java/lang/String", "isLatin1", "()Z"⟩, ⟨"java/lang/String", "checkIndex", "(II)V"⟩, ⟨"java/lang/StringLatin1", "charAt", "([BI)C"⟩, ⟨"jdk/internal/util/Preconditions", "checkIndex", "(IILjava/util/function/BiFunction;)I"⟩, ⟨"LyndonBenchLaw", "cell", "([II)I"⟩, ⟨"LyndonBenchLaw", "deed", "(LLyndonBench;I)V"⟩, ⟨"LyndonBenchLaw", "shelf", "(LLyndonBench;)I"⟩, ⟨"LyndonBenchLaw", "isGreatest", "(LLyndonBench;)Z"⟩, ⟨"LyndonBenchLaw", "word", "(LLyndonBench;)[I"⟩, ⟨"LyndonBenchLaw", "order", "([III[III)I"⟩, ⟨"LyndonBenchLaw", "isLyndon", "([III)Z"⟩, ⟨"LyndonBenchLaw", "holds", "(LLyndonBench;)Z"⟩, ⟨"LyndonBenchLaw", "sum", "(LLyndonBench;)J"⟩, ⟨"LyndonBenchLaw", "isAppended", "(LLyndonBench;I)Z"⟩, ⟨"LyndonBenchLaw", "law", "([I)Z"⟩]]
def za_b : List (List ByteArray) := [[prog_4_method_1_code, prog_4_method_2_code, prog_4_method_3_code, prog_4_method_4_code, prog_5_method_1_code, prog_6_method_1_code, prog_6_method_2_code, prog_6_method_3_code, prog_6_method_4_code, prog_6_method_5_code, prog_6_method_6_code, prog_6_method_7_code, prog_6_method_8_code, prog_6_method_9_code, prog_6_method_10_code, prog_6_method_11_code],
  [prog_6_method_12_code, prog_6_method_13_code, prog_6_method_14_code, prog_7_method_1_code, prog_7_method_2_code, prog_7_method_3_code, prog_7_method_4_code, prog_7_method_5_code, prog_7_method_7_code, prog_7_method_8_code, prog_7_method_10_code, prog_7_method_11_code, prog_7_method_12_code, prog_7_method_13_code, prog_7_method_14_code, prog_7_method_15_code],
  [prog_7_method_17_code, prog_7_method_18_code, prog_7_method_19_code, prog_7_method_20_code, prog_7_method_21_code, prog_7_method_22_code, prog_7_method_23_code, prog_7_method_26_code, prog_7_method_31_code, prog_7_method_32_code, prog_7_method_33_code, prog_7_method_34_code, prog_1_method_1_code, prog_1_method_5_code, prog_1_method_7_code, prog_1_method_8_code],
  [prog_1_method_9_code, prog_1_method_10_code, prog_1_method_11_code, prog_1_method_12_code, prog_1_method_13_code, prog_1_method_14_code, prog_1_method_15_code, prog_1_method_16_code, prog_1_method_17_code, prog_1_method_18_code, prog_1_method_19_code, prog_1_method_24_code, prog_1_method_25_code, prog_1_method_26_code, prog_1_method_28_code, prog_1_method_29_code],
  [prog_1_method_30_code, prog_1_method_32_code, prog_1_method_34_code, prog_1_method_37_code, prog_1_method_46_code, prog_1_method_51_code, prog_1_method_52_code, prog_1_method_53_code, prog_1_method_58_code, prog_1_method_61_code, prog_1_method_62_code, prog_1_method_63_code, prog_1_method_65_code, prog_14_method_40_code, prog_17_method_54_code, prog_17_method_56_code],
  [prog_17_method_152_code, prog_17_method_154_code, prog_17_method_155_code, prog_18_method_2_code, prog_21_method_11_code, method_2_code, method_3_code, method_4_code, method_5_code, method_6_code, method_7_code, method_8_code, method_9_code, method_10_code, method_11_code, code]]
def za_x : List String := ["java/lang/IllegalArgumentException", "java/lang/IllegalStateException", "java/lang/IndexOutOfBoundsException"]
def za_Ts : List Cond := lw_tbl.filter goodWord
def za_nw : List Cond := [Cond.methodLinkNest "LyndonBench" 32 ⟨"LyndonBench$Script", "<init>", "()V"⟩ "LyndonBench", Cond.arrayOver (.object "LyndonBench$Word"), Cond.arrayOver (.object "LyndonBench$State")]
def za_M : zM := (z_g2 za_n ⟨"LyndonBench", "", ""⟩, z_g2 za_b ⟨#[]⟩, fun e => z_nth za_x e "java/lang/IllegalArgumentException", za_Ts, za_nw, za_cl, za_scl, za_tf)
end
section
/-! THE CHECK of the tables: lemmas. -/
def z_oke' (T : zT) (P : zP) (M : zM) (nm : MethodName) (cc : ByteArray) (q : zE) : Prop := match q with
  | (pc, i, len, a, b) => decode cc pc = .ok (i, len) ∧ (match z_kind i a b with
    | 0 => z_len i len ∧ z_tgt i pc a
    | 1 => z_okh M.2.2.2.2.2.1 M.2.2.2.2.2.2.1 M.2.2.2.2.2.2.2 M.2.2.2.2.1 T nm.cls nm.name M.2.2.2.1 i len pc a b
    | 2 => len = 3 ∧ z_okv P M nm.cls i a b
    | 7 => len = 3 ∧ z_okn P M nm.cls i a b
    | 3 => len = 3 ∧ z_oks P M nm.cls i a b
    | 4 => len = 1
    | 5 => i = .return_ ∧ len = 1
    | _ => True)
theorem z_okm_of {T : zT} {P : zP} {M : zM} {y : Nat} (nm : MethodName) (cc : ByteArray) (l : List zE) (hx : List zX) (hn : M.1 y = nm) (hc : M.2.1 y = cc) (hl : P.1 y = l) (hh : P.2.2.1 y = hx) (h1 : ∀ q ∈ l, z_oke' T P M nm cc q) (h2 : ∀ x ∈ hx, z_okx P M y x) : z_okm T P M y := by
  subst hn; subst hc; subst hl; subst hh
  exact ⟨h1, h2⟩
theorem z_fc {α : Type} {Q : α → Prop} {a : α} {l : List α} (h : Q a) (t : ∀ q ∈ l, Q q) : ∀ q ∈ a :: l, Q q := List.forall_mem_cons.mpr ⟨h, t⟩
theorem z_fn {α : Type} {Q : α → Prop} : ∀ q ∈ ([] : List α), Q q := fun _ h => absurd h List.not_mem_nil
theorem z_mem (i : Nat) {w : Cond} (h : lw_tbl[i]? = some w) (hg : goodWord w = true) : w ∈ za_Ts := List.mem_filter.mpr ⟨List.mem_of_getElem? h, hg⟩
section ZO
variable {T : zT} {P : zP} {M : zM} {nm : MethodName} {cc : ByteArray} {pc len a b : Nat} {i : Instr}
theorem zo_l (hd : decode cc pc = .ok (i, len)) (hk : z_kind i a b = 0) (hn : z_len i len) (ht : z_tgt i pc a) : z_oke' T P M nm cc (pc, i, len, a, b) := by
  unfold z_oke'
  dsimp only
  rw [hk]
  exact ⟨hd, hn, ht⟩
theorem zo_h (hd : decode cc pc = .ok (i, len)) (hk : z_kind i a b = 1) (h : z_okh M.2.2.2.2.2.1 M.2.2.2.2.2.2.1 M.2.2.2.2.2.2.2 M.2.2.2.2.1 T nm.cls nm.name M.2.2.2.1 i len pc a b) : z_oke' T P M nm cc (pc, i, len, a, b) := by
  unfold z_oke'
  dsimp only
  rw [hk]
  exact ⟨hd, h⟩
theorem zo_v (hd : decode cc pc = .ok (i, 3)) (hk : z_kind i a b = 2) (h : z_okv P M nm.cls i a b) : z_oke' T P M nm cc (pc, i, 3, a, b) := by
  unfold z_oke'
  dsimp only
  rw [hk]
  exact ⟨hd, rfl, h⟩
theorem zo_n (hd : decode cc pc = .ok (i, 3)) (hk : z_kind i a b = 7) (h : z_okn P M nm.cls i a b) : z_oke' T P M nm cc (pc, i, 3, a, b) := by
  unfold z_oke'
  dsimp only
  rw [hk]
  exact ⟨hd, rfl, h⟩
theorem zo_s (hd : decode cc pc = .ok (i, 3)) (hk : z_kind i a b = 3) (h : z_oks P M nm.cls i a b) : z_oke' T P M nm cc (pc, i, 3, a, b) := by
  unfold z_oke'
  dsimp only
  rw [hk]
  exact ⟨hd, rfl, h⟩
theorem zo_r (hd : decode cc pc = .ok (i, 1)) (hk : z_kind i a b = 4) : z_oke' T P M nm cc (pc, i, 1, a, b) := by
  unfold z_oke'
  dsimp only
  rw [hk]
  exact ⟨hd, rfl⟩
theorem zo_e (hd : decode cc pc = .ok (.return_, 1)) : z_oke' T P M nm cc (pc, .return_, 1, a, b) := ⟨hd, rfl, rfl⟩
theorem zo_t (hd : decode cc pc = .ok (i, len)) (hk : z_kind i a b = 6) : z_oke' T P M nm cc (pc, i, len, a, b) := by
  unfold z_oke'
  dsimp only
  rw [hk]
  exact ⟨hd, trivial⟩
end ZO
/-! The tables' words, each by its place: chunks of 16. -/
theorem zu_1 {T : List Cond} {a0 : Cond} (h : ∀ w ∈ [a0], w ∈ T) : a0 ∈ T := h a0 (List.Mem.head _)
theorem zu_2 {T : List Cond} {a0 a1 : Cond} (h : ∀ w ∈ [a0, a1], w ∈ T) : a0 ∈ T ∧ a1 ∈ T := ⟨h a0 (List.Mem.head _), h a1 (List.Mem.tail _ (List.Mem.head _))⟩
theorem zu_3 {T : List Cond} {a0 a1 a2 : Cond} (h : ∀ w ∈ [a0, a1, a2], w ∈ T) : a0 ∈ T ∧ a1 ∈ T ∧ a2 ∈ T := ⟨h a0 (List.Mem.head _), h a1 (List.Mem.tail _ (List.Mem.head _)), h a2 (List.Mem.tail _ (List.Mem.tail _ (List.Mem.head _)))⟩
theorem zu_4 {T : List Cond} {a0 a1 a2 a3 : Cond} (h : ∀ w ∈ [a0, a1, a2, a3], w ∈ T) : a0 ∈ T ∧ a1 ∈ T ∧ a2 ∈ T ∧ a3 ∈ T := ⟨h a0 (List.Mem.head _), h a1 (List.Mem.tail _ (List.Mem.head _)), h a2 (List.Mem.tail _ (List.Mem.tail _ (List.Mem.head _))), h a3 (List.Mem.tail _ (List.Mem.tail _ (List.Mem.tail _ (List.Mem.head _))))⟩
theorem zu_5 {T : List Cond} {a0 a1 a2 a3 a4 : Cond} (h : ∀ w ∈ [a0, a1, a2, a3, a4], w ∈ T) : a0 ∈ T ∧ a1 ∈ T ∧ a2 ∈ T ∧ a3 ∈ T ∧ a4 ∈ T := ⟨h a0 (List.Mem.head _), h a1 (List.Mem.tail _ (List.Mem.head _)), h a2 (List.Mem.tail _ (List.Mem.tail _ (List.Mem.head _))), h a3 (List.Mem.tail _ (List.Mem.tail _ (List.Mem.tail _ (List.Mem.head _)))), h a4 (List.Mem.tail _ (List.Mem.tail _ (List.Mem.tail _ (List.Mem.tail _ (List.Mem.head _)))))⟩
theorem zu_6 {T : List Cond} {a0 a1 a2 a3 a4 a5 : Cond} (h : ∀ w ∈ [a0, a1, a2, a3, a4, a5], w ∈ T) : a0 ∈ T ∧ a1 ∈ T ∧ a2 ∈ T ∧ a3 ∈ T ∧ a4 ∈ T ∧ a5 ∈ T := ⟨h a0 (List.Mem.head _), h a1 (List.Mem.tail _ (List.Mem.head _)), h a2 (List.Mem.tail _ (List.Mem.tail _ (List.Mem.head _))), h a3 (List.Mem.tail _ (List.Mem.tail _ (List.Mem.tail _ (List.Mem.head _)))), h a4 (List.Mem.tail _ (List.Mem.tail _ (List.Mem.tail _ (List.Mem.tail _ (List.Mem.head _))))), h a5 (List.Mem.tail _ (List.Mem.tail _ (List.Mem.tail _ (List.Mem.tail _ (List.Mem.tail _ (List.Mem.head _))))))⟩
theorem zu_7 {T : List Cond} {a0 a1 a2 a3 a4 a5 a6 : Cond} (h : ∀ w ∈ [a0, a1, a2, a3, a4, a5, a6], w ∈ T) : a0 ∈ T ∧ a1 ∈ T ∧ a2 ∈ T ∧ a3 ∈ T ∧ a4 ∈ T ∧ a5 ∈ T ∧ a6 ∈ T := ⟨h a0 (List.Mem.head _), h a1 (List.Mem.tail _ (List.Mem.head _)), h a2 (List.Mem.tail _ (List.Mem.tail _ (List.Mem.head _))), h a3 (List.Mem.tail _ (List.Mem.tail _ (List.Mem.tail _ (List.Mem.head _)))), h a4 (List.Mem.tail _ (List.Mem.tail _ (List.Mem.tail _ (List.Mem.tail _ (List.Mem.head _))))), h a5 (List.Mem.tail _ (List.Mem.tail _ (List.Mem.tail _ (List.Mem.tail _ (List.Mem.tail _ (List.Mem.head _)))))), h a6 (List.Mem.tail _ (List.Mem.tail _ (List.Mem.tail _ (List.Mem.tail _ (List.Mem.tail _ (List.Mem.tail _ (List.Mem.head _)))))))⟩
theorem zu_8 {T : List Cond} {a0 a1 a2 a3 a4 a5 a6 a7 : Cond} (h : ∀ w ∈ [a0, a1, a2, a3, a4, a5, a6, a7], w ∈ T) : a0 ∈ T ∧ a1 ∈ T ∧ a2 ∈ T ∧ a3 ∈ T ∧ a4 ∈ T ∧ a5 ∈ T ∧ a6 ∈ T ∧ a7 ∈ T := ⟨h a0 (List.Mem.head _), h a1 (List.Mem.tail _ (List.Mem.head _)), h a2 (List.Mem.tail _ (List.Mem.tail _ (List.Mem.head _))), h a3 (List.Mem.tail _ (List.Mem.tail _ (List.Mem.tail _ (List.Mem.head _)))), h a4 (List.Mem.tail _ (List.Mem.tail _ (List.Mem.tail _ (List.Mem.tail _ (List.Mem.head _))))), h a5 (List.Mem.tail _ (List.Mem.tail _ (List.Mem.tail _ (List.Mem.tail _ (List.Mem.tail _ (List.Mem.head _)))))), h a6 (List.Mem.tail _ (List.Mem.tail _ (List.Mem.tail _ (List.Mem.tail _ (List.Mem.tail _ (List.Mem.tail _ (List.Mem.head _))))))), h a7 (List.Mem.tail _ (List.Mem.tail _ (List.Mem.tail _ (List.Mem.tail _ (List.Mem.tail _ (List.Mem.tail _ (List.Mem.tail _ (List.Mem.head _))))))))⟩
theorem zu_9 {T : List Cond} {a0 a1 a2 a3 a4 a5 a6 a7 a8 : Cond} (h : ∀ w ∈ [a0, a1, a2, a3, a4, a5, a6, a7, a8], w ∈ T) : a0 ∈ T ∧ a1 ∈ T ∧ a2 ∈ T ∧ a3 ∈ T ∧ a4 ∈ T ∧ a5 ∈ T ∧ a6 ∈ T ∧ a7 ∈ T ∧ a8 ∈ T := ⟨h a0 (List.Mem.head _), h a1 (List.Mem.tail _ (List.Mem.head _)), h a2 (List.Mem.tail _ (List.Mem.tail _ (List.Mem.head _))), h a3 (List.Mem.tail _ (List.Mem.tail _ (List.Mem.tail _ (List.Mem.head _)))), h a4 (List.Mem.tail _ (List.Mem.tail _ (List.Mem.tail _ (List.Mem.tail _ (List.Mem.head _))))), h a5 (List.Mem.tail _ (List.Mem.tail _ (List.Mem.tail _ (List.Mem.tail _ (List.Mem.tail _ (List.Mem.head _)))))), h a6 (List.Mem.tail _ (List.Mem.tail _ (List.Mem.tail _ (List.Mem.tail _ (List.Mem.tail _ (List.Mem.tail _ (List.Mem.head _))))))), h a7 (List.Mem.tail _ (List.Mem.tail _ (List.Mem.tail _ (List.Mem.tail _ (List.Mem.tail _ (List.Mem.tail _ (List.Mem.tail _ (List.Mem.head _)))))))), h a8 (List.Mem.tail _ (List.Mem.tail _ (List.Mem.tail _ (List.Mem.tail _ (List.Mem.tail _ (List.Mem.tail _ (List.Mem.tail _ (List.Mem.tail _ (List.Mem.head _)))))))))⟩
theorem zu_10 {T : List Cond} {a0 a1 a2 a3 a4 a5 a6 a7 a8 a9 : Cond} (h : ∀ w ∈ [a0, a1, a2, a3, a4, a5, a6, a7, a8, a9], w ∈ T) : a0 ∈ T ∧ a1 ∈ T ∧ a2 ∈ T ∧ a3 ∈ T ∧ a4 ∈ T ∧ a5 ∈ T ∧ a6 ∈ T ∧ a7 ∈ T ∧ a8 ∈ T ∧ a9 ∈ T := ⟨h a0 (List.Mem.head _), h a1 (List.Mem.tail _ (List.Mem.head _)), h a2 (List.Mem.tail _ (List.Mem.tail _ (List.Mem.head _))), h a3 (List.Mem.tail _ (List.Mem.tail _ (List.Mem.tail _ (List.Mem.head _)))), h a4 (List.Mem.tail _ (List.Mem.tail _ (List.Mem.tail _ (List.Mem.tail _ (List.Mem.head _))))), h a5 (List.Mem.tail _ (List.Mem.tail _ (List.Mem.tail _ (List.Mem.tail _ (List.Mem.tail _ (List.Mem.head _)))))), h a6 (List.Mem.tail _ (List.Mem.tail _ (List.Mem.tail _ (List.Mem.tail _ (List.Mem.tail _ (List.Mem.tail _ (List.Mem.head _))))))), h a7 (List.Mem.tail _ (List.Mem.tail _ (List.Mem.tail _ (List.Mem.tail _ (List.Mem.tail _ (List.Mem.tail _ (List.Mem.tail _ (List.Mem.head _)))))))), h a8 (List.Mem.tail _ (List.Mem.tail _ (List.Mem.tail _ (List.Mem.tail _ (List.Mem.tail _ (List.Mem.tail _ (List.Mem.tail _ (List.Mem.tail _ (List.Mem.head _))))))))), h a9 (List.Mem.tail _ (List.Mem.tail _ (List.Mem.tail _ (List.Mem.tail _ (List.Mem.tail _ (List.Mem.tail _ (List.Mem.tail _ (List.Mem.tail _ (List.Mem.tail _ (List.Mem.head _))))))))))⟩
theorem zu_11 {T : List Cond} {a0 a1 a2 a3 a4 a5 a6 a7 a8 a9 a10 : Cond} (h : ∀ w ∈ [a0, a1, a2, a3, a4, a5, a6, a7, a8, a9, a10], w ∈ T) : a0 ∈ T ∧ a1 ∈ T ∧ a2 ∈ T ∧ a3 ∈ T ∧ a4 ∈ T ∧ a5 ∈ T ∧ a6 ∈ T ∧ a7 ∈ T ∧ a8 ∈ T ∧ a9 ∈ T ∧ a10 ∈ T := ⟨h a0 (List.Mem.head _), h a1 (List.Mem.tail _ (List.Mem.head _)), h a2 (List.Mem.tail _ (List.Mem.tail _ (List.Mem.head _))), h a3 (List.Mem.tail _ (List.Mem.tail _ (List.Mem.tail _ (List.Mem.head _)))), h a4 (List.Mem.tail _ (List.Mem.tail _ (List.Mem.tail _ (List.Mem.tail _ (List.Mem.head _))))), h a5 (List.Mem.tail _ (List.Mem.tail _ (List.Mem.tail _ (List.Mem.tail _ (List.Mem.tail _ (List.Mem.head _)))))), h a6 (List.Mem.tail _ (List.Mem.tail _ (List.Mem.tail _ (List.Mem.tail _ (List.Mem.tail _ (List.Mem.tail _ (List.Mem.head _))))))), h a7 (List.Mem.tail _ (List.Mem.tail _ (List.Mem.tail _ (List.Mem.tail _ (List.Mem.tail _ (List.Mem.tail _ (List.Mem.tail _ (List.Mem.head _)))))))), h a8 (List.Mem.tail _ (List.Mem.tail _ (List.Mem.tail _ (List.Mem.tail _ (List.Mem.tail _ (List.Mem.tail _ (List.Mem.tail _ (List.Mem.tail _ (List.Mem.head _))))))))), h a9 (List.Mem.tail _ (List.Mem.tail _ (List.Mem.tail _ (List.Mem.tail _ (List.Mem.tail _ (List.Mem.tail _ (List.Mem.tail _ (List.Mem.tail _ (List.Mem.tail _ (List.Mem.head _)))))))))), h a10 (List.Mem.tail _ (List.Mem.tail _ (List.Mem.tail _ (List.Mem.tail _ (List.Mem.tail _ (List.Mem.tail _ (List.Mem.tail _ (List.Mem.tail _ (List.Mem.tail _ (List.Mem.tail _ (List.Mem.head _)))))))))))⟩
theorem zu_12 {T : List Cond} {a0 a1 a2 a3 a4 a5 a6 a7 a8 a9 a10 a11 : Cond} (h : ∀ w ∈ [a0, a1, a2, a3, a4, a5, a6, a7, a8, a9, a10, a11], w ∈ T) : a0 ∈ T ∧ a1 ∈ T ∧ a2 ∈ T ∧ a3 ∈ T ∧ a4 ∈ T ∧ a5 ∈ T ∧ a6 ∈ T ∧ a7 ∈ T ∧ a8 ∈ T ∧ a9 ∈ T ∧ a10 ∈ T ∧ a11 ∈ T := ⟨h a0 (List.Mem.head _), h a1 (List.Mem.tail _ (List.Mem.head _)), h a2 (List.Mem.tail _ (List.Mem.tail _ (List.Mem.head _))), h a3 (List.Mem.tail _ (List.Mem.tail _ (List.Mem.tail _ (List.Mem.head _)))), h a4 (List.Mem.tail _ (List.Mem.tail _ (List.Mem.tail _ (List.Mem.tail _ (List.Mem.head _))))), h a5 (List.Mem.tail _ (List.Mem.tail _ (List.Mem.tail _ (List.Mem.tail _ (List.Mem.tail _ (List.Mem.head _)))))), h a6 (List.Mem.tail _ (List.Mem.tail _ (List.Mem.tail _ (List.Mem.tail _ (List.Mem.tail _ (List.Mem.tail _ (List.Mem.head _))))))), h a7 (List.Mem.tail _ (List.Mem.tail _ (List.Mem.tail _ (List.Mem.tail _ (List.Mem.tail _ (List.Mem.tail _ (List.Mem.tail _ (List.Mem.head _)))))))), h a8 (List.Mem.tail _ (List.Mem.tail _ (List.Mem.tail _ (List.Mem.tail _ (List.Mem.tail _ (List.Mem.tail _ (List.Mem.tail _ (List.Mem.tail _ (List.Mem.head _))))))))), h a9 (List.Mem.tail _ (List.Mem.tail _ (List.Mem.tail _ (List.Mem.tail _ (List.Mem.tail _ (List.Mem.tail _ (List.Mem.tail _ (List.Mem.tail _ (List.Mem.tail _ (List.Mem.head _)))))))))), h a10 (List.Mem.tail _ (List.Mem.tail _ (List.Mem.tail _ (List.Mem.tail _ (List.Mem.tail _ (List.Mem.tail _ (List.Mem.tail _ (List.Mem.tail _ (List.Mem.tail _ (List.Mem.tail _ (List.Mem.head _))))))))))), h a11 (List.Mem.tail _ (List.Mem.tail _ (List.Mem.tail _ (List.Mem.tail _ (List.Mem.tail _ (List.Mem.tail _ (List.Mem.tail _ (List.Mem.tail _ (List.Mem.tail _ (List.Mem.tail _ (List.Mem.tail _ (List.Mem.head _))))))))))))⟩
theorem zu_13 {T : List Cond} {a0 a1 a2 a3 a4 a5 a6 a7 a8 a9 a10 a11 a12 : Cond} (h : ∀ w ∈ [a0, a1, a2, a3, a4, a5, a6, a7, a8, a9, a10, a11, a12], w ∈ T) : a0 ∈ T ∧ a1 ∈ T ∧ a2 ∈ T ∧ a3 ∈ T ∧ a4 ∈ T ∧ a5 ∈ T ∧ a6 ∈ T ∧ a7 ∈ T ∧ a8 ∈ T ∧ a9 ∈ T ∧ a10 ∈ T ∧ a11 ∈ T ∧ a12 ∈ T := ⟨h a0 (List.Mem.head _), h a1 (List.Mem.tail _ (List.Mem.head _)), h a2 (List.Mem.tail _ (List.Mem.tail _ (List.Mem.head _))), h a3 (List.Mem.tail _ (List.Mem.tail _ (List.Mem.tail _ (List.Mem.head _)))), h a4 (List.Mem.tail _ (List.Mem.tail _ (List.Mem.tail _ (List.Mem.tail _ (List.Mem.head _))))), h a5 (List.Mem.tail _ (List.Mem.tail _ (List.Mem.tail _ (List.Mem.tail _ (List.Mem.tail _ (List.Mem.head _)))))), h a6 (List.Mem.tail _ (List.Mem.tail _ (List.Mem.tail _ (List.Mem.tail _ (List.Mem.tail _ (List.Mem.tail _ (List.Mem.head _))))))), h a7 (List.Mem.tail _ (List.Mem.tail _ (List.Mem.tail _ (List.Mem.tail _ (List.Mem.tail _ (List.Mem.tail _ (List.Mem.tail _ (List.Mem.head _)))))))), h a8 (List.Mem.tail _ (List.Mem.tail _ (List.Mem.tail _ (List.Mem.tail _ (List.Mem.tail _ (List.Mem.tail _ (List.Mem.tail _ (List.Mem.tail _ (List.Mem.head _))))))))), h a9 (List.Mem.tail _ (List.Mem.tail _ (List.Mem.tail _ (List.Mem.tail _ (List.Mem.tail _ (List.Mem.tail _ (List.Mem.tail _ (List.Mem.tail _ (List.Mem.tail _ (List.Mem.head _)))))))))), h a10 (List.Mem.tail _ (List.Mem.tail _ (List.Mem.tail _ (List.Mem.tail _ (List.Mem.tail _ (List.Mem.tail _ (List.Mem.tail _ (List.Mem.tail _ (List.Mem.tail _ (List.Mem.tail _ (List.Mem.head _))))))))))), h a11 (List.Mem.tail _ (List.Mem.tail _ (List.Mem.tail _ (List.Mem.tail _ (List.Mem.tail _ (List.Mem.tail _ (List.Mem.tail _ (List.Mem.tail _ (List.Mem.tail _ (List.Mem.tail _ (List.Mem.tail _ (List.Mem.head _)))))))))))), h a12 (List.Mem.tail _ (List.Mem.tail _ (List.Mem.tail _ (List.Mem.tail _ (List.Mem.tail _ (List.Mem.tail _ (List.Mem.tail _ (List.Mem.tail _ (List.Mem.tail _ (List.Mem.tail _ (List.Mem.tail _ (List.Mem.tail _ (List.Mem.head _)))))))))))))⟩
theorem zu_14 {T : List Cond} {a0 a1 a2 a3 a4 a5 a6 a7 a8 a9 a10 a11 a12 a13 : Cond} (h : ∀ w ∈ [a0, a1, a2, a3, a4, a5, a6, a7, a8, a9, a10, a11, a12, a13], w ∈ T) : a0 ∈ T ∧ a1 ∈ T ∧ a2 ∈ T ∧ a3 ∈ T ∧ a4 ∈ T ∧ a5 ∈ T ∧ a6 ∈ T ∧ a7 ∈ T ∧ a8 ∈ T ∧ a9 ∈ T ∧ a10 ∈ T ∧ a11 ∈ T ∧ a12 ∈ T ∧ a13 ∈ T := ⟨h a0 (List.Mem.head _), h a1 (List.Mem.tail _ (List.Mem.head _)), h a2 (List.Mem.tail _ (List.Mem.tail _ (List.Mem.head _))), h a3 (List.Mem.tail _ (List.Mem.tail _ (List.Mem.tail _ (List.Mem.head _)))), h a4 (List.Mem.tail _ (List.Mem.tail _ (List.Mem.tail _ (List.Mem.tail _ (List.Mem.head _))))), h a5 (List.Mem.tail _ (List.Mem.tail _ (List.Mem.tail _ (List.Mem.tail _ (List.Mem.tail _ (List.Mem.head _)))))), h a6 (List.Mem.tail _ (List.Mem.tail _ (List.Mem.tail _ (List.Mem.tail _ (List.Mem.tail _ (List.Mem.tail _ (List.Mem.head _))))))), h a7 (List.Mem.tail _ (List.Mem.tail _ (List.Mem.tail _ (List.Mem.tail _ (List.Mem.tail _ (List.Mem.tail _ (List.Mem.tail _ (List.Mem.head _)))))))), h a8 (List.Mem.tail _ (List.Mem.tail _ (List.Mem.tail _ (List.Mem.tail _ (List.Mem.tail _ (List.Mem.tail _ (List.Mem.tail _ (List.Mem.tail _ (List.Mem.head _))))))))), h a9 (List.Mem.tail _ (List.Mem.tail _ (List.Mem.tail _ (List.Mem.tail _ (List.Mem.tail _ (List.Mem.tail _ (List.Mem.tail _ (List.Mem.tail _ (List.Mem.tail _ (List.Mem.head _)))))))))), h a10 (List.Mem.tail _ (List.Mem.tail _ (List.Mem.tail _ (List.Mem.tail _ (List.Mem.tail _ (List.Mem.tail _ (List.Mem.tail _ (List.Mem.tail _ (List.Mem.tail _ (List.Mem.tail _ (List.Mem.head _))))))))))), h a11 (List.Mem.tail _ (List.Mem.tail _ (List.Mem.tail _ (List.Mem.tail _ (List.Mem.tail _ (List.Mem.tail _ (List.Mem.tail _ (List.Mem.tail _ (List.Mem.tail _ (List.Mem.tail _ (List.Mem.tail _ (List.Mem.head _)))))))))))), h a12 (List.Mem.tail _ (List.Mem.tail _ (List.Mem.tail _ (List.Mem.tail _ (List.Mem.tail _ (List.Mem.tail _ (List.Mem.tail _ (List.Mem.tail _ (List.Mem.tail _ (List.Mem.tail _ (List.Mem.tail _ (List.Mem.tail _ (List.Mem.head _))))))))))))), h a13 (List.Mem.tail _ (List.Mem.tail _ (List.Mem.tail _ (List.Mem.tail _ (List.Mem.tail _ (List.Mem.tail _ (List.Mem.tail _ (List.Mem.tail _ (List.Mem.tail _ (List.Mem.tail _ (List.Mem.tail _ (List.Mem.tail _ (List.Mem.tail _ (List.Mem.head _))))))))))))))⟩
theorem zu_15 {T : List Cond} {a0 a1 a2 a3 a4 a5 a6 a7 a8 a9 a10 a11 a12 a13 a14 : Cond} (h : ∀ w ∈ [a0, a1, a2, a3, a4, a5, a6, a7, a8, a9, a10, a11, a12, a13, a14], w ∈ T) : a0 ∈ T ∧ a1 ∈ T ∧ a2 ∈ T ∧ a3 ∈ T ∧ a4 ∈ T ∧ a5 ∈ T ∧ a6 ∈ T ∧ a7 ∈ T ∧ a8 ∈ T ∧ a9 ∈ T ∧ a10 ∈ T ∧ a11 ∈ T ∧ a12 ∈ T ∧ a13 ∈ T ∧ a14 ∈ T := ⟨h a0 (List.Mem.head _), h a1 (List.Mem.tail _ (List.Mem.head _)), h a2 (List.Mem.tail _ (List.Mem.tail _ (List.Mem.head _))), h a3 (List.Mem.tail _ (List.Mem.tail _ (List.Mem.tail _ (List.Mem.head _)))), h a4 (List.Mem.tail _ (List.Mem.tail _ (List.Mem.tail _ (List.Mem.tail _ (List.Mem.head _))))), h a5 (List.Mem.tail _ (List.Mem.tail _ (List.Mem.tail _ (List.Mem.tail _ (List.Mem.tail _ (List.Mem.head _)))))), h a6 (List.Mem.tail _ (List.Mem.tail _ (List.Mem.tail _ (List.Mem.tail _ (List.Mem.tail _ (List.Mem.tail _ (List.Mem.head _))))))), h a7 (List.Mem.tail _ (List.Mem.tail _ (List.Mem.tail _ (List.Mem.tail _ (List.Mem.tail _ (List.Mem.tail _ (List.Mem.tail _ (List.Mem.head _)))))))), h a8 (List.Mem.tail _ (List.Mem.tail _ (List.Mem.tail _ (List.Mem.tail _ (List.Mem.tail _ (List.Mem.tail _ (List.Mem.tail _ (List.Mem.tail _ (List.Mem.head _))))))))), h a9 (List.Mem.tail _ (List.Mem.tail _ (List.Mem.tail _ (List.Mem.tail _ (List.Mem.tail _ (List.Mem.tail _ (List.Mem.tail _ (List.Mem.tail _ (List.Mem.tail _ (List.Mem.head _)))))))))), h a10 (List.Mem.tail _ (List.Mem.tail _ (List.Mem.tail _ (List.Mem.tail _ (List.Mem.tail _ (List.Mem.tail _ (List.Mem.tail _ (List.Mem.tail _ (List.Mem.tail _ (List.Mem.tail _ (List.Mem.head _))))))))))), h a11 (List.Mem.tail _ (List.Mem.tail _ (List.Mem.tail _ (List.Mem.tail _ (List.Mem.tail _ (List.Mem.tail _ (List.Mem.tail _ (List.Mem.tail _ (List.Mem.tail _ (List.Mem.tail _ (List.Mem.tail _ (List.Mem.head _)))))))))))), h a12 (List.Mem.tail _ (List.Mem.tail _ (List.Mem.tail _ (List.Mem.tail _ (List.Mem.tail _ (List.Mem.tail _ (List.Mem.tail _ (List.Mem.tail _ (List.Mem.tail _ (List.Mem.tail _ (List.Mem.tail _ (List.Mem.tail _ (List.Mem.head _))))))))))))), h a13 (List.Mem.tail _ (List.Mem.tail _ (List.Mem.tail _ (List.Mem.tail _ (List.Mem.tail _ (List.Mem.tail _ (List.Mem.tail _ (List.Mem.tail _ (List.Mem.tail _ (List.Mem.tail _ (List.Mem.tail _ (List.Mem.tail _ (List.Mem.tail _ (List.Mem.head _)))))))))))))), h a14 (List.Mem.tail _ (List.Mem.tail _ (List.Mem.tail _ (List.Mem.tail _ (List.Mem.tail _ (List.Mem.tail _ (List.Mem.tail _ (List.Mem.tail _ (List.Mem.tail _ (List.Mem.tail _ (List.Mem.tail _ (List.Mem.tail _ (List.Mem.tail _ (List.Mem.tail _ (List.Mem.head _)))))))))))))))⟩
theorem zu_16 {T : List Cond} {a0 a1 a2 a3 a4 a5 a6 a7 a8 a9 a10 a11 a12 a13 a14 a15 : Cond} (h : ∀ w ∈ [a0, a1, a2, a3, a4, a5, a6, a7, a8, a9, a10, a11, a12, a13, a14, a15], w ∈ T) : a0 ∈ T ∧ a1 ∈ T ∧ a2 ∈ T ∧ a3 ∈ T ∧ a4 ∈ T ∧ a5 ∈ T ∧ a6 ∈ T ∧ a7 ∈ T ∧ a8 ∈ T ∧ a9 ∈ T ∧ a10 ∈ T ∧ a11 ∈ T ∧ a12 ∈ T ∧ a13 ∈ T ∧ a14 ∈ T ∧ a15 ∈ T := ⟨h a0 (List.Mem.head _), h a1 (List.Mem.tail _ (List.Mem.head _)), h a2 (List.Mem.tail _ (List.Mem.tail _ (List.Mem.head _))), h a3 (List.Mem.tail _ (List.Mem.tail _ (List.Mem.tail _ (List.Mem.head _)))), h a4 (List.Mem.tail _ (List.Mem.tail _ (List.Mem.tail _ (List.Mem.tail _ (List.Mem.head _))))), h a5 (List.Mem.tail _ (List.Mem.tail _ (List.Mem.tail _ (List.Mem.tail _ (List.Mem.tail _ (List.Mem.head _)))))), h a6 (List.Mem.tail _ (List.Mem.tail _ (List.Mem.tail _ (List.Mem.tail _ (List.Mem.tail _ (List.Mem.tail _ (List.Mem.head _))))))), h a7 (List.Mem.tail _ (List.Mem.tail _ (List.Mem.tail _ (List.Mem.tail _ (List.Mem.tail _ (List.Mem.tail _ (List.Mem.tail _ (List.Mem.head _)))))))), h a8 (List.Mem.tail _ (List.Mem.tail _ (List.Mem.tail _ (List.Mem.tail _ (List.Mem.tail _ (List.Mem.tail _ (List.Mem.tail _ (List.Mem.tail _ (List.Mem.head _))))))))), h a9 (List.Mem.tail _ (List.Mem.tail _ (List.Mem.tail _ (List.Mem.tail _ (List.Mem.tail _ (List.Mem.tail _ (List.Mem.tail _ (List.Mem.tail _ (List.Mem.tail _ (List.Mem.head _)))))))))), h a10 (List.Mem.tail _ (List.Mem.tail _ (List.Mem.tail _ (List.Mem.tail _ (List.Mem.tail _ (List.Mem.tail _ (List.Mem.tail _ (List.Mem.tail _ (List.Mem.tail _ (List.Mem.tail _ (List.Mem.head _))))))))))), h a11 (List.Mem.tail _ (List.Mem.tail _ (List.Mem.tail _ (List.Mem.tail _ (List.Mem.tail _ (List.Mem.tail _ (List.Mem.tail _ (List.Mem.tail _ (List.Mem.tail _ (List.Mem.tail _ (List.Mem.tail _ (List.Mem.head _)))))))))))), h a12 (List.Mem.tail _ (List.Mem.tail _ (List.Mem.tail _ (List.Mem.tail _ (List.Mem.tail _ (List.Mem.tail _ (List.Mem.tail _ (List.Mem.tail _ (List.Mem.tail _ (List.Mem.tail _ (List.Mem.tail _ (List.Mem.tail _ (List.Mem.head _))))))))))))), h a13 (List.Mem.tail _ (List.Mem.tail _ (List.Mem.tail _ (List.Mem.tail _ (List.Mem.tail _ (List.Mem.tail _ (List.Mem.tail _ (List.Mem.tail _ (List.Mem.tail _ (List.Mem.tail _ (List.Mem.tail _ (List.Mem.tail _ (List.Mem.tail _ (List.Mem.head _)))))))))))))), h a14 (List.Mem.tail _ (List.Mem.tail _ (List.Mem.tail _ (List.Mem.tail _ (List.Mem.tail _ (List.Mem.tail _ (List.Mem.tail _ (List.Mem.tail _ (List.Mem.tail _ (List.Mem.tail _ (List.Mem.tail _ (List.Mem.tail _ (List.Mem.tail _ (List.Mem.tail _ (List.Mem.head _))))))))))))))), h a15 (List.Mem.tail _ (List.Mem.tail _ (List.Mem.tail _ (List.Mem.tail _ (List.Mem.tail _ (List.Mem.tail _ (List.Mem.tail _ (List.Mem.tail _ (List.Mem.tail _ (List.Mem.tail _ (List.Mem.tail _ (List.Mem.tail _ (List.Mem.tail _ (List.Mem.tail _ (List.Mem.tail _ (List.Mem.head _))))))))))))))))⟩
theorem z_mt1 {w : Cond} (h : w ∈ tables_1_1) (hg : goodWord w = true) : w ∈ za_Ts := List.mem_filter.mpr ⟨List.mem_append_right _ (show w ∈ tables_1 from List.mem_append_left _ (h)), hg⟩
abbrev zl_1_0 : List Cond := [Jvm.Cond.initialized "LyndonBenchLaw", Jvm.Cond.initialized "LyndonBench", Jvm.Cond.initialized "LyndonBench$State", Jvm.Cond.initialized "LyndonBench$Word", Jvm.Cond.initialized "java/lang/Math", Jvm.Cond.initialized "LyndonBench$History", Jvm.Cond.initialized "LyndonBench$Script", Jvm.Cond.initialized "java/lang/String", Jvm.Cond.initialized "java/lang/StringLatin1", Jvm.Cond.initialized "jdk/internal/util/Preconditions", Jvm.Cond.initialized "java/lang/StringUTF16", Jvm.Cond.initialized "java/lang/Throwable", Jvm.Cond.initialized "java/lang/Exception", Jvm.Cond.initialized "java/lang/RuntimeException", Jvm.Cond.initialized "java/lang/IndexOutOfBoundsException", Jvm.Cond.initialized "java/lang/Integer"]
abbrev zl_1_1 : List Cond := [Jvm.Cond.initialized "java/lang/IllegalArgumentException", Jvm.Cond.initialized "java/lang/IllegalStateException", Jvm.Cond.classLink "LyndonBenchLaw" (8 : Nat) "LyndonBench", Jvm.Cond.instantiable "LyndonBench" (7 : Nat), Jvm.Cond.methodLink "LyndonBenchLaw" (139 : Nat) ({ cls := "LyndonBench", name := "<init>", desc := "()V" } : Jvm.MethodName), Jvm.Cond.instanceMethod ({ cls := "LyndonBench", name := "<init>", desc := "()V" } : Jvm.MethodName), Jvm.Cond.code ({ cls := "LyndonBench", name := "<init>", desc := "()V" } : Jvm.MethodName) prog_1_method_1_code (1 : Nat) (Option.none : Option Jvm.ClassFile.FieldType), Jvm.Cond.methodLink "LyndonBench" (3 : Nat) ({ cls := "java/lang/Object", name := "<init>", desc := "()V" } : Jvm.MethodName), Jvm.Cond.instanceMethod ({ cls := "java/lang/Object", name := "<init>", desc := "()V" } : Jvm.MethodName), Jvm.Cond.code ({ cls := "java/lang/Object", name := "<init>", desc := "()V" } : Jvm.MethodName) object_method_1_code (1 : Nat) (Option.none : Option Jvm.ClassFile.FieldType), Jvm.Cond.classLink "LyndonBench" (9 : Nat) "LyndonBench$State", Jvm.Cond.instantiable "LyndonBench$State" (4 : Nat), Jvm.Cond.methodLink "LyndonBench" (11 : Nat) ({ cls := "LyndonBench$State", name := "<init>", desc := "()V" } : Jvm.MethodName), Jvm.Cond.instanceMethod ({ cls := "LyndonBench$State", name := "<init>", desc := "()V" } : Jvm.MethodName), Jvm.Cond.code ({ cls := "LyndonBench$State", name := "<init>", desc := "()V" } : Jvm.MethodName) prog_6_method_1_code (2 : Nat) (Option.none : Option Jvm.ClassFile.FieldType), Jvm.Cond.methodLink "LyndonBench$State" (3 : Nat) ({ cls := "java/lang/Object", name := "<init>", desc := "()V" } : Jvm.MethodName)]
abbrev zl_1_2 : List Cond := [Jvm.Cond.classLink "LyndonBench$State" (15 : Nat) "LyndonBench$Word", Jvm.Cond.instantiable "LyndonBench$Word" (2 : Nat), Jvm.Cond.methodLink "LyndonBench$State" (17 : Nat) ({ cls := "LyndonBench$Word", name := "<init>", desc := "(I)V" } : Jvm.MethodName), Jvm.Cond.instanceMethod ({ cls := "LyndonBench$Word", name := "<init>", desc := "(I)V" } : Jvm.MethodName), Jvm.Cond.code ({ cls := "LyndonBench$Word", name := "<init>", desc := "(I)V" } : Jvm.MethodName) prog_7_method_1_code (2 : Nat) (Option.none : Option Jvm.ClassFile.FieldType), Jvm.Cond.methodLink "LyndonBench$Word" (3 : Nat) ({ cls := "java/lang/Object", name := "<init>", desc := "()V" } : Jvm.MethodName), Jvm.Cond.methodLink "LyndonBench$Word" (15 : Nat) ({ cls := "java/lang/Math", name := "max", desc := "(II)I" } : Jvm.MethodName), Jvm.Cond.static ({ cls := "java/lang/Math", name := "max", desc := "(II)I" } : Jvm.MethodName), Jvm.Cond.code ({ cls := "java/lang/Math", name := "max", desc := "(II)I" } : Jvm.MethodName) prog_15_method_65_code (2 : Nat) (Option.some Jvm.ClassFile.FieldType.int), Jvm.Cond.fieldLink "LyndonBench$Word" (21 : Nat) "LyndonBench$Word" "row" "[B", Jvm.Cond.fieldLink "LyndonBench$Word" (9 : Nat) "LyndonBench$Word" "size" "I", Jvm.Cond.fieldLink "LyndonBench$State" (42 : Nat) "LyndonBench$Word" "size" "I", Jvm.Cond.fieldLink "LyndonBench" (70 : Nat) "LyndonBench$Word" "size" "I", Jvm.Cond.laysFinal "LyndonBench$Word" "LyndonBench$Word" "row" "[B", Jvm.Cond.soleField "LyndonBench$Word" "row", Jvm.Cond.lays "LyndonBench$Word" "LyndonBench$Word" "size" "I"]
abbrev zl_1_3 : List Cond := [Jvm.Cond.soleField "LyndonBench$Word" "size", Jvm.Cond.superclass "LyndonBench$Word" "java/lang/Object", Jvm.Cond.arrayClass Jvm.ClassFile.FieldType.byte, Jvm.Cond.arrayOver (Jvm.ClassFile.FieldType.object "LyndonBench$Word"), Jvm.Cond.fieldLink "LyndonBench$State" (9 : Nat) "LyndonBench$State" "letterCount" "I", Jvm.Cond.fieldLink "LyndonBench" (113 : Nat) "LyndonBench$State" "letterCount" "I", Jvm.Cond.fieldLink "LyndonBench$State" (20 : Nat) "LyndonBench$State" "text" "LLyndonBench$Word;", Jvm.Cond.fieldLink "LyndonBench" (52 : Nat) "LyndonBench$State" "text" "LLyndonBench$Word;", Jvm.Cond.fieldLink "LyndonBench$State" (24 : Nat) "LyndonBench$State" "shelf" "[LLyndonBench$Word;", Jvm.Cond.fieldLink "LyndonBench$State" (28 : Nat) "LyndonBench$State" "keptWords" "I", Jvm.Cond.fieldLink "LyndonBench" (183 : Nat) "LyndonBench$State" "keptWords" "I", Jvm.Cond.lays "LyndonBench$State" "LyndonBench$State" "letterCount" "I", Jvm.Cond.soleField "LyndonBench$State" "letterCount", Jvm.Cond.laysFinal "LyndonBench$State" "LyndonBench$State" "text" "LLyndonBench$Word;", Jvm.Cond.soleField "LyndonBench$State" "text", Jvm.Cond.laysFinal "LyndonBench$State" "LyndonBench$State" "shelf" "[LLyndonBench$Word;"]
abbrev zl_1_4 : List Cond := [Jvm.Cond.soleField "LyndonBench$State" "shelf", Jvm.Cond.lays "LyndonBench$State" "LyndonBench$State" "keptWords" "I", Jvm.Cond.soleField "LyndonBench$State" "keptWords", Jvm.Cond.superclass "LyndonBench$State" "java/lang/Object", Jvm.Cond.classLink "LyndonBench" (16 : Nat) "LyndonBench$History", Jvm.Cond.instantiable "LyndonBench$History" (2 : Nat), Jvm.Cond.methodLink "LyndonBench" (18 : Nat) ({ cls := "LyndonBench$History", name := "<init>", desc := "()V" } : Jvm.MethodName), Jvm.Cond.instanceMethod ({ cls := "LyndonBench$History", name := "<init>", desc := "()V" } : Jvm.MethodName), Jvm.Cond.code ({ cls := "LyndonBench$History", name := "<init>", desc := "()V" } : Jvm.MethodName) prog_4_method_1_code (2 : Nat) (Option.none : Option Jvm.ClassFile.FieldType), Jvm.Cond.methodLink "LyndonBench$History" (3 : Nat) ({ cls := "java/lang/Object", name := "<init>", desc := "()V" } : Jvm.MethodName), Jvm.Cond.classLink "LyndonBench$History" (9 : Nat) "LyndonBench$State", Jvm.Cond.arrayOver (Jvm.ClassFile.FieldType.object "LyndonBench$State"), Jvm.Cond.methodLink "LyndonBench$History" (21 : Nat) ({ cls := "LyndonBench$State", name := "<init>", desc := "()V" } : Jvm.MethodName), Jvm.Cond.fieldLink "LyndonBench$History" (11 : Nat) "LyndonBench$History" "states" "[LLyndonBench$State;", Jvm.Cond.fieldLink "LyndonBench$History" (17 : Nat) "LyndonBench$History" "count" "I", Jvm.Cond.fieldLink "LyndonBench" (212 : Nat) "LyndonBench$History" "count" "I"]
abbrev zl_1_5 : List Cond := [Jvm.Cond.laysFinal "LyndonBench$History" "LyndonBench$History" "states" "[LLyndonBench$State;", Jvm.Cond.soleField "LyndonBench$History" "states", Jvm.Cond.lays "LyndonBench$History" "LyndonBench$History" "count" "I", Jvm.Cond.soleField "LyndonBench$History" "count", Jvm.Cond.superclass "LyndonBench$History" "java/lang/Object", Jvm.Cond.classLink "LyndonBench" (30 : Nat) "LyndonBench$Script", Jvm.Cond.instantiable "LyndonBench$Script" (12 : Nat), Jvm.Cond.methodLinkNest "LyndonBench" (32 : Nat) ({ cls := "LyndonBench$Script", name := "<init>", desc := "()V" } : Jvm.MethodName) "LyndonBench", Jvm.Cond.instanceMethod ({ cls := "LyndonBench$Script", name := "<init>", desc := "()V" } : Jvm.MethodName), Jvm.Cond.code ({ cls := "LyndonBench$Script", name := "<init>", desc := "()V" } : Jvm.MethodName) prog_5_method_1_code (1 : Nat) (Option.none : Option Jvm.ClassFile.FieldType), Jvm.Cond.methodLink "LyndonBench$Script" (3 : Nat) ({ cls := "java/lang/Object", name := "<init>", desc := "()V" } : Jvm.MethodName), Jvm.Cond.classLink "LyndonBench$Script" (9 : Nat) "LyndonBench$Word", Jvm.Cond.methodLink "LyndonBench$Script" (11 : Nat) ({ cls := "LyndonBench$Word", name := "<init>", desc := "(I)V" } : Jvm.MethodName), Jvm.Cond.classLink "LyndonBench$Script" (20 : Nat) "LyndonBench$State", Jvm.Cond.methodLink "LyndonBench$Script" (22 : Nat) ({ cls := "LyndonBench$State", name := "<init>", desc := "()V" } : Jvm.MethodName), Jvm.Cond.fieldLink "LyndonBench$Script" (14 : Nat) "LyndonBench$Script" "source" "LLyndonBench$Word;"]
abbrev zl_1_6 : List Cond := [Jvm.Cond.fieldLink "LyndonBench$Script" (23 : Nat) "LyndonBench$Script" "state" "LLyndonBench$State;", Jvm.Cond.fieldLink "LyndonBench$Script" (27 : Nat) "LyndonBench$Script" "errorKind" "I", Jvm.Cond.fieldLink "LyndonBench$Script" (31 : Nat) "LyndonBench$Script" "errorOffset" "I", Jvm.Cond.fieldLink "LyndonBench$Script" (34 : Nat) "LyndonBench$Script" "token" "I", Jvm.Cond.fieldLink "LyndonBench$Script" (37 : Nat) "LyndonBench$Script" "tokenStart" "I", Jvm.Cond.fieldLink "LyndonBench$Script" (40 : Nat) "LyndonBench$Script" "position" "I", Jvm.Cond.fieldLink "LyndonBench$Script" (43 : Nat) "LyndonBench$Script" "number" "I", Jvm.Cond.fieldLink "LyndonBench$Script" (46 : Nat) "LyndonBench$Script" "executed" "I", Jvm.Cond.fieldLink "LyndonBench$Script" (49 : Nat) "LyndonBench$Script" "nesting" "I", Jvm.Cond.fieldLink "LyndonBench$Script" (52 : Nat) "LyndonBench$Script" "bodies" "[I", Jvm.Cond.fieldLink "LyndonBench$Script" (56 : Nat) "LyndonBench$Script" "rounds" "[I", Jvm.Cond.laysFinal "LyndonBench$Script" "LyndonBench$Script" "source" "LLyndonBench$Word;", Jvm.Cond.soleField "LyndonBench$Script" "source", Jvm.Cond.laysFinal "LyndonBench$Script" "LyndonBench$Script" "state" "LLyndonBench$State;", Jvm.Cond.soleField "LyndonBench$Script" "state", Jvm.Cond.lays "LyndonBench$Script" "LyndonBench$Script" "errorKind" "I"]
abbrev zl_1_7 : List Cond := [Jvm.Cond.soleField "LyndonBench$Script" "errorKind", Jvm.Cond.lays "LyndonBench$Script" "LyndonBench$Script" "errorOffset" "I", Jvm.Cond.soleField "LyndonBench$Script" "errorOffset", Jvm.Cond.lays "LyndonBench$Script" "LyndonBench$Script" "token" "I", Jvm.Cond.soleField "LyndonBench$Script" "token", Jvm.Cond.lays "LyndonBench$Script" "LyndonBench$Script" "tokenStart" "I", Jvm.Cond.soleField "LyndonBench$Script" "tokenStart", Jvm.Cond.lays "LyndonBench$Script" "LyndonBench$Script" "position" "I", Jvm.Cond.soleField "LyndonBench$Script" "position", Jvm.Cond.lays "LyndonBench$Script" "LyndonBench$Script" "number" "I", Jvm.Cond.soleField "LyndonBench$Script" "number", Jvm.Cond.lays "LyndonBench$Script" "LyndonBench$Script" "executed" "I", Jvm.Cond.soleField "LyndonBench$Script" "executed", Jvm.Cond.lays "LyndonBench$Script" "LyndonBench$Script" "nesting" "I", Jvm.Cond.soleField "LyndonBench$Script" "nesting", Jvm.Cond.laysFinal "LyndonBench$Script" "LyndonBench$Script" "bodies" "[I"]
abbrev zl_1_8 : List Cond := [Jvm.Cond.soleField "LyndonBench$Script" "bodies", Jvm.Cond.laysFinal "LyndonBench$Script" "LyndonBench$Script" "rounds" "[I", Jvm.Cond.soleField "LyndonBench$Script" "rounds", Jvm.Cond.superclass "LyndonBench$Script" "java/lang/Object", Jvm.Cond.arrayClass Jvm.ClassFile.FieldType.int, Jvm.Cond.classLink "LyndonBench" (37 : Nat) "LyndonBench$Word", Jvm.Cond.methodLink "LyndonBench" (39 : Nat) ({ cls := "LyndonBench$Word", name := "<init>", desc := "(I)V" } : Jvm.MethodName), Jvm.Cond.methodLink "LyndonBench" (49 : Nat) ({ cls := "LyndonBench$State", name := "clear", desc := "(I)V" } : Jvm.MethodName), Jvm.Cond.instanceMethod ({ cls := "LyndonBench$State", name := "clear", desc := "(I)V" } : Jvm.MethodName), Jvm.Cond.selects "LyndonBench$State" ({ cls := "LyndonBench$State", name := "clear", desc := "(I)V" } : Jvm.MethodName) ({ cls := "LyndonBench$State", name := "clear", desc := "(I)V" } : Jvm.MethodName), Jvm.Cond.code ({ cls := "LyndonBench$State", name := "clear", desc := "(I)V" } : Jvm.MethodName) prog_6_method_2_code (2 : Nat) (Option.none : Option Jvm.ClassFile.FieldType), Jvm.Cond.methodLink "LyndonBench$State" (31 : Nat) ({ cls := "LyndonBench$Word", name := "clear", desc := "()V" } : Jvm.MethodName), Jvm.Cond.instanceMethod ({ cls := "LyndonBench$Word", name := "clear", desc := "()V" } : Jvm.MethodName), Jvm.Cond.selects "LyndonBench$Word" ({ cls := "LyndonBench$Word", name := "clear", desc := "()V" } : Jvm.MethodName) ({ cls := "LyndonBench$Word", name := "clear", desc := "()V" } : Jvm.MethodName), Jvm.Cond.code ({ cls := "LyndonBench$Word", name := "clear", desc := "()V" } : Jvm.MethodName) prog_7_method_4_code (1 : Nat) (Option.none : Option Jvm.ClassFile.FieldType), Jvm.Cond.stringRef "LyndonBench" (55 : Nat) "acabaabaccabab"]
abbrev zl_1_9 : List Cond := [Jvm.Cond.methodLink "LyndonBench" (57 : Nat) ({ cls := "LyndonBench$Word", name := "addString", desc := "(Ljava/lang/String;)V" } : Jvm.MethodName), Jvm.Cond.instanceMethod ({ cls := "LyndonBench$Word", name := "addString", desc := "(Ljava/lang/String;)V" } : Jvm.MethodName), Jvm.Cond.selects "LyndonBench$Word" ({ cls := "LyndonBench$Word", name := "addString", desc := "(Ljava/lang/String;)V" } : Jvm.MethodName) ({ cls := "LyndonBench$Word", name := "addString", desc := "(Ljava/lang/String;)V" } : Jvm.MethodName), Jvm.Cond.code ({ cls := "LyndonBench$Word", name := "addString", desc := "(Ljava/lang/String;)V" } : Jvm.MethodName) prog_7_method_7_code (3 : Nat) (Option.none : Option Jvm.ClassFile.FieldType), Jvm.Cond.methodLink "LyndonBench$Word" (29 : Nat) ({ cls := "java/lang/String", name := "length", desc := "()I" } : Jvm.MethodName), Jvm.Cond.instanceMethod ({ cls := "java/lang/String", name := "length", desc := "()I" } : Jvm.MethodName), Jvm.Cond.selects "java/lang/String" ({ cls := "java/lang/String", name := "length", desc := "()I" } : Jvm.MethodName) ({ cls := "java/lang/String", name := "length", desc := "()I" } : Jvm.MethodName), Jvm.Cond.code ({ cls := "java/lang/String", name := "length", desc := "()I" } : Jvm.MethodName) prog_17_method_54_code (1 : Nat) (Option.some Jvm.ClassFile.FieldType.int), Jvm.Cond.methodLink "java/lang/String" (335 : Nat) ({ cls := "java/lang/String", name := "coder", desc := "()B" } : Jvm.MethodName), Jvm.Cond.instanceMethod ({ cls := "java/lang/String", name := "coder", desc := "()B" } : Jvm.MethodName), Jvm.Cond.selects "java/lang/String" ({ cls := "java/lang/String", name := "coder", desc := "()B" } : Jvm.MethodName) ({ cls := "java/lang/String", name := "coder", desc := "()B" } : Jvm.MethodName), Jvm.Cond.code ({ cls := "java/lang/String", name := "coder", desc := "()B" } : Jvm.MethodName) prog_17_method_152_code (1 : Nat) (Option.some Jvm.ClassFile.FieldType.byte), Jvm.Cond.fieldLink "java/lang/String" (38 : Nat) "java/lang/String" "COMPACT_STRINGS" "Z", Jvm.Cond.laysStatic "java/lang/String" "COMPACT_STRINGS" "Z", Jvm.Cond.methodLink "LyndonBench$Word" (35 : Nat) ({ cls := "java/lang/String", name := "charAt", desc := "(I)C" } : Jvm.MethodName), Jvm.Cond.instanceMethod ({ cls := "java/lang/String", name := "charAt", desc := "(I)C" } : Jvm.MethodName)]
abbrev zl_1_10 : List Cond := [Jvm.Cond.selects "java/lang/String" ({ cls := "java/lang/String", name := "charAt", desc := "(I)C" } : Jvm.MethodName) ({ cls := "java/lang/String", name := "charAt", desc := "(I)C" } : Jvm.MethodName), Jvm.Cond.code ({ cls := "java/lang/String", name := "charAt", desc := "(I)C" } : Jvm.MethodName) prog_17_method_56_code (2 : Nat) (Option.some Jvm.ClassFile.FieldType.char), Jvm.Cond.methodLink "java/lang/String" (492 : Nat) ({ cls := "java/lang/String", name := "isLatin1", desc := "()Z" } : Jvm.MethodName), Jvm.Cond.instanceMethod ({ cls := "java/lang/String", name := "isLatin1", desc := "()Z" } : Jvm.MethodName), Jvm.Cond.selects "java/lang/String" ({ cls := "java/lang/String", name := "isLatin1", desc := "()Z" } : Jvm.MethodName) ({ cls := "java/lang/String", name := "isLatin1", desc := "()Z" } : Jvm.MethodName), Jvm.Cond.code ({ cls := "java/lang/String", name := "isLatin1", desc := "()Z" } : Jvm.MethodName) prog_17_method_154_code (1 : Nat) (Option.some Jvm.ClassFile.FieldType.boolean), Jvm.Cond.methodLink "java/lang/String" (495 : Nat) ({ cls := "java/lang/StringLatin1", name := "charAt", desc := "([BI)C" } : Jvm.MethodName), Jvm.Cond.static ({ cls := "java/lang/StringLatin1", name := "charAt", desc := "([BI)C" } : Jvm.MethodName), Jvm.Cond.code ({ cls := "java/lang/StringLatin1", name := "charAt", desc := "([BI)C" } : Jvm.MethodName) prog_18_method_2_code (2 : Nat) (Option.some Jvm.ClassFile.FieldType.char), Jvm.Cond.methodLink "java/lang/StringLatin1" (9 : Nat) ({ cls := "java/lang/String", name := "checkIndex", desc := "(II)V" } : Jvm.MethodName), Jvm.Cond.static ({ cls := "java/lang/String", name := "checkIndex", desc := "(II)V" } : Jvm.MethodName), Jvm.Cond.code ({ cls := "java/lang/String", name := "checkIndex", desc := "(II)V" } : Jvm.MethodName) prog_17_method_155_code (2 : Nat) (Option.none : Option Jvm.ClassFile.FieldType), Jvm.Cond.fieldLink "java/lang/String" (1053 : Nat) "jdk/internal/util/Preconditions" "SIOOBE_FORMATTER" "Ljava/util/function/BiFunction;", Jvm.Cond.laysStatic "jdk/internal/util/Preconditions" "SIOOBE_FORMATTER" "Ljava/util/function/BiFunction;", Jvm.Cond.methodLink "java/lang/String" (1059 : Nat) ({ cls := "jdk/internal/util/Preconditions", name := "checkIndex", desc := "(IILjava/util/function/BiFunction;)I" } : Jvm.MethodName), Jvm.Cond.static ({ cls := "jdk/internal/util/Preconditions", name := "checkIndex", desc := "(IILjava/util/function/BiFunction;)I" } : Jvm.MethodName)]
abbrev zl_1_11 : List Cond := [Jvm.Cond.code ({ cls := "jdk/internal/util/Preconditions", name := "checkIndex", desc := "(IILjava/util/function/BiFunction;)I" } : Jvm.MethodName) prog_21_method_11_code (3 : Nat) (Option.some Jvm.ClassFile.FieldType.int), Jvm.Cond.methodLink "java/lang/String" (498 : Nat) ({ cls := "java/lang/StringUTF16", name := "charAt", desc := "([BI)C" } : Jvm.MethodName), Jvm.Cond.static ({ cls := "java/lang/StringUTF16", name := "charAt", desc := "([BI)C" } : Jvm.MethodName), Jvm.Cond.code ({ cls := "java/lang/StringUTF16", name := "charAt", desc := "([BI)C" } : Jvm.MethodName) prog_19_method_83_code (2 : Nat) (Option.some Jvm.ClassFile.FieldType.char), Jvm.Cond.methodLink "java/lang/StringUTF16" (67 : Nat) ({ cls := "java/lang/StringUTF16", name := "checkIndex", desc := "(I[B)V" } : Jvm.MethodName), Jvm.Cond.static ({ cls := "java/lang/StringUTF16", name := "checkIndex", desc := "(I[B)V" } : Jvm.MethodName), Jvm.Cond.code ({ cls := "java/lang/StringUTF16", name := "checkIndex", desc := "(I[B)V" } : Jvm.MethodName) prog_19_method_91_code (2 : Nat) (Option.none : Option Jvm.ClassFile.FieldType), Jvm.Cond.methodLink "java/lang/StringUTF16" (48 : Nat) ({ cls := "java/lang/StringUTF16", name := "length", desc := "([B)I" } : Jvm.MethodName), Jvm.Cond.static ({ cls := "java/lang/StringUTF16", name := "length", desc := "([B)I" } : Jvm.MethodName), Jvm.Cond.code ({ cls := "java/lang/StringUTF16", name := "length", desc := "([B)I" } : Jvm.MethodName) prog_19_method_6_code (1 : Nat) (Option.some Jvm.ClassFile.FieldType.int), Jvm.Cond.methodLink "java/lang/StringUTF16" (414 : Nat) ({ cls := "java/lang/String", name := "checkIndex", desc := "(II)V" } : Jvm.MethodName), Jvm.Cond.methodLink "java/lang/StringUTF16" (71 : Nat) ({ cls := "java/lang/StringUTF16", name := "getChar", desc := "([BI)C" } : Jvm.MethodName), Jvm.Cond.static ({ cls := "java/lang/StringUTF16", name := "getChar", desc := "([BI)C" } : Jvm.MethodName), Jvm.Cond.code ({ cls := "java/lang/StringUTF16", name := "getChar", desc := "([BI)C" } : Jvm.MethodName) prog_19_method_5_code (2 : Nat) (Option.some Jvm.ClassFile.FieldType.char), Jvm.Cond.fieldLink "java/lang/StringUTF16" (44 : Nat) "java/lang/StringUTF16" "$assertionsDisabled" "Z", Jvm.Cond.laysStatic "java/lang/StringUTF16" "$assertionsDisabled" "Z"]
abbrev zl_1_12 : List Cond := [Jvm.Cond.fieldLink "java/lang/StringUTF16" (59 : Nat) "java/lang/StringUTF16" "HI_BYTE_SHIFT" "I", Jvm.Cond.laysStatic "java/lang/StringUTF16" "HI_BYTE_SHIFT" "I", Jvm.Cond.fieldLink "java/lang/StringUTF16" (63 : Nat) "java/lang/StringUTF16" "LO_BYTE_SHIFT" "I", Jvm.Cond.laysStatic "java/lang/StringUTF16" "LO_BYTE_SHIFT" "I", Jvm.Cond.methodLink "LyndonBench$Word" (25 : Nat) ({ cls := "LyndonBench$Word", name := "add", desc := "(I)V" } : Jvm.MethodName), Jvm.Cond.instanceMethod ({ cls := "LyndonBench$Word", name := "add", desc := "(I)V" } : Jvm.MethodName), Jvm.Cond.selects "LyndonBench$Word" ({ cls := "LyndonBench$Word", name := "add", desc := "(I)V" } : Jvm.MethodName) ({ cls := "LyndonBench$Word", name := "add", desc := "(I)V" } : Jvm.MethodName), Jvm.Cond.code ({ cls := "LyndonBench$Word", name := "add", desc := "(I)V" } : Jvm.MethodName) prog_7_method_5_code (2 : Nat) (Option.none : Option Jvm.ClassFile.FieldType), Jvm.Cond.stringRef "LyndonBench" (61 : Nat) "abacab", Jvm.Cond.methodLink "LyndonBench" (63 : Nat) ({ cls := "LyndonBench$State", name := "keep", desc := "(LLyndonBench$Word;II)V" } : Jvm.MethodName), Jvm.Cond.instanceMethod ({ cls := "LyndonBench$State", name := "keep", desc := "(LLyndonBench$Word;II)V" } : Jvm.MethodName), Jvm.Cond.selects "LyndonBench$State" ({ cls := "LyndonBench$State", name := "keep", desc := "(LLyndonBench$Word;II)V" } : Jvm.MethodName) ({ cls := "LyndonBench$State", name := "keep", desc := "(LLyndonBench$Word;II)V" } : Jvm.MethodName), Jvm.Cond.code ({ cls := "LyndonBench$State", name := "keep", desc := "(LLyndonBench$Word;II)V" } : Jvm.MethodName) prog_6_method_9_code (5 : Nat) (Option.none : Option Jvm.ClassFile.FieldType), Jvm.Cond.methodLink "LyndonBench$State" (53 : Nat) ({ cls := "LyndonBench$Word", name := "addPart", desc := "(LLyndonBench$Word;II)V" } : Jvm.MethodName), Jvm.Cond.instanceMethod ({ cls := "LyndonBench$Word", name := "addPart", desc := "(LLyndonBench$Word;II)V" } : Jvm.MethodName), Jvm.Cond.selects "LyndonBench$Word" ({ cls := "LyndonBench$Word", name := "addPart", desc := "(LLyndonBench$Word;II)V" } : Jvm.MethodName) ({ cls := "LyndonBench$Word", name := "addPart", desc := "(LLyndonBench$Word;II)V" } : Jvm.MethodName)]
abbrev zl_1_13 : List Cond := [Jvm.Cond.code ({ cls := "LyndonBench$Word", name := "addPart", desc := "(LLyndonBench$Word;II)V" } : Jvm.MethodName) prog_7_method_8_code (5 : Nat) (Option.none : Option Jvm.ClassFile.FieldType), Jvm.Cond.methodLink "LyndonBench$Word" (39 : Nat) ({ cls := "LyndonBench$Word", name := "at", desc := "(I)I" } : Jvm.MethodName), Jvm.Cond.instanceMethod ({ cls := "LyndonBench$Word", name := "at", desc := "(I)I" } : Jvm.MethodName), Jvm.Cond.selects "LyndonBench$Word" ({ cls := "LyndonBench$Word", name := "at", desc := "(I)I" } : Jvm.MethodName) ({ cls := "LyndonBench$Word", name := "at", desc := "(I)I" } : Jvm.MethodName), Jvm.Cond.code ({ cls := "LyndonBench$Word", name := "at", desc := "(I)I" } : Jvm.MethodName) prog_7_method_2_code (2 : Nat) (Option.some Jvm.ClassFile.FieldType.int), Jvm.Cond.fieldLink "LyndonBench" (12 : Nat) "LyndonBench" "now" "LLyndonBench$State;", Jvm.Cond.fieldLink "LyndonBench" (19 : Nat) "LyndonBench" "history" "LLyndonBench$History;", Jvm.Cond.fieldLink "LyndonBench" (23 : Nat) "LyndonBench" "snapshot" "LLyndonBench$State;", Jvm.Cond.fieldLink "LyndonBench" (26 : Nat) "LyndonBench" "snapshotSaved" "Z", Jvm.Cond.fieldLink "LyndonBench" (33 : Nat) "LyndonBench" "script" "LLyndonBench$Script;", Jvm.Cond.fieldLink "LyndonBench" (42 : Nat) "LyndonBench" "report" "LLyndonBench$Word;", Jvm.Cond.fieldLink "LyndonBench" (46 : Nat) "LyndonBench" "trial" "LLyndonBench$Word;", Jvm.Cond.laysFinal "LyndonBench" "LyndonBench" "now" "LLyndonBench$State;", Jvm.Cond.soleField "LyndonBench" "now", Jvm.Cond.laysFinal "LyndonBench" "LyndonBench" "history" "LLyndonBench$History;", Jvm.Cond.soleField "LyndonBench" "history"]
abbrev zl_1_14 : List Cond := [Jvm.Cond.laysFinal "LyndonBench" "LyndonBench" "snapshot" "LLyndonBench$State;", Jvm.Cond.soleField "LyndonBench" "snapshot", Jvm.Cond.lays "LyndonBench" "LyndonBench" "snapshotSaved" "Z", Jvm.Cond.soleField "LyndonBench" "snapshotSaved", Jvm.Cond.laysFinal "LyndonBench" "LyndonBench" "script" "LLyndonBench$Script;", Jvm.Cond.soleField "LyndonBench" "script", Jvm.Cond.laysFinal "LyndonBench" "LyndonBench" "report" "LLyndonBench$Word;", Jvm.Cond.soleField "LyndonBench" "report", Jvm.Cond.laysFinal "LyndonBench" "LyndonBench" "trial" "LLyndonBench$Word;", Jvm.Cond.soleField "LyndonBench" "trial", Jvm.Cond.superclass "LyndonBench" "java/lang/Object", Jvm.Cond.methodLink "LyndonBenchLaw" (136 : Nat) ({ cls := "LyndonBench", name := "undo", desc := "()I" } : Jvm.MethodName), Jvm.Cond.instanceMethod ({ cls := "LyndonBench", name := "undo", desc := "()I" } : Jvm.MethodName), Jvm.Cond.selects "LyndonBench" ({ cls := "LyndonBench", name := "undo", desc := "()I" } : Jvm.MethodName) ({ cls := "LyndonBench", name := "undo", desc := "()I" } : Jvm.MethodName), Jvm.Cond.code ({ cls := "LyndonBench", name := "undo", desc := "()I" } : Jvm.MethodName) prog_1_method_18_code (1 : Nat) (Option.some Jvm.ClassFile.FieldType.int), Jvm.Cond.methodLink "LyndonBench" (208 : Nat) ({ cls := "LyndonBench$History", name := "bringBack", desc := "(LLyndonBench$State;)Z" } : Jvm.MethodName)]
set_option maxRecDepth 100000 in
theorem ztq_1 : tables_1_1 = zl_1_0 ++ (zl_1_1 ++ (zl_1_2 ++ (zl_1_3 ++ (zl_1_4 ++ (zl_1_5 ++ (zl_1_6 ++ (zl_1_7 ++ (zl_1_8 ++ (zl_1_9 ++ (zl_1_10 ++ (zl_1_11 ++ (zl_1_12 ++ (zl_1_13 ++ (zl_1_14)))))))))))))) := rfl
theorem zls_1_0 : ∀ w ∈ zl_1_0, w ∈ tables_1_1 := fun w hw => by
  rw [ztq_1]
  exact List.mem_append_left _ hw
def zlt_1_0 := zu_16 zls_1_0
theorem zls_1_1 : ∀ w ∈ zl_1_1, w ∈ tables_1_1 := fun w hw => by
  rw [ztq_1]
  exact List.mem_append_right _ (List.mem_append_left _ hw)
def zlt_1_1 := zu_16 zls_1_1
theorem zls_1_2 : ∀ w ∈ zl_1_2, w ∈ tables_1_1 := fun w hw => by
  rw [ztq_1]
  exact List.mem_append_right _ (List.mem_append_right _ (List.mem_append_left _ hw))
def zlt_1_2 := zu_16 zls_1_2
theorem zls_1_3 : ∀ w ∈ zl_1_3, w ∈ tables_1_1 := fun w hw => by
  rw [ztq_1]
  exact List.mem_append_right _ (List.mem_append_right _ (List.mem_append_right _ (List.mem_append_left _ hw)))
def zlt_1_3 := zu_16 zls_1_3
theorem zls_1_4 : ∀ w ∈ zl_1_4, w ∈ tables_1_1 := fun w hw => by
  rw [ztq_1]
  exact List.mem_append_right _ (List.mem_append_right _ (List.mem_append_right _ (List.mem_append_right _ (List.mem_append_left _ hw))))
def zlt_1_4 := zu_16 zls_1_4
theorem zls_1_5 : ∀ w ∈ zl_1_5, w ∈ tables_1_1 := fun w hw => by
  rw [ztq_1]
  exact List.mem_append_right _ (List.mem_append_right _ (List.mem_append_right _ (List.mem_append_right _ (List.mem_append_right _ (List.mem_append_left _ hw)))))
def zlt_1_5 := zu_16 zls_1_5
theorem zls_1_6 : ∀ w ∈ zl_1_6, w ∈ tables_1_1 := fun w hw => by
  rw [ztq_1]
  exact List.mem_append_right _ (List.mem_append_right _ (List.mem_append_right _ (List.mem_append_right _ (List.mem_append_right _ (List.mem_append_right _ (List.mem_append_left _ hw))))))
def zlt_1_6 := zu_16 zls_1_6
theorem zls_1_7 : ∀ w ∈ zl_1_7, w ∈ tables_1_1 := fun w hw => by
  rw [ztq_1]
  exact List.mem_append_right _ (List.mem_append_right _ (List.mem_append_right _ (List.mem_append_right _ (List.mem_append_right _ (List.mem_append_right _ (List.mem_append_right _ (List.mem_append_left _ hw)))))))
def zlt_1_7 := zu_16 zls_1_7
theorem zls_1_8 : ∀ w ∈ zl_1_8, w ∈ tables_1_1 := fun w hw => by
  rw [ztq_1]
  exact List.mem_append_right _ (List.mem_append_right _ (List.mem_append_right _ (List.mem_append_right _ (List.mem_append_right _ (List.mem_append_right _ (List.mem_append_right _ (List.mem_append_right _ (List.mem_append_left _ hw))))))))
def zlt_1_8 := zu_16 zls_1_8
theorem zls_1_9 : ∀ w ∈ zl_1_9, w ∈ tables_1_1 := fun w hw => by
  rw [ztq_1]
  exact List.mem_append_right _ (List.mem_append_right _ (List.mem_append_right _ (List.mem_append_right _ (List.mem_append_right _ (List.mem_append_right _ (List.mem_append_right _ (List.mem_append_right _ (List.mem_append_right _ (List.mem_append_left _ hw)))))))))
def zlt_1_9 := zu_16 zls_1_9
theorem zls_1_10 : ∀ w ∈ zl_1_10, w ∈ tables_1_1 := fun w hw => by
  rw [ztq_1]
  exact List.mem_append_right _ (List.mem_append_right _ (List.mem_append_right _ (List.mem_append_right _ (List.mem_append_right _ (List.mem_append_right _ (List.mem_append_right _ (List.mem_append_right _ (List.mem_append_right _ (List.mem_append_right _ (List.mem_append_left _ hw))))))))))
def zlt_1_10 := zu_16 zls_1_10
theorem zls_1_11 : ∀ w ∈ zl_1_11, w ∈ tables_1_1 := fun w hw => by
  rw [ztq_1]
  exact List.mem_append_right _ (List.mem_append_right _ (List.mem_append_right _ (List.mem_append_right _ (List.mem_append_right _ (List.mem_append_right _ (List.mem_append_right _ (List.mem_append_right _ (List.mem_append_right _ (List.mem_append_right _ (List.mem_append_right _ (List.mem_append_left _ hw)))))))))))
def zlt_1_11 := zu_16 zls_1_11
theorem zls_1_12 : ∀ w ∈ zl_1_12, w ∈ tables_1_1 := fun w hw => by
  rw [ztq_1]
  exact List.mem_append_right _ (List.mem_append_right _ (List.mem_append_right _ (List.mem_append_right _ (List.mem_append_right _ (List.mem_append_right _ (List.mem_append_right _ (List.mem_append_right _ (List.mem_append_right _ (List.mem_append_right _ (List.mem_append_right _ (List.mem_append_right _ (List.mem_append_left _ hw))))))))))))
def zlt_1_12 := zu_16 zls_1_12
theorem zls_1_13 : ∀ w ∈ zl_1_13, w ∈ tables_1_1 := fun w hw => by
  rw [ztq_1]
  exact List.mem_append_right _ (List.mem_append_right _ (List.mem_append_right _ (List.mem_append_right _ (List.mem_append_right _ (List.mem_append_right _ (List.mem_append_right _ (List.mem_append_right _ (List.mem_append_right _ (List.mem_append_right _ (List.mem_append_right _ (List.mem_append_right _ (List.mem_append_right _ (List.mem_append_left _ hw)))))))))))))
def zlt_1_13 := zu_16 zls_1_13
theorem zls_1_14 : ∀ w ∈ zl_1_14, w ∈ tables_1_1 := fun w hw => by
  rw [ztq_1]
  exact List.mem_append_right _ (List.mem_append_right _ (List.mem_append_right _ (List.mem_append_right _ (List.mem_append_right _ (List.mem_append_right _ (List.mem_append_right _ (List.mem_append_right _ (List.mem_append_right _ (List.mem_append_right _ (List.mem_append_right _ (List.mem_append_right _ (List.mem_append_right _ (List.mem_append_right _ (hw))))))))))))))
def zlt_1_14 := zu_16 zls_1_14
theorem z_mt2 {w : Cond} (h : w ∈ tables_1_2) (hg : goodWord w = true) : w ∈ za_Ts := List.mem_filter.mpr ⟨List.mem_append_right _ (show w ∈ tables_1 from List.mem_append_right _ (List.mem_append_left _ (h))), hg⟩
abbrev zl_2_0 : List Cond := [Jvm.Cond.instanceMethod ({ cls := "LyndonBench$History", name := "bringBack", desc := "(LLyndonBench$State;)Z" } : Jvm.MethodName), Jvm.Cond.selects "LyndonBench$History" ({ cls := "LyndonBench$History", name := "bringBack", desc := "(LLyndonBench$State;)Z" } : Jvm.MethodName) ({ cls := "LyndonBench$History", name := "bringBack", desc := "(LLyndonBench$State;)Z" } : Jvm.MethodName), Jvm.Cond.code ({ cls := "LyndonBench$History", name := "bringBack", desc := "(LLyndonBench$State;)Z" } : Jvm.MethodName) prog_4_method_4_code (2 : Nat) (Option.some Jvm.ClassFile.FieldType.boolean), Jvm.Cond.methodLink "LyndonBench$History" (25 : Nat) ({ cls := "LyndonBench$State", name := "copyFrom", desc := "(LLyndonBench$State;)V" } : Jvm.MethodName), Jvm.Cond.instanceMethod ({ cls := "LyndonBench$State", name := "copyFrom", desc := "(LLyndonBench$State;)V" } : Jvm.MethodName), Jvm.Cond.selects "LyndonBench$State" ({ cls := "LyndonBench$State", name := "copyFrom", desc := "(LLyndonBench$State;)V" } : Jvm.MethodName) ({ cls := "LyndonBench$State", name := "copyFrom", desc := "(LLyndonBench$State;)V" } : Jvm.MethodName), Jvm.Cond.code ({ cls := "LyndonBench$State", name := "copyFrom", desc := "(LLyndonBench$State;)V" } : Jvm.MethodName) prog_6_method_3_code (4 : Nat) (Option.none : Option Jvm.ClassFile.FieldType), Jvm.Cond.methodLink "LyndonBench$State" (34 : Nat) ({ cls := "LyndonBench$Word", name := "copyFrom", desc := "(LLyndonBench$Word;)V" } : Jvm.MethodName), Jvm.Cond.instanceMethod ({ cls := "LyndonBench$Word", name := "copyFrom", desc := "(LLyndonBench$Word;)V" } : Jvm.MethodName), Jvm.Cond.selects "LyndonBench$Word" ({ cls := "LyndonBench$Word", name := "copyFrom", desc := "(LLyndonBench$Word;)V" } : Jvm.MethodName) ({ cls := "LyndonBench$Word", name := "copyFrom", desc := "(LLyndonBench$Word;)V" } : Jvm.MethodName), Jvm.Cond.code ({ cls := "LyndonBench$Word", name := "copyFrom", desc := "(LLyndonBench$Word;)V" } : Jvm.MethodName) prog_7_method_10_code (2 : Nat) (Option.none : Option Jvm.ClassFile.FieldType), Jvm.Cond.methodLink "LyndonBench$Word" (43 : Nat) ({ cls := "LyndonBench$Word", name := "clear", desc := "()V" } : Jvm.MethodName), Jvm.Cond.methodLink "LyndonBench$Word" (46 : Nat) ({ cls := "LyndonBench$Word", name := "addPart", desc := "(LLyndonBench$Word;II)V" } : Jvm.MethodName), Jvm.Cond.methodLink "LyndonBench$State" (38 : Nat) ({ cls := "LyndonBench$State", name := "keptAt", desc := "(I)LLyndonBench$Word;" } : Jvm.MethodName), Jvm.Cond.instanceMethod ({ cls := "LyndonBench$State", name := "keptAt", desc := "(I)LLyndonBench$Word;" } : Jvm.MethodName), Jvm.Cond.selects "LyndonBench$State" ({ cls := "LyndonBench$State", name := "keptAt", desc := "(I)LLyndonBench$Word;" } : Jvm.MethodName) ({ cls := "LyndonBench$State", name := "keptAt", desc := "(I)LLyndonBench$Word;" } : Jvm.MethodName)]
abbrev zl_2_1 : List Cond := [Jvm.Cond.code ({ cls := "LyndonBench$State", name := "keptAt", desc := "(I)LLyndonBench$Word;" } : Jvm.MethodName) prog_6_method_7_code (2 : Nat) (Option.some (Jvm.ClassFile.FieldType.object "LyndonBench$Word")), Jvm.Cond.methodLink "LyndonBench$State" (45 : Nat) ({ cls := "LyndonBench$State", name := "keep", desc := "(LLyndonBench$Word;II)V" } : Jvm.MethodName), Jvm.Cond.methodLink "LyndonBenchLaw" (144 : Nat) ({ cls := "LyndonBench", name := "undoCount", desc := "()I" } : Jvm.MethodName), Jvm.Cond.instanceMethod ({ cls := "LyndonBench", name := "undoCount", desc := "()I" } : Jvm.MethodName), Jvm.Cond.selects "LyndonBench" ({ cls := "LyndonBench", name := "undoCount", desc := "()I" } : Jvm.MethodName) ({ cls := "LyndonBench", name := "undoCount", desc := "()I" } : Jvm.MethodName), Jvm.Cond.code ({ cls := "LyndonBench", name := "undoCount", desc := "()I" } : Jvm.MethodName) prog_1_method_19_code (1 : Nat) (Option.some Jvm.ClassFile.FieldType.int), Jvm.Cond.methodLink "LyndonBenchLaw" (13 : Nat) ({ cls := "LyndonBench", name := "letters", desc := "()I" } : Jvm.MethodName), Jvm.Cond.instanceMethod ({ cls := "LyndonBench", name := "letters", desc := "()I" } : Jvm.MethodName), Jvm.Cond.selects "LyndonBench" ({ cls := "LyndonBench", name := "letters", desc := "()I" } : Jvm.MethodName) ({ cls := "LyndonBench", name := "letters", desc := "()I" } : Jvm.MethodName), Jvm.Cond.code ({ cls := "LyndonBench", name := "letters", desc := "()I" } : Jvm.MethodName) prog_1_method_24_code (1 : Nat) (Option.some Jvm.ClassFile.FieldType.int), Jvm.Cond.methodLink "LyndonBenchLaw" (140 : Nat) ({ cls := "LyndonBenchLaw", name := "cell", desc := "([II)I" } : Jvm.MethodName), Jvm.Cond.static ({ cls := "LyndonBenchLaw", name := "cell", desc := "([II)I" } : Jvm.MethodName), Jvm.Cond.code ({ cls := "LyndonBenchLaw", name := "cell", desc := "([II)I" } : Jvm.MethodName) method_2_code (2 : Nat) (Option.some Jvm.ClassFile.FieldType.int), Jvm.Cond.methodLink "LyndonBenchLaw" (151 : Nat) ({ cls := "LyndonBenchLaw", name := "deed", desc := "(LLyndonBench;I)V" } : Jvm.MethodName), Jvm.Cond.static ({ cls := "LyndonBenchLaw", name := "deed", desc := "(LLyndonBench;I)V" } : Jvm.MethodName), Jvm.Cond.code ({ cls := "LyndonBenchLaw", name := "deed", desc := "(LLyndonBench;I)V" } : Jvm.MethodName) method_3_code (6 : Nat) (Option.none : Option Jvm.ClassFile.FieldType)]
abbrev zl_2_2 : List Cond := [Jvm.Cond.methodLink "LyndonBenchLaw" (7 : Nat) ({ cls := "LyndonBench", name := "length", desc := "()I" } : Jvm.MethodName), Jvm.Cond.instanceMethod ({ cls := "LyndonBench", name := "length", desc := "()I" } : Jvm.MethodName), Jvm.Cond.selects "LyndonBench" ({ cls := "LyndonBench", name := "length", desc := "()I" } : Jvm.MethodName) ({ cls := "LyndonBench", name := "length", desc := "()I" } : Jvm.MethodName), Jvm.Cond.code ({ cls := "LyndonBench", name := "length", desc := "()I" } : Jvm.MethodName) prog_1_method_25_code (1 : Nat) (Option.some Jvm.ClassFile.FieldType.int), Jvm.Cond.methodLink "LyndonBenchLaw" (16 : Nat) ({ cls := "LyndonBench", name := "appendLetter", desc := "(I)I" } : Jvm.MethodName), Jvm.Cond.instanceMethod ({ cls := "LyndonBench", name := "appendLetter", desc := "(I)I" } : Jvm.MethodName), Jvm.Cond.selects "LyndonBench" ({ cls := "LyndonBench", name := "appendLetter", desc := "(I)I" } : Jvm.MethodName) ({ cls := "LyndonBench", name := "appendLetter", desc := "(I)I" } : Jvm.MethodName), Jvm.Cond.code ({ cls := "LyndonBench", name := "appendLetter", desc := "(I)I" } : Jvm.MethodName) prog_1_method_7_code (2 : Nat) (Option.some Jvm.ClassFile.FieldType.int), Jvm.Cond.methodLink "LyndonBench" (128 : Nat) ({ cls := "LyndonBench", name := "checkLetter", desc := "(I)V" } : Jvm.MethodName), Jvm.Cond.privateMethod ({ cls := "LyndonBench", name := "checkLetter", desc := "(I)V" } : Jvm.MethodName), Jvm.Cond.instanceMethod ({ cls := "LyndonBench", name := "checkLetter", desc := "(I)V" } : Jvm.MethodName), Jvm.Cond.code ({ cls := "LyndonBench", name := "checkLetter", desc := "(I)V" } : Jvm.MethodName) prog_1_method_61_code (2 : Nat) (Option.none : Option Jvm.ClassFile.FieldType), Jvm.Cond.methodLink "LyndonBench" (120 : Nat) ({ cls := "LyndonBench$State", name := "isLetter", desc := "(I)Z" } : Jvm.MethodName), Jvm.Cond.instanceMethod ({ cls := "LyndonBench$State", name := "isLetter", desc := "(I)Z" } : Jvm.MethodName), Jvm.Cond.selects "LyndonBench$State" ({ cls := "LyndonBench$State", name := "isLetter", desc := "(I)Z" } : Jvm.MethodName) ({ cls := "LyndonBench$State", name := "isLetter", desc := "(I)Z" } : Jvm.MethodName), Jvm.Cond.code ({ cls := "LyndonBench$State", name := "isLetter", desc := "(I)Z" } : Jvm.MethodName) prog_6_method_4_code (2 : Nat) (Option.some Jvm.ClassFile.FieldType.boolean)]
abbrev zl_2_3 : List Cond := [Jvm.Cond.classLink "LyndonBench" (77 : Nat) "java/lang/IllegalArgumentException", Jvm.Cond.instantiable "java/lang/IllegalArgumentException" (6 : Nat), Jvm.Cond.castable "java/lang/IllegalArgumentException" "java/lang/IllegalArgumentException", Jvm.Cond.declares ({ cls := "java/lang/RuntimeException", name := "<init>", desc := "()V" } : Jvm.MethodName), Jvm.Cond.declares ({ cls := "java/lang/RuntimeException", name := "<init>", desc := "(Ljava/lang/String;)V" } : Jvm.MethodName), Jvm.Cond.declares ({ cls := "java/lang/Exception", name := "<init>", desc := "()V" } : Jvm.MethodName), Jvm.Cond.declares ({ cls := "java/lang/Exception", name := "<init>", desc := "(Ljava/lang/String;)V" } : Jvm.MethodName), Jvm.Cond.declares ({ cls := "java/lang/Throwable", name := "<init>", desc := "()V" } : Jvm.MethodName), Jvm.Cond.declares ({ cls := "java/lang/Throwable", name := "<init>", desc := "(Ljava/lang/String;)V" } : Jvm.MethodName), Jvm.Cond.selects "java/lang/IllegalArgumentException" ({ cls := "java/lang/Throwable", name := "fillInStackTrace", desc := "(I)Ljava/lang/Throwable;" } : Jvm.MethodName) ({ cls := "java/lang/Throwable", name := "fillInStackTrace", desc := "(I)Ljava/lang/Throwable;" } : Jvm.MethodName), Jvm.Cond.selects "java/lang/IllegalArgumentException" ({ cls := "java/lang/Throwable", name := "fillInStackTrace", desc := "()Ljava/lang/Throwable;" } : Jvm.MethodName) ({ cls := "java/lang/Throwable", name := "fillInStackTrace", desc := "()Ljava/lang/Throwable;" } : Jvm.MethodName), Jvm.Cond.lays "java/lang/IllegalArgumentException" "java/lang/Throwable" "cause" "Ljava/lang/Throwable;", Jvm.Cond.lays "java/lang/Throwable" "java/lang/Throwable" "cause" "Ljava/lang/Throwable;", Jvm.Cond.lays "java/lang/IllegalArgumentException" "java/lang/Throwable" "stackTrace" "[Ljava/lang/StackTraceElement;", Jvm.Cond.lays "java/lang/Throwable" "java/lang/Throwable" "stackTrace" "[Ljava/lang/StackTraceElement;", Jvm.Cond.lays "java/lang/IllegalArgumentException" "java/lang/Throwable" "suppressedExceptions" "Ljava/util/List;"]
abbrev zl_2_4 : List Cond := [Jvm.Cond.lays "java/lang/Throwable" "java/lang/Throwable" "suppressedExceptions" "Ljava/util/List;", Jvm.Cond.lays "java/lang/IllegalArgumentException" "java/lang/Throwable" "detailMessage" "Ljava/lang/String;", Jvm.Cond.lays "java/lang/Throwable" "java/lang/Throwable" "detailMessage" "Ljava/lang/String;", Jvm.Cond.lays "java/lang/IllegalArgumentException" "java/lang/Throwable" "backtrace" "Ljava/lang/Object;", Jvm.Cond.lays "java/lang/Throwable" "java/lang/Throwable" "backtrace" "Ljava/lang/Object;", Jvm.Cond.fieldLink "java/lang/Throwable" (198 : Nat) "java/lang/Throwable" "backtrace" "Ljava/lang/Object;", Jvm.Cond.superclass "java/lang/Throwable" "java/lang/Object", Jvm.Cond.instanceMethod ({ cls := "java/lang/Throwable", name := "<init>", desc := "()V" } : Jvm.MethodName), Jvm.Cond.code ({ cls := "java/lang/Throwable", name := "<init>", desc := "()V" } : Jvm.MethodName) prog_20_method_1_code (1 : Nat) (Option.none : Option Jvm.ClassFile.FieldType), Jvm.Cond.methodLink "java/lang/Throwable" (1 : Nat) ({ cls := "java/lang/Object", name := "<init>", desc := "()V" } : Jvm.MethodName), Jvm.Cond.fieldLink "java/lang/Throwable" (13 : Nat) "java/lang/Throwable" "UNASSIGNED_STACK" "[Ljava/lang/StackTraceElement;", Jvm.Cond.laysStatic "java/lang/Throwable" "UNASSIGNED_STACK" "[Ljava/lang/StackTraceElement;", Jvm.Cond.fieldLink "java/lang/Throwable" (20 : Nat) "java/lang/Throwable" "SUPPRESSED_SENTINEL" "Ljava/util/List;", Jvm.Cond.laysStatic "java/lang/Throwable" "SUPPRESSED_SENTINEL" "Ljava/util/List;", Jvm.Cond.methodLink "java/lang/Throwable" (27 : Nat) ({ cls := "java/lang/Throwable", name := "fillInStackTrace", desc := "()Ljava/lang/Throwable;" } : Jvm.MethodName), Jvm.Cond.instanceMethod ({ cls := "java/lang/Throwable", name := "fillInStackTrace", desc := "()Ljava/lang/Throwable;" } : Jvm.MethodName)]
abbrev zl_2_5 : List Cond := [Jvm.Cond.sameMethod "java/lang/Throwable" "java/lang/Throwable" "fillInStackTrace" "()Ljava/lang/Throwable;", Jvm.Cond.selects "java/lang/IllegalStateException" ({ cls := "java/lang/Throwable", name := "fillInStackTrace", desc := "()Ljava/lang/Throwable;" } : Jvm.MethodName) ({ cls := "java/lang/Throwable", name := "fillInStackTrace", desc := "()Ljava/lang/Throwable;" } : Jvm.MethodName), Jvm.Cond.selects "java/lang/IndexOutOfBoundsException" ({ cls := "java/lang/Throwable", name := "fillInStackTrace", desc := "()Ljava/lang/Throwable;" } : Jvm.MethodName) ({ cls := "java/lang/Throwable", name := "fillInStackTrace", desc := "()Ljava/lang/Throwable;" } : Jvm.MethodName), Jvm.Cond.codeSync ({ cls := "java/lang/Throwable", name := "fillInStackTrace", desc := "()Ljava/lang/Throwable;" } : Jvm.MethodName) prog_20_method_18_code (1 : Nat) (Option.some (Jvm.ClassFile.FieldType.object "java/lang/Throwable")), Jvm.Cond.methodLink "java/lang/Throwable" (202 : Nat) ({ cls := "java/lang/Throwable", name := "fillInStackTrace", desc := "(I)Ljava/lang/Throwable;" } : Jvm.MethodName), Jvm.Cond.privateMethod ({ cls := "java/lang/Throwable", name := "fillInStackTrace", desc := "(I)Ljava/lang/Throwable;" } : Jvm.MethodName), Jvm.Cond.instanceMethod ({ cls := "java/lang/Throwable", name := "fillInStackTrace", desc := "(I)Ljava/lang/Throwable;" } : Jvm.MethodName), Jvm.Cond.instantiable "java/lang/Throwable" (6 : Nat), Jvm.Cond.native ({ cls := "java/lang/Throwable", name := "fillInStackTrace", desc := "(I)Ljava/lang/Throwable;" } : Jvm.MethodName), Jvm.Cond.stringRef "LyndonBench" (295 : Nat) "this is not one of the letters", Jvm.Cond.methodLink "LyndonBench" (81 : Nat) ({ cls := "java/lang/IllegalArgumentException", name := "<init>", desc := "(Ljava/lang/String;)V" } : Jvm.MethodName), Jvm.Cond.instanceMethod ({ cls := "java/lang/IllegalArgumentException", name := "<init>", desc := "(Ljava/lang/String;)V" } : Jvm.MethodName), Jvm.Cond.code ({ cls := "java/lang/IllegalArgumentException", name := "<init>", desc := "(Ljava/lang/String;)V" } : Jvm.MethodName) prog_11_method_2_code (2 : Nat) (Option.none : Option Jvm.ClassFile.FieldType), Jvm.Cond.methodLink "java/lang/IllegalArgumentException" (7 : Nat) ({ cls := "java/lang/RuntimeException", name := "<init>", desc := "(Ljava/lang/String;)V" } : Jvm.MethodName), Jvm.Cond.instanceMethod ({ cls := "java/lang/RuntimeException", name := "<init>", desc := "(Ljava/lang/String;)V" } : Jvm.MethodName), Jvm.Cond.code ({ cls := "java/lang/RuntimeException", name := "<init>", desc := "(Ljava/lang/String;)V" } : Jvm.MethodName) prog_16_method_2_code (2 : Nat) (Option.none : Option Jvm.ClassFile.FieldType)]
abbrev zl_2_6 : List Cond := [Jvm.Cond.methodLink "java/lang/RuntimeException" (7 : Nat) ({ cls := "java/lang/Exception", name := "<init>", desc := "(Ljava/lang/String;)V" } : Jvm.MethodName), Jvm.Cond.instanceMethod ({ cls := "java/lang/Exception", name := "<init>", desc := "(Ljava/lang/String;)V" } : Jvm.MethodName), Jvm.Cond.code ({ cls := "java/lang/Exception", name := "<init>", desc := "(Ljava/lang/String;)V" } : Jvm.MethodName) prog_10_method_2_code (2 : Nat) (Option.none : Option Jvm.ClassFile.FieldType), Jvm.Cond.methodLink "java/lang/Exception" (7 : Nat) ({ cls := "java/lang/Throwable", name := "<init>", desc := "(Ljava/lang/String;)V" } : Jvm.MethodName), Jvm.Cond.instanceMethod ({ cls := "java/lang/Throwable", name := "<init>", desc := "(Ljava/lang/String;)V" } : Jvm.MethodName), Jvm.Cond.code ({ cls := "java/lang/Throwable", name := "<init>", desc := "(Ljava/lang/String;)V" } : Jvm.MethodName) prog_20_method_2_code (2 : Nat) (Option.none : Option Jvm.ClassFile.FieldType), Jvm.Cond.fieldLink "java/lang/Throwable" (198 : Nat) "java/lang/Throwable" "backtrace" "Ljava/lang/Object;", Jvm.Cond.fieldLink "java/lang/Throwable" (31 : Nat) "java/lang/Throwable" "detailMessage" "Ljava/lang/String;", Jvm.Cond.fieldLink "java/lang/Throwable" (7 : Nat) "java/lang/Throwable" "cause" "Ljava/lang/Throwable;", Jvm.Cond.fieldLink "java/lang/Throwable" (17 : Nat) "java/lang/Throwable" "stackTrace" "[Ljava/lang/StackTraceElement;", Jvm.Cond.fieldLink "java/lang/Throwable" (24 : Nat) "java/lang/Throwable" "suppressedExceptions" "Ljava/util/List;", Jvm.Cond.soleField "java/lang/Throwable" "backtrace", Jvm.Cond.soleField "java/lang/Throwable" "detailMessage", Jvm.Cond.soleField "java/lang/Throwable" "cause", Jvm.Cond.soleField "java/lang/Throwable" "stackTrace", Jvm.Cond.lays "java/lang/IllegalArgumentException" "java/lang/Throwable" "depth" "I"]
abbrev zl_2_7 : List Cond := [Jvm.Cond.soleField "java/lang/Throwable" "depth", Jvm.Cond.soleField "java/lang/Throwable" "suppressedExceptions", Jvm.Cond.superclass "java/lang/IllegalArgumentException" "java/lang/RuntimeException", Jvm.Cond.classLink "LyndonBench" (108 : Nat) "java/lang/IllegalStateException", Jvm.Cond.instantiable "java/lang/IllegalStateException" (6 : Nat), Jvm.Cond.castable "java/lang/IllegalStateException" "java/lang/IllegalStateException", Jvm.Cond.selects "java/lang/IllegalStateException" ({ cls := "java/lang/Throwable", name := "fillInStackTrace", desc := "(I)Ljava/lang/Throwable;" } : Jvm.MethodName) ({ cls := "java/lang/Throwable", name := "fillInStackTrace", desc := "(I)Ljava/lang/Throwable;" } : Jvm.MethodName), Jvm.Cond.lays "java/lang/IllegalStateException" "java/lang/Throwable" "cause" "Ljava/lang/Throwable;", Jvm.Cond.lays "java/lang/IllegalStateException" "java/lang/Throwable" "stackTrace" "[Ljava/lang/StackTraceElement;", Jvm.Cond.lays "java/lang/IllegalStateException" "java/lang/Throwable" "suppressedExceptions" "Ljava/util/List;", Jvm.Cond.lays "java/lang/IllegalStateException" "java/lang/Throwable" "detailMessage" "Ljava/lang/String;", Jvm.Cond.lays "java/lang/IllegalStateException" "java/lang/Throwable" "backtrace" "Ljava/lang/Object;", Jvm.Cond.stringRef "LyndonBench" (123 : Nat) "a text has at most 120 letters", Jvm.Cond.methodLink "LyndonBench" (112 : Nat) ({ cls := "java/lang/IllegalStateException", name := "<init>", desc := "(Ljava/lang/String;)V" } : Jvm.MethodName), Jvm.Cond.instanceMethod ({ cls := "java/lang/IllegalStateException", name := "<init>", desc := "(Ljava/lang/String;)V" } : Jvm.MethodName), Jvm.Cond.code ({ cls := "java/lang/IllegalStateException", name := "<init>", desc := "(Ljava/lang/String;)V" } : Jvm.MethodName) prog_12_method_2_code (2 : Nat) (Option.none : Option Jvm.ClassFile.FieldType)]
abbrev zl_2_8 : List Cond := [Jvm.Cond.methodLink "java/lang/IllegalStateException" (7 : Nat) ({ cls := "java/lang/RuntimeException", name := "<init>", desc := "(Ljava/lang/String;)V" } : Jvm.MethodName), Jvm.Cond.lays "java/lang/IllegalStateException" "java/lang/Throwable" "depth" "I", Jvm.Cond.superclass "java/lang/IllegalStateException" "java/lang/RuntimeException", Jvm.Cond.methodLink "LyndonBench" (92 : Nat) ({ cls := "LyndonBench$History", name := "remember", desc := "(LLyndonBench$State;)V" } : Jvm.MethodName), Jvm.Cond.instanceMethod ({ cls := "LyndonBench$History", name := "remember", desc := "(LLyndonBench$State;)V" } : Jvm.MethodName), Jvm.Cond.selects "LyndonBench$History" ({ cls := "LyndonBench$History", name := "remember", desc := "(LLyndonBench$State;)V" } : Jvm.MethodName) ({ cls := "LyndonBench$History", name := "remember", desc := "(LLyndonBench$State;)V" } : Jvm.MethodName), Jvm.Cond.code ({ cls := "LyndonBench$History", name := "remember", desc := "(LLyndonBench$State;)V" } : Jvm.MethodName) prog_4_method_2_code (2 : Nat) (Option.none : Option Jvm.ClassFile.FieldType), Jvm.Cond.methodLink "LyndonBench$History" (22 : Nat) ({ cls := "LyndonBench$History", name := "forgetOldest", desc := "()V" } : Jvm.MethodName), Jvm.Cond.privateMethod ({ cls := "LyndonBench$History", name := "forgetOldest", desc := "()V" } : Jvm.MethodName), Jvm.Cond.instanceMethod ({ cls := "LyndonBench$History", name := "forgetOldest", desc := "()V" } : Jvm.MethodName), Jvm.Cond.code ({ cls := "LyndonBench$History", name := "forgetOldest", desc := "()V" } : Jvm.MethodName) prog_4_method_3_code (3 : Nat) (Option.none : Option Jvm.ClassFile.FieldType), Jvm.Cond.methodLink "LyndonBench" (131 : Nat) ({ cls := "LyndonBench$Word", name := "add", desc := "(I)V" } : Jvm.MethodName), Jvm.Cond.methodLink "LyndonBench" (134 : Nat) ({ cls := "LyndonBench$Word", name := "countFactors", desc := "()I" } : Jvm.MethodName), Jvm.Cond.instanceMethod ({ cls := "LyndonBench$Word", name := "countFactors", desc := "()I" } : Jvm.MethodName), Jvm.Cond.selects "LyndonBench$Word" ({ cls := "LyndonBench$Word", name := "countFactors", desc := "()I" } : Jvm.MethodName) ({ cls := "LyndonBench$Word", name := "countFactors", desc := "()I" } : Jvm.MethodName), Jvm.Cond.code ({ cls := "LyndonBench$Word", name := "countFactors", desc := "()I" } : Jvm.MethodName) prog_7_method_20_code (6 : Nat) (Option.some Jvm.ClassFile.FieldType.int)]
abbrev zl_2_9 : List Cond := [Jvm.Cond.methodLink "LyndonBench$Word" (67 : Nat) ({ cls := "LyndonBench$Word", name := "factorEnd", desc := "(II)I" } : Jvm.MethodName), Jvm.Cond.instanceMethod ({ cls := "LyndonBench$Word", name := "factorEnd", desc := "(II)I" } : Jvm.MethodName), Jvm.Cond.selects "LyndonBench$Word" ({ cls := "LyndonBench$Word", name := "factorEnd", desc := "(II)I" } : Jvm.MethodName) ({ cls := "LyndonBench$Word", name := "factorEnd", desc := "(II)I" } : Jvm.MethodName), Jvm.Cond.code ({ cls := "LyndonBench$Word", name := "factorEnd", desc := "(II)I" } : Jvm.MethodName) prog_7_method_19_code (4 : Nat) (Option.some Jvm.ClassFile.FieldType.int), Jvm.Cond.methodLink "LyndonBench$Word" (60 : Nat) ({ cls := "LyndonBench$Word", name := "order", desc := "(IILLyndonBench$Word;II)I" } : Jvm.MethodName), Jvm.Cond.instanceMethod ({ cls := "LyndonBench$Word", name := "order", desc := "(IILLyndonBench$Word;II)I" } : Jvm.MethodName), Jvm.Cond.selects "LyndonBench$Word" ({ cls := "LyndonBench$Word", name := "order", desc := "(IILLyndonBench$Word;II)I" } : Jvm.MethodName) ({ cls := "LyndonBench$Word", name := "order", desc := "(IILLyndonBench$Word;II)I" } : Jvm.MethodName), Jvm.Cond.code ({ cls := "LyndonBench$Word", name := "order", desc := "(IILLyndonBench$Word;II)I" } : Jvm.MethodName) prog_7_method_17_code (11 : Nat) (Option.some Jvm.ClassFile.FieldType.int), Jvm.Cond.methodLink "LyndonBench$Word" (64 : Nat) ({ cls := "LyndonBench$Word", name := "lyndonEnd", desc := "(I)I" } : Jvm.MethodName), Jvm.Cond.instanceMethod ({ cls := "LyndonBench$Word", name := "lyndonEnd", desc := "(I)I" } : Jvm.MethodName), Jvm.Cond.selects "LyndonBench$Word" ({ cls := "LyndonBench$Word", name := "lyndonEnd", desc := "(I)I" } : Jvm.MethodName) ({ cls := "LyndonBench$Word", name := "lyndonEnd", desc := "(I)I" } : Jvm.MethodName), Jvm.Cond.code ({ cls := "LyndonBench$Word", name := "lyndonEnd", desc := "(I)I" } : Jvm.MethodName) prog_7_method_18_code (4 : Nat) (Option.some Jvm.ClassFile.FieldType.int), Jvm.Cond.methodLink "LyndonBenchLaw" (20 : Nat) ({ cls := "java/lang/Math", name := "min", desc := "(II)I" } : Jvm.MethodName), Jvm.Cond.static ({ cls := "java/lang/Math", name := "min", desc := "(II)I" } : Jvm.MethodName), Jvm.Cond.code ({ cls := "java/lang/Math", name := "min", desc := "(II)I" } : Jvm.MethodName) prog_15_method_69_code (2 : Nat) (Option.some Jvm.ClassFile.FieldType.int), Jvm.Cond.methodLink "LyndonBenchLaw" (26 : Nat) ({ cls := "LyndonBench", name := "dropLast", desc := "(I)I" } : Jvm.MethodName)]
abbrev zl_2_10 : List Cond := [Jvm.Cond.instanceMethod ({ cls := "LyndonBench", name := "dropLast", desc := "(I)I" } : Jvm.MethodName), Jvm.Cond.selects "LyndonBench" ({ cls := "LyndonBench", name := "dropLast", desc := "(I)I" } : Jvm.MethodName) ({ cls := "LyndonBench", name := "dropLast", desc := "(I)I" } : Jvm.MethodName), Jvm.Cond.code ({ cls := "LyndonBench", name := "dropLast", desc := "(I)I" } : Jvm.MethodName) prog_1_method_8_code (2 : Nat) (Option.some Jvm.ClassFile.FieldType.int), Jvm.Cond.methodLink "LyndonBench" (138 : Nat) ({ cls := "LyndonBench", name := "checkCount", desc := "(I)V" } : Jvm.MethodName), Jvm.Cond.privateMethod ({ cls := "LyndonBench", name := "checkCount", desc := "(I)V" } : Jvm.MethodName), Jvm.Cond.instanceMethod ({ cls := "LyndonBench", name := "checkCount", desc := "(I)V" } : Jvm.MethodName), Jvm.Cond.code ({ cls := "LyndonBench", name := "checkCount", desc := "(I)V" } : Jvm.MethodName) prog_1_method_62_code (2 : Nat) (Option.none : Option Jvm.ClassFile.FieldType), Jvm.Cond.stringRef "LyndonBench" (297 : Nat) "the text has not so many letters", Jvm.Cond.methodLink "LyndonBench" (83 : Nat) ({ cls := "LyndonBench$Word", name := "shortenTo", desc := "(I)V" } : Jvm.MethodName), Jvm.Cond.instanceMethod ({ cls := "LyndonBench$Word", name := "shortenTo", desc := "(I)V" } : Jvm.MethodName), Jvm.Cond.selects "LyndonBench$Word" ({ cls := "LyndonBench$Word", name := "shortenTo", desc := "(I)V" } : Jvm.MethodName) ({ cls := "LyndonBench$Word", name := "shortenTo", desc := "(I)V" } : Jvm.MethodName), Jvm.Cond.code ({ cls := "LyndonBench$Word", name := "shortenTo", desc := "(I)V" } : Jvm.MethodName) prog_7_method_11_code (2 : Nat) (Option.none : Option Jvm.ClassFile.FieldType), Jvm.Cond.methodLink "LyndonBenchLaw" (29 : Nat) ({ cls := "LyndonBench", name := "rotate", desc := "(I)I" } : Jvm.MethodName), Jvm.Cond.instanceMethod ({ cls := "LyndonBench", name := "rotate", desc := "(I)I" } : Jvm.MethodName), Jvm.Cond.selects "LyndonBench" ({ cls := "LyndonBench", name := "rotate", desc := "(I)I" } : Jvm.MethodName) ({ cls := "LyndonBench", name := "rotate", desc := "(I)I" } : Jvm.MethodName), Jvm.Cond.code ({ cls := "LyndonBench", name := "rotate", desc := "(I)I" } : Jvm.MethodName) prog_1_method_10_code (2 : Nat) (Option.some Jvm.ClassFile.FieldType.int)]
abbrev zl_2_11 : List Cond := [Jvm.Cond.methodLink "LyndonBench" (148 : Nat) ({ cls := "LyndonBench$Word", name := "turn", desc := "(I)V" } : Jvm.MethodName), Jvm.Cond.instanceMethod ({ cls := "LyndonBench$Word", name := "turn", desc := "(I)V" } : Jvm.MethodName), Jvm.Cond.selects "LyndonBench$Word" ({ cls := "LyndonBench$Word", name := "turn", desc := "(I)V" } : Jvm.MethodName) ({ cls := "LyndonBench$Word", name := "turn", desc := "(I)V" } : Jvm.MethodName), Jvm.Cond.code ({ cls := "LyndonBench$Word", name := "turn", desc := "(I)V" } : Jvm.MethodName) prog_7_method_14_code (2 : Nat) (Option.none : Option Jvm.ClassFile.FieldType), Jvm.Cond.methodLink "LyndonBench$Word" (57 : Nat) ({ cls := "LyndonBench$Word", name := "mirror", desc := "(II)V" } : Jvm.MethodName), Jvm.Cond.instanceMethod ({ cls := "LyndonBench$Word", name := "mirror", desc := "(II)V" } : Jvm.MethodName), Jvm.Cond.selects "LyndonBench$Word" ({ cls := "LyndonBench$Word", name := "mirror", desc := "(II)V" } : Jvm.MethodName) ({ cls := "LyndonBench$Word", name := "mirror", desc := "(II)V" } : Jvm.MethodName), Jvm.Cond.code ({ cls := "LyndonBench$Word", name := "mirror", desc := "(II)V" } : Jvm.MethodName) prog_7_method_13_code (6 : Nat) (Option.none : Option Jvm.ClassFile.FieldType), Jvm.Cond.methodLink "LyndonBench$Word" (50 : Nat) ({ cls := "LyndonBench$Word", name := "put", desc := "(II)V" } : Jvm.MethodName), Jvm.Cond.privateMethod ({ cls := "LyndonBench$Word", name := "put", desc := "(II)V" } : Jvm.MethodName), Jvm.Cond.instanceMethod ({ cls := "LyndonBench$Word", name := "put", desc := "(II)V" } : Jvm.MethodName), Jvm.Cond.code ({ cls := "LyndonBench$Word", name := "put", desc := "(II)V" } : Jvm.MethodName) prog_7_method_3_code (3 : Nat) (Option.none : Option Jvm.ClassFile.FieldType), Jvm.Cond.methodLink "LyndonBenchLaw" (32 : Nat) ({ cls := "LyndonBench", name := "reverse", desc := "()I" } : Jvm.MethodName), Jvm.Cond.instanceMethod ({ cls := "LyndonBench", name := "reverse", desc := "()I" } : Jvm.MethodName), Jvm.Cond.selects "LyndonBench" ({ cls := "LyndonBench", name := "reverse", desc := "()I" } : Jvm.MethodName) ({ cls := "LyndonBench", name := "reverse", desc := "()I" } : Jvm.MethodName), Jvm.Cond.code ({ cls := "LyndonBench", name := "reverse", desc := "()I" } : Jvm.MethodName) prog_1_method_11_code (1 : Nat) (Option.some Jvm.ClassFile.FieldType.int)]
abbrev zl_2_12 : List Cond := [Jvm.Cond.methodLink "LyndonBench" (151 : Nat) ({ cls := "LyndonBench$Word", name := "mirror", desc := "(II)V" } : Jvm.MethodName), Jvm.Cond.methodLink "LyndonBenchLaw" (35 : Nat) ({ cls := "LyndonBench", name := "rotateToLeast", desc := "()I" } : Jvm.MethodName), Jvm.Cond.instanceMethod ({ cls := "LyndonBench", name := "rotateToLeast", desc := "()I" } : Jvm.MethodName), Jvm.Cond.selects "LyndonBench" ({ cls := "LyndonBench", name := "rotateToLeast", desc := "()I" } : Jvm.MethodName) ({ cls := "LyndonBench", name := "rotateToLeast", desc := "()I" } : Jvm.MethodName), Jvm.Cond.code ({ cls := "LyndonBench", name := "rotateToLeast", desc := "()I" } : Jvm.MethodName) prog_1_method_12_code (2 : Nat) (Option.some Jvm.ClassFile.FieldType.int), Jvm.Cond.stringRef "LyndonBench" (154 : Nat) "the text is empty", Jvm.Cond.methodLink "LyndonBench" (156 : Nat) ({ cls := "LyndonBench$Word", name := "leastTurn", desc := "()I" } : Jvm.MethodName), Jvm.Cond.instanceMethod ({ cls := "LyndonBench$Word", name := "leastTurn", desc := "()I" } : Jvm.MethodName), Jvm.Cond.selects "LyndonBench$Word" ({ cls := "LyndonBench$Word", name := "leastTurn", desc := "()I" } : Jvm.MethodName) ({ cls := "LyndonBench$Word", name := "leastTurn", desc := "()I" } : Jvm.MethodName), Jvm.Cond.code ({ cls := "LyndonBench$Word", name := "leastTurn", desc := "()I" } : Jvm.MethodName) prog_7_method_31_code (7 : Nat) (Option.some Jvm.ClassFile.FieldType.int), Jvm.Cond.methodLink "LyndonBench$Word" (77 : Nat) ({ cls := "LyndonBench$Word", name := "atAround", desc := "(I)I" } : Jvm.MethodName), Jvm.Cond.privateMethod ({ cls := "LyndonBench$Word", name := "atAround", desc := "(I)I" } : Jvm.MethodName), Jvm.Cond.instanceMethod ({ cls := "LyndonBench$Word", name := "atAround", desc := "(I)I" } : Jvm.MethodName), Jvm.Cond.code ({ cls := "LyndonBench$Word", name := "atAround", desc := "(I)I" } : Jvm.MethodName) prog_7_method_32_code (2 : Nat) (Option.some Jvm.ClassFile.FieldType.int), Jvm.Cond.methodLink "LyndonBenchLaw" (38 : Nat) ({ cls := "LyndonBench", name := "isLyndon", desc := "()Z" } : Jvm.MethodName), Jvm.Cond.instanceMethod ({ cls := "LyndonBench", name := "isLyndon", desc := "()Z" } : Jvm.MethodName)]
abbrev zl_2_13 : List Cond := [Jvm.Cond.selects "LyndonBench" ({ cls := "LyndonBench", name := "isLyndon", desc := "()Z" } : Jvm.MethodName) ({ cls := "LyndonBench", name := "isLyndon", desc := "()Z" } : Jvm.MethodName), Jvm.Cond.code ({ cls := "LyndonBench", name := "isLyndon", desc := "()Z" } : Jvm.MethodName) prog_1_method_37_code (1 : Nat) (Option.some Jvm.ClassFile.FieldType.boolean), Jvm.Cond.methodLink "LyndonBench" (250 : Nat) ({ cls := "LyndonBench$Word", name := "isOneFactor", desc := "()Z" } : Jvm.MethodName), Jvm.Cond.instanceMethod ({ cls := "LyndonBench$Word", name := "isOneFactor", desc := "()Z" } : Jvm.MethodName), Jvm.Cond.selects "LyndonBench$Word" ({ cls := "LyndonBench$Word", name := "isOneFactor", desc := "()Z" } : Jvm.MethodName) ({ cls := "LyndonBench$Word", name := "isOneFactor", desc := "()Z" } : Jvm.MethodName), Jvm.Cond.code ({ cls := "LyndonBench$Word", name := "isOneFactor", desc := "()Z" } : Jvm.MethodName) prog_7_method_21_code (1 : Nat) (Option.some Jvm.ClassFile.FieldType.boolean), Jvm.Cond.methodLink "LyndonBenchLaw" (42 : Nat) ({ cls := "LyndonBenchLaw", name := "isGreatest", desc := "(LLyndonBench;)Z" } : Jvm.MethodName), Jvm.Cond.static ({ cls := "LyndonBenchLaw", name := "isGreatest", desc := "(LLyndonBench;)Z" } : Jvm.MethodName), Jvm.Cond.code ({ cls := "LyndonBenchLaw", name := "isGreatest", desc := "(LLyndonBench;)Z" } : Jvm.MethodName) method_5_code (1 : Nat) (Option.some Jvm.ClassFile.FieldType.boolean), Jvm.Cond.methodLink "LyndonBenchLaw" (88 : Nat) ({ cls := "LyndonBench", name := "letterAt", desc := "(I)I" } : Jvm.MethodName), Jvm.Cond.instanceMethod ({ cls := "LyndonBench", name := "letterAt", desc := "(I)I" } : Jvm.MethodName), Jvm.Cond.selects "LyndonBench" ({ cls := "LyndonBench", name := "letterAt", desc := "(I)I" } : Jvm.MethodName) ({ cls := "LyndonBench", name := "letterAt", desc := "(I)I" } : Jvm.MethodName), Jvm.Cond.code ({ cls := "LyndonBench", name := "letterAt", desc := "(I)I" } : Jvm.MethodName) prog_1_method_26_code (2 : Nat) (Option.some Jvm.ClassFile.FieldType.int), Jvm.Cond.methodLink "LyndonBench" (116 : Nat) ({ cls := "LyndonBench$Word", name := "at", desc := "(I)I" } : Jvm.MethodName), Jvm.Cond.methodLink "LyndonBenchLaw" (48 : Nat) ({ cls := "LyndonBench", name := "nextLyndon", desc := "(I)I" } : Jvm.MethodName), Jvm.Cond.instanceMethod ({ cls := "LyndonBench", name := "nextLyndon", desc := "(I)I" } : Jvm.MethodName)]
abbrev zl_2_14 : List Cond := [Jvm.Cond.selects "LyndonBench" ({ cls := "LyndonBench", name := "nextLyndon", desc := "(I)I" } : Jvm.MethodName) ({ cls := "LyndonBench", name := "nextLyndon", desc := "(I)I" } : Jvm.MethodName), Jvm.Cond.code ({ cls := "LyndonBench", name := "nextLyndon", desc := "(I)I" } : Jvm.MethodName) prog_1_method_13_code (2 : Nat) (Option.some Jvm.ClassFile.FieldType.int), Jvm.Cond.stringRef "LyndonBench" (159 : Nat) "the greatest length is 1 to 120", Jvm.Cond.methodLink "LyndonBench" (161 : Nat) ({ cls := "LyndonBench$State", name := "hasNext", desc := "(I)Z" } : Jvm.MethodName), Jvm.Cond.instanceMethod ({ cls := "LyndonBench$State", name := "hasNext", desc := "(I)Z" } : Jvm.MethodName), Jvm.Cond.selects "LyndonBench$State" ({ cls := "LyndonBench$State", name := "hasNext", desc := "(I)Z" } : Jvm.MethodName) ({ cls := "LyndonBench$State", name := "hasNext", desc := "(I)Z" } : Jvm.MethodName), Jvm.Cond.code ({ cls := "LyndonBench$State", name := "hasNext", desc := "(I)Z" } : Jvm.MethodName) prog_6_method_14_code (2 : Nat) (Option.some Jvm.ClassFile.FieldType.boolean), Jvm.Cond.methodLink "LyndonBench$State" (64 : Nat) ({ cls := "LyndonBench$Word", name := "isOneFactor", desc := "()Z" } : Jvm.MethodName), Jvm.Cond.methodLink "LyndonBench$State" (68 : Nat) ({ cls := "LyndonBench$Word", name := "at", desc := "(I)I" } : Jvm.MethodName), Jvm.Cond.methodLink "LyndonBench$State" (71 : Nat) ({ cls := "LyndonBench$State", name := "greatestLetter", desc := "()I" } : Jvm.MethodName), Jvm.Cond.instanceMethod ({ cls := "LyndonBench$State", name := "greatestLetter", desc := "()I" } : Jvm.MethodName), Jvm.Cond.selects "LyndonBench$State" ({ cls := "LyndonBench$State", name := "greatestLetter", desc := "()I" } : Jvm.MethodName) ({ cls := "LyndonBench$State", name := "greatestLetter", desc := "()I" } : Jvm.MethodName), Jvm.Cond.code ({ cls := "LyndonBench$State", name := "greatestLetter", desc := "()I" } : Jvm.MethodName) prog_6_method_5_code (1 : Nat) (Option.some Jvm.ClassFile.FieldType.int), Jvm.Cond.stringRef "LyndonBench" (164 : Nat) "there is no next Lyndon word", Jvm.Cond.methodLink "LyndonBench" (166 : Nat) ({ cls := "LyndonBench$State", name := "greatestLetter", desc := "()I" } : Jvm.MethodName), Jvm.Cond.methodLink "LyndonBench" (169 : Nat) ({ cls := "LyndonBench$Word", name := "stepLyndon", desc := "(II)V" } : Jvm.MethodName)]
set_option maxRecDepth 100000 in
theorem ztq_2 : tables_1_2 = zl_2_0 ++ (zl_2_1 ++ (zl_2_2 ++ (zl_2_3 ++ (zl_2_4 ++ (zl_2_5 ++ (zl_2_6 ++ (zl_2_7 ++ (zl_2_8 ++ (zl_2_9 ++ (zl_2_10 ++ (zl_2_11 ++ (zl_2_12 ++ (zl_2_13 ++ (zl_2_14)))))))))))))) := rfl
theorem zls_2_0 : ∀ w ∈ zl_2_0, w ∈ tables_1_2 := fun w hw => by
  rw [ztq_2]
  exact List.mem_append_left _ hw
def zlt_2_0 := zu_16 zls_2_0
theorem zls_2_1 : ∀ w ∈ zl_2_1, w ∈ tables_1_2 := fun w hw => by
  rw [ztq_2]
  exact List.mem_append_right _ (List.mem_append_left _ hw)
def zlt_2_1 := zu_16 zls_2_1
theorem zls_2_2 : ∀ w ∈ zl_2_2, w ∈ tables_1_2 := fun w hw => by
  rw [ztq_2]
  exact List.mem_append_right _ (List.mem_append_right _ (List.mem_append_left _ hw))
def zlt_2_2 := zu_16 zls_2_2
theorem zls_2_3 : ∀ w ∈ zl_2_3, w ∈ tables_1_2 := fun w hw => by
  rw [ztq_2]
  exact List.mem_append_right _ (List.mem_append_right _ (List.mem_append_right _ (List.mem_append_left _ hw)))
def zlt_2_3 := zu_16 zls_2_3
theorem zls_2_4 : ∀ w ∈ zl_2_4, w ∈ tables_1_2 := fun w hw => by
  rw [ztq_2]
  exact List.mem_append_right _ (List.mem_append_right _ (List.mem_append_right _ (List.mem_append_right _ (List.mem_append_left _ hw))))
def zlt_2_4 := zu_16 zls_2_4
theorem zls_2_5 : ∀ w ∈ zl_2_5, w ∈ tables_1_2 := fun w hw => by
  rw [ztq_2]
  exact List.mem_append_right _ (List.mem_append_right _ (List.mem_append_right _ (List.mem_append_right _ (List.mem_append_right _ (List.mem_append_left _ hw)))))
def zlt_2_5 := zu_16 zls_2_5
theorem zls_2_6 : ∀ w ∈ zl_2_6, w ∈ tables_1_2 := fun w hw => by
  rw [ztq_2]
  exact List.mem_append_right _ (List.mem_append_right _ (List.mem_append_right _ (List.mem_append_right _ (List.mem_append_right _ (List.mem_append_right _ (List.mem_append_left _ hw))))))
def zlt_2_6 := zu_16 zls_2_6
theorem zls_2_7 : ∀ w ∈ zl_2_7, w ∈ tables_1_2 := fun w hw => by
  rw [ztq_2]
  exact List.mem_append_right _ (List.mem_append_right _ (List.mem_append_right _ (List.mem_append_right _ (List.mem_append_right _ (List.mem_append_right _ (List.mem_append_right _ (List.mem_append_left _ hw)))))))
def zlt_2_7 := zu_16 zls_2_7
theorem zls_2_8 : ∀ w ∈ zl_2_8, w ∈ tables_1_2 := fun w hw => by
  rw [ztq_2]
  exact List.mem_append_right _ (List.mem_append_right _ (List.mem_append_right _ (List.mem_append_right _ (List.mem_append_right _ (List.mem_append_right _ (List.mem_append_right _ (List.mem_append_right _ (List.mem_append_left _ hw))))))))
def zlt_2_8 := zu_16 zls_2_8
theorem zls_2_9 : ∀ w ∈ zl_2_9, w ∈ tables_1_2 := fun w hw => by
  rw [ztq_2]
  exact List.mem_append_right _ (List.mem_append_right _ (List.mem_append_right _ (List.mem_append_right _ (List.mem_append_right _ (List.mem_append_right _ (List.mem_append_right _ (List.mem_append_right _ (List.mem_append_right _ (List.mem_append_left _ hw)))))))))
def zlt_2_9 := zu_16 zls_2_9
theorem zls_2_10 : ∀ w ∈ zl_2_10, w ∈ tables_1_2 := fun w hw => by
  rw [ztq_2]
  exact List.mem_append_right _ (List.mem_append_right _ (List.mem_append_right _ (List.mem_append_right _ (List.mem_append_right _ (List.mem_append_right _ (List.mem_append_right _ (List.mem_append_right _ (List.mem_append_right _ (List.mem_append_right _ (List.mem_append_left _ hw))))))))))
def zlt_2_10 := zu_16 zls_2_10
theorem zls_2_11 : ∀ w ∈ zl_2_11, w ∈ tables_1_2 := fun w hw => by
  rw [ztq_2]
  exact List.mem_append_right _ (List.mem_append_right _ (List.mem_append_right _ (List.mem_append_right _ (List.mem_append_right _ (List.mem_append_right _ (List.mem_append_right _ (List.mem_append_right _ (List.mem_append_right _ (List.mem_append_right _ (List.mem_append_right _ (List.mem_append_left _ hw)))))))))))
def zlt_2_11 := zu_16 zls_2_11
theorem zls_2_12 : ∀ w ∈ zl_2_12, w ∈ tables_1_2 := fun w hw => by
  rw [ztq_2]
  exact List.mem_append_right _ (List.mem_append_right _ (List.mem_append_right _ (List.mem_append_right _ (List.mem_append_right _ (List.mem_append_right _ (List.mem_append_right _ (List.mem_append_right _ (List.mem_append_right _ (List.mem_append_right _ (List.mem_append_right _ (List.mem_append_right _ (List.mem_append_left _ hw))))))))))))
def zlt_2_12 := zu_16 zls_2_12
theorem zls_2_13 : ∀ w ∈ zl_2_13, w ∈ tables_1_2 := fun w hw => by
  rw [ztq_2]
  exact List.mem_append_right _ (List.mem_append_right _ (List.mem_append_right _ (List.mem_append_right _ (List.mem_append_right _ (List.mem_append_right _ (List.mem_append_right _ (List.mem_append_right _ (List.mem_append_right _ (List.mem_append_right _ (List.mem_append_right _ (List.mem_append_right _ (List.mem_append_right _ (List.mem_append_left _ hw)))))))))))))
def zlt_2_13 := zu_16 zls_2_13
theorem zls_2_14 : ∀ w ∈ zl_2_14, w ∈ tables_1_2 := fun w hw => by
  rw [ztq_2]
  exact List.mem_append_right _ (List.mem_append_right _ (List.mem_append_right _ (List.mem_append_right _ (List.mem_append_right _ (List.mem_append_right _ (List.mem_append_right _ (List.mem_append_right _ (List.mem_append_right _ (List.mem_append_right _ (List.mem_append_right _ (List.mem_append_right _ (List.mem_append_right _ (List.mem_append_right _ (hw))))))))))))))
def zlt_2_14 := zu_16 zls_2_14
theorem z_mt3 {w : Cond} (h : w ∈ tables_1_3) (hg : goodWord w = true) : w ∈ za_Ts := List.mem_filter.mpr ⟨List.mem_append_right _ (show w ∈ tables_1 from List.mem_append_right _ (List.mem_append_right _ (h))), hg⟩
abbrev zl_3_0 : List Cond := [Jvm.Cond.instanceMethod ({ cls := "LyndonBench$Word", name := "stepLyndon", desc := "(II)V" } : Jvm.MethodName), Jvm.Cond.selects "LyndonBench$Word" ({ cls := "LyndonBench$Word", name := "stepLyndon", desc := "(II)V" } : Jvm.MethodName) ({ cls := "LyndonBench$Word", name := "stepLyndon", desc := "(II)V" } : Jvm.MethodName), Jvm.Cond.code ({ cls := "LyndonBench$Word", name := "stepLyndon", desc := "(II)V" } : Jvm.MethodName) prog_7_method_34_code (6 : Nat) (Option.none : Option Jvm.ClassFile.FieldType), Jvm.Cond.methodLink "LyndonBench$Word" (54 : Nat) ({ cls := "LyndonBench$Word", name := "shortenTo", desc := "(I)V" } : Jvm.MethodName), Jvm.Cond.methodLink "LyndonBenchLaw" (51 : Nat) ({ cls := "LyndonBench", name := "keptCount", desc := "()I" } : Jvm.MethodName), Jvm.Cond.instanceMethod ({ cls := "LyndonBench", name := "keptCount", desc := "()I" } : Jvm.MethodName), Jvm.Cond.selects "LyndonBench" ({ cls := "LyndonBench", name := "keptCount", desc := "()I" } : Jvm.MethodName) ({ cls := "LyndonBench", name := "keptCount", desc := "()I" } : Jvm.MethodName), Jvm.Cond.code ({ cls := "LyndonBench", name := "keptCount", desc := "()I" } : Jvm.MethodName) prog_1_method_51_code (1 : Nat) (Option.some Jvm.ClassFile.FieldType.int), Jvm.Cond.methodLink "LyndonBenchLaw" (54 : Nat) ({ cls := "LyndonBench", name := "factorCount", desc := "()I" } : Jvm.MethodName), Jvm.Cond.instanceMethod ({ cls := "LyndonBench", name := "factorCount", desc := "()I" } : Jvm.MethodName), Jvm.Cond.selects "LyndonBench" ({ cls := "LyndonBench", name := "factorCount", desc := "()I" } : Jvm.MethodName) ({ cls := "LyndonBench", name := "factorCount", desc := "()I" } : Jvm.MethodName), Jvm.Cond.code ({ cls := "LyndonBench", name := "factorCount", desc := "()I" } : Jvm.MethodName) prog_1_method_28_code (1 : Nat) (Option.some Jvm.ClassFile.FieldType.int), Jvm.Cond.methodLink "LyndonBenchLaw" (57 : Nat) ({ cls := "LyndonBench", name := "factorLength", desc := "(I)I" } : Jvm.MethodName), Jvm.Cond.instanceMethod ({ cls := "LyndonBench", name := "factorLength", desc := "(I)I" } : Jvm.MethodName), Jvm.Cond.selects "LyndonBench" ({ cls := "LyndonBench", name := "factorLength", desc := "(I)I" } : Jvm.MethodName) ({ cls := "LyndonBench", name := "factorLength", desc := "(I)I" } : Jvm.MethodName), Jvm.Cond.code ({ cls := "LyndonBench", name := "factorLength", desc := "(I)I" } : Jvm.MethodName) prog_1_method_30_code (3 : Nat) (Option.some Jvm.ClassFile.FieldType.int)]
abbrev zl_3_1 : List Cond := [Jvm.Cond.methodLink "LyndonBench" (172 : Nat) ({ cls := "LyndonBench", name := "checkedBegin", desc := "(I)I" } : Jvm.MethodName), Jvm.Cond.privateMethod ({ cls := "LyndonBench", name := "checkedBegin", desc := "(I)I" } : Jvm.MethodName), Jvm.Cond.instanceMethod ({ cls := "LyndonBench", name := "checkedBegin", desc := "(I)I" } : Jvm.MethodName), Jvm.Cond.code ({ cls := "LyndonBench", name := "checkedBegin", desc := "(I)I" } : Jvm.MethodName) prog_1_method_65_code (3 : Nat) (Option.some Jvm.ClassFile.FieldType.int), Jvm.Cond.methodLink "LyndonBench" (303 : Nat) ({ cls := "LyndonBench$Word", name := "beginOfFactor", desc := "(I)I" } : Jvm.MethodName), Jvm.Cond.instanceMethod ({ cls := "LyndonBench$Word", name := "beginOfFactor", desc := "(I)I" } : Jvm.MethodName), Jvm.Cond.selects "LyndonBench$Word" ({ cls := "LyndonBench$Word", name := "beginOfFactor", desc := "(I)I" } : Jvm.MethodName) ({ cls := "LyndonBench$Word", name := "beginOfFactor", desc := "(I)I" } : Jvm.MethodName), Jvm.Cond.code ({ cls := "LyndonBench$Word", name := "beginOfFactor", desc := "(I)I" } : Jvm.MethodName) prog_7_method_22_code (6 : Nat) (Option.some Jvm.ClassFile.FieldType.int), Jvm.Cond.classLink "LyndonBench" (192 : Nat) "java/lang/IndexOutOfBoundsException", Jvm.Cond.instantiable "java/lang/IndexOutOfBoundsException" (6 : Nat), Jvm.Cond.castable "java/lang/IndexOutOfBoundsException" "java/lang/IndexOutOfBoundsException", Jvm.Cond.selects "java/lang/IndexOutOfBoundsException" ({ cls := "java/lang/Throwable", name := "fillInStackTrace", desc := "(I)Ljava/lang/Throwable;" } : Jvm.MethodName) ({ cls := "java/lang/Throwable", name := "fillInStackTrace", desc := "(I)Ljava/lang/Throwable;" } : Jvm.MethodName), Jvm.Cond.lays "java/lang/IndexOutOfBoundsException" "java/lang/Throwable" "cause" "Ljava/lang/Throwable;", Jvm.Cond.lays "java/lang/IndexOutOfBoundsException" "java/lang/Throwable" "stackTrace" "[Ljava/lang/StackTraceElement;", Jvm.Cond.lays "java/lang/IndexOutOfBoundsException" "java/lang/Throwable" "suppressedExceptions" "Ljava/util/List;", Jvm.Cond.lays "java/lang/IndexOutOfBoundsException" "java/lang/Throwable" "detailMessage" "Ljava/lang/String;"]
abbrev zl_3_2 : List Cond := [Jvm.Cond.lays "java/lang/IndexOutOfBoundsException" "java/lang/Throwable" "backtrace" "Ljava/lang/Object;", Jvm.Cond.stringRef "LyndonBench" (306 : Nat) "there is no such factor", Jvm.Cond.methodLink "LyndonBench" (196 : Nat) ({ cls := "java/lang/IndexOutOfBoundsException", name := "<init>", desc := "(Ljava/lang/String;)V" } : Jvm.MethodName), Jvm.Cond.instanceMethod ({ cls := "java/lang/IndexOutOfBoundsException", name := "<init>", desc := "(Ljava/lang/String;)V" } : Jvm.MethodName), Jvm.Cond.code ({ cls := "java/lang/IndexOutOfBoundsException", name := "<init>", desc := "(Ljava/lang/String;)V" } : Jvm.MethodName) prog_13_method_2_code (2 : Nat) (Option.none : Option Jvm.ClassFile.FieldType), Jvm.Cond.methodLink "java/lang/IndexOutOfBoundsException" (7 : Nat) ({ cls := "java/lang/RuntimeException", name := "<init>", desc := "(Ljava/lang/String;)V" } : Jvm.MethodName), Jvm.Cond.lays "java/lang/IndexOutOfBoundsException" "java/lang/Throwable" "depth" "I", Jvm.Cond.superclass "java/lang/IndexOutOfBoundsException" "java/lang/RuntimeException", Jvm.Cond.methodLink "LyndonBench" (175 : Nat) ({ cls := "LyndonBench$Word", name := "lyndonEnd", desc := "(I)I" } : Jvm.MethodName), Jvm.Cond.methodLink "LyndonBenchLaw" (60 : Nat) ({ cls := "LyndonBench", name := "keepFactor", desc := "(I)I" } : Jvm.MethodName), Jvm.Cond.instanceMethod ({ cls := "LyndonBench", name := "keepFactor", desc := "(I)I" } : Jvm.MethodName), Jvm.Cond.selects "LyndonBench" ({ cls := "LyndonBench", name := "keepFactor", desc := "(I)I" } : Jvm.MethodName) ({ cls := "LyndonBench", name := "keepFactor", desc := "(I)I" } : Jvm.MethodName), Jvm.Cond.code ({ cls := "LyndonBench", name := "keepFactor", desc := "(I)I" } : Jvm.MethodName) prog_1_method_14_code (4 : Nat) (Option.some Jvm.ClassFile.FieldType.int), Jvm.Cond.methodLink "LyndonBench" (178 : Nat) ({ cls := "LyndonBench$State", name := "canKeep", desc := "(I)Z" } : Jvm.MethodName), Jvm.Cond.instanceMethod ({ cls := "LyndonBench$State", name := "canKeep", desc := "(I)Z" } : Jvm.MethodName), Jvm.Cond.selects "LyndonBench$State" ({ cls := "LyndonBench$State", name := "canKeep", desc := "(I)Z" } : Jvm.MethodName) ({ cls := "LyndonBench$State", name := "canKeep", desc := "(I)Z" } : Jvm.MethodName)]
abbrev zl_3_3 : List Cond := [Jvm.Cond.code ({ cls := "LyndonBench$State", name := "canKeep", desc := "(I)Z" } : Jvm.MethodName) prog_6_method_8_code (2 : Nat) (Option.some Jvm.ClassFile.FieldType.boolean), Jvm.Cond.stringRef "LyndonBench" (181 : Nat) "the factor can't be kept", Jvm.Cond.methodLink "LyndonBenchLaw" (63 : Nat) ({ cls := "LyndonBench", name := "keepText", desc := "()I" } : Jvm.MethodName), Jvm.Cond.instanceMethod ({ cls := "LyndonBench", name := "keepText", desc := "()I" } : Jvm.MethodName), Jvm.Cond.selects "LyndonBench" ({ cls := "LyndonBench", name := "keepText", desc := "()I" } : Jvm.MethodName) ({ cls := "LyndonBench", name := "keepText", desc := "()I" } : Jvm.MethodName), Jvm.Cond.code ({ cls := "LyndonBench", name := "keepText", desc := "()I" } : Jvm.MethodName) prog_1_method_15_code (1 : Nat) (Option.some Jvm.ClassFile.FieldType.int), Jvm.Cond.stringRef "LyndonBench" (186 : Nat) "the text can't be kept", Jvm.Cond.methodLink "LyndonBenchLaw" (66 : Nat) ({ cls := "LyndonBench", name := "removeKept", desc := "(I)I" } : Jvm.MethodName), Jvm.Cond.instanceMethod ({ cls := "LyndonBench", name := "removeKept", desc := "(I)I" } : Jvm.MethodName), Jvm.Cond.selects "LyndonBench" ({ cls := "LyndonBench", name := "removeKept", desc := "(I)I" } : Jvm.MethodName) ({ cls := "LyndonBench", name := "removeKept", desc := "(I)I" } : Jvm.MethodName), Jvm.Cond.code ({ cls := "LyndonBench", name := "removeKept", desc := "(I)I" } : Jvm.MethodName) prog_1_method_16_code (2 : Nat) (Option.some Jvm.ClassFile.FieldType.int), Jvm.Cond.methodLink "LyndonBench" (188 : Nat) ({ cls := "LyndonBench$State", name := "keptAt", desc := "(I)LLyndonBench$Word;" } : Jvm.MethodName), Jvm.Cond.stringRef "LyndonBench" (194 : Nat) "there is no such kept word", Jvm.Cond.methodLink "LyndonBench" (197 : Nat) ({ cls := "LyndonBench$State", name := "takeFromShelf", desc := "(I)V" } : Jvm.MethodName), Jvm.Cond.instanceMethod ({ cls := "LyndonBench$State", name := "takeFromShelf", desc := "(I)V" } : Jvm.MethodName), Jvm.Cond.selects "LyndonBench$State" ({ cls := "LyndonBench$State", name := "takeFromShelf", desc := "(I)V" } : Jvm.MethodName) ({ cls := "LyndonBench$State", name := "takeFromShelf", desc := "(I)V" } : Jvm.MethodName)]
abbrev zl_3_4 : List Cond := [Jvm.Cond.code ({ cls := "LyndonBench$State", name := "takeFromShelf", desc := "(I)V" } : Jvm.MethodName) prog_6_method_10_code (5 : Nat) (Option.none : Option Jvm.ClassFile.FieldType), Jvm.Cond.methodLink "LyndonBenchLaw" (69 : Nat) ({ cls := "LyndonBenchLaw", name := "shelf", desc := "(LLyndonBench;)I" } : Jvm.MethodName), Jvm.Cond.static ({ cls := "LyndonBenchLaw", name := "shelf", desc := "(LLyndonBench;)I" } : Jvm.MethodName), Jvm.Cond.code ({ cls := "LyndonBenchLaw", name := "shelf", desc := "(LLyndonBench;)I" } : Jvm.MethodName) method_4_code (3 : Nat) (Option.some Jvm.ClassFile.FieldType.int), Jvm.Cond.methodLink "LyndonBenchLaw" (85 : Nat) ({ cls := "LyndonBench", name := "keptLength", desc := "(I)I" } : Jvm.MethodName), Jvm.Cond.instanceMethod ({ cls := "LyndonBench", name := "keptLength", desc := "(I)I" } : Jvm.MethodName), Jvm.Cond.selects "LyndonBench" ({ cls := "LyndonBench", name := "keptLength", desc := "(I)I" } : Jvm.MethodName) ({ cls := "LyndonBench", name := "keptLength", desc := "(I)I" } : Jvm.MethodName), Jvm.Cond.code ({ cls := "LyndonBench", name := "keptLength", desc := "(I)I" } : Jvm.MethodName) prog_1_method_52_code (3 : Nat) (Option.some Jvm.ClassFile.FieldType.int), Jvm.Cond.methodLink "LyndonBenchLaw" (73 : Nat) ({ cls := "LyndonBench", name := "joinKept", desc := "()I" } : Jvm.MethodName), Jvm.Cond.instanceMethod ({ cls := "LyndonBench", name := "joinKept", desc := "()I" } : Jvm.MethodName), Jvm.Cond.selects "LyndonBench" ({ cls := "LyndonBench", name := "joinKept", desc := "()I" } : Jvm.MethodName) ({ cls := "LyndonBench", name := "joinKept", desc := "()I" } : Jvm.MethodName), Jvm.Cond.code ({ cls := "LyndonBench", name := "joinKept", desc := "()I" } : Jvm.MethodName) prog_1_method_17_code (1 : Nat) (Option.some Jvm.ClassFile.FieldType.int), Jvm.Cond.methodLink "LyndonBench" (200 : Nat) ({ cls := "LyndonBench$State", name := "canJoin", desc := "()Z" } : Jvm.MethodName), Jvm.Cond.instanceMethod ({ cls := "LyndonBench$State", name := "canJoin", desc := "()Z" } : Jvm.MethodName), Jvm.Cond.selects "LyndonBench$State" ({ cls := "LyndonBench$State", name := "canJoin", desc := "()Z" } : Jvm.MethodName) ({ cls := "LyndonBench$State", name := "canJoin", desc := "()Z" } : Jvm.MethodName), Jvm.Cond.code ({ cls := "LyndonBench$State", name := "canJoin", desc := "()Z" } : Jvm.MethodName) prog_6_method_12_code (4 : Nat) (Option.some Jvm.ClassFile.FieldType.boolean)]
abbrev zl_3_5 : List Cond := [Jvm.Cond.stringRef "LyndonBench" (203 : Nat) "the kept words can't be joined", Jvm.Cond.methodLink "LyndonBench" (205 : Nat) ({ cls := "LyndonBench$State", name := "joinShelf", desc := "()V" } : Jvm.MethodName), Jvm.Cond.instanceMethod ({ cls := "LyndonBench$State", name := "joinShelf", desc := "()V" } : Jvm.MethodName), Jvm.Cond.selects "LyndonBench$State" ({ cls := "LyndonBench$State", name := "joinShelf", desc := "()V" } : Jvm.MethodName) ({ cls := "LyndonBench$State", name := "joinShelf", desc := "()V" } : Jvm.MethodName), Jvm.Cond.code ({ cls := "LyndonBench$State", name := "joinShelf", desc := "()V" } : Jvm.MethodName) prog_6_method_13_code (5 : Nat) (Option.none : Option Jvm.ClassFile.FieldType), Jvm.Cond.methodLink "LyndonBench$State" (60 : Nat) ({ cls := "LyndonBench$State", name := "greatestOfShelf", desc := "(I)I" } : Jvm.MethodName), Jvm.Cond.instanceMethod ({ cls := "LyndonBench$State", name := "greatestOfShelf", desc := "(I)I" } : Jvm.MethodName), Jvm.Cond.selects "LyndonBench$State" ({ cls := "LyndonBench$State", name := "greatestOfShelf", desc := "(I)I" } : Jvm.MethodName) ({ cls := "LyndonBench$State", name := "greatestOfShelf", desc := "(I)I" } : Jvm.MethodName), Jvm.Cond.code ({ cls := "LyndonBench$State", name := "greatestOfShelf", desc := "(I)I" } : Jvm.MethodName) prog_6_method_11_code (6 : Nat) (Option.some Jvm.ClassFile.FieldType.int), Jvm.Cond.methodLink "LyndonBench$State" (56 : Nat) ({ cls := "LyndonBench$Word", name := "order", desc := "(IILLyndonBench$Word;II)I" } : Jvm.MethodName), Jvm.Cond.methodLink "LyndonBenchLaw" (76 : Nat) ({ cls := "LyndonBench", name := "cutPart", desc := "(II)I" } : Jvm.MethodName), Jvm.Cond.instanceMethod ({ cls := "LyndonBench", name := "cutPart", desc := "(II)I" } : Jvm.MethodName), Jvm.Cond.selects "LyndonBench" ({ cls := "LyndonBench", name := "cutPart", desc := "(II)I" } : Jvm.MethodName) ({ cls := "LyndonBench", name := "cutPart", desc := "(II)I" } : Jvm.MethodName), Jvm.Cond.code ({ cls := "LyndonBench", name := "cutPart", desc := "(II)I" } : Jvm.MethodName) prog_1_method_9_code (3 : Nat) (Option.some Jvm.ClassFile.FieldType.int), Jvm.Cond.methodLink "LyndonBench" (141 : Nat) ({ cls := "LyndonBench", name := "checkPart", desc := "(II)V" } : Jvm.MethodName), Jvm.Cond.privateMethod ({ cls := "LyndonBench", name := "checkPart", desc := "(II)V" } : Jvm.MethodName)]
abbrev zl_3_6 : List Cond := [Jvm.Cond.instanceMethod ({ cls := "LyndonBench", name := "checkPart", desc := "(II)V" } : Jvm.MethodName), Jvm.Cond.code ({ cls := "LyndonBench", name := "checkPart", desc := "(II)V" } : Jvm.MethodName) prog_1_method_63_code (3 : Nat) (Option.none : Option Jvm.ClassFile.FieldType), Jvm.Cond.stringRef "LyndonBench" (299 : Nat) "the text has no such part", Jvm.Cond.methodLink "LyndonBench" (145 : Nat) ({ cls := "LyndonBench$Word", name := "cutTo", desc := "(II)V" } : Jvm.MethodName), Jvm.Cond.instanceMethod ({ cls := "LyndonBench$Word", name := "cutTo", desc := "(II)V" } : Jvm.MethodName), Jvm.Cond.selects "LyndonBench$Word" ({ cls := "LyndonBench$Word", name := "cutTo", desc := "(II)V" } : Jvm.MethodName) ({ cls := "LyndonBench$Word", name := "cutTo", desc := "(II)V" } : Jvm.MethodName), Jvm.Cond.code ({ cls := "LyndonBench$Word", name := "cutTo", desc := "(II)V" } : Jvm.MethodName) prog_7_method_12_code (4 : Nat) (Option.none : Option Jvm.ClassFile.FieldType), Jvm.Cond.methodLink "LyndonBenchLaw" (79 : Nat) ({ cls := "java/lang/Math", name := "max", desc := "(II)I" } : Jvm.MethodName), Jvm.Cond.methodLink "LyndonBenchLaw" (82 : Nat) ({ cls := "LyndonBench", name := "setLetters", desc := "(I)I" } : Jvm.MethodName), Jvm.Cond.instanceMethod ({ cls := "LyndonBench", name := "setLetters", desc := "(I)I" } : Jvm.MethodName), Jvm.Cond.selects "LyndonBench" ({ cls := "LyndonBench", name := "setLetters", desc := "(I)I" } : Jvm.MethodName) ({ cls := "LyndonBench", name := "setLetters", desc := "(I)I" } : Jvm.MethodName), Jvm.Cond.code ({ cls := "LyndonBench", name := "setLetters", desc := "(I)I" } : Jvm.MethodName) prog_1_method_5_code (3 : Nat) (Option.some Jvm.ClassFile.FieldType.int), Jvm.Cond.stringRef "LyndonBench" (102 : Nat) "there are 2 to 9 letters", Jvm.Cond.methodLink "LyndonBench" (104 : Nat) ({ cls := "LyndonBench$State", name := "fitsLetters", desc := "(I)Z" } : Jvm.MethodName), Jvm.Cond.instanceMethod ({ cls := "LyndonBench$State", name := "fitsLetters", desc := "(I)Z" } : Jvm.MethodName), Jvm.Cond.selects "LyndonBench$State" ({ cls := "LyndonBench$State", name := "fitsLetters", desc := "(I)Z" } : Jvm.MethodName) ({ cls := "LyndonBench$State", name := "fitsLetters", desc := "(I)Z" } : Jvm.MethodName)]
abbrev zl_3_7 : List Cond := [Jvm.Cond.code ({ cls := "LyndonBench$State", name := "fitsLetters", desc := "(I)Z" } : Jvm.MethodName) prog_6_method_6_code (4 : Nat) (Option.some Jvm.ClassFile.FieldType.boolean), Jvm.Cond.methodLink "LyndonBench$State" (49 : Nat) ({ cls := "LyndonBench$Word", name := "fitsLetters", desc := "(I)Z" } : Jvm.MethodName), Jvm.Cond.instanceMethod ({ cls := "LyndonBench$Word", name := "fitsLetters", desc := "(I)Z" } : Jvm.MethodName), Jvm.Cond.selects "LyndonBench$Word" ({ cls := "LyndonBench$Word", name := "fitsLetters", desc := "(I)Z" } : Jvm.MethodName) ({ cls := "LyndonBench$Word", name := "fitsLetters", desc := "(I)Z" } : Jvm.MethodName), Jvm.Cond.code ({ cls := "LyndonBench$Word", name := "fitsLetters", desc := "(I)Z" } : Jvm.MethodName) prog_7_method_15_code (3 : Nat) (Option.some Jvm.ClassFile.FieldType.boolean), Jvm.Cond.stringRef "LyndonBench" (110 : Nat) "a letter is still used", Jvm.Cond.methodLink "LyndonBenchLaw" (133 : Nat) ({ cls := "LyndonBenchLaw", name := "holds", desc := "(LLyndonBench;)Z" } : Jvm.MethodName), Jvm.Cond.static ({ cls := "LyndonBenchLaw", name := "holds", desc := "(LLyndonBench;)Z" } : Jvm.MethodName), Jvm.Cond.code ({ cls := "LyndonBenchLaw", name := "holds", desc := "(LLyndonBench;)Z" } : Jvm.MethodName) method_9_code (8 : Nat) (Option.some Jvm.ClassFile.FieldType.boolean), Jvm.Cond.methodLink "LyndonBenchLaw" (100 : Nat) ({ cls := "LyndonBenchLaw", name := "word", desc := "(LLyndonBench;)[I" } : Jvm.MethodName), Jvm.Cond.static ({ cls := "LyndonBenchLaw", name := "word", desc := "(LLyndonBench;)[I" } : Jvm.MethodName), Jvm.Cond.code ({ cls := "LyndonBenchLaw", name := "word", desc := "(LLyndonBench;)[I" } : Jvm.MethodName) method_6_code (3 : Nat) (Option.some (Jvm.ClassFile.FieldType.array Jvm.ClassFile.FieldType.int)), Jvm.Cond.methodLink "LyndonBenchLaw" (104 : Nat) ({ cls := "LyndonBench", name := "violations", desc := "()I" } : Jvm.MethodName), Jvm.Cond.instanceMethod ({ cls := "LyndonBench", name := "violations", desc := "()I" } : Jvm.MethodName), Jvm.Cond.selects "LyndonBench" ({ cls := "LyndonBench", name := "violations", desc := "()I" } : Jvm.MethodName) ({ cls := "LyndonBench", name := "violations", desc := "()I" } : Jvm.MethodName), Jvm.Cond.code ({ cls := "LyndonBench", name := "violations", desc := "()I" } : Jvm.MethodName) prog_1_method_58_code (7 : Nat) (Option.some Jvm.ClassFile.FieldType.int)]
abbrev zl_3_8 : List Cond := [Jvm.Cond.methodLink "LyndonBench" (289 : Nat) ({ cls := "LyndonBench$Word", name := "isLyndonPart", desc := "(II)Z" } : Jvm.MethodName), Jvm.Cond.instanceMethod ({ cls := "LyndonBench$Word", name := "isLyndonPart", desc := "(II)Z" } : Jvm.MethodName), Jvm.Cond.selects "LyndonBench$Word" ({ cls := "LyndonBench$Word", name := "isLyndonPart", desc := "(II)Z" } : Jvm.MethodName) ({ cls := "LyndonBench$Word", name := "isLyndonPart", desc := "(II)Z" } : Jvm.MethodName), Jvm.Cond.code ({ cls := "LyndonBench$Word", name := "isLyndonPart", desc := "(II)Z" } : Jvm.MethodName) prog_7_method_26_code (4 : Nat) (Option.some Jvm.ClassFile.FieldType.boolean), Jvm.Cond.methodLink "LyndonBench" (226 : Nat) ({ cls := "LyndonBench$Word", name := "order", desc := "(IILLyndonBench$Word;II)I" } : Jvm.MethodName), Jvm.Cond.methodLink "LyndonBench" (262 : Nat) ({ cls := "LyndonBench$Word", name := "extremeEnding", desc := "(I)I" } : Jvm.MethodName), Jvm.Cond.instanceMethod ({ cls := "LyndonBench$Word", name := "extremeEnding", desc := "(I)I" } : Jvm.MethodName), Jvm.Cond.selects "LyndonBench$Word" ({ cls := "LyndonBench$Word", name := "extremeEnding", desc := "(I)I" } : Jvm.MethodName) ({ cls := "LyndonBench$Word", name := "extremeEnding", desc := "(I)I" } : Jvm.MethodName), Jvm.Cond.code ({ cls := "LyndonBench$Word", name := "extremeEnding", desc := "(I)I" } : Jvm.MethodName) prog_7_method_33_code (4 : Nat) (Option.some Jvm.ClassFile.FieldType.int), Jvm.Cond.methodLink "LyndonBenchLaw" (107 : Nat) ({ cls := "LyndonBench", name := "factorStart", desc := "(I)I" } : Jvm.MethodName), Jvm.Cond.instanceMethod ({ cls := "LyndonBench", name := "factorStart", desc := "(I)I" } : Jvm.MethodName), Jvm.Cond.selects "LyndonBench" ({ cls := "LyndonBench", name := "factorStart", desc := "(I)I" } : Jvm.MethodName) ({ cls := "LyndonBench", name := "factorStart", desc := "(I)I" } : Jvm.MethodName), Jvm.Cond.code ({ cls := "LyndonBench", name := "factorStart", desc := "(I)I" } : Jvm.MethodName) prog_1_method_29_code (2 : Nat) (Option.some Jvm.ClassFile.FieldType.int), Jvm.Cond.methodLink "LyndonBenchLaw" (110 : Nat) ({ cls := "LyndonBenchLaw", name := "isLyndon", desc := "([III)Z" } : Jvm.MethodName), Jvm.Cond.static ({ cls := "LyndonBenchLaw", name := "isLyndon", desc := "([III)Z" } : Jvm.MethodName), Jvm.Cond.code ({ cls := "LyndonBenchLaw", name := "isLyndon", desc := "([III)Z" } : Jvm.MethodName) method_8_code (4 : Nat) (Option.some Jvm.ClassFile.FieldType.boolean)]
abbrev zl_3_9 : List Cond := [Jvm.Cond.methodLink "LyndonBenchLaw" (96 : Nat) ({ cls := "LyndonBenchLaw", name := "order", desc := "([III[III)I" } : Jvm.MethodName), Jvm.Cond.static ({ cls := "LyndonBenchLaw", name := "order", desc := "([III[III)I" } : Jvm.MethodName), Jvm.Cond.code ({ cls := "LyndonBenchLaw", name := "order", desc := "([III[III)I" } : Jvm.MethodName) method_7_code (7 : Nat) (Option.some Jvm.ClassFile.FieldType.int), Jvm.Cond.methodLink "LyndonBenchLaw" (91 : Nat) ({ cls := "java/lang/Integer", name := "compare", desc := "(II)I" } : Jvm.MethodName), Jvm.Cond.static ({ cls := "java/lang/Integer", name := "compare", desc := "(II)I" } : Jvm.MethodName), Jvm.Cond.code ({ cls := "java/lang/Integer", name := "compare", desc := "(II)I" } : Jvm.MethodName) prog_14_method_40_code (2 : Nat) (Option.some Jvm.ClassFile.FieldType.int), Jvm.Cond.methodLink "LyndonBenchLaw" (113 : Nat) ({ cls := "LyndonBench", name := "factorOf", desc := "(I)I" } : Jvm.MethodName), Jvm.Cond.instanceMethod ({ cls := "LyndonBench", name := "factorOf", desc := "(I)I" } : Jvm.MethodName), Jvm.Cond.selects "LyndonBench" ({ cls := "LyndonBench", name := "factorOf", desc := "(I)I" } : Jvm.MethodName) ({ cls := "LyndonBench", name := "factorOf", desc := "(I)I" } : Jvm.MethodName), Jvm.Cond.code ({ cls := "LyndonBench", name := "factorOf", desc := "(I)I" } : Jvm.MethodName) prog_1_method_32_code (2 : Nat) (Option.some Jvm.ClassFile.FieldType.int), Jvm.Cond.methodLink "LyndonBench" (234 : Nat) ({ cls := "LyndonBench$Word", name := "factorWith", desc := "(I)I" } : Jvm.MethodName), Jvm.Cond.instanceMethod ({ cls := "LyndonBench$Word", name := "factorWith", desc := "(I)I" } : Jvm.MethodName), Jvm.Cond.selects "LyndonBench$Word" ({ cls := "LyndonBench$Word", name := "factorWith", desc := "(I)I" } : Jvm.MethodName) ({ cls := "LyndonBench$Word", name := "factorWith", desc := "(I)I" } : Jvm.MethodName), Jvm.Cond.code ({ cls := "LyndonBench$Word", name := "factorWith", desc := "(I)I" } : Jvm.MethodName) prog_7_method_23_code (7 : Nat) (Option.some Jvm.ClassFile.FieldType.int), Jvm.Cond.methodLink "LyndonBenchLaw" (116 : Nat) ({ cls := "LyndonBench", name := "keptLetter", desc := "(II)I" } : Jvm.MethodName), Jvm.Cond.instanceMethod ({ cls := "LyndonBench", name := "keptLetter", desc := "(II)I" } : Jvm.MethodName)]
abbrev zl_3_10 : List Cond := [Jvm.Cond.selects "LyndonBench" ({ cls := "LyndonBench", name := "keptLetter", desc := "(II)I" } : Jvm.MethodName) ({ cls := "LyndonBench", name := "keptLetter", desc := "(II)I" } : Jvm.MethodName), Jvm.Cond.code ({ cls := "LyndonBench", name := "keptLetter", desc := "(II)I" } : Jvm.MethodName) prog_1_method_53_code (4 : Nat) (Option.some Jvm.ClassFile.FieldType.int), Jvm.Cond.methodLink "LyndonBenchLaw" (119 : Nat) ({ cls := "LyndonBench", name := "leastSuffix", desc := "()I" } : Jvm.MethodName), Jvm.Cond.instanceMethod ({ cls := "LyndonBench", name := "leastSuffix", desc := "()I" } : Jvm.MethodName), Jvm.Cond.selects "LyndonBench" ({ cls := "LyndonBench", name := "leastSuffix", desc := "()I" } : Jvm.MethodName) ({ cls := "LyndonBench", name := "leastSuffix", desc := "()I" } : Jvm.MethodName), Jvm.Cond.code ({ cls := "LyndonBench", name := "leastSuffix", desc := "()I" } : Jvm.MethodName) prog_1_method_46_code (1 : Nat) (Option.some Jvm.ClassFile.FieldType.int), Jvm.Cond.methodLink "LyndonBenchLaw" (147 : Nat) ({ cls := "LyndonBenchLaw", name := "sum", desc := "(LLyndonBench;)J" } : Jvm.MethodName), Jvm.Cond.static ({ cls := "LyndonBenchLaw", name := "sum", desc := "(LLyndonBench;)J" } : Jvm.MethodName), Jvm.Cond.code ({ cls := "LyndonBenchLaw", name := "sum", desc := "(LLyndonBench;)J" } : Jvm.MethodName) method_10_code (5 : Nat) (Option.some Jvm.ClassFile.FieldType.long), Jvm.Cond.constantLong "LyndonBenchLaw" (122 : Nat) (10 : Int64), Jvm.Cond.constantLong "LyndonBenchLaw" (124 : Nat) (2000 : Int64), Jvm.Cond.constantLong "LyndonBenchLaw" (126 : Nat) (31 : Int64), Jvm.Cond.constantLong "LyndonBenchLaw" (128 : Nat) (37 : Int64), Jvm.Cond.methodLink "LyndonBenchLaw" (155 : Nat) ({ cls := "LyndonBenchLaw", name := "isAppended", desc := "(LLyndonBench;I)Z" } : Jvm.MethodName), Jvm.Cond.static ({ cls := "LyndonBenchLaw", name := "isAppended", desc := "(LLyndonBench;I)Z" } : Jvm.MethodName), Jvm.Cond.code ({ cls := "LyndonBenchLaw", name := "isAppended", desc := "(LLyndonBench;I)Z" } : Jvm.MethodName) method_11_code (11 : Nat) (Option.some Jvm.ClassFile.FieldType.boolean)]
abbrev zl_3_11 : List Cond := [Jvm.Cond.methodLink "LyndonBenchLaw" (130 : Nat) ({ cls := "LyndonBench", name := "factorsIfAppended", desc := "(I)I" } : Jvm.MethodName), Jvm.Cond.instanceMethod ({ cls := "LyndonBench", name := "factorsIfAppended", desc := "(I)I" } : Jvm.MethodName), Jvm.Cond.selects "LyndonBench" ({ cls := "LyndonBench", name := "factorsIfAppended", desc := "(I)I" } : Jvm.MethodName) ({ cls := "LyndonBench", name := "factorsIfAppended", desc := "(I)I" } : Jvm.MethodName), Jvm.Cond.code ({ cls := "LyndonBench", name := "factorsIfAppended", desc := "(I)I" } : Jvm.MethodName) prog_1_method_34_code (2 : Nat) (Option.some Jvm.ClassFile.FieldType.int), Jvm.Cond.methodLink "LyndonBench" (240 : Nat) ({ cls := "LyndonBench$Word", name := "copyFrom", desc := "(LLyndonBench$Word;)V" } : Jvm.MethodName), Jvm.Cond.sameMethod "java/lang/Throwable" "java/lang/Throwable" "fillInStackTrace" "(I)Ljava/lang/Throwable;", Jvm.Cond.fieldLink "java/lang/String" (9 : Nat) "java/lang/String" "value" "[B", Jvm.Cond.fieldLink "java/lang/String" (15 : Nat) "java/lang/String" "coder" "B"]
set_option maxRecDepth 100000 in
theorem ztq_3 : tables_1_3 = zl_3_0 ++ (zl_3_1 ++ (zl_3_2 ++ (zl_3_3 ++ (zl_3_4 ++ (zl_3_5 ++ (zl_3_6 ++ (zl_3_7 ++ (zl_3_8 ++ (zl_3_9 ++ (zl_3_10 ++ (zl_3_11))))))))))) := rfl
theorem zls_3_0 : ∀ w ∈ zl_3_0, w ∈ tables_1_3 := fun w hw => by
  rw [ztq_3]
  exact List.mem_append_left _ hw
def zlt_3_0 := zu_16 zls_3_0
theorem zls_3_1 : ∀ w ∈ zl_3_1, w ∈ tables_1_3 := fun w hw => by
  rw [ztq_3]
  exact List.mem_append_right _ (List.mem_append_left _ hw)
def zlt_3_1 := zu_16 zls_3_1
theorem zls_3_2 : ∀ w ∈ zl_3_2, w ∈ tables_1_3 := fun w hw => by
  rw [ztq_3]
  exact List.mem_append_right _ (List.mem_append_right _ (List.mem_append_left _ hw))
def zlt_3_2 := zu_16 zls_3_2
theorem zls_3_3 : ∀ w ∈ zl_3_3, w ∈ tables_1_3 := fun w hw => by
  rw [ztq_3]
  exact List.mem_append_right _ (List.mem_append_right _ (List.mem_append_right _ (List.mem_append_left _ hw)))
def zlt_3_3 := zu_16 zls_3_3
theorem zls_3_4 : ∀ w ∈ zl_3_4, w ∈ tables_1_3 := fun w hw => by
  rw [ztq_3]
  exact List.mem_append_right _ (List.mem_append_right _ (List.mem_append_right _ (List.mem_append_right _ (List.mem_append_left _ hw))))
def zlt_3_4 := zu_16 zls_3_4
theorem zls_3_5 : ∀ w ∈ zl_3_5, w ∈ tables_1_3 := fun w hw => by
  rw [ztq_3]
  exact List.mem_append_right _ (List.mem_append_right _ (List.mem_append_right _ (List.mem_append_right _ (List.mem_append_right _ (List.mem_append_left _ hw)))))
def zlt_3_5 := zu_16 zls_3_5
theorem zls_3_6 : ∀ w ∈ zl_3_6, w ∈ tables_1_3 := fun w hw => by
  rw [ztq_3]
  exact List.mem_append_right _ (List.mem_append_right _ (List.mem_append_right _ (List.mem_append_right _ (List.mem_append_right _ (List.mem_append_right _ (List.mem_append_left _ hw))))))
def zlt_3_6 := zu_16 zls_3_6
theorem zls_3_7 : ∀ w ∈ zl_3_7, w ∈ tables_1_3 := fun w hw => by
  rw [ztq_3]
  exact List.mem_append_right _ (List.mem_append_right _ (List.mem_append_right _ (List.mem_append_right _ (List.mem_append_right _ (List.mem_append_right _ (List.mem_append_right _ (List.mem_append_left _ hw)))))))
def zlt_3_7 := zu_16 zls_3_7
theorem zls_3_8 : ∀ w ∈ zl_3_8, w ∈ tables_1_3 := fun w hw => by
  rw [ztq_3]
  exact List.mem_append_right _ (List.mem_append_right _ (List.mem_append_right _ (List.mem_append_right _ (List.mem_append_right _ (List.mem_append_right _ (List.mem_append_right _ (List.mem_append_right _ (List.mem_append_left _ hw))))))))
def zlt_3_8 := zu_16 zls_3_8
theorem zls_3_9 : ∀ w ∈ zl_3_9, w ∈ tables_1_3 := fun w hw => by
  rw [ztq_3]
  exact List.mem_append_right _ (List.mem_append_right _ (List.mem_append_right _ (List.mem_append_right _ (List.mem_append_right _ (List.mem_append_right _ (List.mem_append_right _ (List.mem_append_right _ (List.mem_append_right _ (List.mem_append_left _ hw)))))))))
def zlt_3_9 := zu_16 zls_3_9
theorem zls_3_10 : ∀ w ∈ zl_3_10, w ∈ tables_1_3 := fun w hw => by
  rw [ztq_3]
  exact List.mem_append_right _ (List.mem_append_right _ (List.mem_append_right _ (List.mem_append_right _ (List.mem_append_right _ (List.mem_append_right _ (List.mem_append_right _ (List.mem_append_right _ (List.mem_append_right _ (List.mem_append_right _ (List.mem_append_left _ hw))))))))))
def zlt_3_10 := zu_16 zls_3_10
theorem zls_3_11 : ∀ w ∈ zl_3_11, w ∈ tables_1_3 := fun w hw => by
  rw [ztq_3]
  exact List.mem_append_right _ (List.mem_append_right _ (List.mem_append_right _ (List.mem_append_right _ (List.mem_append_right _ (List.mem_append_right _ (List.mem_append_right _ (List.mem_append_right _ (List.mem_append_right _ (List.mem_append_right _ (List.mem_append_right _ (hw)))))))))))
def zlt_3_11 := zu_8 zls_3_11
theorem zw_0 : Jvm.Cond.selects "LyndonBench" ({ cls := "LyndonBench", name := "checkLetter", desc := "(I)V" } : Jvm.MethodName) ({ cls := "LyndonBench", name := "checkLetter", desc := "(I)V" } : Jvm.MethodName) ∈ za_Ts := z_mem 0 (by decide +kernel) rfl
theorem zw_2 : Jvm.Cond.selects "LyndonBench$History" ({ cls := "LyndonBench$History", name := "forgetOldest", desc := "()V" } : Jvm.MethodName) ({ cls := "LyndonBench$History", name := "forgetOldest", desc := "()V" } : Jvm.MethodName) ∈ za_Ts := z_mem 2 (by decide +kernel) rfl
theorem zw_3 : Jvm.Cond.selects "LyndonBench" ({ cls := "LyndonBench", name := "checkCount", desc := "(I)V" } : Jvm.MethodName) ({ cls := "LyndonBench", name := "checkCount", desc := "(I)V" } : Jvm.MethodName) ∈ za_Ts := z_mem 3 (by decide +kernel) rfl
theorem zw_4 : Jvm.Cond.selects "LyndonBench$Word" ({ cls := "LyndonBench$Word", name := "put", desc := "(II)V" } : Jvm.MethodName) ({ cls := "LyndonBench$Word", name := "put", desc := "(II)V" } : Jvm.MethodName) ∈ za_Ts := z_mem 4 (by decide +kernel) rfl
theorem zw_5 : Jvm.Cond.selects "LyndonBench$Word" ({ cls := "LyndonBench$Word", name := "atAround", desc := "(I)I" } : Jvm.MethodName) ({ cls := "LyndonBench$Word", name := "atAround", desc := "(I)I" } : Jvm.MethodName) ∈ za_Ts := z_mem 5 (by decide +kernel) rfl
theorem zw_6 : Jvm.Cond.selects "LyndonBench" ({ cls := "LyndonBench", name := "checkedBegin", desc := "(I)I" } : Jvm.MethodName) ({ cls := "LyndonBench", name := "checkedBegin", desc := "(I)I" } : Jvm.MethodName) ∈ za_Ts := z_mem 6 (by decide +kernel) rfl
theorem zw_7 : Jvm.Cond.selects "LyndonBench" ({ cls := "LyndonBench", name := "checkPart", desc := "(II)V" } : Jvm.MethodName) ({ cls := "LyndonBench", name := "checkPart", desc := "(II)V" } : Jvm.MethodName) ∈ za_Ts := z_mem 7 (by decide +kernel) rfl
def zw_8 := z_mt1 zlt_1_0.1 rfl
def zw_9 := z_mt1 zlt_1_0.2.1 rfl
def zw_10 := z_mt1 zlt_1_0.2.2.1 rfl
def zw_11 := z_mt1 zlt_1_0.2.2.2.1 rfl
def zw_12 := z_mt1 zlt_1_0.2.2.2.2.1 rfl
def zw_13 := z_mt1 zlt_1_0.2.2.2.2.2.1 rfl
def zw_14 := z_mt1 zlt_1_0.2.2.2.2.2.2.1 rfl
def zw_15 := z_mt1 zlt_1_0.2.2.2.2.2.2.2.1 rfl
def zw_16 := z_mt1 zlt_1_0.2.2.2.2.2.2.2.2.1 rfl
def zw_17 := z_mt1 zlt_1_0.2.2.2.2.2.2.2.2.2.1 rfl
def zw_23 := z_mt1 zlt_1_0.2.2.2.2.2.2.2.2.2.2.2.2.2.2.2 rfl
def zw_26 := z_mt1 zlt_1_1.2.2.1 rfl
def zw_27 := z_mt1 zlt_1_1.2.2.2.1 rfl
def zw_28 := z_mt1 zlt_1_1.2.2.2.2.1 rfl
def zw_29 := z_mt1 zlt_1_1.2.2.2.2.2.1 rfl
def zw_30 := z_mt1 zlt_1_1.2.2.2.2.2.2.1 rfl
def zw_31 := z_mt1 zlt_1_1.2.2.2.2.2.2.2.1 rfl
def zw_32 := z_mt1 zlt_1_1.2.2.2.2.2.2.2.2.1 rfl
def zw_33 := z_mt1 zlt_1_1.2.2.2.2.2.2.2.2.2.1 rfl
def zw_34 := z_mt1 zlt_1_1.2.2.2.2.2.2.2.2.2.2.1 rfl
def zw_35 := z_mt1 zlt_1_1.2.2.2.2.2.2.2.2.2.2.2.1 rfl
def zw_36 := z_mt1 zlt_1_1.2.2.2.2.2.2.2.2.2.2.2.2.1 rfl
def zw_37 := z_mt1 zlt_1_1.2.2.2.2.2.2.2.2.2.2.2.2.2.1 rfl
def zw_38 := z_mt1 zlt_1_1.2.2.2.2.2.2.2.2.2.2.2.2.2.2.1 rfl
def zw_39 := z_mt1 zlt_1_1.2.2.2.2.2.2.2.2.2.2.2.2.2.2.2 rfl
def zw_40 := z_mt1 zlt_1_2.1 rfl
def zw_41 := z_mt1 zlt_1_2.2.1 rfl
def zw_42 := z_mt1 zlt_1_2.2.2.1 rfl
def zw_43 := z_mt1 zlt_1_2.2.2.2.1 rfl
def zw_44 := z_mt1 zlt_1_2.2.2.2.2.1 rfl
def zw_45 := z_mt1 zlt_1_2.2.2.2.2.2.1 rfl
def zw_46 := z_mt1 zlt_1_2.2.2.2.2.2.2.1 rfl
def zw_47 := z_mt1 zlt_1_2.2.2.2.2.2.2.2.1 rfl
def zw_48 := z_mt1 zlt_1_2.2.2.2.2.2.2.2.2.1 rfl
def zw_49 := z_mt1 zlt_1_2.2.2.2.2.2.2.2.2.2.1 rfl
def zw_50 := z_mt1 zlt_1_2.2.2.2.2.2.2.2.2.2.2.1 rfl
def zw_51 := z_mt1 zlt_1_2.2.2.2.2.2.2.2.2.2.2.2.1 rfl
def zw_52 := z_mt1 zlt_1_2.2.2.2.2.2.2.2.2.2.2.2.2.1 rfl
def zw_58 := z_mt1 zlt_1_3.2.2.1 rfl
def zw_60 := z_mt1 zlt_1_3.2.2.2.2.1 rfl
def zw_61 := z_mt1 zlt_1_3.2.2.2.2.2.1 rfl
def zw_62 := z_mt1 zlt_1_3.2.2.2.2.2.2.1 rfl
def zw_63 := z_mt1 zlt_1_3.2.2.2.2.2.2.2.1 rfl
def zw_64 := z_mt1 zlt_1_3.2.2.2.2.2.2.2.2.1 rfl
def zw_65 := z_mt1 zlt_1_3.2.2.2.2.2.2.2.2.2.1 rfl
def zw_66 := z_mt1 zlt_1_3.2.2.2.2.2.2.2.2.2.2.1 rfl
def zw_76 := z_mt1 zlt_1_4.2.2.2.2.1 rfl
def zw_77 := z_mt1 zlt_1_4.2.2.2.2.2.1 rfl
def zw_78 := z_mt1 zlt_1_4.2.2.2.2.2.2.1 rfl
def zw_79 := z_mt1 zlt_1_4.2.2.2.2.2.2.2.1 rfl
def zw_80 := z_mt1 zlt_1_4.2.2.2.2.2.2.2.2.1 rfl
def zw_81 := z_mt1 zlt_1_4.2.2.2.2.2.2.2.2.2.1 rfl
def zw_82 := z_mt1 zlt_1_4.2.2.2.2.2.2.2.2.2.2.1 rfl
def zw_84 := z_mt1 zlt_1_4.2.2.2.2.2.2.2.2.2.2.2.2.1 rfl
def zw_85 := z_mt1 zlt_1_4.2.2.2.2.2.2.2.2.2.2.2.2.2.1 rfl
def zw_86 := z_mt1 zlt_1_4.2.2.2.2.2.2.2.2.2.2.2.2.2.2.1 rfl
def zw_87 := z_mt1 zlt_1_4.2.2.2.2.2.2.2.2.2.2.2.2.2.2.2 rfl
def zw_93 := z_mt1 zlt_1_5.2.2.2.2.2.1 rfl
def zw_94 := z_mt1 zlt_1_5.2.2.2.2.2.2.1 rfl
def zw_96 := z_mt1 zlt_1_5.2.2.2.2.2.2.2.2.1 rfl
def zw_97 := z_mt1 zlt_1_5.2.2.2.2.2.2.2.2.2.1 rfl
def zw_98 := z_mt1 zlt_1_5.2.2.2.2.2.2.2.2.2.2.1 rfl
def zw_99 := z_mt1 zlt_1_5.2.2.2.2.2.2.2.2.2.2.2.1 rfl
def zw_100 := z_mt1 zlt_1_5.2.2.2.2.2.2.2.2.2.2.2.2.1 rfl
def zw_101 := z_mt1 zlt_1_5.2.2.2.2.2.2.2.2.2.2.2.2.2.1 rfl
def zw_102 := z_mt1 zlt_1_5.2.2.2.2.2.2.2.2.2.2.2.2.2.2.1 rfl
def zw_103 := z_mt1 zlt_1_5.2.2.2.2.2.2.2.2.2.2.2.2.2.2.2 rfl
def zw_104 := z_mt1 zlt_1_6.1 rfl
def zw_105 := z_mt1 zlt_1_6.2.1 rfl
def zw_106 := z_mt1 zlt_1_6.2.2.1 rfl
def zw_107 := z_mt1 zlt_1_6.2.2.2.1 rfl
def zw_108 := z_mt1 zlt_1_6.2.2.2.2.1 rfl
def zw_109 := z_mt1 zlt_1_6.2.2.2.2.2.1 rfl
def zw_110 := z_mt1 zlt_1_6.2.2.2.2.2.2.1 rfl
def zw_111 := z_mt1 zlt_1_6.2.2.2.2.2.2.2.1 rfl
def zw_112 := z_mt1 zlt_1_6.2.2.2.2.2.2.2.2.1 rfl
def zw_113 := z_mt1 zlt_1_6.2.2.2.2.2.2.2.2.2.1 rfl
def zw_114 := z_mt1 zlt_1_6.2.2.2.2.2.2.2.2.2.2.1 rfl
def zw_140 := z_mt1 zlt_1_8.2.2.2.2.1 rfl
def zw_141 := z_mt1 zlt_1_8.2.2.2.2.2.1 rfl
def zw_142 := z_mt1 zlt_1_8.2.2.2.2.2.2.1 rfl
def zw_143 := z_mt1 zlt_1_8.2.2.2.2.2.2.2.1 rfl
def zw_144 := z_mt1 zlt_1_8.2.2.2.2.2.2.2.2.1 rfl
def zw_145 := z_mt1 zlt_1_8.2.2.2.2.2.2.2.2.2.1 rfl
def zw_146 := z_mt1 zlt_1_8.2.2.2.2.2.2.2.2.2.2.1 rfl
def zw_147 := z_mt1 zlt_1_8.2.2.2.2.2.2.2.2.2.2.2.1 rfl
def zw_148 := z_mt1 zlt_1_8.2.2.2.2.2.2.2.2.2.2.2.2.1 rfl
def zw_149 := z_mt1 zlt_1_8.2.2.2.2.2.2.2.2.2.2.2.2.2.1 rfl
def zw_150 := z_mt1 zlt_1_8.2.2.2.2.2.2.2.2.2.2.2.2.2.2.1 rfl
def zw_152 := z_mt1 zlt_1_9.1 rfl
def zw_153 := z_mt1 zlt_1_9.2.1 rfl
def zw_154 := z_mt1 zlt_1_9.2.2.1 rfl
def zw_155 := z_mt1 zlt_1_9.2.2.2.1 rfl
def zw_156 := z_mt1 zlt_1_9.2.2.2.2.1 rfl
def zw_157 := z_mt1 zlt_1_9.2.2.2.2.2.1 rfl
def zw_158 := z_mt1 zlt_1_9.2.2.2.2.2.2.1 rfl
def zw_159 := z_mt1 zlt_1_9.2.2.2.2.2.2.2.1 rfl
def zw_160 := z_mt1 zlt_1_9.2.2.2.2.2.2.2.2.1 rfl
def zw_161 := z_mt1 zlt_1_9.2.2.2.2.2.2.2.2.2.1 rfl
def zw_162 := z_mt1 zlt_1_9.2.2.2.2.2.2.2.2.2.2.1 rfl
def zw_163 := z_mt1 zlt_1_9.2.2.2.2.2.2.2.2.2.2.2.1 rfl
def zw_164 := z_mt1 zlt_1_9.2.2.2.2.2.2.2.2.2.2.2.2.1 rfl
def zw_166 := z_mt1 zlt_1_9.2.2.2.2.2.2.2.2.2.2.2.2.2.2.1 rfl
def zw_167 := z_mt1 zlt_1_9.2.2.2.2.2.2.2.2.2.2.2.2.2.2.2 rfl
def zw_168 := z_mt1 zlt_1_10.1 rfl
def zw_169 := z_mt1 zlt_1_10.2.1 rfl
def zw_170 := z_mt1 zlt_1_10.2.2.1 rfl
def zw_171 := z_mt1 zlt_1_10.2.2.2.1 rfl
def zw_172 := z_mt1 zlt_1_10.2.2.2.2.1 rfl
def zw_173 := z_mt1 zlt_1_10.2.2.2.2.2.1 rfl
def zw_174 := z_mt1 zlt_1_10.2.2.2.2.2.2.1 rfl
def zw_175 := z_mt1 zlt_1_10.2.2.2.2.2.2.2.1 rfl
def zw_176 := z_mt1 zlt_1_10.2.2.2.2.2.2.2.2.1 rfl
def zw_177 := z_mt1 zlt_1_10.2.2.2.2.2.2.2.2.2.1 rfl
def zw_178 := z_mt1 zlt_1_10.2.2.2.2.2.2.2.2.2.2.1 rfl
def zw_179 := z_mt1 zlt_1_10.2.2.2.2.2.2.2.2.2.2.2.1 rfl
def zw_180 := z_mt1 zlt_1_10.2.2.2.2.2.2.2.2.2.2.2.2.1 rfl
def zw_182 := z_mt1 zlt_1_10.2.2.2.2.2.2.2.2.2.2.2.2.2.2.1 rfl
def zw_183 := z_mt1 zlt_1_10.2.2.2.2.2.2.2.2.2.2.2.2.2.2.2 rfl
def zw_184 := z_mt1 zlt_1_11.1 rfl
def zw_204 := z_mt1 zlt_1_12.2.2.2.2.1 rfl
def zw_205 := z_mt1 zlt_1_12.2.2.2.2.2.1 rfl
def zw_206 := z_mt1 zlt_1_12.2.2.2.2.2.2.1 rfl
def zw_207 := z_mt1 zlt_1_12.2.2.2.2.2.2.2.1 rfl
def zw_209 := z_mt1 zlt_1_12.2.2.2.2.2.2.2.2.2.1 rfl
def zw_210 := z_mt1 zlt_1_12.2.2.2.2.2.2.2.2.2.2.1 rfl
def zw_211 := z_mt1 zlt_1_12.2.2.2.2.2.2.2.2.2.2.2.1 rfl
def zw_212 := z_mt1 zlt_1_12.2.2.2.2.2.2.2.2.2.2.2.2.1 rfl
def zw_213 := z_mt1 zlt_1_12.2.2.2.2.2.2.2.2.2.2.2.2.2.1 rfl
def zw_214 := z_mt1 zlt_1_12.2.2.2.2.2.2.2.2.2.2.2.2.2.2.1 rfl
def zw_215 := z_mt1 zlt_1_12.2.2.2.2.2.2.2.2.2.2.2.2.2.2.2 rfl
def zw_216 := z_mt1 zlt_1_13.1 rfl
def zw_217 := z_mt1 zlt_1_13.2.1 rfl
def zw_218 := z_mt1 zlt_1_13.2.2.1 rfl
def zw_219 := z_mt1 zlt_1_13.2.2.2.1 rfl
def zw_220 := z_mt1 zlt_1_13.2.2.2.2.1 rfl
def zw_221 := z_mt1 zlt_1_13.2.2.2.2.2.1 rfl
def zw_222 := z_mt1 zlt_1_13.2.2.2.2.2.2.1 rfl
def zw_223 := z_mt1 zlt_1_13.2.2.2.2.2.2.2.1 rfl
def zw_224 := z_mt1 zlt_1_13.2.2.2.2.2.2.2.2.1 rfl
def zw_225 := z_mt1 zlt_1_13.2.2.2.2.2.2.2.2.2.1 rfl
def zw_226 := z_mt1 zlt_1_13.2.2.2.2.2.2.2.2.2.2.1 rfl
def zw_227 := z_mt1 zlt_1_13.2.2.2.2.2.2.2.2.2.2.2.1 rfl
def zw_243 := z_mt1 zlt_1_14.2.2.2.2.2.2.2.2.2.2.2.1 rfl
def zw_244 := z_mt1 zlt_1_14.2.2.2.2.2.2.2.2.2.2.2.2.1 rfl
def zw_245 := z_mt1 zlt_1_14.2.2.2.2.2.2.2.2.2.2.2.2.2.1 rfl
def zw_246 := z_mt1 zlt_1_14.2.2.2.2.2.2.2.2.2.2.2.2.2.2.1 rfl
def zw_247 := z_mt1 zlt_1_14.2.2.2.2.2.2.2.2.2.2.2.2.2.2.2 rfl
def zw_248 := z_mt2 zlt_2_0.1 rfl
def zw_249 := z_mt2 zlt_2_0.2.1 rfl
def zw_250 := z_mt2 zlt_2_0.2.2.1 rfl
def zw_251 := z_mt2 zlt_2_0.2.2.2.1 rfl
def zw_252 := z_mt2 zlt_2_0.2.2.2.2.1 rfl
def zw_253 := z_mt2 zlt_2_0.2.2.2.2.2.1 rfl
def zw_254 := z_mt2 zlt_2_0.2.2.2.2.2.2.1 rfl
def zw_255 := z_mt2 zlt_2_0.2.2.2.2.2.2.2.1 rfl
def zw_256 := z_mt2 zlt_2_0.2.2.2.2.2.2.2.2.1 rfl
def zw_257 := z_mt2 zlt_2_0.2.2.2.2.2.2.2.2.2.1 rfl
def zw_258 := z_mt2 zlt_2_0.2.2.2.2.2.2.2.2.2.2.1 rfl
def zw_259 := z_mt2 zlt_2_0.2.2.2.2.2.2.2.2.2.2.2.1 rfl
def zw_260 := z_mt2 zlt_2_0.2.2.2.2.2.2.2.2.2.2.2.2.1 rfl
def zw_261 := z_mt2 zlt_2_0.2.2.2.2.2.2.2.2.2.2.2.2.2.1 rfl
def zw_262 := z_mt2 zlt_2_0.2.2.2.2.2.2.2.2.2.2.2.2.2.2.1 rfl
def zw_263 := z_mt2 zlt_2_0.2.2.2.2.2.2.2.2.2.2.2.2.2.2.2 rfl
def zw_264 := z_mt2 zlt_2_1.1 rfl
def zw_265 := z_mt2 zlt_2_1.2.1 rfl
def zw_266 := z_mt2 zlt_2_1.2.2.1 rfl
def zw_267 := z_mt2 zlt_2_1.2.2.2.1 rfl
def zw_268 := z_mt2 zlt_2_1.2.2.2.2.1 rfl
def zw_269 := z_mt2 zlt_2_1.2.2.2.2.2.1 rfl
def zw_270 := z_mt2 zlt_2_1.2.2.2.2.2.2.1 rfl
def zw_271 := z_mt2 zlt_2_1.2.2.2.2.2.2.2.1 rfl
def zw_272 := z_mt2 zlt_2_1.2.2.2.2.2.2.2.2.1 rfl
def zw_273 := z_mt2 zlt_2_1.2.2.2.2.2.2.2.2.2.1 rfl
def zw_274 := z_mt2 zlt_2_1.2.2.2.2.2.2.2.2.2.2.1 rfl
def zw_275 := z_mt2 zlt_2_1.2.2.2.2.2.2.2.2.2.2.2.1 rfl
def zw_276 := z_mt2 zlt_2_1.2.2.2.2.2.2.2.2.2.2.2.2.1 rfl
def zw_277 := z_mt2 zlt_2_1.2.2.2.2.2.2.2.2.2.2.2.2.2.1 rfl
def zw_278 := z_mt2 zlt_2_1.2.2.2.2.2.2.2.2.2.2.2.2.2.2.1 rfl
def zw_279 := z_mt2 zlt_2_1.2.2.2.2.2.2.2.2.2.2.2.2.2.2.2 rfl
def zw_280 := z_mt2 zlt_2_2.1 rfl
def zw_281 := z_mt2 zlt_2_2.2.1 rfl
def zw_282 := z_mt2 zlt_2_2.2.2.1 rfl
def zw_283 := z_mt2 zlt_2_2.2.2.2.1 rfl
def zw_284 := z_mt2 zlt_2_2.2.2.2.2.1 rfl
def zw_285 := z_mt2 zlt_2_2.2.2.2.2.2.1 rfl
def zw_286 := z_mt2 zlt_2_2.2.2.2.2.2.2.1 rfl
def zw_287 := z_mt2 zlt_2_2.2.2.2.2.2.2.2.1 rfl
def zw_288 := z_mt2 zlt_2_2.2.2.2.2.2.2.2.2.1 rfl
def zw_290 := z_mt2 zlt_2_2.2.2.2.2.2.2.2.2.2.2.1 rfl
def zw_291 := z_mt2 zlt_2_2.2.2.2.2.2.2.2.2.2.2.2.1 rfl
def zw_292 := z_mt2 zlt_2_2.2.2.2.2.2.2.2.2.2.2.2.2.1 rfl
def zw_293 := z_mt2 zlt_2_2.2.2.2.2.2.2.2.2.2.2.2.2.2.1 rfl
def zw_294 := z_mt2 zlt_2_2.2.2.2.2.2.2.2.2.2.2.2.2.2.2.1 rfl
def zw_295 := z_mt2 zlt_2_2.2.2.2.2.2.2.2.2.2.2.2.2.2.2.2 rfl
def zw_379 := z_mt2 zlt_2_8.2.2.2.1 rfl
def zw_380 := z_mt2 zlt_2_8.2.2.2.2.1 rfl
def zw_381 := z_mt2 zlt_2_8.2.2.2.2.2.1 rfl
def zw_382 := z_mt2 zlt_2_8.2.2.2.2.2.2.1 rfl
def zw_383 := z_mt2 zlt_2_8.2.2.2.2.2.2.2.1 rfl
def zw_385 := z_mt2 zlt_2_8.2.2.2.2.2.2.2.2.2.1 rfl
def zw_386 := z_mt2 zlt_2_8.2.2.2.2.2.2.2.2.2.2.1 rfl
def zw_387 := z_mt2 zlt_2_8.2.2.2.2.2.2.2.2.2.2.2.1 rfl
def zw_388 := z_mt2 zlt_2_8.2.2.2.2.2.2.2.2.2.2.2.2.1 rfl
def zw_389 := z_mt2 zlt_2_8.2.2.2.2.2.2.2.2.2.2.2.2.2.1 rfl
def zw_390 := z_mt2 zlt_2_8.2.2.2.2.2.2.2.2.2.2.2.2.2.2.1 rfl
def zw_391 := z_mt2 zlt_2_8.2.2.2.2.2.2.2.2.2.2.2.2.2.2.2 rfl
def zw_392 := z_mt2 zlt_2_9.1 rfl
def zw_393 := z_mt2 zlt_2_9.2.1 rfl
def zw_394 := z_mt2 zlt_2_9.2.2.1 rfl
def zw_395 := z_mt2 zlt_2_9.2.2.2.1 rfl
def zw_396 := z_mt2 zlt_2_9.2.2.2.2.1 rfl
def zw_397 := z_mt2 zlt_2_9.2.2.2.2.2.1 rfl
def zw_398 := z_mt2 zlt_2_9.2.2.2.2.2.2.1 rfl
def zw_399 := z_mt2 zlt_2_9.2.2.2.2.2.2.2.1 rfl
def zw_400 := z_mt2 zlt_2_9.2.2.2.2.2.2.2.2.1 rfl
def zw_401 := z_mt2 zlt_2_9.2.2.2.2.2.2.2.2.2.1 rfl
def zw_402 := z_mt2 zlt_2_9.2.2.2.2.2.2.2.2.2.2.1 rfl
def zw_403 := z_mt2 zlt_2_9.2.2.2.2.2.2.2.2.2.2.2.1 rfl
def zw_404 := z_mt2 zlt_2_9.2.2.2.2.2.2.2.2.2.2.2.2.1 rfl
def zw_405 := z_mt2 zlt_2_9.2.2.2.2.2.2.2.2.2.2.2.2.2.1 rfl
def zw_406 := z_mt2 zlt_2_9.2.2.2.2.2.2.2.2.2.2.2.2.2.2.1 rfl
def zw_407 := z_mt2 zlt_2_9.2.2.2.2.2.2.2.2.2.2.2.2.2.2.2 rfl
def zw_408 := z_mt2 zlt_2_10.1 rfl
def zw_409 := z_mt2 zlt_2_10.2.1 rfl
def zw_410 := z_mt2 zlt_2_10.2.2.1 rfl
def zw_411 := z_mt2 zlt_2_10.2.2.2.1 rfl
def zw_413 := z_mt2 zlt_2_10.2.2.2.2.2.1 rfl
def zw_414 := z_mt2 zlt_2_10.2.2.2.2.2.2.1 rfl
def zw_416 := z_mt2 zlt_2_10.2.2.2.2.2.2.2.2.1 rfl
def zw_417 := z_mt2 zlt_2_10.2.2.2.2.2.2.2.2.2.1 rfl
def zw_418 := z_mt2 zlt_2_10.2.2.2.2.2.2.2.2.2.2.1 rfl
def zw_419 := z_mt2 zlt_2_10.2.2.2.2.2.2.2.2.2.2.2.1 rfl
def zw_420 := z_mt2 zlt_2_10.2.2.2.2.2.2.2.2.2.2.2.2.1 rfl
def zw_421 := z_mt2 zlt_2_10.2.2.2.2.2.2.2.2.2.2.2.2.2.1 rfl
def zw_422 := z_mt2 zlt_2_10.2.2.2.2.2.2.2.2.2.2.2.2.2.2.1 rfl
def zw_423 := z_mt2 zlt_2_10.2.2.2.2.2.2.2.2.2.2.2.2.2.2.2 rfl
def zw_424 := z_mt2 zlt_2_11.1 rfl
def zw_425 := z_mt2 zlt_2_11.2.1 rfl
def zw_426 := z_mt2 zlt_2_11.2.2.1 rfl
def zw_427 := z_mt2 zlt_2_11.2.2.2.1 rfl
def zw_428 := z_mt2 zlt_2_11.2.2.2.2.1 rfl
def zw_429 := z_mt2 zlt_2_11.2.2.2.2.2.1 rfl
def zw_430 := z_mt2 zlt_2_11.2.2.2.2.2.2.1 rfl
def zw_431 := z_mt2 zlt_2_11.2.2.2.2.2.2.2.1 rfl
def zw_432 := z_mt2 zlt_2_11.2.2.2.2.2.2.2.2.1 rfl
def zw_434 := z_mt2 zlt_2_11.2.2.2.2.2.2.2.2.2.2.1 rfl
def zw_435 := z_mt2 zlt_2_11.2.2.2.2.2.2.2.2.2.2.2.1 rfl
def zw_436 := z_mt2 zlt_2_11.2.2.2.2.2.2.2.2.2.2.2.2.1 rfl
def zw_437 := z_mt2 zlt_2_11.2.2.2.2.2.2.2.2.2.2.2.2.2.1 rfl
def zw_438 := z_mt2 zlt_2_11.2.2.2.2.2.2.2.2.2.2.2.2.2.2.1 rfl
def zw_439 := z_mt2 zlt_2_11.2.2.2.2.2.2.2.2.2.2.2.2.2.2.2 rfl
def zw_440 := z_mt2 zlt_2_12.1 rfl
def zw_441 := z_mt2 zlt_2_12.2.1 rfl
def zw_442 := z_mt2 zlt_2_12.2.2.1 rfl
def zw_443 := z_mt2 zlt_2_12.2.2.2.1 rfl
def zw_444 := z_mt2 zlt_2_12.2.2.2.2.1 rfl
def zw_446 := z_mt2 zlt_2_12.2.2.2.2.2.2.1 rfl
def zw_447 := z_mt2 zlt_2_12.2.2.2.2.2.2.2.1 rfl
def zw_448 := z_mt2 zlt_2_12.2.2.2.2.2.2.2.2.1 rfl
def zw_449 := z_mt2 zlt_2_12.2.2.2.2.2.2.2.2.2.1 rfl
def zw_450 := z_mt2 zlt_2_12.2.2.2.2.2.2.2.2.2.2.1 rfl
def zw_452 := z_mt2 zlt_2_12.2.2.2.2.2.2.2.2.2.2.2.2.1 rfl
def zw_453 := z_mt2 zlt_2_12.2.2.2.2.2.2.2.2.2.2.2.2.2.1 rfl
def zw_454 := z_mt2 zlt_2_12.2.2.2.2.2.2.2.2.2.2.2.2.2.2.1 rfl
def zw_455 := z_mt2 zlt_2_12.2.2.2.2.2.2.2.2.2.2.2.2.2.2.2 rfl
def zw_456 := z_mt2 zlt_2_13.1 rfl
def zw_457 := z_mt2 zlt_2_13.2.1 rfl
def zw_458 := z_mt2 zlt_2_13.2.2.1 rfl
def zw_459 := z_mt2 zlt_2_13.2.2.2.1 rfl
def zw_460 := z_mt2 zlt_2_13.2.2.2.2.1 rfl
def zw_461 := z_mt2 zlt_2_13.2.2.2.2.2.1 rfl
def zw_462 := z_mt2 zlt_2_13.2.2.2.2.2.2.1 rfl
def zw_463 := z_mt2 zlt_2_13.2.2.2.2.2.2.2.1 rfl
def zw_464 := z_mt2 zlt_2_13.2.2.2.2.2.2.2.2.1 rfl
def zw_465 := z_mt2 zlt_2_13.2.2.2.2.2.2.2.2.2.1 rfl
def zw_466 := z_mt2 zlt_2_13.2.2.2.2.2.2.2.2.2.2.1 rfl
def zw_467 := z_mt2 zlt_2_13.2.2.2.2.2.2.2.2.2.2.2.1 rfl
def zw_468 := z_mt2 zlt_2_13.2.2.2.2.2.2.2.2.2.2.2.2.1 rfl
def zw_469 := z_mt2 zlt_2_13.2.2.2.2.2.2.2.2.2.2.2.2.2.1 rfl
def zw_470 := z_mt2 zlt_2_13.2.2.2.2.2.2.2.2.2.2.2.2.2.2.1 rfl
def zw_471 := z_mt2 zlt_2_13.2.2.2.2.2.2.2.2.2.2.2.2.2.2.2 rfl
def zw_472 := z_mt2 zlt_2_14.1 rfl
def zw_473 := z_mt2 zlt_2_14.2.1 rfl
def zw_475 := z_mt2 zlt_2_14.2.2.2.1 rfl
def zw_476 := z_mt2 zlt_2_14.2.2.2.2.1 rfl
def zw_477 := z_mt2 zlt_2_14.2.2.2.2.2.1 rfl
def zw_478 := z_mt2 zlt_2_14.2.2.2.2.2.2.1 rfl
def zw_479 := z_mt2 zlt_2_14.2.2.2.2.2.2.2.1 rfl
def zw_480 := z_mt2 zlt_2_14.2.2.2.2.2.2.2.2.1 rfl
def zw_481 := z_mt2 zlt_2_14.2.2.2.2.2.2.2.2.2.1 rfl
def zw_482 := z_mt2 zlt_2_14.2.2.2.2.2.2.2.2.2.2.1 rfl
def zw_483 := z_mt2 zlt_2_14.2.2.2.2.2.2.2.2.2.2.2.1 rfl
def zw_484 := z_mt2 zlt_2_14.2.2.2.2.2.2.2.2.2.2.2.2.1 rfl
def zw_486 := z_mt2 zlt_2_14.2.2.2.2.2.2.2.2.2.2.2.2.2.2.1 rfl
def zw_487 := z_mt2 zlt_2_14.2.2.2.2.2.2.2.2.2.2.2.2.2.2.2 rfl
def zw_488 := z_mt3 zlt_3_0.1 rfl
def zw_489 := z_mt3 zlt_3_0.2.1 rfl
def zw_490 := z_mt3 zlt_3_0.2.2.1 rfl
def zw_491 := z_mt3 zlt_3_0.2.2.2.1 rfl
def zw_492 := z_mt3 zlt_3_0.2.2.2.2.1 rfl
def zw_493 := z_mt3 zlt_3_0.2.2.2.2.2.1 rfl
def zw_494 := z_mt3 zlt_3_0.2.2.2.2.2.2.1 rfl
def zw_495 := z_mt3 zlt_3_0.2.2.2.2.2.2.2.1 rfl
def zw_496 := z_mt3 zlt_3_0.2.2.2.2.2.2.2.2.1 rfl
def zw_497 := z_mt3 zlt_3_0.2.2.2.2.2.2.2.2.2.1 rfl
def zw_498 := z_mt3 zlt_3_0.2.2.2.2.2.2.2.2.2.2.1 rfl
def zw_499 := z_mt3 zlt_3_0.2.2.2.2.2.2.2.2.2.2.2.1 rfl
def zw_500 := z_mt3 zlt_3_0.2.2.2.2.2.2.2.2.2.2.2.2.1 rfl
def zw_501 := z_mt3 zlt_3_0.2.2.2.2.2.2.2.2.2.2.2.2.2.1 rfl
def zw_502 := z_mt3 zlt_3_0.2.2.2.2.2.2.2.2.2.2.2.2.2.2.1 rfl
def zw_503 := z_mt3 zlt_3_0.2.2.2.2.2.2.2.2.2.2.2.2.2.2.2 rfl
def zw_504 := z_mt3 zlt_3_1.1 rfl
def zw_506 := z_mt3 zlt_3_1.2.2.1 rfl
def zw_507 := z_mt3 zlt_3_1.2.2.2.1 rfl
def zw_508 := z_mt3 zlt_3_1.2.2.2.2.1 rfl
def zw_509 := z_mt3 zlt_3_1.2.2.2.2.2.1 rfl
def zw_510 := z_mt3 zlt_3_1.2.2.2.2.2.2.1 rfl
def zw_511 := z_mt3 zlt_3_1.2.2.2.2.2.2.2.1 rfl
def zw_528 := z_mt3 zlt_3_2.2.2.2.2.2.2.2.2.1 rfl
def zw_529 := z_mt3 zlt_3_2.2.2.2.2.2.2.2.2.2.1 rfl
def zw_530 := z_mt3 zlt_3_2.2.2.2.2.2.2.2.2.2.2.1 rfl
def zw_531 := z_mt3 zlt_3_2.2.2.2.2.2.2.2.2.2.2.2.1 rfl
def zw_532 := z_mt3 zlt_3_2.2.2.2.2.2.2.2.2.2.2.2.2.1 rfl
def zw_533 := z_mt3 zlt_3_2.2.2.2.2.2.2.2.2.2.2.2.2.2.1 rfl
def zw_534 := z_mt3 zlt_3_2.2.2.2.2.2.2.2.2.2.2.2.2.2.2.1 rfl
def zw_535 := z_mt3 zlt_3_2.2.2.2.2.2.2.2.2.2.2.2.2.2.2.2 rfl
def zw_536 := z_mt3 zlt_3_3.1 rfl
def zw_538 := z_mt3 zlt_3_3.2.2.1 rfl
def zw_539 := z_mt3 zlt_3_3.2.2.2.1 rfl
def zw_540 := z_mt3 zlt_3_3.2.2.2.2.1 rfl
def zw_541 := z_mt3 zlt_3_3.2.2.2.2.2.1 rfl
def zw_543 := z_mt3 zlt_3_3.2.2.2.2.2.2.2.1 rfl
def zw_544 := z_mt3 zlt_3_3.2.2.2.2.2.2.2.2.1 rfl
def zw_545 := z_mt3 zlt_3_3.2.2.2.2.2.2.2.2.2.1 rfl
def zw_546 := z_mt3 zlt_3_3.2.2.2.2.2.2.2.2.2.2.1 rfl
def zw_547 := z_mt3 zlt_3_3.2.2.2.2.2.2.2.2.2.2.2.1 rfl
def zw_549 := z_mt3 zlt_3_3.2.2.2.2.2.2.2.2.2.2.2.2.2.1 rfl
def zw_550 := z_mt3 zlt_3_3.2.2.2.2.2.2.2.2.2.2.2.2.2.2.1 rfl
def zw_551 := z_mt3 zlt_3_3.2.2.2.2.2.2.2.2.2.2.2.2.2.2.2 rfl
def zw_552 := z_mt3 zlt_3_4.1 rfl
def zw_553 := z_mt3 zlt_3_4.2.1 rfl
def zw_554 := z_mt3 zlt_3_4.2.2.1 rfl
def zw_555 := z_mt3 zlt_3_4.2.2.2.1 rfl
def zw_556 := z_mt3 zlt_3_4.2.2.2.2.1 rfl
def zw_557 := z_mt3 zlt_3_4.2.2.2.2.2.1 rfl
def zw_558 := z_mt3 zlt_3_4.2.2.2.2.2.2.1 rfl
def zw_559 := z_mt3 zlt_3_4.2.2.2.2.2.2.2.1 rfl
def zw_560 := z_mt3 zlt_3_4.2.2.2.2.2.2.2.2.1 rfl
def zw_561 := z_mt3 zlt_3_4.2.2.2.2.2.2.2.2.2.1 rfl
def zw_562 := z_mt3 zlt_3_4.2.2.2.2.2.2.2.2.2.2.1 rfl
def zw_563 := z_mt3 zlt_3_4.2.2.2.2.2.2.2.2.2.2.2.1 rfl
def zw_564 := z_mt3 zlt_3_4.2.2.2.2.2.2.2.2.2.2.2.2.1 rfl
def zw_565 := z_mt3 zlt_3_4.2.2.2.2.2.2.2.2.2.2.2.2.2.1 rfl
def zw_566 := z_mt3 zlt_3_4.2.2.2.2.2.2.2.2.2.2.2.2.2.2.1 rfl
def zw_567 := z_mt3 zlt_3_4.2.2.2.2.2.2.2.2.2.2.2.2.2.2.2 rfl
def zw_569 := z_mt3 zlt_3_5.2.1 rfl
def zw_570 := z_mt3 zlt_3_5.2.2.1 rfl
def zw_571 := z_mt3 zlt_3_5.2.2.2.1 rfl
def zw_572 := z_mt3 zlt_3_5.2.2.2.2.1 rfl
def zw_573 := z_mt3 zlt_3_5.2.2.2.2.2.1 rfl
def zw_574 := z_mt3 zlt_3_5.2.2.2.2.2.2.1 rfl
def zw_575 := z_mt3 zlt_3_5.2.2.2.2.2.2.2.1 rfl
def zw_576 := z_mt3 zlt_3_5.2.2.2.2.2.2.2.2.1 rfl
def zw_577 := z_mt3 zlt_3_5.2.2.2.2.2.2.2.2.2.1 rfl
def zw_578 := z_mt3 zlt_3_5.2.2.2.2.2.2.2.2.2.2.1 rfl
def zw_579 := z_mt3 zlt_3_5.2.2.2.2.2.2.2.2.2.2.2.1 rfl
def zw_580 := z_mt3 zlt_3_5.2.2.2.2.2.2.2.2.2.2.2.2.1 rfl
def zw_581 := z_mt3 zlt_3_5.2.2.2.2.2.2.2.2.2.2.2.2.2.1 rfl
def zw_582 := z_mt3 zlt_3_5.2.2.2.2.2.2.2.2.2.2.2.2.2.2.1 rfl
def zw_584 := z_mt3 zlt_3_6.1 rfl
def zw_585 := z_mt3 zlt_3_6.2.1 rfl
def zw_587 := z_mt3 zlt_3_6.2.2.2.1 rfl
def zw_588 := z_mt3 zlt_3_6.2.2.2.2.1 rfl
def zw_589 := z_mt3 zlt_3_6.2.2.2.2.2.1 rfl
def zw_590 := z_mt3 zlt_3_6.2.2.2.2.2.2.1 rfl
def zw_591 := z_mt3 zlt_3_6.2.2.2.2.2.2.2.1 rfl
def zw_592 := z_mt3 zlt_3_6.2.2.2.2.2.2.2.2.1 rfl
def zw_593 := z_mt3 zlt_3_6.2.2.2.2.2.2.2.2.2.1 rfl
def zw_594 := z_mt3 zlt_3_6.2.2.2.2.2.2.2.2.2.2.1 rfl
def zw_595 := z_mt3 zlt_3_6.2.2.2.2.2.2.2.2.2.2.2.1 rfl
def zw_597 := z_mt3 zlt_3_6.2.2.2.2.2.2.2.2.2.2.2.2.2.1 rfl
def zw_598 := z_mt3 zlt_3_6.2.2.2.2.2.2.2.2.2.2.2.2.2.2.1 rfl
def zw_599 := z_mt3 zlt_3_6.2.2.2.2.2.2.2.2.2.2.2.2.2.2.2 rfl
def zw_600 := z_mt3 zlt_3_7.1 rfl
def zw_601 := z_mt3 zlt_3_7.2.1 rfl
def zw_602 := z_mt3 zlt_3_7.2.2.1 rfl
def zw_603 := z_mt3 zlt_3_7.2.2.2.1 rfl
def zw_604 := z_mt3 zlt_3_7.2.2.2.2.1 rfl
def zw_606 := z_mt3 zlt_3_7.2.2.2.2.2.2.1 rfl
def zw_607 := z_mt3 zlt_3_7.2.2.2.2.2.2.2.1 rfl
def zw_608 := z_mt3 zlt_3_7.2.2.2.2.2.2.2.2.1 rfl
def zw_609 := z_mt3 zlt_3_7.2.2.2.2.2.2.2.2.2.1 rfl
def zw_610 := z_mt3 zlt_3_7.2.2.2.2.2.2.2.2.2.2.1 rfl
def zw_611 := z_mt3 zlt_3_7.2.2.2.2.2.2.2.2.2.2.2.1 rfl
def zw_612 := z_mt3 zlt_3_7.2.2.2.2.2.2.2.2.2.2.2.2.1 rfl
def zw_613 := z_mt3 zlt_3_7.2.2.2.2.2.2.2.2.2.2.2.2.2.1 rfl
def zw_614 := z_mt3 zlt_3_7.2.2.2.2.2.2.2.2.2.2.2.2.2.2.1 rfl
def zw_615 := z_mt3 zlt_3_7.2.2.2.2.2.2.2.2.2.2.2.2.2.2.2 rfl
def zw_616 := z_mt3 zlt_3_8.1 rfl
def zw_617 := z_mt3 zlt_3_8.2.1 rfl
def zw_618 := z_mt3 zlt_3_8.2.2.1 rfl
def zw_619 := z_mt3 zlt_3_8.2.2.2.1 rfl
def zw_620 := z_mt3 zlt_3_8.2.2.2.2.1 rfl
def zw_621 := z_mt3 zlt_3_8.2.2.2.2.2.1 rfl
def zw_622 := z_mt3 zlt_3_8.2.2.2.2.2.2.1 rfl
def zw_623 := z_mt3 zlt_3_8.2.2.2.2.2.2.2.1 rfl
def zw_624 := z_mt3 zlt_3_8.2.2.2.2.2.2.2.2.1 rfl
def zw_625 := z_mt3 zlt_3_8.2.2.2.2.2.2.2.2.2.1 rfl
def zw_626 := z_mt3 zlt_3_8.2.2.2.2.2.2.2.2.2.2.1 rfl
def zw_627 := z_mt3 zlt_3_8.2.2.2.2.2.2.2.2.2.2.2.1 rfl
def zw_628 := z_mt3 zlt_3_8.2.2.2.2.2.2.2.2.2.2.2.2.1 rfl
def zw_629 := z_mt3 zlt_3_8.2.2.2.2.2.2.2.2.2.2.2.2.2.1 rfl
def zw_630 := z_mt3 zlt_3_8.2.2.2.2.2.2.2.2.2.2.2.2.2.2.1 rfl
def zw_631 := z_mt3 zlt_3_8.2.2.2.2.2.2.2.2.2.2.2.2.2.2.2 rfl
def zw_632 := z_mt3 zlt_3_9.1 rfl
def zw_633 := z_mt3 zlt_3_9.2.1 rfl
def zw_634 := z_mt3 zlt_3_9.2.2.1 rfl
def zw_635 := z_mt3 zlt_3_9.2.2.2.1 rfl
def zw_636 := z_mt3 zlt_3_9.2.2.2.2.1 rfl
def zw_637 := z_mt3 zlt_3_9.2.2.2.2.2.1 rfl
def zw_638 := z_mt3 zlt_3_9.2.2.2.2.2.2.1 rfl
def zw_639 := z_mt3 zlt_3_9.2.2.2.2.2.2.2.1 rfl
def zw_640 := z_mt3 zlt_3_9.2.2.2.2.2.2.2.2.1 rfl
def zw_641 := z_mt3 zlt_3_9.2.2.2.2.2.2.2.2.2.1 rfl
def zw_642 := z_mt3 zlt_3_9.2.2.2.2.2.2.2.2.2.2.1 rfl
def zw_643 := z_mt3 zlt_3_9.2.2.2.2.2.2.2.2.2.2.2.1 rfl
def zw_644 := z_mt3 zlt_3_9.2.2.2.2.2.2.2.2.2.2.2.2.1 rfl
def zw_645 := z_mt3 zlt_3_9.2.2.2.2.2.2.2.2.2.2.2.2.2.1 rfl
def zw_646 := z_mt3 zlt_3_9.2.2.2.2.2.2.2.2.2.2.2.2.2.2.1 rfl
def zw_647 := z_mt3 zlt_3_9.2.2.2.2.2.2.2.2.2.2.2.2.2.2.2 rfl
def zw_648 := z_mt3 zlt_3_10.1 rfl
def zw_649 := z_mt3 zlt_3_10.2.1 rfl
def zw_650 := z_mt3 zlt_3_10.2.2.1 rfl
def zw_651 := z_mt3 zlt_3_10.2.2.2.1 rfl
def zw_652 := z_mt3 zlt_3_10.2.2.2.2.1 rfl
def zw_653 := z_mt3 zlt_3_10.2.2.2.2.2.1 rfl
def zw_654 := z_mt3 zlt_3_10.2.2.2.2.2.2.1 rfl
def zw_655 := z_mt3 zlt_3_10.2.2.2.2.2.2.2.1 rfl
def zw_656 := z_mt3 zlt_3_10.2.2.2.2.2.2.2.2.1 rfl
def zw_657 := z_mt3 zlt_3_10.2.2.2.2.2.2.2.2.2.1 rfl
def zw_658 := z_mt3 zlt_3_10.2.2.2.2.2.2.2.2.2.2.1 rfl
def zw_659 := z_mt3 zlt_3_10.2.2.2.2.2.2.2.2.2.2.2.1 rfl
def zw_660 := z_mt3 zlt_3_10.2.2.2.2.2.2.2.2.2.2.2.2.1 rfl
def zw_661 := z_mt3 zlt_3_10.2.2.2.2.2.2.2.2.2.2.2.2.2.1 rfl
def zw_662 := z_mt3 zlt_3_10.2.2.2.2.2.2.2.2.2.2.2.2.2.2.1 rfl
def zw_663 := z_mt3 zlt_3_10.2.2.2.2.2.2.2.2.2.2.2.2.2.2.2 rfl
def zw_664 := z_mt3 zlt_3_11.1 rfl
def zw_665 := z_mt3 zlt_3_11.2.1 rfl
def zw_666 := z_mt3 zlt_3_11.2.2.1 rfl
def zw_667 := z_mt3 zlt_3_11.2.2.2.1 rfl
def zw_668 := z_mt3 zlt_3_11.2.2.2.2.1 rfl
def zw_670 := z_mt3 zlt_3_11.2.2.2.2.2.2.1 rfl
def zw_671 := z_mt3 zlt_3_11.2.2.2.2.2.2.2 rfl
end
section
/-! The descriptors. -/
theorem zd_0 : z_okd za_P za_M 0 0 := ⟨⟨by decide +kernel, by decide +kernel, by decide +kernel⟩, zw_80, zw_13, Nat.le_of_ble_eq_true rfl⟩
theorem zd_1 : z_okd za_P za_M 1 1 := ⟨⟨by decide +kernel, by decide +kernel, by decide +kernel⟩, zw_382, zw_13, Nat.le_of_ble_eq_true rfl⟩
theorem zd_2 : z_okd za_P za_M 2 0 := ⟨⟨by decide +kernel, by decide +kernel, by decide +kernel⟩, zw_386, zw_13, Nat.le_of_ble_eq_true rfl⟩
theorem zd_3 : z_okd za_P za_M 3 1 := ⟨⟨by decide +kernel, by decide +kernel, by decide +kernel⟩, zw_250, zw_13, Nat.le_of_ble_eq_true rfl⟩
theorem zd_4 : z_okd za_P za_M 4 0 := ⟨⟨by decide +kernel, by decide +kernel, by decide +kernel⟩, zw_97, zw_14, Nat.le_of_ble_eq_true rfl⟩
theorem zd_5 : z_okd za_P za_M 5 0 := ⟨⟨by decide +kernel, by decide +kernel, by decide +kernel⟩, zw_38, zw_10, Nat.le_of_ble_eq_true rfl⟩
theorem zd_6 : z_okd za_P za_M 6 1 := ⟨⟨by decide +kernel, by decide +kernel, by decide +kernel⟩, zw_146, zw_10, Nat.le_of_ble_eq_true rfl⟩
theorem zd_7 : z_okd za_P za_M 7 1 := ⟨⟨by decide +kernel, by decide +kernel, by decide +kernel⟩, zw_254, zw_10, Nat.le_of_ble_eq_true rfl⟩
theorem zd_8 : z_okd za_P za_M 8 1 := ⟨⟨by decide +kernel, by decide +kernel, by decide +kernel⟩, zw_295, zw_10, Nat.le_of_ble_eq_true rfl⟩
theorem zd_9 : z_okd za_P za_M 9 0 := ⟨⟨by decide +kernel, by decide +kernel, by decide +kernel⟩, zw_484, zw_10, Nat.le_of_ble_eq_true rfl⟩
theorem zd_10 : z_okd za_P za_M 10 1 := ⟨⟨by decide +kernel, by decide +kernel, by decide +kernel⟩, zw_600, zw_10, Nat.le_of_ble_eq_true rfl⟩
theorem zd_11 : z_okd za_P za_M 11 1 := ⟨⟨by decide +kernel, by decide +kernel, by decide +kernel⟩, zw_264, zw_10, Nat.le_of_ble_eq_true rfl⟩
theorem zd_12 : z_okd za_P za_M 12 1 := ⟨⟨by decide +kernel, by decide +kernel, by decide +kernel⟩, zw_536, zw_10, Nat.le_of_ble_eq_true rfl⟩
theorem zd_13 : z_okd za_P za_M 13 3 := ⟨⟨by decide +kernel, by decide +kernel, by decide +kernel⟩, zw_212, zw_10, Nat.le_of_ble_eq_true rfl⟩
theorem zd_14 : z_okd za_P za_M 14 1 := ⟨⟨by decide +kernel, by decide +kernel, by decide +kernel⟩, zw_552, zw_10, Nat.le_of_ble_eq_true rfl⟩
theorem zd_15 : z_okd za_P za_M 15 1 := ⟨⟨by decide +kernel, by decide +kernel, by decide +kernel⟩, zw_576, zw_10, Nat.le_of_ble_eq_true rfl⟩
theorem zd_16 : z_okd za_P za_M 16 0 := ⟨⟨by decide +kernel, by decide +kernel, by decide +kernel⟩, zw_567, zw_10, Nat.le_of_ble_eq_true rfl⟩
theorem zd_17 : z_okd za_P za_M 17 0 := ⟨⟨by decide +kernel, by decide +kernel, by decide +kernel⟩, zw_572, zw_10, Nat.le_of_ble_eq_true rfl⟩
theorem zd_18 : z_okd za_P za_M 18 1 := ⟨⟨by decide +kernel, by decide +kernel, by decide +kernel⟩, zw_478, zw_10, Nat.le_of_ble_eq_true rfl⟩
theorem zd_19 : z_okd za_P za_M 19 1 := ⟨⟨by decide +kernel, by decide +kernel, by decide +kernel⟩, zw_44, zw_11, Nat.le_of_ble_eq_true rfl⟩
theorem zd_20 : z_okd za_P za_M 20 1 := ⟨⟨by decide +kernel, by decide +kernel, by decide +kernel⟩, zw_220, zw_11, Nat.le_of_ble_eq_true rfl⟩
theorem zd_21 : z_okd za_P za_M 21 2 := ⟨⟨by decide +kernel, by decide +kernel, by decide +kernel⟩, zw_435, zw_11, Nat.le_of_ble_eq_true rfl⟩
theorem zd_22 : z_okd za_P za_M 22 0 := ⟨⟨by decide +kernel, by decide +kernel, by decide +kernel⟩, zw_150, zw_11, Nat.le_of_ble_eq_true rfl⟩
theorem zd_23 : z_okd za_P za_M 23 1 := ⟨⟨by decide +kernel, by decide +kernel, by decide +kernel⟩, zw_207, zw_11, Nat.le_of_ble_eq_true rfl⟩
theorem zd_24 : z_okd za_P za_M 24 1 := ⟨⟨by decide +kernel, by decide +kernel, by decide +kernel⟩, zw_155, zw_11, Nat.le_of_ble_eq_true rfl⟩
theorem zd_25 : z_okd za_P za_M 25 3 := ⟨⟨by decide +kernel, by decide +kernel, by decide +kernel⟩, zw_216, zw_11, Nat.le_of_ble_eq_true rfl⟩
theorem zd_26 : z_okd za_P za_M 26 1 := ⟨⟨by decide +kernel, by decide +kernel, by decide +kernel⟩, zw_258, zw_11, Nat.le_of_ble_eq_true rfl⟩
theorem zd_27 : z_okd za_P za_M 27 1 := ⟨⟨by decide +kernel, by decide +kernel, by decide +kernel⟩, zw_419, zw_11, Nat.le_of_ble_eq_true rfl⟩
theorem zd_28 : z_okd za_P za_M 28 2 := ⟨⟨by decide +kernel, by decide +kernel, by decide +kernel⟩, zw_590, zw_11, Nat.le_of_ble_eq_true rfl⟩
theorem zd_29 : z_okd za_P za_M 29 2 := ⟨⟨by decide +kernel, by decide +kernel, by decide +kernel⟩, zw_431, zw_11, Nat.le_of_ble_eq_true rfl⟩
theorem zd_30 : z_okd za_P za_M 30 1 := ⟨⟨by decide +kernel, by decide +kernel, by decide +kernel⟩, zw_427, zw_11, Nat.le_of_ble_eq_true rfl⟩
theorem zd_31 : z_okd za_P za_M 31 1 := ⟨⟨by decide +kernel, by decide +kernel, by decide +kernel⟩, zw_604, zw_11, Nat.le_of_ble_eq_true rfl⟩
theorem zd_32 : z_okd za_P za_M 32 5 := ⟨⟨by decide +kernel, by decide +kernel, by decide +kernel⟩, zw_399, zw_11, Nat.le_of_ble_eq_true rfl⟩
theorem zd_33 : z_okd za_P za_M 33 1 := ⟨⟨by decide +kernel, by decide +kernel, by decide +kernel⟩, zw_403, zw_11, Nat.le_of_ble_eq_true rfl⟩
theorem zd_34 : z_okd za_P za_M 34 2 := ⟨⟨by decide +kernel, by decide +kernel, by decide +kernel⟩, zw_395, zw_11, Nat.le_of_ble_eq_true rfl⟩
theorem zd_35 : z_okd za_P za_M 35 0 := ⟨⟨by decide +kernel, by decide +kernel, by decide +kernel⟩, zw_391, zw_11, Nat.le_of_ble_eq_true rfl⟩
theorem zd_36 : z_okd za_P za_M 36 0 := ⟨⟨by decide +kernel, by decide +kernel, by decide +kernel⟩, zw_461, zw_11, Nat.le_of_ble_eq_true rfl⟩
theorem zd_37 : z_okd za_P za_M 37 1 := ⟨⟨by decide +kernel, by decide +kernel, by decide +kernel⟩, zw_511, zw_11, Nat.le_of_ble_eq_true rfl⟩
theorem zd_38 : z_okd za_P za_M 38 1 := ⟨⟨by decide +kernel, by decide +kernel, by decide +kernel⟩, zw_645, zw_11, Nat.le_of_ble_eq_true rfl⟩
theorem zd_39 : z_okd za_P za_M 39 2 := ⟨⟨by decide +kernel, by decide +kernel, by decide +kernel⟩, zw_619, zw_11, Nat.le_of_ble_eq_true rfl⟩
theorem zd_40 : z_okd za_P za_M 40 0 := ⟨⟨by decide +kernel, by decide +kernel, by decide +kernel⟩, zw_449, zw_11, Nat.le_of_ble_eq_true rfl⟩
theorem zd_41 : z_okd za_P za_M 41 1 := ⟨⟨by decide +kernel, by decide +kernel, by decide +kernel⟩, zw_453, zw_11, Nat.le_of_ble_eq_true rfl⟩
theorem zd_42 : z_okd za_P za_M 42 1 := ⟨⟨by decide +kernel, by decide +kernel, by decide +kernel⟩, zw_624, zw_11, Nat.le_of_ble_eq_true rfl⟩
theorem zd_43 : z_okd za_P za_M 43 2 := ⟨⟨by decide +kernel, by decide +kernel, by decide +kernel⟩, zw_490, zw_11, Nat.le_of_ble_eq_true rfl⟩
theorem zd_44 : z_okd za_P za_M 44 0 := ⟨⟨by decide +kernel, by decide +kernel, by decide +kernel⟩, zw_30, zw_9, Nat.le_of_ble_eq_true rfl⟩
theorem zd_45 : z_okd za_P za_M 45 1 := ⟨⟨by decide +kernel, by decide +kernel, by decide +kernel⟩, zw_595, zw_9, Nat.le_of_ble_eq_true rfl⟩
theorem zd_46 : z_okd za_P za_M 46 1 := ⟨⟨by decide +kernel, by decide +kernel, by decide +kernel⟩, zw_287, zw_9, Nat.le_of_ble_eq_true rfl⟩
theorem zd_47 : z_okd za_P za_M 47 1 := ⟨⟨by decide +kernel, by decide +kernel, by decide +kernel⟩, zw_410, zw_9, Nat.le_of_ble_eq_true rfl⟩
theorem zd_48 : z_okd za_P za_M 48 2 := ⟨⟨by decide +kernel, by decide +kernel, by decide +kernel⟩, zw_581, zw_9, Nat.le_of_ble_eq_true rfl⟩
theorem zd_49 : z_okd za_P za_M 49 1 := ⟨⟨by decide +kernel, by decide +kernel, by decide +kernel⟩, zw_423, zw_9, Nat.le_of_ble_eq_true rfl⟩
theorem zd_50 : z_okd za_P za_M 50 0 := ⟨⟨by decide +kernel, by decide +kernel, by decide +kernel⟩, zw_439, zw_9, Nat.le_of_ble_eq_true rfl⟩
theorem zd_51 : z_okd za_P za_M 51 0 := ⟨⟨by decide +kernel, by decide +kernel, by decide +kernel⟩, zw_444, zw_9, Nat.le_of_ble_eq_true rfl⟩
theorem zd_52 : z_okd za_P za_M 52 1 := ⟨⟨by decide +kernel, by decide +kernel, by decide +kernel⟩, zw_473, zw_9, Nat.le_of_ble_eq_true rfl⟩
theorem zd_53 : z_okd za_P za_M 53 1 := ⟨⟨by decide +kernel, by decide +kernel, by decide +kernel⟩, zw_532, zw_9, Nat.le_of_ble_eq_true rfl⟩
theorem zd_54 : z_okd za_P za_M 54 0 := ⟨⟨by decide +kernel, by decide +kernel, by decide +kernel⟩, zw_541, zw_9, Nat.le_of_ble_eq_true rfl⟩
theorem zd_55 : z_okd za_P za_M 55 1 := ⟨⟨by decide +kernel, by decide +kernel, by decide +kernel⟩, zw_546, zw_9, Nat.le_of_ble_eq_true rfl⟩
theorem zd_56 : z_okd za_P za_M 56 0 := ⟨⟨by decide +kernel, by decide +kernel, by decide +kernel⟩, zw_563, zw_9, Nat.le_of_ble_eq_true rfl⟩
theorem zd_57 : z_okd za_P za_M 57 0 := ⟨⟨by decide +kernel, by decide +kernel, by decide +kernel⟩, zw_246, zw_9, Nat.le_of_ble_eq_true rfl⟩
theorem zd_58 : z_okd za_P za_M 58 0 := ⟨⟨by decide +kernel, by decide +kernel, by decide +kernel⟩, zw_269, zw_9, Nat.le_of_ble_eq_true rfl⟩
theorem zd_59 : z_okd za_P za_M 59 0 := ⟨⟨by decide +kernel, by decide +kernel, by decide +kernel⟩, zw_273, zw_9, Nat.le_of_ble_eq_true rfl⟩
theorem zd_60 : z_okd za_P za_M 60 0 := ⟨⟨by decide +kernel, by decide +kernel, by decide +kernel⟩, zw_283, zw_9, Nat.le_of_ble_eq_true rfl⟩
theorem zd_61 : z_okd za_P za_M 61 1 := ⟨⟨by decide +kernel, by decide +kernel, by decide +kernel⟩, zw_468, zw_9, Nat.le_of_ble_eq_true rfl⟩
theorem zd_62 : z_okd za_P za_M 62 0 := ⟨⟨by decide +kernel, by decide +kernel, by decide +kernel⟩, zw_499, zw_9, Nat.le_of_ble_eq_true rfl⟩
theorem zd_63 : z_okd za_P za_M 63 1 := ⟨⟨by decide +kernel, by decide +kernel, by decide +kernel⟩, zw_628, zw_9, Nat.le_of_ble_eq_true rfl⟩
theorem zd_64 : z_okd za_P za_M 64 1 := ⟨⟨by decide +kernel, by decide +kernel, by decide +kernel⟩, zw_503, zw_9, Nat.le_of_ble_eq_true rfl⟩
theorem zd_65 : z_okd za_P za_M 65 1 := ⟨⟨by decide +kernel, by decide +kernel, by decide +kernel⟩, zw_641, zw_9, Nat.le_of_ble_eq_true rfl⟩
theorem zd_66 : z_okd za_P za_M 66 1 := ⟨⟨by decide +kernel, by decide +kernel, by decide +kernel⟩, zw_667, zw_9, Nat.le_of_ble_eq_true rfl⟩
theorem zd_67 : z_okd za_P za_M 67 0 := ⟨⟨by decide +kernel, by decide +kernel, by decide +kernel⟩, zw_457, zw_9, Nat.le_of_ble_eq_true rfl⟩
theorem zd_68 : z_okd za_P za_M 68 0 := ⟨⟨by decide +kernel, by decide +kernel, by decide +kernel⟩, zw_653, zw_9, Nat.le_of_ble_eq_true rfl⟩
theorem zd_69 : z_okd za_P za_M 69 0 := ⟨⟨by decide +kernel, by decide +kernel, by decide +kernel⟩, zw_495, zw_9, Nat.le_of_ble_eq_true rfl⟩
theorem zd_70 : z_okd za_P za_M 70 1 := ⟨⟨by decide +kernel, by decide +kernel, by decide +kernel⟩, zw_559, zw_9, Nat.le_of_ble_eq_true rfl⟩
theorem zd_71 : z_okd za_P za_M 71 2 := ⟨⟨by decide +kernel, by decide +kernel, by decide +kernel⟩, zw_649, zw_9, Nat.le_of_ble_eq_true rfl⟩
theorem zd_72 : z_okd za_P za_M 72 0 := ⟨⟨by decide +kernel, by decide +kernel, by decide +kernel⟩, zw_615, zw_9, Nat.le_of_ble_eq_true rfl⟩
theorem zd_73 : z_okd za_P za_M 73 1 := ⟨⟨by decide +kernel, by decide +kernel, by decide +kernel⟩, zw_291, zw_9, Nat.le_of_ble_eq_true rfl⟩
theorem zd_74 : z_okd za_P za_M 74 1 := ⟨⟨by decide +kernel, by decide +kernel, by decide +kernel⟩, zw_414, zw_9, Nat.le_of_ble_eq_true rfl⟩
theorem zd_75 : z_okd za_P za_M 75 2 := ⟨⟨by decide +kernel, by decide +kernel, by decide +kernel⟩, zw_585, zw_9, Nat.le_of_ble_eq_true rfl⟩
theorem zd_76 : z_okd za_P za_M 76 1 := ⟨⟨by decide +kernel, by decide +kernel, by decide +kernel⟩, zw_507, zw_9, Nat.le_of_ble_eq_true rfl⟩
theorem zd_77 : z_okd za_P za_M 77 2 := ⟨⟨by decide +kernel, by decide +kernel, by decide +kernel⟩, zw_637, zw_23, Nat.le_of_ble_eq_true rfl⟩
theorem zd_78 : z_okd za_P za_M 78 0 := ⟨⟨by decide +kernel, by decide +kernel, by decide +kernel⟩, zw_159, zw_15, Nat.le_of_ble_eq_true rfl⟩
theorem zd_79 : z_okd za_P za_M 79 1 := ⟨⟨by decide +kernel, by decide +kernel, by decide +kernel⟩, zw_169, zw_15, Nat.le_of_ble_eq_true rfl⟩
theorem zd_80 : z_okd za_P za_M 80 0 := ⟨⟨by decide +kernel, by decide +kernel, by decide +kernel⟩, zw_163, zw_15, Nat.le_of_ble_eq_true rfl⟩
theorem zd_81 : z_okd za_P za_M 81 0 := ⟨⟨by decide +kernel, by decide +kernel, by decide +kernel⟩, zw_173, zw_15, Nat.le_of_ble_eq_true rfl⟩
theorem zd_82 : z_okd za_P za_M 82 2 := ⟨⟨by decide +kernel, by decide +kernel, by decide +kernel⟩, zw_179, zw_15, Nat.le_of_ble_eq_true rfl⟩
theorem zd_83 : z_okd za_P za_M 83 2 := ⟨⟨by decide +kernel, by decide +kernel, by decide +kernel⟩, zw_176, zw_16, Nat.le_of_ble_eq_true rfl⟩
theorem zd_84 : z_okd za_P za_M 84 3 := ⟨⟨by decide +kernel, by decide +kernel, by decide +kernel⟩, zw_184, zw_17, Nat.le_of_ble_eq_true rfl⟩
theorem zd_85 : z_okd za_P za_M 85 2 := ⟨⟨by decide +kernel, by decide +kernel, by decide +kernel⟩, zw_276, zw_8, Nat.le_of_ble_eq_true rfl⟩
theorem zd_86 : z_okd za_P za_M 86 2 := ⟨⟨by decide +kernel, by decide +kernel, by decide +kernel⟩, zw_279, zw_8, Nat.le_of_ble_eq_true rfl⟩
theorem zd_87 : z_okd za_P za_M 87 1 := ⟨⟨by decide +kernel, by decide +kernel, by decide +kernel⟩, zw_555, zw_8, Nat.le_of_ble_eq_true rfl⟩
theorem zd_88 : z_okd za_P za_M 88 1 := ⟨⟨by decide +kernel, by decide +kernel, by decide +kernel⟩, zw_464, zw_8, Nat.le_of_ble_eq_true rfl⟩
theorem zd_89 : z_okd za_P za_M 89 1 := ⟨⟨by decide +kernel, by decide +kernel, by decide +kernel⟩, zw_611, zw_8, Nat.le_of_ble_eq_true rfl⟩
theorem zd_90 : z_okd za_P za_M 90 6 := ⟨⟨by decide +kernel, by decide +kernel, by decide +kernel⟩, zw_634, zw_8, Nat.le_of_ble_eq_true rfl⟩
theorem zd_91 : z_okd za_P za_M 91 3 := ⟨⟨by decide +kernel, by decide +kernel, by decide +kernel⟩, zw_631, zw_8, Nat.le_of_ble_eq_true rfl⟩
theorem zd_92 : z_okd za_P za_M 92 1 := ⟨⟨by decide +kernel, by decide +kernel, by decide +kernel⟩, zw_608, zw_8, Nat.le_of_ble_eq_true rfl⟩
theorem zd_93 : z_okd za_P za_M 93 1 := ⟨⟨by decide +kernel, by decide +kernel, by decide +kernel⟩, zw_656, zw_8, Nat.le_of_ble_eq_true rfl⟩
theorem zd_94 : z_okd za_P za_M 94 2 := ⟨⟨by decide +kernel, by decide +kernel, by decide +kernel⟩, zw_663, zw_8, Nat.le_of_ble_eq_true rfl⟩
end
section
/-! A new object's fields. -/
theorem zn_0 : ∀ j, j < 7 → defaultValue (za_fty 0 j) = vp_V (za_fresh 0) j := by decide +kernel
theorem zm_0 : ∀ v ∈ za_fresh 0, v = .null ∨ v = .int 0 := by decide +kernel
theorem zn_1 : ∀ j, j < 2 → defaultValue (za_fty 1 j) = vp_V (za_fresh 1) j := by decide +kernel
theorem zm_1 : ∀ v ∈ za_fresh 1, v = .null ∨ v = .int 0 := by decide +kernel
theorem zn_2 : ∀ j, j < 12 → defaultValue (za_fty 2 j) = vp_V (za_fresh 2) j := by decide +kernel
theorem zm_2 : ∀ v ∈ za_fresh 2, v = .null ∨ v = .int 0 := by decide +kernel
theorem zn_3 : ∀ j, j < 4 → defaultValue (za_fty 3 j) = vp_V (za_fresh 3) j := by decide +kernel
theorem zm_3 : ∀ v ∈ za_fresh 3, v = .null ∨ v = .int 0 := by decide +kernel
theorem zn_4 : ∀ j, j < 2 → defaultValue (za_fty 4 j) = vp_V (za_fresh 4) j := by decide +kernel
theorem zm_4 : ∀ v ∈ za_fresh 4, v = .null ∨ v = .int 0 := by decide +kernel
end
section
/-! THE CHECK in bulk: what the kernel can see of an entry by itself; the rest by a table of each class. -/
def z_lb (i : Instr) (len : Nat) : Bool := match i with
  | .iconst _ => Nat.beq len 1
  | .bipush _ => Nat.beq len 2
  | .sipush _ => Nat.beq len 3
  | .lconst _ => Nat.beq len 1
  | .fconst _ => Nat.beq len 1
  | .dconst _ => Nat.beq len 1
  | .aconst_null => Nat.beq len 1
  | .iload _ => Nat.beq len 2
  | .iload_n _ => Nat.beq len 1
  | .lload _ => Nat.beq len 2
  | .lload_n _ => Nat.beq len 1
  | .fload _ => Nat.beq len 2
  | .fload_n _ => Nat.beq len 1
  | .dload _ => Nat.beq len 2
  | .dload_n _ => Nat.beq len 1
  | .aload _ => Nat.beq len 2
  | .aload_n _ => Nat.beq len 1
  | .istore _ => Nat.beq len 2
  | .istore_n _ => Nat.beq len 1
  | .lstore _ => Nat.beq len 2
  | .lstore_n _ => Nat.beq len 1
  | .fstore _ => Nat.beq len 2
  | .fstore_n _ => Nat.beq len 1
  | .dstore _ => Nat.beq len 2
  | .dstore_n _ => Nat.beq len 1
  | .astore _ => Nat.beq len 2
  | .astore_n _ => Nat.beq len 1
  | .iinc _ _ => Nat.beq len 3
  | .iadd => Nat.beq len 1
  | .isub => Nat.beq len 1
  | .imul => Nat.beq len 1
  | .iand => Nat.beq len 1
  | .ior => Nat.beq len 1
  | .ishl => Nat.beq len 1
  | .ishr => Nat.beq len 1
  | .iushr => Nat.beq len 1
  | .idiv => Nat.beq len 1
  | .irem => Nat.beq len 1
  | .ladd => Nat.beq len 1
  | .lsub => Nat.beq len 1
  | .lmul => Nat.beq len 1
  | .ldiv => Nat.beq len 1
  | .lcmp => Nat.beq len 1
  | .fcmp _ => Nat.beq len 1
  | .dcmp _ => Nat.beq len 1
  | .i2l => Nat.beq len 1
  | .i2b => Nat.beq len 1
  | .i2c => Nat.beq len 1
  | .i2d => Nat.beq len 1
  | .l2f => Nat.beq len 1
  | .f2d => Nat.beq len 1
  | .fdiv => Nat.beq len 1
  | .ddiv => Nat.beq len 1
  | .dup => Nat.beq len 1
  | .dup2 => Nat.beq len 1
  | .pop => Nat.beq len 1
  | .goto _ => Nat.beq len 3
  | .if_icmp _ _ => Nat.beq len 3
  | .ifCond _ _ => Nat.beq len 3
  | _ => true
theorem z_lb_ok {i : Instr} {len : Nat} (h : z_lb i len = true) : z_len i len := by
  cases i <;> first | exact Nat.eq_of_beq_eq_true h | exact True.intro
def z_tb (i : Instr) (pc a : Nat) : Bool := match i with
  | .goto off => decide ((pc : Int) + off = (a : Int))
  | .if_icmp _ off => decide ((pc : Int) + off = (a : Int))
  | .ifCond _ off => decide ((pc : Int) + off = (a : Int))
  | _ => true
theorem z_tb_ok {i : Instr} {pc a : Nat} (h : z_tb i pc a = true) : z_tgt i pc a := by
  cases i <;> first
    | exact True.intro
    | (have h2 : decide ((pc : Int) + _ = (a : Int)) = true := h
       have h3 := of_decide_eq_true h2
       exact h3)
theorem z_and {x y : Bool} (h : (x && y) = true) : x = true ∧ y = true := by
  cases x <;> cases y <;> first | exact ⟨rfl, rfl⟩ | cases h
def z_e1 (i : Instr) (len pc a : Nat) : Bool := match i with
  | .arraylength => Nat.beq len 1
  | .iaload => Nat.beq len 1
  | .baload => Nat.beq len 1
  | .aaload => Nat.beq len 1
  | .iastore => Nat.beq len 1
  | .bastore => Nat.beq len 1
  | .aastore => Nat.beq len 1
  | .ifnull off => Nat.beq len 3 && decide ((pc : Int) + off = (a : Int))
  | .ifnonnull off => Nat.beq len 3 && decide ((pc : Int) + off = (a : Int))
  | .if_acmp _ off => Nat.beq len 3 && decide ((pc : Int) + off = (a : Int))
  | _ => false
theorem z_e1_ok {cl scl : List vw_C} {tf : List FieldType} {nw : List Cond} {T : zT} {own nm : String} {Ts : List Cond} {i : Instr} {len pc a b : Nat} (h : z_e1 i len pc a = true) : z_okh cl scl tf nw T own nm Ts i len pc a b := by
  cases i <;> first
    | exact Nat.eq_of_beq_eq_true h
    | exact ⟨Nat.eq_of_beq_eq_true (z_and h).1, of_decide_eq_true (z_and h).2⟩
    | exact (Bool.false_ne_true h).elim
def z_ez (q : zE) : Bool := match q with
  | (pc, i, len, a, b) => match z_kind i a b with
    | 0 => z_lb i len && z_tb i pc a
    | 1 => z_e1 i len pc a
    | 4 => Nat.beq len 1
    | 5 => (match i with
      | .return_ => Nat.beq len 1
      | _ => false)
    | 6 => true
    | _ => false
theorem z_ez_ok {T : zT} {P : zP} {M : zM} {nm : MethodName} {cc : ByteArray} {q : zE} (d : decode cc q.1 = .ok (q.2.1, q.2.2.1)) (h : z_ez q = true) : z_oke' T P M nm cc q := by
  obtain ⟨pc, i, len, a, b⟩ := q
  unfold z_ez at h
  dsimp only at h d
  split at h
  · rename_i hk
    exact zo_l d hk (z_lb_ok (z_and h).1) (z_tb_ok (z_and h).2)
  · rename_i hk
    exact zo_h d hk (z_e1_ok h)
  · rename_i hk
    have e := Nat.eq_of_beq_eq_true h
    subst e
    exact zo_r d hk
  · split at h
    · have e := Nat.eq_of_beq_eq_true h
      subst e
      exact zo_e d
    · cases h
  · rename_i hk
    exact zo_t d hk
  · cases h
abbrev zTE : Type := Instr × Nat × Nat × Nat
def z_hok (T : zT) (P : zP) (M : zM) (own : String) (x : zTE) : Prop := ∀ (nm : String) (pc : Nat), match z_kind x.1 x.2.2.1 x.2.2.2 with
  | 1 => z_okh M.2.2.2.2.2.1 M.2.2.2.2.2.2.1 M.2.2.2.2.2.2.2 M.2.2.2.2.1 T own nm M.2.2.2.1 x.1 x.2.1 pc x.2.2.1 x.2.2.2
  | 2 => x.2.1 = 3 ∧ z_okv P M own x.1 x.2.2.1 x.2.2.2
  | 7 => x.2.1 = 3 ∧ z_okn P M own x.1 x.2.2.1 x.2.2.2
  | 3 => x.2.1 = 3 ∧ z_oks P M own x.1 x.2.2.1 x.2.2.2
  | _ => False
section ZPK
variable {T : zT} {P : zP} {M : zM} {own : String} {len a b : Nat} {i : Instr}
theorem zp_h (hk : z_kind i a b = 1) (h : ∀ (nm : String) (pc : Nat), z_okh M.2.2.2.2.2.1 M.2.2.2.2.2.2.1 M.2.2.2.2.2.2.2 M.2.2.2.2.1 T own nm M.2.2.2.1 i len pc a b) : z_hok T P M own (i, len, a, b) := by
  intro nm pc
  dsimp only
  rw [hk]
  exact h nm pc
theorem zp_v (hk : z_kind i a b = 2) (h : z_okv P M own i a b) : z_hok T P M own (i, 3, a, b) := by
  intro nm pc
  dsimp only
  rw [hk]
  exact ⟨rfl, h⟩
theorem zp_n (hk : z_kind i a b = 7) (h : z_okn P M own i a b) : z_hok T P M own (i, 3, a, b) := by
  intro nm pc
  dsimp only
  rw [hk]
  exact ⟨rfl, h⟩
theorem zp_s (hk : z_kind i a b = 3) (h : z_oks P M own i a b) : z_hok T P M own (i, 3, a, b) := by
  intro nm pc
  dsimp only
  rw [hk]
  exact ⟨rfl, h⟩
end ZPK
def z_sm (q : zE) (x : zTE) : Bool := Nat.beq q.2.2.2.2 x.2.2.2 && (Nat.beq q.2.2.2.1 x.2.2.1 && (Nat.beq q.2.2.1 x.2.1 && decide (q.2.1 = x.1)))
def z_bz (TB : List zTE) (q : zE) : Bool := z_ez q || TB.any (z_sm q)
section ZBK
variable {T : zT} {P : zP} {M : zM} {own : String} {TB : List zTE} {nm : MethodName} {cc : ByteArray} {l H : List zE}
theorem z_bz_ok (ht : ∀ x ∈ TB, z_hok T P M own x) (hn : nm.cls = own) {q : zE} (d : decode cc q.1 = .ok (q.2.1, q.2.2.1)) (h : z_bz TB q = true) : z_oke' T P M nm cc q := by
  unfold z_bz at h
  rcases Bool.or_eq_true_iff.mp h with h | h
  · exact z_ez_ok d h
  · obtain ⟨x, hx, hs⟩ := List.any_eq_true.mp h
    subst hn
    obtain ⟨pc, i, len, a, b⟩ := q
    obtain ⟨i2, len2, a2, b2⟩ := x
    obtain ⟨s1, s2⟩ := z_and hs
    obtain ⟨s2, s3⟩ := z_and s2
    obtain ⟨s3, s4⟩ := z_and s3
    have t1 : b = b2 := Nat.eq_of_beq_eq_true s1
    have t2 : a = a2 := Nat.eq_of_beq_eq_true s2
    have t3 : len = len2 := Nat.eq_of_beq_eq_true s3
    have t4 : i = i2 := of_decide_eq_true s4
    subst t1; subst t2; subst t3; subst t4
    have o := ht _ hx nm.name pc
    dsimp only at o d
    split at o
    · rename_i hk
      exact zo_h d hk o
    · rename_i hk
      obtain ⟨o1, o2⟩ := o
      subst o1
      exact zo_v d hk o2
    · rename_i hk
      obtain ⟨o1, o2⟩ := o
      subst o1
      exact zo_n d hk o2
    · rename_i hk
      obtain ⟨o1, o2⟩ := o
      subst o1
      exact zo_s d hk o2
    · exact o.elim
theorem z_bulk0 (ht : ∀ x ∈ TB, z_hok T P M own x) (hn : nm.cls = own) (d : ∀ q ∈ l, decode cc q.1 = .ok (q.2.1, q.2.2.1)) (e : l.all (z_bz TB) = true) : ∀ q ∈ l, z_oke' T P M nm cc q := fun q hq => z_bz_ok ht hn (d q hq) (List.all_eq_true.mp e q hq)
theorem z_bulk (ht : ∀ x ∈ TB, z_hok T P M own x) (hn : nm.cls = own) (d : ∀ q ∈ l, decode cc q.1 = .ok (q.2.1, q.2.2.1)) (e : l.filter (fun q => !z_bz TB q) = H) (f : ∀ q ∈ H, z_oke' T P M nm cc q) : ∀ q ∈ l, z_oke' T P M nm cc q := fun q hq => by
  cases hb : z_bz TB q with
  | true => exact z_bz_ok ht hn (d q hq) hb
  | false =>
    refine f q ?_
    rw [← e]
    exact List.mem_filter.mpr ⟨hq, by rw [hb]; rfl⟩
end ZBK
theorem zdd_of {cc : ByteArray} {l : List zE} (h : (l.all fun q => decide (decode cc q.1 = Except.ok (q.2.1, q.2.2.1))) = true) : ∀ q ∈ l, decode cc q.1 = Except.ok (q.2.1, q.2.2.1) := fun q hq => of_decide_eq_true (List.all_eq_true.mp h q hq)
theorem z_fap {α : Type} {Q : α → Prop} {l1 l2 : List α} (h1 : ∀ q ∈ l1, Q q) (h2 : ∀ q ∈ l2, Q q) : ∀ q ∈ l1 ++ l2, Q q := fun q hq => (List.mem_append.mp hq).elim (h1 q) (h2 q)
def zTB_0 : List zTE := [(.invokespecial 3, 3, 9999, 0), (.anewarray 9, 3, 103, 0), (.putfield 17, 3, 1, 1), (.getfield 11, 3, 1, 0), (.new 9, 3, 3, 4), (.invokespecial 21, 3, 5, 0), (.getfield 17, 3, 1, 1), (.invokevirtual 22, 3, 2, 0), (.invokevirtual 25, 3, 7, 1)]
set_option maxRecDepth 100000 in
theorem zTBk_0 (xs : List Int32) : ∀ x ∈ zTB_0, z_hok (za_T xs) za_P za_M "LyndonBench$History" x :=
  z_fc (zp_h rfl (fun _ _ => ⟨rfl, zw_81, zw_32, zw_33⟩)) <|
  z_fc (zp_h rfl (fun _ _ => ⟨rfl, ⟨Nat.le_of_ble_eq_true rfl, Nat.le_of_ble_eq_true rfl⟩, _, rfl, zw_82, by decide +kernel⟩)) <|
  z_fc (zp_h rfl (fun _ _ => ⟨rfl, Nat.le_of_ble_eq_true rfl, _, _, _, rfl, Nat.le_of_ble_eq_true rfl, zw_86, Or.inl rfl⟩)) <|
  z_fc (zp_h rfl (fun _ _ => ⟨rfl, Nat.le_of_ble_eq_true rfl, _, _, _, Or.inl ⟨Nat.le_of_ble_eq_true rfl, rfl⟩, Nat.le_of_ble_eq_true rfl, zw_85⟩)) <|
  z_fc (zp_h rfl (fun _ _ => ⟨rfl, Nat.le_of_ble_eq_true rfl, _, _, rfl, zn_3, zm_3, zw_82, zw_35, zw_10⟩)) <|
  z_fc (zp_n rfl ⟨rfl, zd_5, rfl, rfl, zw_37, Or.inl zw_84⟩) <|
  z_fc (zp_h rfl (fun _ _ => ⟨rfl, Nat.le_of_ble_eq_true rfl, _, _, _, Or.inl ⟨Nat.le_of_ble_eq_true rfl, rfl⟩, Nat.le_of_ble_eq_true rfl, zw_86⟩)) <|
  z_fc (zp_v rfl ⟨rfl, zd_2, zw_385, Nat.le_of_ble_eq_true rfl, ⟨_, Or.inl ⟨Nat.le_of_ble_eq_true rfl, rfl⟩, rfl⟩, zw_383, zw_2⟩) <|
  z_fc (zp_v rfl ⟨rfl, zd_7, zw_252, Nat.le_of_ble_eq_true rfl, ⟨_, Or.inl ⟨Nat.le_of_ble_eq_true rfl, rfl⟩, rfl⟩, zw_251, zw_253⟩) <|
  z_fn
def zTB_1 : List zTE := [(.invokespecial 3, 3, 9999, 0), (.new 9, 3, 4, 2), (.invokespecial 11, 3, 19, 1), (.new 20, 3, 3, 4), (.invokespecial 22, 3, 5, 0), (.putfield 27, 3, 2, 2), (.putfield 31, 3, 2, 3), (.putfield 34, 3, 2, 4), (.putfield 37, 3, 2, 5), (.putfield 40, 3, 2, 6), (.putfield 43, 3, 2, 7), (.putfield 46, 3, 2, 8), (.putfield 49, 3, 2, 9), (.newarray .int, 2, 0, 0)]
set_option maxRecDepth 100000 in
theorem zTBk_1 (xs : List Int32) : ∀ x ∈ zTB_1, z_hok (za_T xs) za_P za_M "LyndonBench$Script" x :=
  z_fc (zp_h rfl (fun _ _ => ⟨rfl, zw_98, zw_32, zw_33⟩)) <|
  z_fc (zp_h rfl (fun _ _ => ⟨rfl, Nat.le_of_ble_eq_true rfl, _, _, rfl, zn_4, zm_4, zw_99, zw_41, zw_11⟩)) <|
  z_fc (zp_n rfl ⟨rfl, zd_19, rfl, rfl, zw_43, Or.inl zw_100⟩) <|
  z_fc (zp_h rfl (fun _ _ => ⟨rfl, Nat.le_of_ble_eq_true rfl, _, _, rfl, zn_3, zm_3, zw_101, zw_35, zw_10⟩)) <|
  z_fc (zp_n rfl ⟨rfl, zd_5, rfl, rfl, zw_37, Or.inl zw_102⟩) <|
  z_fc (zp_h rfl (fun _ _ => ⟨rfl, Nat.le_of_ble_eq_true rfl, _, _, _, rfl, Nat.le_of_ble_eq_true rfl, zw_105, Or.inl rfl⟩)) <|
  z_fc (zp_h rfl (fun _ _ => ⟨rfl, Nat.le_of_ble_eq_true rfl, _, _, _, rfl, Nat.le_of_ble_eq_true rfl, zw_106, Or.inl rfl⟩)) <|
  z_fc (zp_h rfl (fun _ _ => ⟨rfl, Nat.le_of_ble_eq_true rfl, _, _, _, rfl, Nat.le_of_ble_eq_true rfl, zw_107, Or.inl rfl⟩)) <|
  z_fc (zp_h rfl (fun _ _ => ⟨rfl, Nat.le_of_ble_eq_true rfl, _, _, _, rfl, Nat.le_of_ble_eq_true rfl, zw_108, Or.inl rfl⟩)) <|
  z_fc (zp_h rfl (fun _ _ => ⟨rfl, Nat.le_of_ble_eq_true rfl, _, _, _, rfl, Nat.le_of_ble_eq_true rfl, zw_109, Or.inl rfl⟩)) <|
  z_fc (zp_h rfl (fun _ _ => ⟨rfl, Nat.le_of_ble_eq_true rfl, _, _, _, rfl, Nat.le_of_ble_eq_true rfl, zw_110, Or.inl rfl⟩)) <|
  z_fc (zp_h rfl (fun _ _ => ⟨rfl, Nat.le_of_ble_eq_true rfl, _, _, _, rfl, Nat.le_of_ble_eq_true rfl, zw_111, Or.inl rfl⟩)) <|
  z_fc (zp_h rfl (fun _ _ => ⟨rfl, Nat.le_of_ble_eq_true rfl, _, _, _, rfl, Nat.le_of_ble_eq_true rfl, zw_112, Or.inl rfl⟩)) <|
  z_fc (zp_h rfl (fun _ _ => ⟨rfl, zw_140⟩)) <|
  z_fn
def zTB_2 : List zTE := [(.invokespecial 3, 3, 9999, 0), (.putfield 9, 3, 3, 0), (.new 15, 3, 4, 2), (.invokespecial 17, 3, 19, 1), (.anewarray 15, 3, 102, 0), (.putfield 28, 3, 3, 3), (.getfield 24, 3, 3, 2), (.getfield 20, 3, 3, 1), (.invokevirtual 31, 3, 22, 0), (.getfield 9, 3, 3, 0), (.invokevirtual 34, 3, 26, 1), (.getfield 28, 3, 3, 3), (.invokevirtual 38, 3, 11, 1), (.getfield 42, 3, 4, 1), (.invokevirtual 45, 3, 13, 3), (.invokevirtual 49, 3, 31, 1), (.invokevirtual 53, 3, 25, 3), (.invokevirtual 56, 3, 32, 5), (.invokevirtual 60, 3, 15, 1), (.invokevirtual 64, 3, 36, 0), (.invokevirtual 68, 3, 20, 1), (.invokevirtual 71, 3, 9, 0)]
set_option maxRecDepth 100000 in
theorem zTBk_2 (xs : List Int32) : ∀ x ∈ zTB_2, z_hok (za_T xs) za_P za_M "LyndonBench$State" x :=
  z_fc (zp_h rfl (fun _ _ => ⟨rfl, zw_39, zw_32, zw_33⟩)) <|
  z_fc (zp_h rfl (fun _ _ => ⟨rfl, Nat.le_of_ble_eq_true rfl, _, _, _, rfl, Nat.le_of_ble_eq_true rfl, zw_60, Or.inl rfl⟩)) <|
  z_fc (zp_h rfl (fun _ _ => ⟨rfl, Nat.le_of_ble_eq_true rfl, _, _, rfl, zn_4, zm_4, zw_40, zw_41, zw_11⟩)) <|
  z_fc (zp_n rfl ⟨rfl, zd_19, rfl, rfl, zw_43, Or.inl zw_42⟩) <|
  z_fc (zp_h rfl (fun _ _ => ⟨rfl, ⟨Nat.le_of_ble_eq_true rfl, Nat.le_of_ble_eq_true rfl⟩, _, rfl, zw_40, by decide +kernel⟩)) <|
  z_fc (zp_h rfl (fun _ _ => ⟨rfl, Nat.le_of_ble_eq_true rfl, _, _, _, rfl, Nat.le_of_ble_eq_true rfl, zw_65, Or.inl rfl⟩)) <|
  z_fc (zp_h rfl (fun _ _ => ⟨rfl, Nat.le_of_ble_eq_true rfl, _, _, _, Or.inl ⟨Nat.le_of_ble_eq_true rfl, rfl⟩, Nat.le_of_ble_eq_true rfl, zw_64⟩)) <|
  z_fc (zp_h rfl (fun _ _ => ⟨rfl, Nat.le_of_ble_eq_true rfl, _, _, _, Or.inl ⟨Nat.le_of_ble_eq_true rfl, rfl⟩, Nat.le_of_ble_eq_true rfl, zw_62⟩)) <|
  z_fc (zp_v rfl ⟨rfl, zd_22, zw_148, Nat.le_of_ble_eq_true rfl, ⟨_, Or.inl ⟨Nat.le_of_ble_eq_true rfl, rfl⟩, rfl⟩, zw_147, zw_149⟩) <|
  z_fc (zp_h rfl (fun _ _ => ⟨rfl, Nat.le_of_ble_eq_true rfl, _, _, _, Or.inl ⟨Nat.le_of_ble_eq_true rfl, rfl⟩, Nat.le_of_ble_eq_true rfl, zw_60⟩)) <|
  z_fc (zp_v rfl ⟨rfl, zd_26, zw_256, Nat.le_of_ble_eq_true rfl, ⟨_, Or.inl ⟨Nat.le_of_ble_eq_true rfl, rfl⟩, rfl⟩, zw_255, zw_257⟩) <|
  z_fc (zp_h rfl (fun _ _ => ⟨rfl, Nat.le_of_ble_eq_true rfl, _, _, _, Or.inl ⟨Nat.le_of_ble_eq_true rfl, rfl⟩, Nat.le_of_ble_eq_true rfl, zw_65⟩)) <|
  z_fc (zp_v rfl ⟨rfl, zd_11, zw_262, Nat.le_of_ble_eq_true rfl, ⟨_, Or.inl ⟨Nat.le_of_ble_eq_true rfl, rfl⟩, rfl⟩, zw_261, zw_263⟩) <|
  z_fc (zp_h rfl (fun _ _ => ⟨rfl, Nat.le_of_ble_eq_true rfl, _, _, _, Or.inl ⟨Nat.le_of_ble_eq_true rfl, rfl⟩, Nat.le_of_ble_eq_true rfl, zw_51⟩)) <|
  z_fc (zp_v rfl ⟨rfl, zd_13, zw_210, Nat.le_of_ble_eq_true rfl, ⟨_, Or.inl ⟨Nat.le_of_ble_eq_true rfl, rfl⟩, rfl⟩, zw_265, zw_211⟩) <|
  z_fc (zp_v rfl ⟨rfl, zd_31, zw_602, Nat.le_of_ble_eq_true rfl, ⟨_, Or.inl ⟨Nat.le_of_ble_eq_true rfl, rfl⟩, rfl⟩, zw_601, zw_603⟩) <|
  z_fc (zp_v rfl ⟨rfl, zd_25, zw_214, Nat.le_of_ble_eq_true rfl, ⟨_, Or.inl ⟨Nat.le_of_ble_eq_true rfl, rfl⟩, rfl⟩, zw_213, zw_215⟩) <|
  z_fc (zp_v rfl ⟨rfl, zd_32, zw_397, Nat.le_of_ble_eq_true rfl, ⟨_, Or.inl ⟨Nat.le_of_ble_eq_true rfl, rfl⟩, rfl⟩, zw_577, zw_398⟩) <|
  z_fc (zp_v rfl ⟨rfl, zd_15, zw_574, Nat.le_of_ble_eq_true rfl, ⟨_, Or.inl ⟨Nat.le_of_ble_eq_true rfl, rfl⟩, rfl⟩, zw_573, zw_575⟩) <|
  z_fc (zp_v rfl ⟨rfl, zd_36, zw_459, Nat.le_of_ble_eq_true rfl, ⟨_, Or.inl ⟨Nat.le_of_ble_eq_true rfl, rfl⟩, rfl⟩, zw_479, zw_460⟩) <|
  z_fc (zp_v rfl ⟨rfl, zd_20, zw_218, Nat.le_of_ble_eq_true rfl, ⟨_, Or.inl ⟨Nat.le_of_ble_eq_true rfl, rfl⟩, rfl⟩, zw_480, zw_219⟩) <|
  z_fc (zp_v rfl ⟨rfl, zd_9, zw_482, Nat.le_of_ble_eq_true rfl, ⟨_, Or.inl ⟨Nat.le_of_ble_eq_true rfl, rfl⟩, rfl⟩, zw_481, zw_483⟩) <|
  z_fn
def zTB_3 : List zTE := [(.invokespecial 3, 3, 9999, 0), (.putfield 9, 3, 4, 1), (.invokestatic 15, 3, 9998, 0), (.newarray .byte, 2, 0, 0), (.getfield 9, 3, 4, 1), (.getfield 21, 3, 4, 0), (.invokevirtual 29, 3, 78, 0), (.invokevirtual 35, 3, 79, 1), (.invokevirtual 25, 3, 23, 1), (.invokevirtual 39, 3, 20, 1), (.invokevirtual 43, 3, 22, 0), (.invokevirtual 46, 3, 25, 3), (.invokevirtual 50, 3, 21, 2), (.invokevirtual 54, 3, 27, 1), (.invokevirtual 57, 3, 29, 2), (.invokevirtual 60, 3, 32, 5), (.invokevirtual 64, 3, 33, 1), (.invokevirtual 67, 3, 34, 2), (.invokevirtual 77, 3, 41, 1)]
set_option maxRecDepth 100000 in
theorem zTBk_3 (xs : List Int32) : ∀ x ∈ zTB_3, z_hok (za_T xs) za_P za_M "LyndonBench$Word" x :=
  z_fc (zp_h rfl (fun _ _ => ⟨rfl, zw_45, zw_32, zw_33⟩)) <|
  z_fc (zp_h rfl (fun _ _ => ⟨rfl, Nat.le_of_ble_eq_true rfl, _, _, _, rfl, Nat.le_of_ble_eq_true rfl, zw_50, Or.inl rfl⟩)) <|
  z_fc (zp_h rfl (fun _ _ => ⟨rfl, Or.inl ⟨rfl, zw_46, zw_47, zw_12, zw_48⟩⟩)) <|
  z_fc (zp_h rfl (fun _ _ => ⟨rfl, zw_58⟩)) <|
  z_fc (zp_h rfl (fun _ _ => ⟨rfl, Nat.le_of_ble_eq_true rfl, _, _, _, Or.inl ⟨Nat.le_of_ble_eq_true rfl, rfl⟩, Nat.le_of_ble_eq_true rfl, zw_50⟩)) <|
  z_fc (zp_h rfl (fun _ _ => ⟨rfl, Nat.le_of_ble_eq_true rfl, _, _, _, Or.inl ⟨Nat.le_of_ble_eq_true rfl, rfl⟩, Nat.le_of_ble_eq_true rfl, zw_49⟩)) <|
  z_fc (zp_v rfl ⟨rfl, zd_78, zw_157, Nat.le_of_ble_eq_true rfl, ⟨_, Or.inr ⟨Nat.le_of_ble_eq_true rfl, rfl⟩, rfl⟩, zw_156, zw_158⟩) <|
  z_fc (zp_v rfl ⟨rfl, zd_79, zw_167, Nat.le_of_ble_eq_true rfl, ⟨_, Or.inr ⟨Nat.le_of_ble_eq_true rfl, rfl⟩, rfl⟩, zw_166, zw_168⟩) <|
  z_fc (zp_v rfl ⟨rfl, zd_23, zw_205, Nat.le_of_ble_eq_true rfl, ⟨_, Or.inl ⟨Nat.le_of_ble_eq_true rfl, rfl⟩, rfl⟩, zw_204, zw_206⟩) <|
  z_fc (zp_v rfl ⟨rfl, zd_20, zw_218, Nat.le_of_ble_eq_true rfl, ⟨_, Or.inl ⟨Nat.le_of_ble_eq_true rfl, rfl⟩, rfl⟩, zw_217, zw_219⟩) <|
  z_fc (zp_v rfl ⟨rfl, zd_22, zw_148, Nat.le_of_ble_eq_true rfl, ⟨_, Or.inl ⟨Nat.le_of_ble_eq_true rfl, rfl⟩, rfl⟩, zw_259, zw_149⟩) <|
  z_fc (zp_v rfl ⟨rfl, zd_25, zw_214, Nat.le_of_ble_eq_true rfl, ⟨_, Or.inl ⟨Nat.le_of_ble_eq_true rfl, rfl⟩, rfl⟩, zw_260, zw_215⟩) <|
  z_fc (zp_v rfl ⟨rfl, zd_21, zw_434, Nat.le_of_ble_eq_true rfl, ⟨_, Or.inl ⟨Nat.le_of_ble_eq_true rfl, rfl⟩, rfl⟩, zw_432, zw_4⟩) <|
  z_fc (zp_v rfl ⟨rfl, zd_27, zw_417, Nat.le_of_ble_eq_true rfl, ⟨_, Or.inl ⟨Nat.le_of_ble_eq_true rfl, rfl⟩, rfl⟩, zw_491, zw_418⟩) <|
  z_fc (zp_v rfl ⟨rfl, zd_29, zw_429, Nat.le_of_ble_eq_true rfl, ⟨_, Or.inl ⟨Nat.le_of_ble_eq_true rfl, rfl⟩, rfl⟩, zw_428, zw_430⟩) <|
  z_fc (zp_v rfl ⟨rfl, zd_32, zw_397, Nat.le_of_ble_eq_true rfl, ⟨_, Or.inl ⟨Nat.le_of_ble_eq_true rfl, rfl⟩, rfl⟩, zw_396, zw_398⟩) <|
  z_fc (zp_v rfl ⟨rfl, zd_33, zw_401, Nat.le_of_ble_eq_true rfl, ⟨_, Or.inl ⟨Nat.le_of_ble_eq_true rfl, rfl⟩, rfl⟩, zw_400, zw_402⟩) <|
  z_fc (zp_v rfl ⟨rfl, zd_34, zw_393, Nat.le_of_ble_eq_true rfl, ⟨_, Or.inl ⟨Nat.le_of_ble_eq_true rfl, rfl⟩, rfl⟩, zw_392, zw_394⟩) <|
  z_fc (zp_v rfl ⟨rfl, zd_41, zw_452, Nat.le_of_ble_eq_true rfl, ⟨_, Or.inl ⟨Nat.le_of_ble_eq_true rfl, rfl⟩, rfl⟩, zw_450, zw_5⟩) <|
  z_fn
def zTB_4 : List zTE := [(.invokespecial 3, 3, 9999, 0), (.new 9, 3, 3, 4), (.invokespecial 11, 3, 5, 0), (.new 16, 3, 1, 2), (.invokespecial 18, 3, 0, 0), (.putfield 26, 3, 0, 3), (.new 30, 3, 2, 12), (.invokespecial 32, 3, 4, 0), (.new 37, 3, 4, 2), (.invokespecial 39, 3, 19, 1), (.getfield 12, 3, 0, 0), (.invokevirtual 49, 3, 6, 1), (.getfield 52, 3, 3, 1), (.ldc 55, 2, 1, 0), (.invokevirtual 57, 3, 24, 1), (.getfield 46, 3, 0, 6), (.ldc 61, 2, 1, 1), (.invokevirtual 63, 3, 13, 3), (.invokevirtual 104, 3, 10, 1), (.getfield 19, 3, 0, 1), (.invokevirtual 92, 3, 1, 1), (.getfield 113, 3, 3, 0), (.putfield 113, 3, 3, 0), (.invokevirtual 128, 3, 73, 1), (.getfield 70, 3, 4, 1), (.invokevirtual 131, 3, 23, 1), (.invokevirtual 134, 3, 35, 0), (.invokevirtual 138, 3, 74, 1), (.invokevirtual 83, 3, 27, 1), (.invokevirtual 141, 3, 75, 2), (.invokevirtual 145, 3, 28, 2), (.invokevirtual 148, 3, 30, 1), (.invokevirtual 151, 3, 29, 2), (.invokevirtual 156, 3, 40, 0), (.invokevirtual 161, 3, 18, 1), (.invokevirtual 166, 3, 9, 0), (.invokevirtual 169, 3, 43, 2), (.invokevirtual 172, 3, 76, 1), (.invokevirtual 175, 3, 33, 1), (.invokevirtual 178, 3, 12, 1), (.getfield 183, 3, 3, 3), (.invokevirtual 188, 3, 11, 1), (.invokevirtual 197, 3, 14, 1), (.invokevirtual 200, 3, 16, 0), (.invokevirtual 205, 3, 17, 0), (.invokevirtual 208, 3, 3, 1), (.getfield 212, 3, 1, 1), (.invokevirtual 116, 3, 20, 1), (.invokevirtual 234, 3, 38, 1), (.invokevirtual 240, 3, 26, 1), (.invokevirtual 250, 3, 36, 0), (.invokevirtual 262, 3, 42, 1), (.invokevirtual 289, 3, 39, 2), (.invokevirtual 226, 3, 32, 5), (.invokevirtual 120, 3, 8, 1), (.invokevirtual 303, 3, 37, 1)]
set_option maxRecDepth 100000 in
theorem zTBk_4 (xs : List Int32) : ∀ x ∈ zTB_4, z_hok (za_T xs) za_P za_M "LyndonBench" x :=
  z_fc (zp_h rfl (fun _ _ => ⟨rfl, zw_31, zw_32, zw_33⟩)) <|
  z_fc (zp_h rfl (fun _ _ => ⟨rfl, Nat.le_of_ble_eq_true rfl, _, _, rfl, zn_3, zm_3, zw_34, zw_35, zw_10⟩)) <|
  z_fc (zp_n rfl ⟨rfl, zd_5, rfl, rfl, zw_37, Or.inl zw_36⟩) <|
  z_fc (zp_h rfl (fun _ _ => ⟨rfl, Nat.le_of_ble_eq_true rfl, _, _, rfl, zn_1, zm_1, zw_76, zw_77, zw_13⟩)) <|
  z_fc (zp_n rfl ⟨rfl, zd_0, rfl, rfl, zw_79, Or.inl zw_78⟩) <|
  z_fc (zp_h rfl (fun _ _ => ⟨rfl, Nat.le_of_ble_eq_true rfl, _, _, _, rfl, Nat.le_of_ble_eq_true rfl, zw_224, Or.inl rfl⟩)) <|
  z_fc (zp_h rfl (fun _ _ => ⟨rfl, Nat.le_of_ble_eq_true rfl, _, _, rfl, zn_2, zm_2, zw_93, zw_94, zw_14⟩)) <|
  z_fc (zp_n rfl ⟨rfl, zd_4, rfl, rfl, zw_96, Or.inr ⟨"LyndonBench", by decide +kernel⟩⟩) <|
  z_fc (zp_h rfl (fun _ _ => ⟨rfl, Nat.le_of_ble_eq_true rfl, _, _, rfl, zn_4, zm_4, zw_141, zw_41, zw_11⟩)) <|
  z_fc (zp_n rfl ⟨rfl, zd_19, rfl, rfl, zw_43, Or.inl zw_142⟩) <|
  z_fc (zp_h rfl (fun _ _ => ⟨rfl, Nat.le_of_ble_eq_true rfl, _, _, _, Or.inl ⟨Nat.le_of_ble_eq_true rfl, rfl⟩, Nat.le_of_ble_eq_true rfl, zw_221⟩)) <|
  z_fc (zp_v rfl ⟨rfl, zd_6, zw_144, Nat.le_of_ble_eq_true rfl, ⟨_, Or.inl ⟨Nat.le_of_ble_eq_true rfl, rfl⟩, rfl⟩, zw_143, zw_145⟩) <|
  z_fc (zp_h rfl (fun _ _ => ⟨rfl, Nat.le_of_ble_eq_true rfl, _, _, _, Or.inl ⟨Nat.le_of_ble_eq_true rfl, rfl⟩, Nat.le_of_ble_eq_true rfl, zw_63⟩)) <|
  z_fc (zp_h rfl (fun _ _ => ⟨rfl, Or.inr ⟨rfl, _, rfl, rfl, rfl⟩⟩)) <|
  z_fc (zp_v rfl ⟨rfl, zd_24, zw_153, Nat.le_of_ble_eq_true rfl, ⟨_, Or.inl ⟨Nat.le_of_ble_eq_true rfl, rfl⟩, rfl⟩, zw_152, zw_154⟩) <|
  z_fc (zp_h rfl (fun _ _ => ⟨rfl, Nat.le_of_ble_eq_true rfl, _, _, _, Or.inl ⟨Nat.le_of_ble_eq_true rfl, rfl⟩, Nat.le_of_ble_eq_true rfl, zw_227⟩)) <|
  z_fc (zp_h rfl (fun _ _ => ⟨rfl, Or.inr ⟨rfl, _, rfl, rfl, rfl⟩⟩)) <|
  z_fc (zp_v rfl ⟨rfl, zd_13, zw_210, Nat.le_of_ble_eq_true rfl, ⟨_, Or.inl ⟨Nat.le_of_ble_eq_true rfl, rfl⟩, rfl⟩, zw_209, zw_211⟩) <|
  z_fc (zp_v rfl ⟨rfl, zd_10, zw_598, Nat.le_of_ble_eq_true rfl, ⟨_, Or.inl ⟨Nat.le_of_ble_eq_true rfl, rfl⟩, rfl⟩, zw_597, zw_599⟩) <|
  z_fc (zp_h rfl (fun _ _ => ⟨rfl, Nat.le_of_ble_eq_true rfl, _, _, _, Or.inl ⟨Nat.le_of_ble_eq_true rfl, rfl⟩, Nat.le_of_ble_eq_true rfl, zw_222⟩)) <|
  z_fc (zp_v rfl ⟨rfl, zd_1, zw_380, Nat.le_of_ble_eq_true rfl, ⟨_, Or.inl ⟨Nat.le_of_ble_eq_true rfl, rfl⟩, rfl⟩, zw_379, zw_381⟩) <|
  z_fc (zp_h rfl (fun _ _ => ⟨rfl, Nat.le_of_ble_eq_true rfl, _, _, _, Or.inl ⟨Nat.le_of_ble_eq_true rfl, rfl⟩, Nat.le_of_ble_eq_true rfl, zw_61⟩)) <|
  z_fc (zp_h rfl (fun _ _ => ⟨rfl, Nat.le_of_ble_eq_true rfl, _, _, _, rfl, Nat.le_of_ble_eq_true rfl, zw_61, Or.inl rfl⟩)) <|
  z_fc (zp_v rfl ⟨rfl, zd_73, zw_290, Nat.le_of_ble_eq_true rfl, ⟨_, Or.inl ⟨Nat.le_of_ble_eq_true rfl, rfl⟩, rfl⟩, zw_288, zw_0⟩) <|
  z_fc (zp_h rfl (fun _ _ => ⟨rfl, Nat.le_of_ble_eq_true rfl, _, _, _, Or.inl ⟨Nat.le_of_ble_eq_true rfl, rfl⟩, Nat.le_of_ble_eq_true rfl, zw_52⟩)) <|
  z_fc (zp_v rfl ⟨rfl, zd_23, zw_205, Nat.le_of_ble_eq_true rfl, ⟨_, Or.inl ⟨Nat.le_of_ble_eq_true rfl, rfl⟩, rfl⟩, zw_387, zw_206⟩) <|
  z_fc (zp_v rfl ⟨rfl, zd_35, zw_389, Nat.le_of_ble_eq_true rfl, ⟨_, Or.inl ⟨Nat.le_of_ble_eq_true rfl, rfl⟩, rfl⟩, zw_388, zw_390⟩) <|
  z_fc (zp_v rfl ⟨rfl, zd_74, zw_413, Nat.le_of_ble_eq_true rfl, ⟨_, Or.inl ⟨Nat.le_of_ble_eq_true rfl, rfl⟩, rfl⟩, zw_411, zw_3⟩) <|
  z_fc (zp_v rfl ⟨rfl, zd_27, zw_417, Nat.le_of_ble_eq_true rfl, ⟨_, Or.inl ⟨Nat.le_of_ble_eq_true rfl, rfl⟩, rfl⟩, zw_416, zw_418⟩) <|
  z_fc (zp_v rfl ⟨rfl, zd_75, zw_584, Nat.le_of_ble_eq_true rfl, ⟨_, Or.inl ⟨Nat.le_of_ble_eq_true rfl, rfl⟩, rfl⟩, zw_582, zw_7⟩) <|
  z_fc (zp_v rfl ⟨rfl, zd_28, zw_588, Nat.le_of_ble_eq_true rfl, ⟨_, Or.inl ⟨Nat.le_of_ble_eq_true rfl, rfl⟩, rfl⟩, zw_587, zw_589⟩) <|
  z_fc (zp_v rfl ⟨rfl, zd_30, zw_425, Nat.le_of_ble_eq_true rfl, ⟨_, Or.inl ⟨Nat.le_of_ble_eq_true rfl, rfl⟩, rfl⟩, zw_424, zw_426⟩) <|
  z_fc (zp_v rfl ⟨rfl, zd_29, zw_429, Nat.le_of_ble_eq_true rfl, ⟨_, Or.inl ⟨Nat.le_of_ble_eq_true rfl, rfl⟩, rfl⟩, zw_440, zw_430⟩) <|
  z_fc (zp_v rfl ⟨rfl, zd_40, zw_447, Nat.le_of_ble_eq_true rfl, ⟨_, Or.inl ⟨Nat.le_of_ble_eq_true rfl, rfl⟩, rfl⟩, zw_446, zw_448⟩) <|
  z_fc (zp_v rfl ⟨rfl, zd_18, zw_476, Nat.le_of_ble_eq_true rfl, ⟨_, Or.inl ⟨Nat.le_of_ble_eq_true rfl, rfl⟩, rfl⟩, zw_475, zw_477⟩) <|
  z_fc (zp_v rfl ⟨rfl, zd_9, zw_482, Nat.le_of_ble_eq_true rfl, ⟨_, Or.inl ⟨Nat.le_of_ble_eq_true rfl, rfl⟩, rfl⟩, zw_486, zw_483⟩) <|
  z_fc (zp_v rfl ⟨rfl, zd_43, zw_488, Nat.le_of_ble_eq_true rfl, ⟨_, Or.inl ⟨Nat.le_of_ble_eq_true rfl, rfl⟩, rfl⟩, zw_487, zw_489⟩) <|
  z_fc (zp_v rfl ⟨rfl, zd_76, zw_506, Nat.le_of_ble_eq_true rfl, ⟨_, Or.inl ⟨Nat.le_of_ble_eq_true rfl, rfl⟩, rfl⟩, zw_504, zw_6⟩) <|
  z_fc (zp_v rfl ⟨rfl, zd_33, zw_401, Nat.le_of_ble_eq_true rfl, ⟨_, Or.inl ⟨Nat.le_of_ble_eq_true rfl, rfl⟩, rfl⟩, zw_528, zw_402⟩) <|
  z_fc (zp_v rfl ⟨rfl, zd_12, zw_534, Nat.le_of_ble_eq_true rfl, ⟨_, Or.inl ⟨Nat.le_of_ble_eq_true rfl, rfl⟩, rfl⟩, zw_533, zw_535⟩) <|
  z_fc (zp_h rfl (fun _ _ => ⟨rfl, Nat.le_of_ble_eq_true rfl, _, _, _, Or.inl ⟨Nat.le_of_ble_eq_true rfl, rfl⟩, Nat.le_of_ble_eq_true rfl, zw_66⟩)) <|
  z_fc (zp_v rfl ⟨rfl, zd_11, zw_262, Nat.le_of_ble_eq_true rfl, ⟨_, Or.inl ⟨Nat.le_of_ble_eq_true rfl, rfl⟩, rfl⟩, zw_547, zw_263⟩) <|
  z_fc (zp_v rfl ⟨rfl, zd_14, zw_550, Nat.le_of_ble_eq_true rfl, ⟨_, Or.inl ⟨Nat.le_of_ble_eq_true rfl, rfl⟩, rfl⟩, zw_549, zw_551⟩) <|
  z_fc (zp_v rfl ⟨rfl, zd_16, zw_565, Nat.le_of_ble_eq_true rfl, ⟨_, Or.inl ⟨Nat.le_of_ble_eq_true rfl, rfl⟩, rfl⟩, zw_564, zw_566⟩) <|
  z_fc (zp_v rfl ⟨rfl, zd_17, zw_570, Nat.le_of_ble_eq_true rfl, ⟨_, Or.inl ⟨Nat.le_of_ble_eq_true rfl, rfl⟩, rfl⟩, zw_569, zw_571⟩) <|
  z_fc (zp_v rfl ⟨rfl, zd_3, zw_248, Nat.le_of_ble_eq_true rfl, ⟨_, Or.inl ⟨Nat.le_of_ble_eq_true rfl, rfl⟩, rfl⟩, zw_247, zw_249⟩) <|
  z_fc (zp_h rfl (fun _ _ => ⟨rfl, Nat.le_of_ble_eq_true rfl, _, _, _, Or.inl ⟨Nat.le_of_ble_eq_true rfl, rfl⟩, Nat.le_of_ble_eq_true rfl, zw_87⟩)) <|
  z_fc (zp_v rfl ⟨rfl, zd_20, zw_218, Nat.le_of_ble_eq_true rfl, ⟨_, Or.inl ⟨Nat.le_of_ble_eq_true rfl, rfl⟩, rfl⟩, zw_469, zw_219⟩) <|
  z_fc (zp_v rfl ⟨rfl, zd_38, zw_643, Nat.le_of_ble_eq_true rfl, ⟨_, Or.inl ⟨Nat.le_of_ble_eq_true rfl, rfl⟩, rfl⟩, zw_642, zw_644⟩) <|
  z_fc (zp_v rfl ⟨rfl, zd_26, zw_256, Nat.le_of_ble_eq_true rfl, ⟨_, Or.inl ⟨Nat.le_of_ble_eq_true rfl, rfl⟩, rfl⟩, zw_668, zw_257⟩) <|
  z_fc (zp_v rfl ⟨rfl, zd_36, zw_459, Nat.le_of_ble_eq_true rfl, ⟨_, Or.inl ⟨Nat.le_of_ble_eq_true rfl, rfl⟩, rfl⟩, zw_458, zw_460⟩) <|
  z_fc (zp_v rfl ⟨rfl, zd_42, zw_622, Nat.le_of_ble_eq_true rfl, ⟨_, Or.inl ⟨Nat.le_of_ble_eq_true rfl, rfl⟩, rfl⟩, zw_621, zw_623⟩) <|
  z_fc (zp_v rfl ⟨rfl, zd_39, zw_617, Nat.le_of_ble_eq_true rfl, ⟨_, Or.inl ⟨Nat.le_of_ble_eq_true rfl, rfl⟩, rfl⟩, zw_616, zw_618⟩) <|
  z_fc (zp_v rfl ⟨rfl, zd_32, zw_397, Nat.le_of_ble_eq_true rfl, ⟨_, Or.inl ⟨Nat.le_of_ble_eq_true rfl, rfl⟩, rfl⟩, zw_620, zw_398⟩) <|
  z_fc (zp_v rfl ⟨rfl, zd_8, zw_293, Nat.le_of_ble_eq_true rfl, ⟨_, Or.inl ⟨Nat.le_of_ble_eq_true rfl, rfl⟩, rfl⟩, zw_292, zw_294⟩) <|
  z_fc (zp_v rfl ⟨rfl, zd_37, zw_509, Nat.le_of_ble_eq_true rfl, ⟨_, Or.inl ⟨Nat.le_of_ble_eq_true rfl, rfl⟩, rfl⟩, zw_508, zw_510⟩) <|
  z_fn
def zTB_5 : List zTE := [(.getfield 9, 3, 50, 0), (.invokevirtual 335, 3, 80, 0), (.invokevirtual 492, 3, 81, 0), (.invokestatic 495, 3, 83, 2), (.getstatic 38, 3, 0, 0), (.getfield 15, 3, 50, 1), (.getstatic 1053, 3, 0, 1), (.invokestatic 1059, 3, 84, 3)]
set_option maxRecDepth 100000 in
theorem zTBk_5 (xs : List Int32) : ∀ x ∈ zTB_5, z_hok (za_T xs) za_P za_M "java/lang/String" x :=
  z_fc (zp_h rfl (fun _ _ => ⟨rfl, Nat.le_of_ble_eq_true rfl, _, _, _, Or.inr ⟨Nat.le_of_ble_eq_true rfl, rfl⟩, Nat.le_of_ble_eq_true rfl, zw_670⟩)) <|
  z_fc (zp_v rfl ⟨rfl, zd_80, zw_161, Nat.le_of_ble_eq_true rfl, ⟨_, Or.inr ⟨Nat.le_of_ble_eq_true rfl, rfl⟩, rfl⟩, zw_160, zw_162⟩) <|
  z_fc (zp_v rfl ⟨rfl, zd_81, zw_171, Nat.le_of_ble_eq_true rfl, ⟨_, Or.inr ⟨Nat.le_of_ble_eq_true rfl, rfl⟩, rfl⟩, zw_170, zw_172⟩) <|
  z_fc (zp_s rfl ⟨zd_83, zw_174, zw_175⟩) <|
  z_fc (zp_h rfl (fun _ _ => ⟨rfl, _, rfl, zw_164⟩)) <|
  z_fc (zp_h rfl (fun _ _ => ⟨rfl, Nat.le_of_ble_eq_true rfl, _, _, _, Or.inr ⟨Nat.le_of_ble_eq_true rfl, rfl⟩, Nat.le_of_ble_eq_true rfl, zw_671⟩)) <|
  z_fc (zp_h rfl (fun _ _ => ⟨rfl, _, rfl, zw_180⟩)) <|
  z_fc (zp_s rfl ⟨zd_84, zw_182, zw_183⟩) <|
  z_fn
def zTB_6 : List zTE := [(.invokestatic 9, 3, 82, 2)]
set_option maxRecDepth 100000 in
theorem zTBk_6 (xs : List Int32) : ∀ x ∈ zTB_6, z_hok (za_T xs) za_P za_M "java/lang/StringLatin1" x :=
  z_fc (zp_s rfl ⟨zd_82, zw_177, zw_178⟩) <|
  z_fn
def zTB_7 : List zTE := [(.invokevirtual 7, 3, 60, 0), (.invokevirtual 13, 3, 59, 0), (.invokevirtual 16, 3, 46, 1), (.invokestatic 20, 3, 9997, 0), (.invokevirtual 26, 3, 47, 1), (.invokevirtual 29, 3, 49, 1), (.invokevirtual 32, 3, 50, 0), (.invokevirtual 35, 3, 51, 0), (.invokevirtual 38, 3, 67, 0), (.invokestatic 42, 3, 88, 1), (.invokevirtual 48, 3, 52, 1), (.invokevirtual 51, 3, 69, 0), (.invokevirtual 54, 3, 62, 0), (.invokevirtual 57, 3, 64, 1), (.invokevirtual 60, 3, 53, 1), (.invokevirtual 63, 3, 54, 0), (.invokevirtual 66, 3, 55, 1), (.invokestatic 69, 3, 87, 1), (.invokevirtual 73, 3, 56, 0), (.invokevirtual 76, 3, 48, 2), (.invokestatic 79, 3, 9998, 0), (.invokevirtual 82, 3, 45, 1), (.invokevirtual 85, 3, 70, 1), (.invokevirtual 88, 3, 61, 1), (.newarray .int, 2, 0, 0), (.invokestatic 91, 3, 77, 2), (.invokestatic 96, 3, 90, 6), (.invokestatic 100, 3, 89, 1), (.invokevirtual 104, 3, 72, 0), (.invokevirtual 107, 3, 63, 1), (.invokestatic 110, 3, 91, 3), (.invokevirtual 113, 3, 65, 1), (.invokevirtual 116, 3, 71, 2), (.invokevirtual 119, 3, 68, 0), (.ldc2_w 122, 3, 0, 0), (.ldc2_w 124, 3, 0, 1), (.ldc2_w 126, 3, 0, 2), (.ldc2_w 128, 3, 0, 3), (.invokevirtual 130, 3, 66, 1), (.invokestatic 133, 3, 92, 1), (.invokevirtual 136, 3, 57, 0), (.new 8, 3, 0, 7), (.invokespecial 139, 3, 44, 0), (.invokestatic 140, 3, 85, 2), (.invokevirtual 144, 3, 58, 0), (.invokestatic 147, 3, 93, 1), (.invokestatic 151, 3, 86, 2), (.invokestatic 155, 3, 94, 2)]
set_option maxRecDepth 100000 in
theorem zTBk_7 (xs : List Int32) : ∀ x ∈ zTB_7, z_hok (za_T xs) za_P za_M "LyndonBenchLaw" x :=
  z_fc (zp_v rfl ⟨rfl, zd_60, zw_281, Nat.le_of_ble_eq_true rfl, ⟨_, Or.inl ⟨Nat.le_of_ble_eq_true rfl, rfl⟩, rfl⟩, zw_280, zw_282⟩) <|
  z_fc (zp_v rfl ⟨rfl, zd_59, zw_271, Nat.le_of_ble_eq_true rfl, ⟨_, Or.inl ⟨Nat.le_of_ble_eq_true rfl, rfl⟩, rfl⟩, zw_270, zw_272⟩) <|
  z_fc (zp_v rfl ⟨rfl, zd_46, zw_285, Nat.le_of_ble_eq_true rfl, ⟨_, Or.inl ⟨Nat.le_of_ble_eq_true rfl, rfl⟩, rfl⟩, zw_284, zw_286⟩) <|
  z_fc (zp_h rfl (fun _ _ => ⟨rfl, Or.inr ⟨rfl, zw_404, zw_405, zw_12, zw_406⟩⟩)) <|
  z_fc (zp_v rfl ⟨rfl, zd_47, zw_408, Nat.le_of_ble_eq_true rfl, ⟨_, Or.inl ⟨Nat.le_of_ble_eq_true rfl, rfl⟩, rfl⟩, zw_407, zw_409⟩) <|
  z_fc (zp_v rfl ⟨rfl, zd_49, zw_421, Nat.le_of_ble_eq_true rfl, ⟨_, Or.inl ⟨Nat.le_of_ble_eq_true rfl, rfl⟩, rfl⟩, zw_420, zw_422⟩) <|
  z_fc (zp_v rfl ⟨rfl, zd_50, zw_437, Nat.le_of_ble_eq_true rfl, ⟨_, Or.inl ⟨Nat.le_of_ble_eq_true rfl, rfl⟩, rfl⟩, zw_436, zw_438⟩) <|
  z_fc (zp_v rfl ⟨rfl, zd_51, zw_442, Nat.le_of_ble_eq_true rfl, ⟨_, Or.inl ⟨Nat.le_of_ble_eq_true rfl, rfl⟩, rfl⟩, zw_441, zw_443⟩) <|
  z_fc (zp_v rfl ⟨rfl, zd_67, zw_455, Nat.le_of_ble_eq_true rfl, ⟨_, Or.inl ⟨Nat.le_of_ble_eq_true rfl, rfl⟩, rfl⟩, zw_454, zw_456⟩) <|
  z_fc (zp_s rfl ⟨zd_88, zw_462, zw_463⟩) <|
  z_fc (zp_v rfl ⟨rfl, zd_52, zw_471, Nat.le_of_ble_eq_true rfl, ⟨_, Or.inl ⟨Nat.le_of_ble_eq_true rfl, rfl⟩, rfl⟩, zw_470, zw_472⟩) <|
  z_fc (zp_v rfl ⟨rfl, zd_69, zw_493, Nat.le_of_ble_eq_true rfl, ⟨_, Or.inl ⟨Nat.le_of_ble_eq_true rfl, rfl⟩, rfl⟩, zw_492, zw_494⟩) <|
  z_fc (zp_v rfl ⟨rfl, zd_62, zw_497, Nat.le_of_ble_eq_true rfl, ⟨_, Or.inl ⟨Nat.le_of_ble_eq_true rfl, rfl⟩, rfl⟩, zw_496, zw_498⟩) <|
  z_fc (zp_v rfl ⟨rfl, zd_64, zw_501, Nat.le_of_ble_eq_true rfl, ⟨_, Or.inl ⟨Nat.le_of_ble_eq_true rfl, rfl⟩, rfl⟩, zw_500, zw_502⟩) <|
  z_fc (zp_v rfl ⟨rfl, zd_53, zw_530, Nat.le_of_ble_eq_true rfl, ⟨_, Or.inl ⟨Nat.le_of_ble_eq_true rfl, rfl⟩, rfl⟩, zw_529, zw_531⟩) <|
  z_fc (zp_v rfl ⟨rfl, zd_54, zw_539, Nat.le_of_ble_eq_true rfl, ⟨_, Or.inl ⟨Nat.le_of_ble_eq_true rfl, rfl⟩, rfl⟩, zw_538, zw_540⟩) <|
  z_fc (zp_v rfl ⟨rfl, zd_55, zw_544, Nat.le_of_ble_eq_true rfl, ⟨_, Or.inl ⟨Nat.le_of_ble_eq_true rfl, rfl⟩, rfl⟩, zw_543, zw_545⟩) <|
  z_fc (zp_s rfl ⟨zd_87, zw_553, zw_554⟩) <|
  z_fc (zp_v rfl ⟨rfl, zd_56, zw_561, Nat.le_of_ble_eq_true rfl, ⟨_, Or.inl ⟨Nat.le_of_ble_eq_true rfl, rfl⟩, rfl⟩, zw_560, zw_562⟩) <|
  z_fc (zp_v rfl ⟨rfl, zd_48, zw_579, Nat.le_of_ble_eq_true rfl, ⟨_, Or.inl ⟨Nat.le_of_ble_eq_true rfl, rfl⟩, rfl⟩, zw_578, zw_580⟩) <|
  z_fc (zp_h rfl (fun _ _ => ⟨rfl, Or.inl ⟨rfl, zw_591, zw_47, zw_12, zw_48⟩⟩)) <|
  z_fc (zp_v rfl ⟨rfl, zd_45, zw_593, Nat.le_of_ble_eq_true rfl, ⟨_, Or.inl ⟨Nat.le_of_ble_eq_true rfl, rfl⟩, rfl⟩, zw_592, zw_594⟩) <|
  z_fc (zp_v rfl ⟨rfl, zd_70, zw_557, Nat.le_of_ble_eq_true rfl, ⟨_, Or.inl ⟨Nat.le_of_ble_eq_true rfl, rfl⟩, rfl⟩, zw_556, zw_558⟩) <|
  z_fc (zp_v rfl ⟨rfl, zd_61, zw_466, Nat.le_of_ble_eq_true rfl, ⟨_, Or.inl ⟨Nat.le_of_ble_eq_true rfl, rfl⟩, rfl⟩, zw_465, zw_467⟩) <|
  z_fc (zp_h rfl (fun _ _ => ⟨rfl, zw_140⟩)) <|
  z_fc (zp_s rfl ⟨zd_77, zw_635, zw_636⟩) <|
  z_fc (zp_s rfl ⟨zd_90, zw_632, zw_633⟩) <|
  z_fc (zp_s rfl ⟨zd_89, zw_609, zw_610⟩) <|
  z_fc (zp_v rfl ⟨rfl, zd_72, zw_613, Nat.le_of_ble_eq_true rfl, ⟨_, Or.inl ⟨Nat.le_of_ble_eq_true rfl, rfl⟩, rfl⟩, zw_612, zw_614⟩) <|
  z_fc (zp_v rfl ⟨rfl, zd_63, zw_626, Nat.le_of_ble_eq_true rfl, ⟨_, Or.inl ⟨Nat.le_of_ble_eq_true rfl, rfl⟩, rfl⟩, zw_625, zw_627⟩) <|
  z_fc (zp_s rfl ⟨zd_91, zw_629, zw_630⟩) <|
  z_fc (zp_v rfl ⟨rfl, zd_65, zw_639, Nat.le_of_ble_eq_true rfl, ⟨_, Or.inl ⟨Nat.le_of_ble_eq_true rfl, rfl⟩, rfl⟩, zw_638, zw_640⟩) <|
  z_fc (zp_v rfl ⟨rfl, zd_71, zw_647, Nat.le_of_ble_eq_true rfl, ⟨_, Or.inl ⟨Nat.le_of_ble_eq_true rfl, rfl⟩, rfl⟩, zw_646, zw_648⟩) <|
  z_fc (zp_v rfl ⟨rfl, zd_68, zw_651, Nat.le_of_ble_eq_true rfl, ⟨_, Or.inl ⟨Nat.le_of_ble_eq_true rfl, rfl⟩, rfl⟩, zw_650, zw_652⟩) <|
  z_fc (zp_h rfl (fun _ _ => ⟨rfl, _, rfl, zw_657⟩)) <|
  z_fc (zp_h rfl (fun _ _ => ⟨rfl, _, rfl, zw_658⟩)) <|
  z_fc (zp_h rfl (fun _ _ => ⟨rfl, _, rfl, zw_659⟩)) <|
  z_fc (zp_h rfl (fun _ _ => ⟨rfl, _, rfl, zw_660⟩)) <|
  z_fc (zp_v rfl ⟨rfl, zd_66, zw_665, Nat.le_of_ble_eq_true rfl, ⟨_, Or.inl ⟨Nat.le_of_ble_eq_true rfl, rfl⟩, rfl⟩, zw_664, zw_666⟩) <|
  z_fc (zp_s rfl ⟨zd_92, zw_606, zw_607⟩) <|
  z_fc (zp_v rfl ⟨rfl, zd_57, zw_244, Nat.le_of_ble_eq_true rfl, ⟨_, Or.inl ⟨Nat.le_of_ble_eq_true rfl, rfl⟩, rfl⟩, zw_243, zw_245⟩) <|
  z_fc (zp_h rfl (fun _ _ => ⟨rfl, Nat.le_of_ble_eq_true rfl, _, _, rfl, zn_0, zm_0, zw_26, zw_27, zw_9⟩)) <|
  z_fc (zp_n rfl ⟨rfl, zd_44, rfl, rfl, zw_29, Or.inl zw_28⟩) <|
  z_fc (zp_s rfl ⟨zd_85, zw_274, zw_275⟩) <|
  z_fc (zp_v rfl ⟨rfl, zd_58, zw_267, Nat.le_of_ble_eq_true rfl, ⟨_, Or.inl ⟨Nat.le_of_ble_eq_true rfl, rfl⟩, rfl⟩, zw_266, zw_268⟩) <|
  z_fc (zp_s rfl ⟨zd_93, zw_654, zw_655⟩) <|
  z_fc (zp_s rfl ⟨zd_86, zw_277, zw_278⟩) <|
  z_fc (zp_s rfl ⟨zd_94, zw_661, zw_662⟩) <|
  z_fn
end
section
/-! DECODINGS READ OFF THE BYTES, in one walk. -/
abbrev zdR : Type := Jvm.ClassFile.Decoder Nat
def zdu : zdR := Jvm.ClassFile.Reader.u1
theorem zdb {cc : ByteArray} {p : Nat} {b : UInt8} {r : List UInt8} (hL : cc.data.toList.drop p = b :: r) : zdu cc p = .ok (b.toNat, p + 1) := by
  have hlen := congrArg List.length hL
  rw [List.length_drop, List.length_cons] at hlen
  have hp : p < cc.size := by
    show p < cc.data.toList.length
    omega
  have hb : cc[p] = b := by
    have h1 : cc.data.toList[p]? = some b := by
      have h2 := congrArg (fun l : List UInt8 => l[0]?) hL
      rw [List.getElem?_drop] at h2
      exact h2
    exact (List.getElem?_eq_some_iff.mp h1).2
  have e : zdu cc p = (if h : p < cc.size then (do set (p + 1); pure (cc[p]).toNat : zdR) else throw (Jvm.ClassFile.HasTruncated.truncated p)) cc p := rfl
  rw [e, dif_pos hp, hb]
  rfl
theorem zdn {cc : ByteArray} {p : Nat} {b : UInt8} {r : List UInt8} (hL : cc.data.toList.drop p = b :: r) : cc.data.toList.drop (p + 1) = r := by
  rw [← List.drop_drop, hL]
  rfl
theorem zdk {K : Nat → Jvm.ClassFile.Decoder Instr} {n m : Nat} {i : Instr} {cc : ByteArray} {pc : Nat} (hI : Jvm.ClassFile.Decoder.instr pc = (zdu >>= K)) (h : zdu cc pc = .ok (n, pc + 1)) (hk : K n cc (pc + 1) = .ok (i, pc + m)) : decode cc pc = .ok (i, m) := by
  have e : Jvm.ClassFile.Decoder.instr pc cc pc = .ok (i, pc + m) := by
    rw [hI]
    show Except.bind (zdu cc pc) _ = _
    rw [h]
    exact hk
  unfold decode
  show Except.bind (Jvm.ClassFile.Decoder.instr pc cc pc) _ = _
  rw [e]
  show Except.ok (i, pc + m - pc) = _
  rw [Nat.add_sub_cancel_left]
theorem zd_u1 {f : Nat → Instr} {cc : ByteArray} {p b : Nat} (h : zdu cc p = .ok (b, p + 1)) : (zdu >>= fun x => (pure (f x) : Jvm.ClassFile.Decoder Instr)) cc p = .ok (f b, p + 1) := by
  show Except.bind (zdu cc p) _ = _
  rw [h]
  rfl
theorem zd_s1 {f : Int → Instr} {cc : ByteArray} {p b : Nat} (h : zdu cc p = .ok (b, p + 1)) : (Jvm.ClassFile.Reader.s1 >>= fun x => (pure (f x) : Jvm.ClassFile.Decoder Instr)) cc p = .ok (f (Jvm.ClassFile.Reader.signed 8 b), p + 1) := by
  show Except.bind (Except.bind (zdu cc p) _) _ = _
  rw [h]
  rfl
theorem zd_u2 {f : Nat → Instr} {cc : ByteArray} {p b c : Nat} (h : zdu cc p = .ok (b, p + 1)) (h2 : zdu cc (p + 1) = .ok (c, p + 2)) : (Jvm.ClassFile.Reader.u2 >>= fun x => (pure (f x) : Jvm.ClassFile.Decoder Instr)) cc p = .ok (f (b * 256 + c), p + 2) := by
  show Except.bind (Except.bind (zdu cc p) _) _ = _
  rw [h]
  show Except.bind (Except.bind (zdu cc (p + 1)) _) _ = _
  rw [h2]
  rfl
theorem zd_s2 {f : Int → Instr} {cc : ByteArray} {p b c : Nat} (h : zdu cc p = .ok (b, p + 1)) (h2 : zdu cc (p + 1) = .ok (c, p + 2)) : (Jvm.ClassFile.Reader.s2 >>= fun x => (pure (f x) : Jvm.ClassFile.Decoder Instr)) cc p = .ok (f (Jvm.ClassFile.Reader.signed 16 (b * 256 + c)), p + 2) := by
  show Except.bind (Except.bind (Except.bind (zdu cc p) _) _) _ = _
  rw [h]
  show Except.bind (Except.bind (Except.bind (zdu cc (p + 1)) _) _) _ = _
  rw [h2]
  rfl
theorem zd_ii {cc : ByteArray} {p b c : Nat} (h : zdu cc p = .ok (b, p + 1)) (h2 : zdu cc (p + 1) = .ok (c, p + 2)) : (zdu >>= fun x => Jvm.ClassFile.Reader.s1 >>= fun y => (pure (.iinc x y) : Jvm.ClassFile.Decoder Instr)) cc p = .ok (.iinc b (Jvm.ClassFile.Reader.signed 8 c), p + 2) := by
  show Except.bind (zdu cc p) _ = _
  rw [h]
  show Except.bind (Except.bind (zdu cc (p + 1)) _) _ = _
  rw [h2]
  rfl
/-- what the leaves of the tree say -/
def zdP (L : List UInt8) (i : Instr) (len : Nat) : Prop := ∀ (cc : ByteArray) (pc : Nat), cc.data.toList.drop pc = L → decode cc pc = .ok (i, len)
def zD1 (n : Nat) (I : Instr) : Prop := ∀ (cc : ByteArray) (pc : Nat), zdu cc pc = .ok (n, pc + 1) → decode cc pc = .ok (I, 1)
def zD2 (n : Nat) (f : Nat → Instr) : Prop := ∀ (cc : ByteArray) (pc b : Nat), zdu cc pc = .ok (n, pc + 1) → zdu cc (pc + 1) = .ok (b, pc + 1 + 1) → decode cc pc = .ok (f b, 2)
def zD3 (n : Nat) (f : Nat → Instr) : Prop := ∀ (cc : ByteArray) (pc b c : Nat), zdu cc pc = .ok (n, pc + 1) → zdu cc (pc + 1) = .ok (b, pc + 1 + 1) → zdu cc (pc + 1 + 1) = .ok (c, pc + 1 + 2) → decode cc pc = .ok (f (b * 256 + c), 3)
def zD4 (n : Nat) (f : Int → Instr) : Prop := ∀ (cc : ByteArray) (pc b c : Nat), zdu cc pc = .ok (n, pc + 1) → zdu cc (pc + 1) = .ok (b, pc + 1 + 1) → zdu cc (pc + 1 + 1) = .ok (c, pc + 1 + 2) → decode cc pc = .ok (f (Jvm.ClassFile.Reader.signed 16 (b * 256 + c)), 3)
def zl1 (n : Nat) (I : Instr) (op : Nat) (i : Instr) (len : Nat) : Bool := Nat.beq op n && (Nat.beq len 1 && decide (i = I))
def zl2 (n : Nat) (f : Nat → Instr) (op : Nat) (r : List UInt8) (i : Instr) (len : Nat) : Bool := Nat.beq op n && (Nat.beq len 2 && (match r with | b :: _ => decide (i = f b.toNat) | [] => false))
def zl3 (n : Nat) (f : Nat → Instr) (op : Nat) (r : List UInt8) (i : Instr) (len : Nat) : Bool := Nat.beq op n && (Nat.beq len 3 && (match r with | b :: c :: _ => decide (i = f (b.toNat * 256 + c.toNat)) | _ => false))
def zl4 (n : Nat) (f : Int → Instr) (op : Nat) (r : List UInt8) (i : Instr) (len : Nat) : Bool := Nat.beq op n && (Nat.beq len 3 && (match r with | b :: c :: _ => decide (i = f (Jvm.ClassFile.Reader.signed 16 (b.toNat * 256 + c.toNat))) | _ => false))
def zl5 (op : Nat) (r : List UInt8) (i : Instr) (len : Nat) : Bool := Nat.beq op 16 && (Nat.beq len 2 && (match r with | b :: _ => decide (i = .bipush (Jvm.ClassFile.Reader.signed 8 b.toNat)) | [] => false))
def zl6 (op : Nat) (r : List UInt8) (i : Instr) (len : Nat) : Bool := Nat.beq op 132 && (Nat.beq len 3 && (match r with | b :: c :: _ => decide (i = .iinc b.toNat (Jvm.ClassFile.Reader.signed 8 c.toNat)) | _ => false))
section ZDL
variable {op len n : Nat} {a : UInt8} {r : List UInt8} {i : Instr}
theorem zl1_ok {I : Instr} (hD : zD1 n I) (h : zl1 n I a.toNat i len = true) : zdP (a :: r) i len := by
  intro cc pc hL
  obtain ⟨g1, g2⟩ := z_and h
  obtain ⟨g3, g4⟩ := z_and g2
  have h1 := Nat.eq_of_beq_eq_true g1
  have h2 := Nat.eq_of_beq_eq_true g3
  have h3 := of_decide_eq_true g4
  subst h2; subst h3
  have := zdb hL
  rw [h1] at this
  exact hD cc pc this
theorem zl2_ok {f : Nat → Instr} (hD : zD2 n f) (h : zl2 n f a.toNat r i len = true) : zdP (a :: r) i len := by
  intro cc pc hL
  obtain ⟨g1, g2⟩ := z_and h
  obtain ⟨g3, g4⟩ := z_and g2
  have h1 := Nat.eq_of_beq_eq_true g1
  have h2 := Nat.eq_of_beq_eq_true g3
  cases r with
  | nil => cases g4
  | cons b r =>
    have h3 := of_decide_eq_true g4
    subst h2; subst h3
    have := zdb hL
    rw [h1] at this
    exact hD cc pc _ this (zdb (zdn hL))
theorem zl3_ok {f : Nat → Instr} (hD : zD3 n f) (h : zl3 n f a.toNat r i len = true) : zdP (a :: r) i len := by
  intro cc pc hL
  obtain ⟨g1, g2⟩ := z_and h
  obtain ⟨g3, g4⟩ := z_and g2
  have h1 := Nat.eq_of_beq_eq_true g1
  have h2 := Nat.eq_of_beq_eq_true g3
  cases r with
  | nil => cases g4
  | cons b r => cases r with
    | nil => cases g4
    | cons c r =>
      have h3 := of_decide_eq_true g4
      subst h2; subst h3
      have := zdb hL
      rw [h1] at this
      exact hD cc pc _ _ this (zdb (zdn hL)) (zdb (zdn (zdn hL)))
theorem zl4_ok {f : Int → Instr} (hD : zD4 n f) (h : zl4 n f a.toNat r i len = true) : zdP (a :: r) i len := by
  intro cc pc hL
  obtain ⟨g1, g2⟩ := z_and h
  obtain ⟨g3, g4⟩ := z_and g2
  have h1 := Nat.eq_of_beq_eq_true g1
  have h2 := Nat.eq_of_beq_eq_true g3
  cases r with
  | nil => cases g4
  | cons b r => cases r with
    | nil => cases g4
    | cons c r =>
      have h3 := of_decide_eq_true g4
      subst h2; subst h3
      have := zdb hL
      rw [h1] at this
      exact hD cc pc _ _ this (zdb (zdn hL)) (zdb (zdn (zdn hL)))
theorem zl5_ok (h : zl5 a.toNat r i len = true) : zdP (a :: r) i len := by
  intro cc pc hL
  obtain ⟨g1, g2⟩ := z_and h
  obtain ⟨g3, g4⟩ := z_and g2
  have h1 := Nat.eq_of_beq_eq_true g1
  have h2 := Nat.eq_of_beq_eq_true g3
  cases r with
  | nil => cases g4
  | cons b r =>
    have h3 := of_decide_eq_true g4
    subst h2; subst h3
    have := zdb hL
    rw [h1] at this
    exact zdk rfl this (zd_s1 (f := .bipush) (zdb (zdn hL)))
theorem zl6_ok (h : zl6 a.toNat r i len = true) : zdP (a :: r) i len := by
  intro cc pc hL
  obtain ⟨g1, g2⟩ := z_and h
  obtain ⟨g3, g4⟩ := z_and g2
  have h1 := Nat.eq_of_beq_eq_true g1
  have h2 := Nat.eq_of_beq_eq_true g3
  cases r with
  | nil => cases g4
  | cons b r => cases r with
    | nil => cases g4
    | cons c r =>
      have h3 := of_decide_eq_true g4
      subst h2; subst h3
      have := zdb hL
      rw [h1] at this
      exact zdk rfl this (zd_ii (zdb (zdn hL)) (zdb (zdn (zdn hL))))
theorem zcd {c x y : Bool} {P : Prop} (h : cond c x y = true) (h1 : x = true → P) (h2 : y = true → P) : P := by
  cases c with
  | true => exact h1 h
  | false => exact h2 h
end ZDL
theorem zD_1 : zD1 1 (.aconst_null) := fun _ _ h => zdk rfl h rfl
theorem zD_2 : zD1 2 (.iconst (-1)) := fun _ _ h => zdk rfl h rfl
theorem zD_3 : zD1 3 (.iconst 0) := fun _ _ h => zdk rfl h rfl
theorem zD_4 : zD1 4 (.iconst 1) := fun _ _ h => zdk rfl h rfl
theorem zD_5 : zD1 5 (.iconst 2) := fun _ _ h => zdk rfl h rfl
theorem zD_6 : zD1 6 (.iconst 3) := fun _ _ h => zdk rfl h rfl
theorem zD_7 : zD1 7 (.iconst 4) := fun _ _ h => zdk rfl h rfl
theorem zD_8 : zD1 8 (.iconst 5) := fun _ _ h => zdk rfl h rfl
theorem zD_9 : zD1 9 (.lconst 0) := fun _ _ h => zdk rfl h rfl
theorem zD_10 : zD1 10 (.lconst 1) := fun _ _ h => zdk rfl h rfl
theorem zD_11 : zD1 11 (.fconst 0) := fun _ _ h => zdk rfl h rfl
theorem zD_14 : zD1 14 (.dconst 0) := fun _ _ h => zdk rfl h rfl
theorem zD_26 : zD1 26 (.iload_n 0) := fun _ _ h => zdk rfl h rfl
theorem zD_30 : zD1 30 (.lload_n 0) := fun _ _ h => zdk rfl h rfl
theorem zD_34 : zD1 34 (.fload_n 0) := fun _ _ h => zdk rfl h rfl
theorem zD_38 : zD1 38 (.dload_n 0) := fun _ _ h => zdk rfl h rfl
theorem zD_42 : zD1 42 (.aload_n 0) := fun _ _ h => zdk rfl h rfl
theorem zD_59 : zD1 59 (.istore_n 0) := fun _ _ h => zdk rfl h rfl
theorem zD_63 : zD1 63 (.lstore_n 0) := fun _ _ h => zdk rfl h rfl
theorem zD_67 : zD1 67 (.fstore_n 0) := fun _ _ h => zdk rfl h rfl
theorem zD_71 : zD1 71 (.dstore_n 0) := fun _ _ h => zdk rfl h rfl
theorem zD_75 : zD1 75 (.astore_n 0) := fun _ _ h => zdk rfl h rfl
theorem zD_27 : zD1 27 (.iload_n 1) := fun _ _ h => zdk rfl h rfl
theorem zD_31 : zD1 31 (.lload_n 1) := fun _ _ h => zdk rfl h rfl
theorem zD_35 : zD1 35 (.fload_n 1) := fun _ _ h => zdk rfl h rfl
theorem zD_39 : zD1 39 (.dload_n 1) := fun _ _ h => zdk rfl h rfl
theorem zD_43 : zD1 43 (.aload_n 1) := fun _ _ h => zdk rfl h rfl
theorem zD_60 : zD1 60 (.istore_n 1) := fun _ _ h => zdk rfl h rfl
theorem zD_64 : zD1 64 (.lstore_n 1) := fun _ _ h => zdk rfl h rfl
theorem zD_68 : zD1 68 (.fstore_n 1) := fun _ _ h => zdk rfl h rfl
theorem zD_72 : zD1 72 (.dstore_n 1) := fun _ _ h => zdk rfl h rfl
theorem zD_76 : zD1 76 (.astore_n 1) := fun _ _ h => zdk rfl h rfl
theorem zD_28 : zD1 28 (.iload_n 2) := fun _ _ h => zdk rfl h rfl
theorem zD_32 : zD1 32 (.lload_n 2) := fun _ _ h => zdk rfl h rfl
theorem zD_36 : zD1 36 (.fload_n 2) := fun _ _ h => zdk rfl h rfl
theorem zD_40 : zD1 40 (.dload_n 2) := fun _ _ h => zdk rfl h rfl
theorem zD_44 : zD1 44 (.aload_n 2) := fun _ _ h => zdk rfl h rfl
theorem zD_61 : zD1 61 (.istore_n 2) := fun _ _ h => zdk rfl h rfl
theorem zD_65 : zD1 65 (.lstore_n 2) := fun _ _ h => zdk rfl h rfl
theorem zD_69 : zD1 69 (.fstore_n 2) := fun _ _ h => zdk rfl h rfl
theorem zD_73 : zD1 73 (.dstore_n 2) := fun _ _ h => zdk rfl h rfl
theorem zD_77 : zD1 77 (.astore_n 2) := fun _ _ h => zdk rfl h rfl
theorem zD_29 : zD1 29 (.iload_n 3) := fun _ _ h => zdk rfl h rfl
theorem zD_33 : zD1 33 (.lload_n 3) := fun _ _ h => zdk rfl h rfl
theorem zD_37 : zD1 37 (.fload_n 3) := fun _ _ h => zdk rfl h rfl
theorem zD_41 : zD1 41 (.dload_n 3) := fun _ _ h => zdk rfl h rfl
theorem zD_45 : zD1 45 (.aload_n 3) := fun _ _ h => zdk rfl h rfl
theorem zD_62 : zD1 62 (.istore_n 3) := fun _ _ h => zdk rfl h rfl
theorem zD_66 : zD1 66 (.lstore_n 3) := fun _ _ h => zdk rfl h rfl
theorem zD_70 : zD1 70 (.fstore_n 3) := fun _ _ h => zdk rfl h rfl
theorem zD_74 : zD1 74 (.dstore_n 3) := fun _ _ h => zdk rfl h rfl
theorem zD_78 : zD1 78 (.astore_n 3) := fun _ _ h => zdk rfl h rfl
theorem zD_46 : zD1 46 (.iaload) := fun _ _ h => zdk rfl h rfl
theorem zD_47 : zD1 47 (.laload) := fun _ _ h => zdk rfl h rfl
theorem zD_50 : zD1 50 (.aaload) := fun _ _ h => zdk rfl h rfl
theorem zD_51 : zD1 51 (.baload) := fun _ _ h => zdk rfl h rfl
theorem zD_52 : zD1 52 (.caload) := fun _ _ h => zdk rfl h rfl
theorem zD_79 : zD1 79 (.iastore) := fun _ _ h => zdk rfl h rfl
theorem zD_80 : zD1 80 (.lastore) := fun _ _ h => zdk rfl h rfl
theorem zD_83 : zD1 83 (.aastore) := fun _ _ h => zdk rfl h rfl
theorem zD_84 : zD1 84 (.bastore) := fun _ _ h => zdk rfl h rfl
theorem zD_85 : zD1 85 (.castore) := fun _ _ h => zdk rfl h rfl
theorem zD_87 : zD1 87 (.pop) := fun _ _ h => zdk rfl h rfl
theorem zD_89 : zD1 89 (.dup) := fun _ _ h => zdk rfl h rfl
theorem zD_92 : zD1 92 (.dup2) := fun _ _ h => zdk rfl h rfl
theorem zD_96 : zD1 96 (.iadd) := fun _ _ h => zdk rfl h rfl
theorem zD_97 : zD1 97 (.ladd) := fun _ _ h => zdk rfl h rfl
theorem zD_100 : zD1 100 (.isub) := fun _ _ h => zdk rfl h rfl
theorem zD_101 : zD1 101 (.lsub) := fun _ _ h => zdk rfl h rfl
theorem zD_104 : zD1 104 (.imul) := fun _ _ h => zdk rfl h rfl
theorem zD_105 : zD1 105 (.lmul) := fun _ _ h => zdk rfl h rfl
theorem zD_108 : zD1 108 (.idiv) := fun _ _ h => zdk rfl h rfl
theorem zD_109 : zD1 109 (.ldiv) := fun _ _ h => zdk rfl h rfl
theorem zD_110 : zD1 110 (.fdiv) := fun _ _ h => zdk rfl h rfl
theorem zD_111 : zD1 111 (.ddiv) := fun _ _ h => zdk rfl h rfl
theorem zD_112 : zD1 112 (.irem) := fun _ _ h => zdk rfl h rfl
theorem zD_120 : zD1 120 (.ishl) := fun _ _ h => zdk rfl h rfl
theorem zD_122 : zD1 122 (.ishr) := fun _ _ h => zdk rfl h rfl
theorem zD_124 : zD1 124 (.iushr) := fun _ _ h => zdk rfl h rfl
theorem zD_126 : zD1 126 (.iand) := fun _ _ h => zdk rfl h rfl
theorem zD_128 : zD1 128 (.ior) := fun _ _ h => zdk rfl h rfl
theorem zD_133 : zD1 133 (.i2l) := fun _ _ h => zdk rfl h rfl
theorem zD_135 : zD1 135 (.i2d) := fun _ _ h => zdk rfl h rfl
theorem zD_137 : zD1 137 (.l2f) := fun _ _ h => zdk rfl h rfl
theorem zD_141 : zD1 141 (.f2d) := fun _ _ h => zdk rfl h rfl
theorem zD_145 : zD1 145 (.i2b) := fun _ _ h => zdk rfl h rfl
theorem zD_146 : zD1 146 (.i2c) := fun _ _ h => zdk rfl h rfl
theorem zD_148 : zD1 148 (.lcmp) := fun _ _ h => zdk rfl h rfl
theorem zD_172 : zD1 172 (.ireturn) := fun _ _ h => zdk rfl h rfl
theorem zD_173 : zD1 173 (.lreturn) := fun _ _ h => zdk rfl h rfl
theorem zD_174 : zD1 174 (.freturn) := fun _ _ h => zdk rfl h rfl
theorem zD_175 : zD1 175 (.dreturn) := fun _ _ h => zdk rfl h rfl
theorem zD_176 : zD1 176 (.areturn) := fun _ _ h => zdk rfl h rfl
theorem zD_177 : zD1 177 (.return_) := fun _ _ h => zdk rfl h rfl
theorem zD_190 : zD1 190 (.arraylength) := fun _ _ h => zdk rfl h rfl
theorem zD_149 : zD1 149 (.fcmp .l) := fun _ _ h => zdk rfl h rfl
theorem zD_150 : zD1 150 (.fcmp .g) := fun _ _ h => zdk rfl h rfl
theorem zD_151 : zD1 151 (.dcmp .l) := fun _ _ h => zdk rfl h rfl
theorem zD_152 : zD1 152 (.dcmp .g) := fun _ _ h => zdk rfl h rfl
theorem zD_18 : zD2 18 .ldc := fun _ _ _ h h1 => zdk rfl h (zd_u1 (f := .ldc) h1)
theorem zD_21 : zD2 21 .iload := fun _ _ _ h h1 => zdk rfl h (zd_u1 (f := .iload) h1)
theorem zD_22 : zD2 22 .lload := fun _ _ _ h h1 => zdk rfl h (zd_u1 (f := .lload) h1)
theorem zD_23 : zD2 23 .fload := fun _ _ _ h h1 => zdk rfl h (zd_u1 (f := .fload) h1)
theorem zD_24 : zD2 24 .dload := fun _ _ _ h h1 => zdk rfl h (zd_u1 (f := .dload) h1)
theorem zD_25 : zD2 25 .aload := fun _ _ _ h h1 => zdk rfl h (zd_u1 (f := .aload) h1)
theorem zD_54 : zD2 54 .istore := fun _ _ _ h h1 => zdk rfl h (zd_u1 (f := .istore) h1)
theorem zD_55 : zD2 55 .lstore := fun _ _ _ h h1 => zdk rfl h (zd_u1 (f := .lstore) h1)
theorem zD_56 : zD2 56 .fstore := fun _ _ _ h h1 => zdk rfl h (zd_u1 (f := .fstore) h1)
theorem zD_57 : zD2 57 .dstore := fun _ _ _ h h1 => zdk rfl h (zd_u1 (f := .dstore) h1)
theorem zD_58 : zD2 58 .astore := fun _ _ _ h h1 => zdk rfl h (zd_u1 (f := .astore) h1)
theorem zD_19 : zD3 19 .ldc_w := fun _ _ _ _ h h1 h2 => zdk rfl h (zd_u2 (f := .ldc_w) h1 h2)
theorem zD_20 : zD3 20 .ldc2_w := fun _ _ _ _ h h1 h2 => zdk rfl h (zd_u2 (f := .ldc2_w) h1 h2)
theorem zD_178 : zD3 178 .getstatic := fun _ _ _ _ h h1 h2 => zdk rfl h (zd_u2 (f := .getstatic) h1 h2)
theorem zD_180 : zD3 180 .getfield := fun _ _ _ _ h h1 h2 => zdk rfl h (zd_u2 (f := .getfield) h1 h2)
theorem zD_181 : zD3 181 .putfield := fun _ _ _ _ h h1 h2 => zdk rfl h (zd_u2 (f := .putfield) h1 h2)
theorem zD_182 : zD3 182 .invokevirtual := fun _ _ _ _ h h1 h2 => zdk rfl h (zd_u2 (f := .invokevirtual) h1 h2)
theorem zD_183 : zD3 183 .invokespecial := fun _ _ _ _ h h1 h2 => zdk rfl h (zd_u2 (f := .invokespecial) h1 h2)
theorem zD_184 : zD3 184 .invokestatic := fun _ _ _ _ h h1 h2 => zdk rfl h (zd_u2 (f := .invokestatic) h1 h2)
theorem zD_187 : zD3 187 .new := fun _ _ _ _ h h1 h2 => zdk rfl h (zd_u2 (f := .new) h1 h2)
theorem zD_189 : zD3 189 .anewarray := fun _ _ _ _ h h1 h2 => zdk rfl h (zd_u2 (f := .anewarray) h1 h2)
theorem zD_17 : zD4 17 (fun x => .sipush x) := fun _ _ _ _ h h1 h2 => zdk rfl h (zd_s2 (f := fun x => .sipush x) h1 h2)
theorem zD_166 : zD4 166 (fun x => .if_acmp .ne x) := fun _ _ _ _ h h1 h2 => zdk rfl h (zd_s2 (f := fun x => .if_acmp .ne x) h1 h2)
theorem zD_167 : zD4 167 (fun x => .goto x) := fun _ _ _ _ h h1 h2 => zdk rfl h (zd_s2 (f := fun x => .goto x) h1 h2)
theorem zD_198 : zD4 198 (fun x => .ifnull x) := fun _ _ _ _ h h1 h2 => zdk rfl h (zd_s2 (f := fun x => .ifnull x) h1 h2)
theorem zD_199 : zD4 199 (fun x => .ifnonnull x) := fun _ _ _ _ h h1 h2 => zdk rfl h (zd_s2 (f := fun x => .ifnonnull x) h1 h2)
theorem zD_153 : zD4 153 (fun x => .ifCond .eq x) := fun _ _ _ _ h h1 h2 => zdk rfl h (zd_s2 (f := fun x => .ifCond .eq x) h1 h2)
theorem zD_159 : zD4 159 (fun x => .if_icmp .eq x) := fun _ _ _ _ h h1 h2 => zdk rfl h (zd_s2 (f := fun x => .if_icmp .eq x) h1 h2)
theorem zD_154 : zD4 154 (fun x => .ifCond .ne x) := fun _ _ _ _ h h1 h2 => zdk rfl h (zd_s2 (f := fun x => .ifCond .ne x) h1 h2)
theorem zD_160 : zD4 160 (fun x => .if_icmp .ne x) := fun _ _ _ _ h h1 h2 => zdk rfl h (zd_s2 (f := fun x => .if_icmp .ne x) h1 h2)
theorem zD_155 : zD4 155 (fun x => .ifCond .lt x) := fun _ _ _ _ h h1 h2 => zdk rfl h (zd_s2 (f := fun x => .ifCond .lt x) h1 h2)
theorem zD_161 : zD4 161 (fun x => .if_icmp .lt x) := fun _ _ _ _ h h1 h2 => zdk rfl h (zd_s2 (f := fun x => .if_icmp .lt x) h1 h2)
theorem zD_156 : zD4 156 (fun x => .ifCond .ge x) := fun _ _ _ _ h h1 h2 => zdk rfl h (zd_s2 (f := fun x => .ifCond .ge x) h1 h2)
theorem zD_162 : zD4 162 (fun x => .if_icmp .ge x) := fun _ _ _ _ h h1 h2 => zdk rfl h (zd_s2 (f := fun x => .if_icmp .ge x) h1 h2)
theorem zD_157 : zD4 157 (fun x => .ifCond .gt x) := fun _ _ _ _ h h1 h2 => zdk rfl h (zd_s2 (f := fun x => .ifCond .gt x) h1 h2)
theorem zD_163 : zD4 163 (fun x => .if_icmp .gt x) := fun _ _ _ _ h h1 h2 => zdk rfl h (zd_s2 (f := fun x => .if_icmp .gt x) h1 h2)
theorem zD_158 : zD4 158 (fun x => .ifCond .le x) := fun _ _ _ _ h h1 h2 => zdk rfl h (zd_s2 (f := fun x => .ifCond .le x) h1 h2)
theorem zD_164 : zD4 164 (fun x => .if_icmp .le x) := fun _ _ _ _ h h1 h2 => zdk rfl h (zd_s2 (f := fun x => .if_icmp .le x) h1 h2)
def zdt (op : Nat) (r : List UInt8) (i : Instr) (len : Nat) : Bool := cond (Nat.ble op 75) (cond (Nat.ble op 37) (cond (Nat.ble op 20) (cond (Nat.ble op 8) (cond (Nat.ble op 4) (cond (Nat.ble op 2) (cond (Nat.ble op 1) (zl1 1 (.aconst_null) op i len) (zl1 2 (.iconst (-1)) op i len)) (cond (Nat.ble op 3) (zl1 3 (.iconst 0) op i len) (zl1 4 (.iconst 1) op i len))) (cond (Nat.ble op 6) (cond (Nat.ble op 5) (zl1 5 (.iconst 2) op i len) (zl1 6 (.iconst 3) op i len)) (cond (Nat.ble op 7) (zl1 7 (.iconst 4) op i len) (zl1 8 (.iconst 5) op i len)))) (cond (Nat.ble op 14) (cond (Nat.ble op 10) (cond (Nat.ble op 9) (zl1 9 (.lconst 0) op i len) (zl1 10 (.lconst 1) op i len)) (cond (Nat.ble op 11) (zl1 11 (.fconst 0) op i len) (zl1 14 (.dconst 0) op i len))) (cond (Nat.ble op 17) (cond (Nat.ble op 16) (zl5 op r i len) (zl4 17 (fun x => .sipush x) op r i len)) (cond (Nat.ble op 18) (zl2 18 .ldc op r i len) (cond (Nat.ble op 19) (zl3 19 .ldc_w op r i len) (zl3 20 .ldc2_w op r i len)))))) (cond (Nat.ble op 28) (cond (Nat.ble op 24) (cond (Nat.ble op 22) (cond (Nat.ble op 21) (zl2 21 .iload op r i len) (zl2 22 .lload op r i len)) (cond (Nat.ble op 23) (zl2 23 .fload op r i len) (zl2 24 .dload op r i len))) (cond (Nat.ble op 26) (cond (Nat.ble op 25) (zl2 25 .aload op r i len) (zl1 26 (.iload_n 0) op i len)) (cond (Nat.ble op 27) (zl1 27 (.iload_n 1) op i len) (zl1 28 (.iload_n 2) op i len)))) (cond (Nat.ble op 32) (cond (Nat.ble op 30) (cond (Nat.ble op 29) (zl1 29 (.iload_n 3) op i len) (zl1 30 (.lload_n 0) op i len)) (cond (Nat.ble op 31) (zl1 31 (.lload_n 1) op i len) (zl1 32 (.lload_n 2) op i len))) (cond (Nat.ble op 34) (cond (Nat.ble op 33) (zl1 33 (.lload_n 3) op i len) (zl1 34 (.fload_n 0) op i len)) (cond (Nat.ble op 35) (zl1 35 (.fload_n 1) op i len) (cond (Nat.ble op 36) (zl1 36 (.fload_n 2) op i len) (zl1 37 (.fload_n 3) op i len))))))) (cond (Nat.ble op 57) (cond (Nat.ble op 45) (cond (Nat.ble op 41) (cond (Nat.ble op 39) (cond (Nat.ble op 38) (zl1 38 (.dload_n 0) op i len) (zl1 39 (.dload_n 1) op i len)) (cond (Nat.ble op 40) (zl1 40 (.dload_n 2) op i len) (zl1 41 (.dload_n 3) op i len))) (cond (Nat.ble op 43) (cond (Nat.ble op 42) (zl1 42 (.aload_n 0) op i len) (zl1 43 (.aload_n 1) op i len)) (cond (Nat.ble op 44) (zl1 44 (.aload_n 2) op i len) (zl1 45 (.aload_n 3) op i len)))) (cond (Nat.ble op 51) (cond (Nat.ble op 47) (cond (Nat.ble op 46) (zl1 46 (.iaload) op i len) (zl1 47 (.laload) op i len)) (cond (Nat.ble op 50) (zl1 50 (.aaload) op i len) (zl1 51 (.baload) op i len))) (cond (Nat.ble op 54) (cond (Nat.ble op 52) (zl1 52 (.caload) op i len) (zl2 54 .istore op r i len)) (cond (Nat.ble op 55) (zl2 55 .lstore op r i len) (cond (Nat.ble op 56) (zl2 56 .fstore op r i len) (zl2 57 .dstore op r i len)))))) (cond (Nat.ble op 66) (cond (Nat.ble op 61) (cond (Nat.ble op 59) (cond (Nat.ble op 58) (zl2 58 .astore op r i len) (zl1 59 (.istore_n 0) op i len)) (cond (Nat.ble op 60) (zl1 60 (.istore_n 1) op i len) (zl1 61 (.istore_n 2) op i len))) (cond (Nat.ble op 63) (cond (Nat.ble op 62) (zl1 62 (.istore_n 3) op i len) (zl1 63 (.lstore_n 0) op i len)) (cond (Nat.ble op 64) (zl1 64 (.lstore_n 1) op i len) (cond (Nat.ble op 65) (zl1 65 (.lstore_n 2) op i len) (zl1 66 (.lstore_n 3) op i len))))) (cond (Nat.ble op 70) (cond (Nat.ble op 68) (cond (Nat.ble op 67) (zl1 67 (.fstore_n 0) op i len) (zl1 68 (.fstore_n 1) op i len)) (cond (Nat.ble op 69) (zl1 69 (.fstore_n 2) op i len) (zl1 70 (.fstore_n 3) op i len))) (cond (Nat.ble op 72) (cond (Nat.ble op 71) (zl1 71 (.dstore_n 0) op i len) (zl1 72 (.dstore_n 1) op i len)) (cond (Nat.ble op 73) (zl1 73 (.dstore_n 2) op i len) (cond (Nat.ble op 74) (zl1 74 (.dstore_n 3) op i len) (zl1 75 (.astore_n 0) op i len)))))))) (cond (Nat.ble op 148) (cond (Nat.ble op 105) (cond (Nat.ble op 85) (cond (Nat.ble op 79) (cond (Nat.ble op 77) (cond (Nat.ble op 76) (zl1 76 (.astore_n 1) op i len) (zl1 77 (.astore_n 2) op i len)) (cond (Nat.ble op 78) (zl1 78 (.astore_n 3) op i len) (zl1 79 (.iastore) op i len))) (cond (Nat.ble op 83) (cond (Nat.ble op 80) (zl1 80 (.lastore) op i len) (zl1 83 (.aastore) op i len)) (cond (Nat.ble op 84) (zl1 84 (.bastore) op i len) (zl1 85 (.castore) op i len)))) (cond (Nat.ble op 96) (cond (Nat.ble op 89) (cond (Nat.ble op 87) (zl1 87 (.pop) op i len) (zl1 89 (.dup) op i len)) (cond (Nat.ble op 92) (zl1 92 (.dup2) op i len) (zl1 96 (.iadd) op i len))) (cond (Nat.ble op 100) (cond (Nat.ble op 97) (zl1 97 (.ladd) op i len) (zl1 100 (.isub) op i len)) (cond (Nat.ble op 101) (zl1 101 (.lsub) op i len) (cond (Nat.ble op 104) (zl1 104 (.imul) op i len) (zl1 105 (.lmul) op i len)))))) (cond (Nat.ble op 126) (cond (Nat.ble op 111) (cond (Nat.ble op 109) (cond (Nat.ble op 108) (zl1 108 (.idiv) op i len) (zl1 109 (.ldiv) op i len)) (cond (Nat.ble op 110) (zl1 110 (.fdiv) op i len) (zl1 111 (.ddiv) op i len))) (cond (Nat.ble op 120) (cond (Nat.ble op 112) (zl1 112 (.irem) op i len) (zl1 120 (.ishl) op i len)) (cond (Nat.ble op 122) (zl1 122 (.ishr) op i len) (cond (Nat.ble op 124) (zl1 124 (.iushr) op i len) (zl1 126 (.iand) op i len))))) (cond (Nat.ble op 135) (cond (Nat.ble op 132) (cond (Nat.ble op 128) (zl1 128 (.ior) op i len) (zl6 op r i len)) (cond (Nat.ble op 133) (zl1 133 (.i2l) op i len) (zl1 135 (.i2d) op i len))) (cond (Nat.ble op 141) (cond (Nat.ble op 137) (zl1 137 (.l2f) op i len) (zl1 141 (.f2d) op i len)) (cond (Nat.ble op 145) (zl1 145 (.i2b) op i len) (cond (Nat.ble op 146) (zl1 146 (.i2c) op i len) (zl1 148 (.lcmp) op i len))))))) (cond (Nat.ble op 166) (cond (Nat.ble op 156) (cond (Nat.ble op 152) (cond (Nat.ble op 150) (cond (Nat.ble op 149) (zl1 149 (.fcmp .l) op i len) (zl1 150 (.fcmp .g) op i len)) (cond (Nat.ble op 151) (zl1 151 (.dcmp .l) op i len) (zl1 152 (.dcmp .g) op i len))) (cond (Nat.ble op 154) (cond (Nat.ble op 153) (zl4 153 (fun x => .ifCond .eq x) op r i len) (zl4 154 (fun x => .ifCond .ne x) op r i len)) (cond (Nat.ble op 155) (zl4 155 (fun x => .ifCond .lt x) op r i len) (zl4 156 (fun x => .ifCond .ge x) op r i len)))) (cond (Nat.ble op 160) (cond (Nat.ble op 158) (cond (Nat.ble op 157) (zl4 157 (fun x => .ifCond .gt x) op r i len) (zl4 158 (fun x => .ifCond .le x) op r i len)) (cond (Nat.ble op 159) (zl4 159 (fun x => .if_icmp .eq x) op r i len) (zl4 160 (fun x => .if_icmp .ne x) op r i len))) (cond (Nat.ble op 162) (cond (Nat.ble op 161) (zl4 161 (fun x => .if_icmp .lt x) op r i len) (zl4 162 (fun x => .if_icmp .ge x) op r i len)) (cond (Nat.ble op 163) (zl4 163 (fun x => .if_icmp .gt x) op r i len) (cond (Nat.ble op 164) (zl4 164 (fun x => .if_icmp .le x) op r i len) (zl4 166 (fun x => .if_acmp .ne x) op r i len)))))) (cond (Nat.ble op 180) (cond (Nat.ble op 174) (cond (Nat.ble op 172) (cond (Nat.ble op 167) (zl4 167 (fun x => .goto x) op r i len) (zl1 172 (.ireturn) op i len)) (cond (Nat.ble op 173) (zl1 173 (.lreturn) op i len) (zl1 174 (.freturn) op i len))) (cond (Nat.ble op 176) (cond (Nat.ble op 175) (zl1 175 (.dreturn) op i len) (zl1 176 (.areturn) op i len)) (cond (Nat.ble op 177) (zl1 177 (.return_) op i len) (cond (Nat.ble op 178) (zl3 178 .getstatic op r i len) (zl3 180 .getfield op r i len))))) (cond (Nat.ble op 184) (cond (Nat.ble op 182) (cond (Nat.ble op 181) (zl3 181 .putfield op r i len) (zl3 182 .invokevirtual op r i len)) (cond (Nat.ble op 183) (zl3 183 .invokespecial op r i len) (zl3 184 .invokestatic op r i len))) (cond (Nat.ble op 189) (cond (Nat.ble op 187) (zl3 187 .new op r i len) (zl3 189 .anewarray op r i len)) (cond (Nat.ble op 190) (zl1 190 (.arraylength) op i len) (cond (Nat.ble op 198) (zl4 198 (fun x => .ifnull x) op r i len) (zl4 199 (fun x => .ifnonnull x) op r i len))))))))
set_option maxRecDepth 100000 in
theorem zdt_ok {a : UInt8} {r : List UInt8} {i : Instr} {len : Nat} (h : zdt a.toNat r i len = true) : zdP (a :: r) i len := zcd h (fun h => zcd h (fun h => zcd h (fun h => zcd h (fun h => zcd h (fun h => zcd h (fun h => zcd h (fun h => zl1_ok zD_1 h) (fun h => zl1_ok zD_2 h)) (fun h => zcd h (fun h => zl1_ok zD_3 h) (fun h => zl1_ok zD_4 h))) (fun h => zcd h (fun h => zcd h (fun h => zl1_ok zD_5 h) (fun h => zl1_ok zD_6 h)) (fun h => zcd h (fun h => zl1_ok zD_7 h) (fun h => zl1_ok zD_8 h)))) (fun h => zcd h (fun h => zcd h (fun h => zcd h (fun h => zl1_ok zD_9 h) (fun h => zl1_ok zD_10 h)) (fun h => zcd h (fun h => zl1_ok zD_11 h) (fun h => zl1_ok zD_14 h))) (fun h => zcd h (fun h => zcd h (fun h => zl5_ok h) (fun h => zl4_ok zD_17 h)) (fun h => zcd h (fun h => zl2_ok zD_18 h) (fun h => zcd h (fun h => zl3_ok zD_19 h) (fun h => zl3_ok zD_20 h)))))) (fun h => zcd h (fun h => zcd h (fun h => zcd h (fun h => zcd h (fun h => zl2_ok zD_21 h) (fun h => zl2_ok zD_22 h)) (fun h => zcd h (fun h => zl2_ok zD_23 h) (fun h => zl2_ok zD_24 h))) (fun h => zcd h (fun h => zcd h (fun h => zl2_ok zD_25 h) (fun h => zl1_ok zD_26 h)) (fun h => zcd h (fun h => zl1_ok zD_27 h) (fun h => zl1_ok zD_28 h)))) (fun h => zcd h (fun h => zcd h (fun h => zcd h (fun h => zl1_ok zD_29 h) (fun h => zl1_ok zD_30 h)) (fun h => zcd h (fun h => zl1_ok zD_31 h) (fun h => zl1_ok zD_32 h))) (fun h => zcd h (fun h => zcd h (fun h => zl1_ok zD_33 h) (fun h => zl1_ok zD_34 h)) (fun h => zcd h (fun h => zl1_ok zD_35 h) (fun h => zcd h (fun h => zl1_ok zD_36 h) (fun h => zl1_ok zD_37 h))))))) (fun h => zcd h (fun h => zcd h (fun h => zcd h (fun h => zcd h (fun h => zcd h (fun h => zl1_ok zD_38 h) (fun h => zl1_ok zD_39 h)) (fun h => zcd h (fun h => zl1_ok zD_40 h) (fun h => zl1_ok zD_41 h))) (fun h => zcd h (fun h => zcd h (fun h => zl1_ok zD_42 h) (fun h => zl1_ok zD_43 h)) (fun h => zcd h (fun h => zl1_ok zD_44 h) (fun h => zl1_ok zD_45 h)))) (fun h => zcd h (fun h => zcd h (fun h => zcd h (fun h => zl1_ok zD_46 h) (fun h => zl1_ok zD_47 h)) (fun h => zcd h (fun h => zl1_ok zD_50 h) (fun h => zl1_ok zD_51 h))) (fun h => zcd h (fun h => zcd h (fun h => zl1_ok zD_52 h) (fun h => zl2_ok zD_54 h)) (fun h => zcd h (fun h => zl2_ok zD_55 h) (fun h => zcd h (fun h => zl2_ok zD_56 h) (fun h => zl2_ok zD_57 h)))))) (fun h => zcd h (fun h => zcd h (fun h => zcd h (fun h => zcd h (fun h => zl2_ok zD_58 h) (fun h => zl1_ok zD_59 h)) (fun h => zcd h (fun h => zl1_ok zD_60 h) (fun h => zl1_ok zD_61 h))) (fun h => zcd h (fun h => zcd h (fun h => zl1_ok zD_62 h) (fun h => zl1_ok zD_63 h)) (fun h => zcd h (fun h => zl1_ok zD_64 h) (fun h => zcd h (fun h => zl1_ok zD_65 h) (fun h => zl1_ok zD_66 h))))) (fun h => zcd h (fun h => zcd h (fun h => zcd h (fun h => zl1_ok zD_67 h) (fun h => zl1_ok zD_68 h)) (fun h => zcd h (fun h => zl1_ok zD_69 h) (fun h => zl1_ok zD_70 h))) (fun h => zcd h (fun h => zcd h (fun h => zl1_ok zD_71 h) (fun h => zl1_ok zD_72 h)) (fun h => zcd h (fun h => zl1_ok zD_73 h) (fun h => zcd h (fun h => zl1_ok zD_74 h) (fun h => zl1_ok zD_75 h)))))))) (fun h => zcd h (fun h => zcd h (fun h => zcd h (fun h => zcd h (fun h => zcd h (fun h => zcd h (fun h => zl1_ok zD_76 h) (fun h => zl1_ok zD_77 h)) (fun h => zcd h (fun h => zl1_ok zD_78 h) (fun h => zl1_ok zD_79 h))) (fun h => zcd h (fun h => zcd h (fun h => zl1_ok zD_80 h) (fun h => zl1_ok zD_83 h)) (fun h => zcd h (fun h => zl1_ok zD_84 h) (fun h => zl1_ok zD_85 h)))) (fun h => zcd h (fun h => zcd h (fun h => zcd h (fun h => zl1_ok zD_87 h) (fun h => zl1_ok zD_89 h)) (fun h => zcd h (fun h => zl1_ok zD_92 h) (fun h => zl1_ok zD_96 h))) (fun h => zcd h (fun h => zcd h (fun h => zl1_ok zD_97 h) (fun h => zl1_ok zD_100 h)) (fun h => zcd h (fun h => zl1_ok zD_101 h) (fun h => zcd h (fun h => zl1_ok zD_104 h) (fun h => zl1_ok zD_105 h)))))) (fun h => zcd h (fun h => zcd h (fun h => zcd h (fun h => zcd h (fun h => zl1_ok zD_108 h) (fun h => zl1_ok zD_109 h)) (fun h => zcd h (fun h => zl1_ok zD_110 h) (fun h => zl1_ok zD_111 h))) (fun h => zcd h (fun h => zcd h (fun h => zl1_ok zD_112 h) (fun h => zl1_ok zD_120 h)) (fun h => zcd h (fun h => zl1_ok zD_122 h) (fun h => zcd h (fun h => zl1_ok zD_124 h) (fun h => zl1_ok zD_126 h))))) (fun h => zcd h (fun h => zcd h (fun h => zcd h (fun h => zl1_ok zD_128 h) (fun h => zl6_ok h)) (fun h => zcd h (fun h => zl1_ok zD_133 h) (fun h => zl1_ok zD_135 h))) (fun h => zcd h (fun h => zcd h (fun h => zl1_ok zD_137 h) (fun h => zl1_ok zD_141 h)) (fun h => zcd h (fun h => zl1_ok zD_145 h) (fun h => zcd h (fun h => zl1_ok zD_146 h) (fun h => zl1_ok zD_148 h))))))) (fun h => zcd h (fun h => zcd h (fun h => zcd h (fun h => zcd h (fun h => zcd h (fun h => zl1_ok zD_149 h) (fun h => zl1_ok zD_150 h)) (fun h => zcd h (fun h => zl1_ok zD_151 h) (fun h => zl1_ok zD_152 h))) (fun h => zcd h (fun h => zcd h (fun h => zl4_ok zD_153 h) (fun h => zl4_ok zD_154 h)) (fun h => zcd h (fun h => zl4_ok zD_155 h) (fun h => zl4_ok zD_156 h)))) (fun h => zcd h (fun h => zcd h (fun h => zcd h (fun h => zl4_ok zD_157 h) (fun h => zl4_ok zD_158 h)) (fun h => zcd h (fun h => zl4_ok zD_159 h) (fun h => zl4_ok zD_160 h))) (fun h => zcd h (fun h => zcd h (fun h => zl4_ok zD_161 h) (fun h => zl4_ok zD_162 h)) (fun h => zcd h (fun h => zl4_ok zD_163 h) (fun h => zcd h (fun h => zl4_ok zD_164 h) (fun h => zl4_ok zD_166 h)))))) (fun h => zcd h (fun h => zcd h (fun h => zcd h (fun h => zcd h (fun h => zl4_ok zD_167 h) (fun h => zl1_ok zD_172 h)) (fun h => zcd h (fun h => zl1_ok zD_173 h) (fun h => zl1_ok zD_174 h))) (fun h => zcd h (fun h => zcd h (fun h => zl1_ok zD_175 h) (fun h => zl1_ok zD_176 h)) (fun h => zcd h (fun h => zl1_ok zD_177 h) (fun h => zcd h (fun h => zl3_ok zD_178 h) (fun h => zl3_ok zD_180 h))))) (fun h => zcd h (fun h => zcd h (fun h => zcd h (fun h => zl3_ok zD_181 h) (fun h => zl3_ok zD_182 h)) (fun h => zcd h (fun h => zl3_ok zD_183 h) (fun h => zl3_ok zD_184 h))) (fun h => zcd h (fun h => zcd h (fun h => zl3_ok zD_187 h) (fun h => zl3_ok zD_189 h)) (fun h => zcd h (fun h => zl1_ok zD_190 h) (fun h => zcd h (fun h => zl4_ok zD_198 h) (fun h => zl4_ok zD_199 h))))))))
def zwk : List zE → List UInt8 → Nat → Bool
  | [], _, _ => true
  | q :: l, L, p => Nat.ble p q.1 && (match L.drop (q.1 - p) with
    | [] => false
    | a :: r => zdt a.toNat r q.2.1 q.2.2.1 && zwk l (a :: r) q.1)
theorem zwk_ok {cc : ByteArray} : ∀ (l : List zE) (L : List UInt8) (p : Nat), cc.data.toList.drop p = L → zwk l L p = true → ∀ q ∈ l, decode cc q.1 = Except.ok (q.2.1, q.2.2.1) := by
  intro l
  induction l with
  | nil => intro L p _ _ q hq; exact absurd hq List.not_mem_nil
  | cons q0 l ih =>
    intro L p hL h
    rw [zwk] at h
    obtain ⟨h1, h2⟩ := z_and h
    have h1 : p ≤ q0.1 := Nat.le_of_ble_eq_true h1
    have hd : cc.data.toList.drop q0.1 = L.drop (q0.1 - p) := by
      rw [← hL, List.drop_drop]
      congr 1
      omega
    cases e : L.drop (q0.1 - p) with
    | nil => rw [e] at h2; cases h2
    | cons a r =>
      rw [e] at h2 hd
      obtain ⟨h3, h4⟩ := z_and h2
      exact List.forall_mem_cons.mpr ⟨zdt_ok h3 cc q0.1 hd, ih (a :: r) q0.1 hd h4⟩
theorem zdw {cc : ByteArray} {l : List zE} (h : zwk l cc.data.toList 0 = true) : ∀ q ∈ l, decode cc q.1 = Except.ok (q.2.1, q.2.2.1) := zwk_ok l cc.data.toList 0 rfl h
end
section
/-! The check of the tables, methods 0 to 95. -/
theorem zdd_0 : ∀ q ∈ zc_0, decode prog_4_method_1_code q.1 = Except.ok (q.2.1, q.2.2.1) := zdw (by decide +kernel)
theorem zk_0 (xs : List Int32) : z_okm (za_T xs) za_P za_M 0 := z_okm_of ⟨"LyndonBench$History", "<init>", "()V"⟩ prog_4_method_1_code zc_0 _ rfl rfl rfl rfl
  (z_bulk (own := "LyndonBench$History") (TB := zTB_0) (H := [(10, .putfield 11, 3, 1, 0)]) (zTBk_0 xs) rfl zdd_0 (by decide +kernel)
    (z_fc (zo_h (by decide +kernel) rfl ⟨rfl, Nat.le_of_ble_eq_true rfl, _, _, _, rfl, Nat.le_of_ble_eq_true rfl, zw_85, Or.inr ⟨rfl, rfl, rfl⟩⟩) <|
    z_fn))
  (z_fn)
theorem zdd_1 : ∀ q ∈ zc_1, decode prog_4_method_2_code q.1 = Except.ok (q.2.1, q.2.2.1) := zdw (by decide +kernel)
theorem zk_1 (xs : List Int32) : z_okm (za_T xs) za_P za_M 1 := z_okm_of ⟨"LyndonBench$History", "remember", "(LLyndonBench$State;)V"⟩ prog_4_method_2_code zc_1 _ rfl rfl rfl rfl
  (z_bulk0 (own := "LyndonBench$History") (TB := zTB_0) (zTBk_0 xs) rfl zdd_1 (by decide +kernel))
  (z_fn)
theorem zdd_2 : ∀ q ∈ zc_2, decode prog_4_method_3_code q.1 = Except.ok (q.2.1, q.2.2.1) := zdw (by decide +kernel)
theorem zk_2 (xs : List Int32) : z_okm (za_T xs) za_P za_M 2 := z_okm_of ⟨"LyndonBench$History", "forgetOldest", "()V"⟩ prog_4_method_3_code zc_2 _ rfl rfl rfl rfl
  (z_bulk0 (own := "LyndonBench$History") (TB := zTB_0) (zTBk_0 xs) rfl zdd_2 (by decide +kernel))
  (z_fn)
theorem zdd_3 : ∀ q ∈ zc_3, decode prog_4_method_4_code q.1 = Except.ok (q.2.1, q.2.2.1) := zdw (by decide +kernel)
theorem zk_3 (xs : List Int32) : z_okm (za_T xs) za_P za_M 3 := z_okm_of ⟨"LyndonBench$History", "bringBack", "(LLyndonBench$State;)Z"⟩ prog_4_method_4_code zc_3 _ rfl rfl rfl rfl
  (z_bulk0 (own := "LyndonBench$History") (TB := zTB_0) (zTBk_0 xs) rfl zdd_3 (by decide +kernel))
  (z_fn)
theorem zdd_4 : ∀ q ∈ zc_4, decode prog_5_method_1_code q.1 = Except.ok (q.2.1, q.2.2.1) := zdd_of (by decide +kernel)
theorem zk_4 (xs : List Int32) : z_okm (za_T xs) za_P za_M 4 := z_okm_of ⟨"LyndonBench$Script", "<init>", "()V"⟩ prog_5_method_1_code zc_4 _ rfl rfl rfl rfl
  (z_bulk (own := "LyndonBench$Script") (TB := zTB_1) (H := [(15, .putfield 14, 3, 2, 0), (26, .putfield 23, 3, 2, 1), (73, .putfield 52, 3, 2, 10), (80, .putfield 56, 3, 2, 11)]) (zTBk_1 xs) rfl zdd_4 (by decide +kernel)
    (z_fc (zo_h (by decide +kernel) rfl ⟨rfl, Nat.le_of_ble_eq_true rfl, _, _, _, rfl, Nat.le_of_ble_eq_true rfl, zw_103, Or.inr ⟨rfl, rfl, rfl⟩⟩) <|
    z_fc (zo_h (by decide +kernel) rfl ⟨rfl, Nat.le_of_ble_eq_true rfl, _, _, _, rfl, Nat.le_of_ble_eq_true rfl, zw_104, Or.inr ⟨rfl, rfl, rfl⟩⟩) <|
    z_fc (zo_h (by decide +kernel) rfl ⟨rfl, Nat.le_of_ble_eq_true rfl, _, _, _, rfl, Nat.le_of_ble_eq_true rfl, zw_113, Or.inr ⟨rfl, rfl, rfl⟩⟩) <|
    z_fc (zo_h (by decide +kernel) rfl ⟨rfl, Nat.le_of_ble_eq_true rfl, _, _, _, rfl, Nat.le_of_ble_eq_true rfl, zw_114, Or.inr ⟨rfl, rfl, rfl⟩⟩) <|
    z_fn))
  (z_fn)
theorem zdd_5 : ∀ q ∈ zc_5, decode prog_6_method_1_code q.1 = Except.ok (q.2.1, q.2.2.1) := zdw (by decide +kernel)
theorem zk_5 (xs : List Int32) : z_okm (za_T xs) za_P za_M 5 := z_okm_of ⟨"LyndonBench$State", "<init>", "()V"⟩ prog_6_method_1_code zc_5 _ rfl rfl rfl rfl
  (z_bulk (own := "LyndonBench$State") (TB := zTB_2) (H := [(19, .putfield 20, 3, 3, 1), (28, .putfield 24, 3, 3, 2)]) (zTBk_2 xs) rfl zdd_5 (by decide +kernel)
    (z_fc (zo_h (by decide +kernel) rfl ⟨rfl, Nat.le_of_ble_eq_true rfl, _, _, _, rfl, Nat.le_of_ble_eq_true rfl, zw_62, Or.inr ⟨rfl, rfl, rfl⟩⟩) <|
    z_fc (zo_h (by decide +kernel) rfl ⟨rfl, Nat.le_of_ble_eq_true rfl, _, _, _, rfl, Nat.le_of_ble_eq_true rfl, zw_64, Or.inr ⟨rfl, rfl, rfl⟩⟩) <|
    z_fn))
  (z_fn)
theorem zdd_6 : ∀ q ∈ zc_6, decode prog_6_method_2_code q.1 = Except.ok (q.2.1, q.2.2.1) := zdw (by decide +kernel)
theorem zk_6 (xs : List Int32) : z_okm (za_T xs) za_P za_M 6 := z_okm_of ⟨"LyndonBench$State", "clear", "(I)V"⟩ prog_6_method_2_code zc_6 _ rfl rfl rfl rfl
  (z_bulk0 (own := "LyndonBench$State") (TB := zTB_2) (zTBk_2 xs) rfl zdd_6 (by decide +kernel))
  (z_fn)
theorem zdd_7 : ∀ q ∈ zc_7, decode prog_6_method_3_code q.1 = Except.ok (q.2.1, q.2.2.1) := zdw (by decide +kernel)
theorem zk_7 (xs : List Int32) : z_okm (za_T xs) za_P za_M 7 := z_okm_of ⟨"LyndonBench$State", "copyFrom", "(LLyndonBench$State;)V"⟩ prog_6_method_3_code zc_7 _ rfl rfl rfl rfl
  (z_bulk0 (own := "LyndonBench$State") (TB := zTB_2) (zTBk_2 xs) rfl zdd_7 (by decide +kernel))
  (z_fn)
theorem zdd_8 : ∀ q ∈ zc_8, decode prog_6_method_4_code q.1 = Except.ok (q.2.1, q.2.2.1) := zdw (by decide +kernel)
theorem zk_8 (xs : List Int32) : z_okm (za_T xs) za_P za_M 8 := z_okm_of ⟨"LyndonBench$State", "isLetter", "(I)Z"⟩ prog_6_method_4_code zc_8 _ rfl rfl rfl rfl
  (z_bulk0 (own := "LyndonBench$State") (TB := zTB_2) (zTBk_2 xs) rfl zdd_8 (by decide +kernel))
  (z_fn)
theorem zdd_9 : ∀ q ∈ zc_9, decode prog_6_method_5_code q.1 = Except.ok (q.2.1, q.2.2.1) := zdw (by decide +kernel)
theorem zk_9 (xs : List Int32) : z_okm (za_T xs) za_P za_M 9 := z_okm_of ⟨"LyndonBench$State", "greatestLetter", "()I"⟩ prog_6_method_5_code zc_9 _ rfl rfl rfl rfl
  (z_bulk0 (own := "LyndonBench$State") (TB := zTB_2) (zTBk_2 xs) rfl zdd_9 (by decide +kernel))
  (z_fn)
theorem zdd_10 : ∀ q ∈ zc_10, decode prog_6_method_6_code q.1 = Except.ok (q.2.1, q.2.2.1) := zdw (by decide +kernel)
theorem zk_10 (xs : List Int32) : z_okm (za_T xs) za_P za_M 10 := z_okm_of ⟨"LyndonBench$State", "fitsLetters", "(I)Z"⟩ prog_6_method_6_code zc_10 _ rfl rfl rfl rfl
  (z_bulk0 (own := "LyndonBench$State") (TB := zTB_2) (zTBk_2 xs) rfl zdd_10 (by decide +kernel))
  (z_fn)
theorem zdd_11 : ∀ q ∈ zc_11, decode prog_6_method_7_code q.1 = Except.ok (q.2.1, q.2.2.1) := zdw (by decide +kernel)
theorem zk_11 (xs : List Int32) : z_okm (za_T xs) za_P za_M 11 := z_okm_of ⟨"LyndonBench$State", "keptAt", "(I)LLyndonBench$Word;"⟩ prog_6_method_7_code zc_11 _ rfl rfl rfl rfl
  (z_bulk0 (own := "LyndonBench$State") (TB := zTB_2) (zTBk_2 xs) rfl zdd_11 (by decide +kernel))
  (z_fn)
theorem zdd_12 : ∀ q ∈ zc_12, decode prog_6_method_8_code q.1 = Except.ok (q.2.1, q.2.2.1) := zdw (by decide +kernel)
theorem zk_12 (xs : List Int32) : z_okm (za_T xs) za_P za_M 12 := z_okm_of ⟨"LyndonBench$State", "canKeep", "(I)Z"⟩ prog_6_method_8_code zc_12 _ rfl rfl rfl rfl
  (z_bulk0 (own := "LyndonBench$State") (TB := zTB_2) (zTBk_2 xs) rfl zdd_12 (by decide +kernel))
  (z_fn)
theorem zdd_13 : ∀ q ∈ zc_13, decode prog_6_method_9_code q.1 = Except.ok (q.2.1, q.2.2.1) := zdw (by decide +kernel)
theorem zk_13 (xs : List Int32) : z_okm (za_T xs) za_P za_M 13 := z_okm_of ⟨"LyndonBench$State", "keep", "(LLyndonBench$Word;II)V"⟩ prog_6_method_9_code zc_13 _ rfl rfl rfl rfl
  (z_bulk0 (own := "LyndonBench$State") (TB := zTB_2) (zTBk_2 xs) rfl zdd_13 (by decide +kernel))
  (z_fn)
theorem zdd_14 : ∀ q ∈ zc_14, decode prog_6_method_10_code q.1 = Except.ok (q.2.1, q.2.2.1) := zdw (by decide +kernel)
theorem zk_14 (xs : List Int32) : z_okm (za_T xs) za_P za_M 14 := z_okm_of ⟨"LyndonBench$State", "takeFromShelf", "(I)V"⟩ prog_6_method_10_code zc_14 _ rfl rfl rfl rfl
  (z_bulk0 (own := "LyndonBench$State") (TB := zTB_2) (zTBk_2 xs) rfl zdd_14 (by decide +kernel))
  (z_fn)
theorem zdd_15 : ∀ q ∈ zc_15, decode prog_6_method_11_code q.1 = Except.ok (q.2.1, q.2.2.1) := zdw (by decide +kernel)
theorem zk_15 (xs : List Int32) : z_okm (za_T xs) za_P za_M 15 := z_okm_of ⟨"LyndonBench$State", "greatestOfShelf", "(I)I"⟩ prog_6_method_11_code zc_15 _ rfl rfl rfl rfl
  (z_bulk0 (own := "LyndonBench$State") (TB := zTB_2) (zTBk_2 xs) rfl zdd_15 (by decide +kernel))
  (z_fn)
theorem zdd_16 : ∀ q ∈ zc_16, decode prog_6_method_12_code q.1 = Except.ok (q.2.1, q.2.2.1) := zdw (by decide +kernel)
theorem zk_16 (xs : List Int32) : z_okm (za_T xs) za_P za_M 16 := z_okm_of ⟨"LyndonBench$State", "canJoin", "()Z"⟩ prog_6_method_12_code zc_16 _ rfl rfl rfl rfl
  (z_bulk0 (own := "LyndonBench$State") (TB := zTB_2) (zTBk_2 xs) rfl zdd_16 (by decide +kernel))
  (z_fn)
theorem zdd_17 : ∀ q ∈ zc_17, decode prog_6_method_13_code q.1 = Except.ok (q.2.1, q.2.2.1) := zdw (by decide +kernel)
theorem zk_17 (xs : List Int32) : z_okm (za_T xs) za_P za_M 17 := z_okm_of ⟨"LyndonBench$State", "joinShelf", "()V"⟩ prog_6_method_13_code zc_17 _ rfl rfl rfl rfl
  (z_bulk0 (own := "LyndonBench$State") (TB := zTB_2) (zTBk_2 xs) rfl zdd_17 (by decide +kernel))
  (z_fn)
theorem zdd_18 : ∀ q ∈ zc_18, decode prog_6_method_14_code q.1 = Except.ok (q.2.1, q.2.2.1) := zdw (by decide +kernel)
theorem zk_18 (xs : List Int32) : z_okm (za_T xs) za_P za_M 18 := z_okm_of ⟨"LyndonBench$State", "hasNext", "(I)Z"⟩ prog_6_method_14_code zc_18 _ rfl rfl rfl rfl
  (z_bulk0 (own := "LyndonBench$State") (TB := zTB_2) (zTBk_2 xs) rfl zdd_18 (by decide +kernel))
  (z_fn)
theorem zdd_19 : ∀ q ∈ zc_19, decode prog_7_method_1_code q.1 = Except.ok (q.2.1, q.2.2.1) := zdd_of (by decide +kernel)
theorem zk_19 (xs : List Int32) : z_okm (za_T xs) za_P za_M 19 := z_okm_of ⟨"LyndonBench$Word", "<init>", "(I)V"⟩ prog_7_method_1_code zc_19 _ rfl rfl rfl rfl
  (z_bulk (own := "LyndonBench$Word") (TB := zTB_3) (H := [(17, .putfield 21, 3, 4, 0)]) (zTBk_3 xs) rfl zdd_19 (by decide +kernel)
    (z_fc (zo_h (by decide +kernel) rfl ⟨rfl, Nat.le_of_ble_eq_true rfl, _, _, _, rfl, Nat.le_of_ble_eq_true rfl, zw_49, Or.inr ⟨rfl, rfl, rfl⟩⟩) <|
    z_fn))
  (z_fn)
theorem zdd_20 : ∀ q ∈ zc_20, decode prog_7_method_2_code q.1 = Except.ok (q.2.1, q.2.2.1) := zdw (by decide +kernel)
theorem zk_20 (xs : List Int32) : z_okm (za_T xs) za_P za_M 20 := z_okm_of ⟨"LyndonBench$Word", "at", "(I)I"⟩ prog_7_method_2_code zc_20 _ rfl rfl rfl rfl
  (z_bulk0 (own := "LyndonBench$Word") (TB := zTB_3) (zTBk_3 xs) rfl zdd_20 (by decide +kernel))
  (z_fn)
theorem zdd_21 : ∀ q ∈ zc_21, decode prog_7_method_3_code q.1 = Except.ok (q.2.1, q.2.2.1) := zdw (by decide +kernel)
theorem zk_21 (xs : List Int32) : z_okm (za_T xs) za_P za_M 21 := z_okm_of ⟨"LyndonBench$Word", "put", "(II)V"⟩ prog_7_method_3_code zc_21 _ rfl rfl rfl rfl
  (z_bulk0 (own := "LyndonBench$Word") (TB := zTB_3) (zTBk_3 xs) rfl zdd_21 (by decide +kernel))
  (z_fn)
theorem zdd_22 : ∀ q ∈ zc_22, decode prog_7_method_4_code q.1 = Except.ok (q.2.1, q.2.2.1) := zdw (by decide +kernel)
theorem zk_22 (xs : List Int32) : z_okm (za_T xs) za_P za_M 22 := z_okm_of ⟨"LyndonBench$Word", "clear", "()V"⟩ prog_7_method_4_code zc_22 _ rfl rfl rfl rfl
  (z_bulk0 (own := "LyndonBench$Word") (TB := zTB_3) (zTBk_3 xs) rfl zdd_22 (by decide +kernel))
  (z_fn)
theorem zdd_23 : ∀ q ∈ zc_23, decode prog_7_method_5_code q.1 = Except.ok (q.2.1, q.2.2.1) := zdw (by decide +kernel)
theorem zk_23 (xs : List Int32) : z_okm (za_T xs) za_P za_M 23 := z_okm_of ⟨"LyndonBench$Word", "add", "(I)V"⟩ prog_7_method_5_code zc_23 _ rfl rfl rfl rfl
  (z_bulk0 (own := "LyndonBench$Word") (TB := zTB_3) (zTBk_3 xs) rfl zdd_23 (by decide +kernel))
  (z_fn)
theorem zdd_24 : ∀ q ∈ zc_24, decode prog_7_method_7_code q.1 = Except.ok (q.2.1, q.2.2.1) := zdw (by decide +kernel)
theorem zk_24 (xs : List Int32) : z_okm (za_T xs) za_P za_M 24 := z_okm_of ⟨"LyndonBench$Word", "addString", "(Ljava/lang/String;)V"⟩ prog_7_method_7_code zc_24 _ rfl rfl rfl rfl
  (z_bulk0 (own := "LyndonBench$Word") (TB := zTB_3) (zTBk_3 xs) rfl zdd_24 (by decide +kernel))
  (z_fn)
theorem zdd_25 : ∀ q ∈ zc_25, decode prog_7_method_8_code q.1 = Except.ok (q.2.1, q.2.2.1) := zdw (by decide +kernel)
theorem zk_25 (xs : List Int32) : z_okm (za_T xs) za_P za_M 25 := z_okm_of ⟨"LyndonBench$Word", "addPart", "(LLyndonBench$Word;II)V"⟩ prog_7_method_8_code zc_25 _ rfl rfl rfl rfl
  (z_bulk0 (own := "LyndonBench$Word") (TB := zTB_3) (zTBk_3 xs) rfl zdd_25 (by decide +kernel))
  (z_fn)
theorem zdd_26 : ∀ q ∈ zc_26, decode prog_7_method_10_code q.1 = Except.ok (q.2.1, q.2.2.1) := zdw (by decide +kernel)
theorem zk_26 (xs : List Int32) : z_okm (za_T xs) za_P za_M 26 := z_okm_of ⟨"LyndonBench$Word", "copyFrom", "(LLyndonBench$Word;)V"⟩ prog_7_method_10_code zc_26 _ rfl rfl rfl rfl
  (z_bulk0 (own := "LyndonBench$Word") (TB := zTB_3) (zTBk_3 xs) rfl zdd_26 (by decide +kernel))
  (z_fn)
theorem zdd_27 : ∀ q ∈ zc_27, decode prog_7_method_11_code q.1 = Except.ok (q.2.1, q.2.2.1) := zdw (by decide +kernel)
theorem zk_27 (xs : List Int32) : z_okm (za_T xs) za_P za_M 27 := z_okm_of ⟨"LyndonBench$Word", "shortenTo", "(I)V"⟩ prog_7_method_11_code zc_27 _ rfl rfl rfl rfl
  (z_bulk0 (own := "LyndonBench$Word") (TB := zTB_3) (zTBk_3 xs) rfl zdd_27 (by decide +kernel))
  (z_fn)
theorem zdd_28 : ∀ q ∈ zc_28, decode prog_7_method_12_code q.1 = Except.ok (q.2.1, q.2.2.1) := zdw (by decide +kernel)
theorem zk_28 (xs : List Int32) : z_okm (za_T xs) za_P za_M 28 := z_okm_of ⟨"LyndonBench$Word", "cutTo", "(II)V"⟩ prog_7_method_12_code zc_28 _ rfl rfl rfl rfl
  (z_bulk0 (own := "LyndonBench$Word") (TB := zTB_3) (zTBk_3 xs) rfl zdd_28 (by decide +kernel))
  (z_fn)
theorem zdd_29 : ∀ q ∈ zc_29, decode prog_7_method_13_code q.1 = Except.ok (q.2.1, q.2.2.1) := zdw (by decide +kernel)
theorem zk_29 (xs : List Int32) : z_okm (za_T xs) za_P za_M 29 := z_okm_of ⟨"LyndonBench$Word", "mirror", "(II)V"⟩ prog_7_method_13_code zc_29 _ rfl rfl rfl rfl
  (z_bulk0 (own := "LyndonBench$Word") (TB := zTB_3) (zTBk_3 xs) rfl zdd_29 (by decide +kernel))
  (z_fn)
theorem zdd_30 : ∀ q ∈ zc_30, decode prog_7_method_14_code q.1 = Except.ok (q.2.1, q.2.2.1) := zdw (by decide +kernel)
theorem zk_30 (xs : List Int32) : z_okm (za_T xs) za_P za_M 30 := z_okm_of ⟨"LyndonBench$Word", "turn", "(I)V"⟩ prog_7_method_14_code zc_30 _ rfl rfl rfl rfl
  (z_bulk0 (own := "LyndonBench$Word") (TB := zTB_3) (zTBk_3 xs) rfl zdd_30 (by decide +kernel))
  (z_fn)
theorem zdd_31 : ∀ q ∈ zc_31, decode prog_7_method_15_code q.1 = Except.ok (q.2.1, q.2.2.1) := zdw (by decide +kernel)
theorem zk_31 (xs : List Int32) : z_okm (za_T xs) za_P za_M 31 := z_okm_of ⟨"LyndonBench$Word", "fitsLetters", "(I)Z"⟩ prog_7_method_15_code zc_31 _ rfl rfl rfl rfl
  (z_bulk0 (own := "LyndonBench$Word") (TB := zTB_3) (zTBk_3 xs) rfl zdd_31 (by decide +kernel))
  (z_fn)
theorem zdd_32 : ∀ q ∈ zc_32, decode prog_7_method_17_code q.1 = Except.ok (q.2.1, q.2.2.1) := zdw (by decide +kernel)
theorem zk_32 (xs : List Int32) : z_okm (za_T xs) za_P za_M 32 := z_okm_of ⟨"LyndonBench$Word", "order", "(IILLyndonBench$Word;II)I"⟩ prog_7_method_17_code zc_32 _ rfl rfl rfl rfl
  (z_bulk0 (own := "LyndonBench$Word") (TB := zTB_3) (zTBk_3 xs) rfl zdd_32 (by decide +kernel))
  (z_fn)
theorem zdd_33 : ∀ q ∈ zc_33, decode prog_7_method_18_code q.1 = Except.ok (q.2.1, q.2.2.1) := zdw (by decide +kernel)
theorem zk_33 (xs : List Int32) : z_okm (za_T xs) za_P za_M 33 := z_okm_of ⟨"LyndonBench$Word", "lyndonEnd", "(I)I"⟩ prog_7_method_18_code zc_33 _ rfl rfl rfl rfl
  (z_bulk0 (own := "LyndonBench$Word") (TB := zTB_3) (zTBk_3 xs) rfl zdd_33 (by decide +kernel))
  (z_fn)
theorem zdd_34 : ∀ q ∈ zc_34, decode prog_7_method_19_code q.1 = Except.ok (q.2.1, q.2.2.1) := zdw (by decide +kernel)
theorem zk_34 (xs : List Int32) : z_okm (za_T xs) za_P za_M 34 := z_okm_of ⟨"LyndonBench$Word", "factorEnd", "(II)I"⟩ prog_7_method_19_code zc_34 _ rfl rfl rfl rfl
  (z_bulk0 (own := "LyndonBench$Word") (TB := zTB_3) (zTBk_3 xs) rfl zdd_34 (by decide +kernel))
  (z_fn)
theorem zdd_35 : ∀ q ∈ zc_35, decode prog_7_method_20_code q.1 = Except.ok (q.2.1, q.2.2.1) := zdw (by decide +kernel)
theorem zk_35 (xs : List Int32) : z_okm (za_T xs) za_P za_M 35 := z_okm_of ⟨"LyndonBench$Word", "countFactors", "()I"⟩ prog_7_method_20_code zc_35 _ rfl rfl rfl rfl
  (z_bulk0 (own := "LyndonBench$Word") (TB := zTB_3) (zTBk_3 xs) rfl zdd_35 (by decide +kernel))
  (z_fn)
theorem zdd_36 : ∀ q ∈ zc_36, decode prog_7_method_21_code q.1 = Except.ok (q.2.1, q.2.2.1) := zdw (by decide +kernel)
theorem zk_36 (xs : List Int32) : z_okm (za_T xs) za_P za_M 36 := z_okm_of ⟨"LyndonBench$Word", "isOneFactor", "()Z"⟩ prog_7_method_21_code zc_36 _ rfl rfl rfl rfl
  (z_bulk0 (own := "LyndonBench$Word") (TB := zTB_3) (zTBk_3 xs) rfl zdd_36 (by decide +kernel))
  (z_fn)
theorem zdd_37 : ∀ q ∈ zc_37, decode prog_7_method_22_code q.1 = Except.ok (q.2.1, q.2.2.1) := zdw (by decide +kernel)
theorem zk_37 (xs : List Int32) : z_okm (za_T xs) za_P za_M 37 := z_okm_of ⟨"LyndonBench$Word", "beginOfFactor", "(I)I"⟩ prog_7_method_22_code zc_37 _ rfl rfl rfl rfl
  (z_bulk0 (own := "LyndonBench$Word") (TB := zTB_3) (zTBk_3 xs) rfl zdd_37 (by decide +kernel))
  (z_fn)
theorem zdd_38 : ∀ q ∈ zc_38, decode prog_7_method_23_code q.1 = Except.ok (q.2.1, q.2.2.1) := zdw (by decide +kernel)
theorem zk_38 (xs : List Int32) : z_okm (za_T xs) za_P za_M 38 := z_okm_of ⟨"LyndonBench$Word", "factorWith", "(I)I"⟩ prog_7_method_23_code zc_38 _ rfl rfl rfl rfl
  (z_bulk0 (own := "LyndonBench$Word") (TB := zTB_3) (zTBk_3 xs) rfl zdd_38 (by decide +kernel))
  (z_fn)
theorem zdd_39 : ∀ q ∈ zc_39, decode prog_7_method_26_code q.1 = Except.ok (q.2.1, q.2.2.1) := zdw (by decide +kernel)
theorem zk_39 (xs : List Int32) : z_okm (za_T xs) za_P za_M 39 := z_okm_of ⟨"LyndonBench$Word", "isLyndonPart", "(II)Z"⟩ prog_7_method_26_code zc_39 _ rfl rfl rfl rfl
  (z_bulk0 (own := "LyndonBench$Word") (TB := zTB_3) (zTBk_3 xs) rfl zdd_39 (by decide +kernel))
  (z_fn)
theorem zdd_40 : ∀ q ∈ zc_40, decode prog_7_method_31_code q.1 = Except.ok (q.2.1, q.2.2.1) := zdw (by decide +kernel)
theorem zk_40 (xs : List Int32) : z_okm (za_T xs) za_P za_M 40 := z_okm_of ⟨"LyndonBench$Word", "leastTurn", "()I"⟩ prog_7_method_31_code zc_40 _ rfl rfl rfl rfl
  (z_bulk0 (own := "LyndonBench$Word") (TB := zTB_3) (zTBk_3 xs) rfl zdd_40 (by decide +kernel))
  (z_fn)
theorem zdd_41 : ∀ q ∈ zc_41, decode prog_7_method_32_code q.1 = Except.ok (q.2.1, q.2.2.1) := zdw (by decide +kernel)
theorem zk_41 (xs : List Int32) : z_okm (za_T xs) za_P za_M 41 := z_okm_of ⟨"LyndonBench$Word", "atAround", "(I)I"⟩ prog_7_method_32_code zc_41 _ rfl rfl rfl rfl
  (z_bulk0 (own := "LyndonBench$Word") (TB := zTB_3) (zTBk_3 xs) rfl zdd_41 (by decide +kernel))
  (z_fn)
theorem zdd_42 : ∀ q ∈ zc_42, decode prog_7_method_33_code q.1 = Except.ok (q.2.1, q.2.2.1) := zdw (by decide +kernel)
theorem zk_42 (xs : List Int32) : z_okm (za_T xs) za_P za_M 42 := z_okm_of ⟨"LyndonBench$Word", "extremeEnding", "(I)I"⟩ prog_7_method_33_code zc_42 _ rfl rfl rfl rfl
  (z_bulk0 (own := "LyndonBench$Word") (TB := zTB_3) (zTBk_3 xs) rfl zdd_42 (by decide +kernel))
  (z_fn)
theorem zdd_43 : ∀ q ∈ zc_43, decode prog_7_method_34_code q.1 = Except.ok (q.2.1, q.2.2.1) := zdw (by decide +kernel)
theorem zk_43 (xs : List Int32) : z_okm (za_T xs) za_P za_M 43 := z_okm_of ⟨"LyndonBench$Word", "stepLyndon", "(II)V"⟩ prog_7_method_34_code zc_43 _ rfl rfl rfl rfl
  (z_bulk0 (own := "LyndonBench$Word") (TB := zTB_3) (zTBk_3 xs) rfl zdd_43 (by decide +kernel))
  (z_fn)
theorem zdd_44 : ∀ q ∈ zc_44, decode prog_1_method_1_code q.1 = Except.ok (q.2.1, q.2.2.1) := zdw (by decide +kernel)
theorem zk_44 (xs : List Int32) : z_okm (za_T xs) za_P za_M 44 := z_okm_of ⟨"LyndonBench", "<init>", "()V"⟩ prog_1_method_1_code zc_44 _ rfl rfl rfl rfl
  (z_bulk (own := "LyndonBench") (TB := zTB_4) (H := [(12, .putfield 12, 3, 0, 0), (23, .putfield 19, 3, 0, 1), (34, .putfield 23, 3, 0, 2), (50, .putfield 33, 3, 0, 4), (64, .putfield 42, 3, 0, 5), (77, .putfield 46, 3, 0, 6)]) (zTBk_4 xs) rfl zdd_44 (by decide +kernel)
    (z_fc (zo_h (by decide +kernel) rfl ⟨rfl, Nat.le_of_ble_eq_true rfl, _, _, _, rfl, Nat.le_of_ble_eq_true rfl, zw_221, Or.inr ⟨rfl, rfl, rfl⟩⟩) <|
    z_fc (zo_h (by decide +kernel) rfl ⟨rfl, Nat.le_of_ble_eq_true rfl, _, _, _, rfl, Nat.le_of_ble_eq_true rfl, zw_222, Or.inr ⟨rfl, rfl, rfl⟩⟩) <|
    z_fc (zo_h (by decide +kernel) rfl ⟨rfl, Nat.le_of_ble_eq_true rfl, _, _, _, rfl, Nat.le_of_ble_eq_true rfl, zw_223, Or.inr ⟨rfl, rfl, rfl⟩⟩) <|
    z_fc (zo_h (by decide +kernel) rfl ⟨rfl, Nat.le_of_ble_eq_true rfl, _, _, _, rfl, Nat.le_of_ble_eq_true rfl, zw_225, Or.inr ⟨rfl, rfl, rfl⟩⟩) <|
    z_fc (zo_h (by decide +kernel) rfl ⟨rfl, Nat.le_of_ble_eq_true rfl, _, _, _, rfl, Nat.le_of_ble_eq_true rfl, zw_226, Or.inr ⟨rfl, rfl, rfl⟩⟩) <|
    z_fc (zo_h (by decide +kernel) rfl ⟨rfl, Nat.le_of_ble_eq_true rfl, _, _, _, rfl, Nat.le_of_ble_eq_true rfl, zw_227, Or.inr ⟨rfl, rfl, rfl⟩⟩) <|
    z_fn))
  (z_fn)
theorem zdd_45 : ∀ q ∈ zc_45, decode prog_1_method_5_code q.1 = Except.ok (q.2.1, q.2.2.1) := zdw (by decide +kernel)
theorem zk_45 (xs : List Int32) : z_okm (za_T xs) za_P za_M 45 := z_okm_of ⟨"LyndonBench", "setLetters", "(I)I"⟩ prog_1_method_5_code zc_45 _ rfl rfl rfl rfl
  (z_bulk0 (own := "LyndonBench") (TB := zTB_4) (zTBk_4 xs) rfl zdd_45 (by decide +kernel))
  (z_fn)
theorem zdd_46 : ∀ q ∈ zc_46, decode prog_1_method_7_code q.1 = Except.ok (q.2.1, q.2.2.1) := zdw (by decide +kernel)
theorem zk_46 (xs : List Int32) : z_okm (za_T xs) za_P za_M 46 := z_okm_of ⟨"LyndonBench", "appendLetter", "(I)I"⟩ prog_1_method_7_code zc_46 _ rfl rfl rfl rfl
  (z_bulk0 (own := "LyndonBench") (TB := zTB_4) (zTBk_4 xs) rfl zdd_46 (by decide +kernel))
  (z_fn)
theorem zdd_47 : ∀ q ∈ zc_47, decode prog_1_method_8_code q.1 = Except.ok (q.2.1, q.2.2.1) := zdw (by decide +kernel)
theorem zk_47 (xs : List Int32) : z_okm (za_T xs) za_P za_M 47 := z_okm_of ⟨"LyndonBench", "dropLast", "(I)I"⟩ prog_1_method_8_code zc_47 _ rfl rfl rfl rfl
  (z_bulk0 (own := "LyndonBench") (TB := zTB_4) (zTBk_4 xs) rfl zdd_47 (by decide +kernel))
  (z_fn)
theorem zdd_48 : ∀ q ∈ zc_48, decode prog_1_method_9_code q.1 = Except.ok (q.2.1, q.2.2.1) := zdw (by decide +kernel)
theorem zk_48 (xs : List Int32) : z_okm (za_T xs) za_P za_M 48 := z_okm_of ⟨"LyndonBench", "cutPart", "(II)I"⟩ prog_1_method_9_code zc_48 _ rfl rfl rfl rfl
  (z_bulk0 (own := "LyndonBench") (TB := zTB_4) (zTBk_4 xs) rfl zdd_48 (by decide +kernel))
  (z_fn)
theorem zdd_49 : ∀ q ∈ zc_49, decode prog_1_method_10_code q.1 = Except.ok (q.2.1, q.2.2.1) := zdw (by decide +kernel)
theorem zk_49 (xs : List Int32) : z_okm (za_T xs) za_P za_M 49 := z_okm_of ⟨"LyndonBench", "rotate", "(I)I"⟩ prog_1_method_10_code zc_49 _ rfl rfl rfl rfl
  (z_bulk0 (own := "LyndonBench") (TB := zTB_4) (zTBk_4 xs) rfl zdd_49 (by decide +kernel))
  (z_fn)
theorem zdd_50 : ∀ q ∈ zc_50, decode prog_1_method_11_code q.1 = Except.ok (q.2.1, q.2.2.1) := zdw (by decide +kernel)
theorem zk_50 (xs : List Int32) : z_okm (za_T xs) za_P za_M 50 := z_okm_of ⟨"LyndonBench", "reverse", "()I"⟩ prog_1_method_11_code zc_50 _ rfl rfl rfl rfl
  (z_bulk0 (own := "LyndonBench") (TB := zTB_4) (zTBk_4 xs) rfl zdd_50 (by decide +kernel))
  (z_fn)
theorem zdd_51 : ∀ q ∈ zc_51, decode prog_1_method_12_code q.1 = Except.ok (q.2.1, q.2.2.1) := zdw (by decide +kernel)
theorem zk_51 (xs : List Int32) : z_okm (za_T xs) za_P za_M 51 := z_okm_of ⟨"LyndonBench", "rotateToLeast", "()I"⟩ prog_1_method_12_code zc_51 _ rfl rfl rfl rfl
  (z_bulk0 (own := "LyndonBench") (TB := zTB_4) (zTBk_4 xs) rfl zdd_51 (by decide +kernel))
  (z_fn)
theorem zdd_52 : ∀ q ∈ zc_52, decode prog_1_method_13_code q.1 = Except.ok (q.2.1, q.2.2.1) := zdw (by decide +kernel)
theorem zk_52 (xs : List Int32) : z_okm (za_T xs) za_P za_M 52 := z_okm_of ⟨"LyndonBench", "nextLyndon", "(I)I"⟩ prog_1_method_13_code zc_52 _ rfl rfl rfl rfl
  (z_bulk0 (own := "LyndonBench") (TB := zTB_4) (zTBk_4 xs) rfl zdd_52 (by decide +kernel))
  (z_fn)
theorem zdd_53 : ∀ q ∈ zc_53, decode prog_1_method_14_code q.1 = Except.ok (q.2.1, q.2.2.1) := zdw (by decide +kernel)
theorem zk_53 (xs : List Int32) : z_okm (za_T xs) za_P za_M 53 := z_okm_of ⟨"LyndonBench", "keepFactor", "(I)I"⟩ prog_1_method_14_code zc_53 _ rfl rfl rfl rfl
  (z_bulk0 (own := "LyndonBench") (TB := zTB_4) (zTBk_4 xs) rfl zdd_53 (by decide +kernel))
  (z_fn)
theorem zdd_54 : ∀ q ∈ zc_54, decode prog_1_method_15_code q.1 = Except.ok (q.2.1, q.2.2.1) := zdw (by decide +kernel)
theorem zk_54 (xs : List Int32) : z_okm (za_T xs) za_P za_M 54 := z_okm_of ⟨"LyndonBench", "keepText", "()I"⟩ prog_1_method_15_code zc_54 _ rfl rfl rfl rfl
  (z_bulk0 (own := "LyndonBench") (TB := zTB_4) (zTBk_4 xs) rfl zdd_54 (by decide +kernel))
  (z_fn)
theorem zdd_55 : ∀ q ∈ zc_55, decode prog_1_method_16_code q.1 = Except.ok (q.2.1, q.2.2.1) := zdw (by decide +kernel)
theorem zk_55 (xs : List Int32) : z_okm (za_T xs) za_P za_M 55 := z_okm_of ⟨"LyndonBench", "removeKept", "(I)I"⟩ prog_1_method_16_code zc_55 _ rfl rfl rfl rfl
  (z_bulk0 (own := "LyndonBench") (TB := zTB_4) (zTBk_4 xs) rfl zdd_55 (by decide +kernel))
  (z_fn)
theorem zdd_56 : ∀ q ∈ zc_56, decode prog_1_method_17_code q.1 = Except.ok (q.2.1, q.2.2.1) := zdw (by decide +kernel)
theorem zk_56 (xs : List Int32) : z_okm (za_T xs) za_P za_M 56 := z_okm_of ⟨"LyndonBench", "joinKept", "()I"⟩ prog_1_method_17_code zc_56 _ rfl rfl rfl rfl
  (z_bulk0 (own := "LyndonBench") (TB := zTB_4) (zTBk_4 xs) rfl zdd_56 (by decide +kernel))
  (z_fn)
theorem zdd_57 : ∀ q ∈ zc_57, decode prog_1_method_18_code q.1 = Except.ok (q.2.1, q.2.2.1) := zdw (by decide +kernel)
theorem zk_57 (xs : List Int32) : z_okm (za_T xs) za_P za_M 57 := z_okm_of ⟨"LyndonBench", "undo", "()I"⟩ prog_1_method_18_code zc_57 _ rfl rfl rfl rfl
  (z_bulk0 (own := "LyndonBench") (TB := zTB_4) (zTBk_4 xs) rfl zdd_57 (by decide +kernel))
  (z_fn)
theorem zdd_58 : ∀ q ∈ zc_58, decode prog_1_method_19_code q.1 = Except.ok (q.2.1, q.2.2.1) := zdw (by decide +kernel)
theorem zk_58 (xs : List Int32) : z_okm (za_T xs) za_P za_M 58 := z_okm_of ⟨"LyndonBench", "undoCount", "()I"⟩ prog_1_method_19_code zc_58 _ rfl rfl rfl rfl
  (z_bulk0 (own := "LyndonBench") (TB := zTB_4) (zTBk_4 xs) rfl zdd_58 (by decide +kernel))
  (z_fn)
theorem zdd_59 : ∀ q ∈ zc_59, decode prog_1_method_24_code q.1 = Except.ok (q.2.1, q.2.2.1) := zdw (by decide +kernel)
theorem zk_59 (xs : List Int32) : z_okm (za_T xs) za_P za_M 59 := z_okm_of ⟨"LyndonBench", "letters", "()I"⟩ prog_1_method_24_code zc_59 _ rfl rfl rfl rfl
  (z_bulk0 (own := "LyndonBench") (TB := zTB_4) (zTBk_4 xs) rfl zdd_59 (by decide +kernel))
  (z_fn)
theorem zdd_60 : ∀ q ∈ zc_60, decode prog_1_method_25_code q.1 = Except.ok (q.2.1, q.2.2.1) := zdw (by decide +kernel)
theorem zk_60 (xs : List Int32) : z_okm (za_T xs) za_P za_M 60 := z_okm_of ⟨"LyndonBench", "length", "()I"⟩ prog_1_method_25_code zc_60 _ rfl rfl rfl rfl
  (z_bulk0 (own := "LyndonBench") (TB := zTB_4) (zTBk_4 xs) rfl zdd_60 (by decide +kernel))
  (z_fn)
theorem zdd_61 : ∀ q ∈ zc_61, decode prog_1_method_26_code q.1 = Except.ok (q.2.1, q.2.2.1) := zdw (by decide +kernel)
theorem zk_61 (xs : List Int32) : z_okm (za_T xs) za_P za_M 61 := z_okm_of ⟨"LyndonBench", "letterAt", "(I)I"⟩ prog_1_method_26_code zc_61 _ rfl rfl rfl rfl
  (z_bulk0 (own := "LyndonBench") (TB := zTB_4) (zTBk_4 xs) rfl zdd_61 (by decide +kernel))
  (z_fn)
theorem zdd_62 : ∀ q ∈ zc_62, decode prog_1_method_28_code q.1 = Except.ok (q.2.1, q.2.2.1) := zdw (by decide +kernel)
theorem zk_62 (xs : List Int32) : z_okm (za_T xs) za_P za_M 62 := z_okm_of ⟨"LyndonBench", "factorCount", "()I"⟩ prog_1_method_28_code zc_62 _ rfl rfl rfl rfl
  (z_bulk0 (own := "LyndonBench") (TB := zTB_4) (zTBk_4 xs) rfl zdd_62 (by decide +kernel))
  (z_fn)
theorem zdd_63 : ∀ q ∈ zc_63, decode prog_1_method_29_code q.1 = Except.ok (q.2.1, q.2.2.1) := zdw (by decide +kernel)
theorem zk_63 (xs : List Int32) : z_okm (za_T xs) za_P za_M 63 := z_okm_of ⟨"LyndonBench", "factorStart", "(I)I"⟩ prog_1_method_29_code zc_63 _ rfl rfl rfl rfl
  (z_bulk0 (own := "LyndonBench") (TB := zTB_4) (zTBk_4 xs) rfl zdd_63 (by decide +kernel))
  (z_fn)
theorem zdd_64 : ∀ q ∈ zc_64, decode prog_1_method_30_code q.1 = Except.ok (q.2.1, q.2.2.1) := zdw (by decide +kernel)
theorem zk_64 (xs : List Int32) : z_okm (za_T xs) za_P za_M 64 := z_okm_of ⟨"LyndonBench", "factorLength", "(I)I"⟩ prog_1_method_30_code zc_64 _ rfl rfl rfl rfl
  (z_bulk0 (own := "LyndonBench") (TB := zTB_4) (zTBk_4 xs) rfl zdd_64 (by decide +kernel))
  (z_fn)
theorem zdd_65 : ∀ q ∈ zc_65, decode prog_1_method_32_code q.1 = Except.ok (q.2.1, q.2.2.1) := zdw (by decide +kernel)
theorem zk_65 (xs : List Int32) : z_okm (za_T xs) za_P za_M 65 := z_okm_of ⟨"LyndonBench", "factorOf", "(I)I"⟩ prog_1_method_32_code zc_65 _ rfl rfl rfl rfl
  (z_bulk0 (own := "LyndonBench") (TB := zTB_4) (zTBk_4 xs) rfl zdd_65 (by decide +kernel))
  (z_fn)
theorem zdd_66 : ∀ q ∈ zc_66, decode prog_1_method_34_code q.1 = Except.ok (q.2.1, q.2.2.1) := zdw (by decide +kernel)
theorem zk_66 (xs : List Int32) : z_okm (za_T xs) za_P za_M 66 := z_okm_of ⟨"LyndonBench", "factorsIfAppended", "(I)I"⟩ prog_1_method_34_code zc_66 _ rfl rfl rfl rfl
  (z_bulk0 (own := "LyndonBench") (TB := zTB_4) (zTBk_4 xs) rfl zdd_66 (by decide +kernel))
  (z_fn)
theorem zdd_67 : ∀ q ∈ zc_67, decode prog_1_method_37_code q.1 = Except.ok (q.2.1, q.2.2.1) := zdw (by decide +kernel)
theorem zk_67 (xs : List Int32) : z_okm (za_T xs) za_P za_M 67 := z_okm_of ⟨"LyndonBench", "isLyndon", "()Z"⟩ prog_1_method_37_code zc_67 _ rfl rfl rfl rfl
  (z_bulk0 (own := "LyndonBench") (TB := zTB_4) (zTBk_4 xs) rfl zdd_67 (by decide +kernel))
  (z_fn)
theorem zdd_68 : ∀ q ∈ zc_68, decode prog_1_method_46_code q.1 = Except.ok (q.2.1, q.2.2.1) := zdw (by decide +kernel)
theorem zk_68 (xs : List Int32) : z_okm (za_T xs) za_P za_M 68 := z_okm_of ⟨"LyndonBench", "leastSuffix", "()I"⟩ prog_1_method_46_code zc_68 _ rfl rfl rfl rfl
  (z_bulk0 (own := "LyndonBench") (TB := zTB_4) (zTBk_4 xs) rfl zdd_68 (by decide +kernel))
  (z_fn)
theorem zdd_69 : ∀ q ∈ zc_69, decode prog_1_method_51_code q.1 = Except.ok (q.2.1, q.2.2.1) := zdw (by decide +kernel)
theorem zk_69 (xs : List Int32) : z_okm (za_T xs) za_P za_M 69 := z_okm_of ⟨"LyndonBench", "keptCount", "()I"⟩ prog_1_method_51_code zc_69 _ rfl rfl rfl rfl
  (z_bulk0 (own := "LyndonBench") (TB := zTB_4) (zTBk_4 xs) rfl zdd_69 (by decide +kernel))
  (z_fn)
theorem zdd_70 : ∀ q ∈ zc_70, decode prog_1_method_52_code q.1 = Except.ok (q.2.1, q.2.2.1) := zdw (by decide +kernel)
theorem zk_70 (xs : List Int32) : z_okm (za_T xs) za_P za_M 70 := z_okm_of ⟨"LyndonBench", "keptLength", "(I)I"⟩ prog_1_method_52_code zc_70 _ rfl rfl rfl rfl
  (z_bulk0 (own := "LyndonBench") (TB := zTB_4) (zTBk_4 xs) rfl zdd_70 (by decide +kernel))
  (z_fn)
theorem zdd_71 : ∀ q ∈ zc_71, decode prog_1_method_53_code q.1 = Except.ok (q.2.1, q.2.2.1) := zdw (by decide +kernel)
theorem zk_71 (xs : List Int32) : z_okm (za_T xs) za_P za_M 71 := z_okm_of ⟨"LyndonBench", "keptLetter", "(II)I"⟩ prog_1_method_53_code zc_71 _ rfl rfl rfl rfl
  (z_bulk0 (own := "LyndonBench") (TB := zTB_4) (zTBk_4 xs) rfl zdd_71 (by decide +kernel))
  (z_fn)
theorem zdd_72 : ∀ q ∈ zc_72, decode prog_1_method_58_code q.1 = Except.ok (q.2.1, q.2.2.1) := zdw (by decide +kernel)
theorem zk_72 (xs : List Int32) : z_okm (za_T xs) za_P za_M 72 := z_okm_of ⟨"LyndonBench", "violations", "()I"⟩ prog_1_method_58_code zc_72 _ rfl rfl rfl rfl
  (z_bulk0 (own := "LyndonBench") (TB := zTB_4) (zTBk_4 xs) rfl zdd_72 (by decide +kernel))
  (z_fn)
theorem zdd_73 : ∀ q ∈ zc_73, decode prog_1_method_61_code q.1 = Except.ok (q.2.1, q.2.2.1) := zdw (by decide +kernel)
theorem zk_73 (xs : List Int32) : z_okm (za_T xs) za_P za_M 73 := z_okm_of ⟨"LyndonBench", "checkLetter", "(I)V"⟩ prog_1_method_61_code zc_73 _ rfl rfl rfl rfl
  (z_bulk0 (own := "LyndonBench") (TB := zTB_4) (zTBk_4 xs) rfl zdd_73 (by decide +kernel))
  (z_fn)
theorem zdd_74 : ∀ q ∈ zc_74, decode prog_1_method_62_code q.1 = Except.ok (q.2.1, q.2.2.1) := zdw (by decide +kernel)
theorem zk_74 (xs : List Int32) : z_okm (za_T xs) za_P za_M 74 := z_okm_of ⟨"LyndonBench", "checkCount", "(I)V"⟩ prog_1_method_62_code zc_74 _ rfl rfl rfl rfl
  (z_bulk0 (own := "LyndonBench") (TB := zTB_4) (zTBk_4 xs) rfl zdd_74 (by decide +kernel))
  (z_fn)
theorem zdd_75 : ∀ q ∈ zc_75, decode prog_1_method_63_code q.1 = Except.ok (q.2.1, q.2.2.1) := zdw (by decide +kernel)
theorem zk_75 (xs : List Int32) : z_okm (za_T xs) za_P za_M 75 := z_okm_of ⟨"LyndonBench", "checkPart", "(II)V"⟩ prog_1_method_63_code zc_75 _ rfl rfl rfl rfl
  (z_bulk0 (own := "LyndonBench") (TB := zTB_4) (zTBk_4 xs) rfl zdd_75 (by decide +kernel))
  (z_fn)
theorem zdd_76 : ∀ q ∈ zc_76, decode prog_1_method_65_code q.1 = Except.ok (q.2.1, q.2.2.1) := zdw (by decide +kernel)
theorem zk_76 (xs : List Int32) : z_okm (za_T xs) za_P za_M 76 := z_okm_of ⟨"LyndonBench", "checkedBegin", "(I)I"⟩ prog_1_method_65_code zc_76 _ rfl rfl rfl rfl
  (z_bulk0 (own := "LyndonBench") (TB := zTB_4) (zTBk_4 xs) rfl zdd_76 (by decide +kernel))
  (z_fn)
theorem zdd_77 : ∀ q ∈ zc_77, decode prog_14_method_40_code q.1 = Except.ok (q.2.1, q.2.2.1) := zdw (by decide +kernel)
theorem zk_77 (xs : List Int32) : z_okm (za_T xs) za_P za_M 77 := z_okm_of ⟨"java/lang/Integer", "compare", "(II)I"⟩ prog_14_method_40_code zc_77 _ rfl rfl rfl rfl
  (z_bulk0 (own := "java/lang/Integer") (TB := []) z_fn rfl zdd_77 (by decide +kernel))
  (z_fn)
theorem zdd_78 : ∀ q ∈ zc_78, decode prog_17_method_54_code q.1 = Except.ok (q.2.1, q.2.2.1) := zdw (by decide +kernel)
theorem zk_78 (xs : List Int32) : z_okm (za_T xs) za_P za_M 78 := z_okm_of ⟨"java/lang/String", "length", "()I"⟩ prog_17_method_54_code zc_78 _ rfl rfl rfl rfl
  (z_bulk0 (own := "java/lang/String") (TB := zTB_5) (zTBk_5 xs) rfl zdd_78 (by decide +kernel))
  (z_fn)
theorem zdd_79 : ∀ q ∈ zc_79, decode prog_17_method_56_code q.1 = Except.ok (q.2.1, q.2.2.1) := zdw (by decide +kernel)
theorem zk_79 (xs : List Int32) : z_okm (za_T xs) za_P za_M 79 := z_okm_of ⟨"java/lang/String", "charAt", "(I)C"⟩ prog_17_method_56_code zc_79 _ rfl rfl rfl rfl
  (z_bulk0 (own := "java/lang/String") (TB := zTB_5) (zTBk_5 xs) rfl zdd_79 (by decide +kernel))
  (z_fn)
theorem zdd_80 : ∀ q ∈ zc_80, decode prog_17_method_152_code q.1 = Except.ok (q.2.1, q.2.2.1) := zdw (by decide +kernel)
theorem zk_80 (xs : List Int32) : z_okm (za_T xs) za_P za_M 80 := z_okm_of ⟨"java/lang/String", "coder", "()B"⟩ prog_17_method_152_code zc_80 _ rfl rfl rfl rfl
  (z_bulk0 (own := "java/lang/String") (TB := zTB_5) (zTBk_5 xs) rfl zdd_80 (by decide +kernel))
  (z_fn)
theorem zdd_81 : ∀ q ∈ zc_81, decode prog_17_method_154_code q.1 = Except.ok (q.2.1, q.2.2.1) := zdw (by decide +kernel)
theorem zk_81 (xs : List Int32) : z_okm (za_T xs) za_P za_M 81 := z_okm_of ⟨"java/lang/String", "isLatin1", "()Z"⟩ prog_17_method_154_code zc_81 _ rfl rfl rfl rfl
  (z_bulk0 (own := "java/lang/String") (TB := zTB_5) (zTBk_5 xs) rfl zdd_81 (by decide +kernel))
  (z_fn)
theorem zdd_82 : ∀ q ∈ zc_82, decode prog_17_method_155_code q.1 = Except.ok (q.2.1, q.2.2.1) := zdw (by decide +kernel)
theorem zk_82 (xs : List Int32) : z_okm (za_T xs) za_P za_M 82 := z_okm_of ⟨"java/lang/String", "checkIndex", "(II)V"⟩ prog_17_method_155_code zc_82 _ rfl rfl rfl rfl
  (z_bulk0 (own := "java/lang/String") (TB := zTB_5) (zTBk_5 xs) rfl zdd_82 (by decide +kernel))
  (z_fn)
theorem zdd_83 : ∀ q ∈ zc_83, decode prog_18_method_2_code q.1 = Except.ok (q.2.1, q.2.2.1) := zdw (by decide +kernel)
theorem zk_83 (xs : List Int32) : z_okm (za_T xs) za_P za_M 83 := z_okm_of ⟨"java/lang/StringLatin1", "charAt", "([BI)C"⟩ prog_18_method_2_code zc_83 _ rfl rfl rfl rfl
  (z_bulk0 (own := "java/lang/StringLatin1") (TB := zTB_6) (zTBk_6 xs) rfl zdd_83 (by decide +kernel))
  (z_fn)
theorem zdd_84 : ∀ q ∈ zc_84, decode prog_21_method_11_code q.1 = Except.ok (q.2.1, q.2.2.1) := zdw (by decide +kernel)
theorem zk_84 (xs : List Int32) : z_okm (za_T xs) za_P za_M 84 := z_okm_of ⟨"jdk/internal/util/Preconditions", "checkIndex", "(IILjava/util/function/BiFunction;)I"⟩ prog_21_method_11_code zc_84 _ rfl rfl rfl rfl
  (z_bulk0 (own := "jdk/internal/util/Preconditions") (TB := []) z_fn rfl zdd_84 (by decide +kernel))
  (z_fn)
theorem zdd_85 : ∀ q ∈ zc_85, decode method_2_code q.1 = Except.ok (q.2.1, q.2.2.1) := zdw (by decide +kernel)
theorem zk_85 (xs : List Int32) : z_okm (za_T xs) za_P za_M 85 := z_okm_of ⟨"LyndonBenchLaw", "cell", "([II)I"⟩ method_2_code zc_85 _ rfl rfl rfl rfl
  (z_bulk0 (own := "LyndonBenchLaw") (TB := zTB_7) (zTBk_7 xs) rfl zdd_85 (by decide +kernel))
  (z_fn)
theorem zdd_86 : ∀ q ∈ zc_86, decode method_3_code q.1 = Except.ok (q.2.1, q.2.2.1) := zdd_of (by decide +kernel)
theorem zk_86 (xs : List Int32) : z_okm (za_T xs) za_P za_M 86 := z_okm_of ⟨"LyndonBenchLaw", "deed", "(LLyndonBench;I)V"⟩ method_3_code zc_86 _ rfl rfl rfl rfl
  (z_bulk0 (own := "LyndonBenchLaw") (TB := zTB_7) (zTBk_7 xs) rfl zdd_86 (by decide +kernel))
  (z_fn)
theorem zdd_87 : ∀ q ∈ zc_87, decode method_4_code q.1 = Except.ok (q.2.1, q.2.2.1) := zdw (by decide +kernel)
theorem zk_87 (xs : List Int32) : z_okm (za_T xs) za_P za_M 87 := z_okm_of ⟨"LyndonBenchLaw", "shelf", "(LLyndonBench;)I"⟩ method_4_code zc_87 _ rfl rfl rfl rfl
  (z_bulk0 (own := "LyndonBenchLaw") (TB := zTB_7) (zTBk_7 xs) rfl zdd_87 (by decide +kernel))
  (z_fn)
theorem zdd_88 : ∀ q ∈ zc_88, decode method_5_code q.1 = Except.ok (q.2.1, q.2.2.1) := zdw (by decide +kernel)
theorem zk_88 (xs : List Int32) : z_okm (za_T xs) za_P za_M 88 := z_okm_of ⟨"LyndonBenchLaw", "isGreatest", "(LLyndonBench;)Z"⟩ method_5_code zc_88 _ rfl rfl rfl rfl
  (z_bulk0 (own := "LyndonBenchLaw") (TB := zTB_7) (zTBk_7 xs) rfl zdd_88 (by decide +kernel))
  (z_fn)
theorem zdd_89 : ∀ q ∈ zc_89, decode method_6_code q.1 = Except.ok (q.2.1, q.2.2.1) := zdd_of (by decide +kernel)
theorem zk_89 (xs : List Int32) : z_okm (za_T xs) za_P za_M 89 := z_okm_of ⟨"LyndonBenchLaw", "word", "(LLyndonBench;)[I"⟩ method_6_code zc_89 _ rfl rfl rfl rfl
  (z_bulk0 (own := "LyndonBenchLaw") (TB := zTB_7) (zTBk_7 xs) rfl zdd_89 (by decide +kernel))
  (z_fn)
theorem zdd_90 : ∀ q ∈ zc_90, decode method_7_code q.1 = Except.ok (q.2.1, q.2.2.1) := zdw (by decide +kernel)
theorem zk_90 (xs : List Int32) : z_okm (za_T xs) za_P za_M 90 := z_okm_of ⟨"LyndonBenchLaw", "order", "([III[III)I"⟩ method_7_code zc_90 _ rfl rfl rfl rfl
  (z_bulk0 (own := "LyndonBenchLaw") (TB := zTB_7) (zTBk_7 xs) rfl zdd_90 (by decide +kernel))
  (z_fn)
theorem zdd_91 : ∀ q ∈ zc_91, decode method_8_code q.1 = Except.ok (q.2.1, q.2.2.1) := zdw (by decide +kernel)
theorem zk_91 (xs : List Int32) : z_okm (za_T xs) za_P za_M 91 := z_okm_of ⟨"LyndonBenchLaw", "isLyndon", "([III)Z"⟩ method_8_code zc_91 _ rfl rfl rfl rfl
  (z_bulk0 (own := "LyndonBenchLaw") (TB := zTB_7) (zTBk_7 xs) rfl zdd_91 (by decide +kernel))
  (z_fn)
theorem zdd_92 : ∀ q ∈ zc_92, decode method_9_code q.1 = Except.ok (q.2.1, q.2.2.1) := zdw (by decide +kernel)
theorem zk_92 (xs : List Int32) : z_okm (za_T xs) za_P za_M 92 := z_okm_of ⟨"LyndonBenchLaw", "holds", "(LLyndonBench;)Z"⟩ method_9_code zc_92 _ rfl rfl rfl rfl
  (z_bulk0 (own := "LyndonBenchLaw") (TB := zTB_7) (zTBk_7 xs) rfl zdd_92 (by decide +kernel))
  (z_fn)
theorem zdd_93 : ∀ q ∈ zc_93, decode method_10_code q.1 = Except.ok (q.2.1, q.2.2.1) := zdw (by decide +kernel)
theorem zk_93 (xs : List Int32) : z_okm (za_T xs) za_P za_M 93 := z_okm_of ⟨"LyndonBenchLaw", "sum", "(LLyndonBench;)J"⟩ method_10_code zc_93 _ rfl rfl rfl rfl
  (z_bulk0 (own := "LyndonBenchLaw") (TB := zTB_7) (zTBk_7 xs) rfl zdd_93 (by decide +kernel))
  (z_fn)
theorem zdd_94 : ∀ q ∈ zc_94, decode method_11_code q.1 = Except.ok (q.2.1, q.2.2.1) := zdd_of (by decide +kernel)
theorem zk_94 (xs : List Int32) : z_okm (za_T xs) za_P za_M 94 := z_okm_of ⟨"LyndonBenchLaw", "isAppended", "(LLyndonBench;I)Z"⟩ method_11_code zc_94 _ rfl rfl rfl rfl
  (z_bulk0 (own := "LyndonBenchLaw") (TB := zTB_7) (zTBk_7 xs) rfl zdd_94 (by decide +kernel))
  (z_fn)
theorem zdd_95_0 : ∀ q ∈ zc_95_0, decode code q.1 = Except.ok (q.2.1, q.2.2.1) := zdw (by decide +kernel)
theorem zdd_95_1 : ∀ q ∈ zc_95_1, decode code q.1 = Except.ok (q.2.1, q.2.2.1) := zdw (by decide +kernel)
theorem zdd_95_2 : ∀ q ∈ zc_95_2, decode code q.1 = Except.ok (q.2.1, q.2.2.1) := zdw (by decide +kernel)
theorem zdd_95 : ∀ q ∈ zc_95, decode code q.1 = Except.ok (q.2.1, q.2.2.1) := z_fap zdd_95_0 (z_fap zdd_95_1 (z_fap zdd_95_2 (z_fn)))
theorem zk_95 (xs : List Int32) : z_okm (za_T xs) za_P za_M 95 := z_okm_of ⟨"LyndonBenchLaw", "law", "([I)Z"⟩ code zc_95 _ rfl rfl rfl rfl
  (z_bulk0 (own := "LyndonBenchLaw") (TB := zTB_7) (zTBk_7 xs) rfl zdd_95 (by decide +kernel))
  (z_fn)
end
section
/-! The check of the tables, as a whole. -/
theorem z_nth_out {α : Type} {d : α} : ∀ {l : List α} {n : Nat}, l.length ≤ n → z_nth l n d = d := by
  intro l
  induction l with
  | nil => intro n _; rfl
  | cons a l ih =>
    intro n h
    cases n with
    | zero => simp at h
    | succ n => exact ih (by simpa using h)
theorem z_g2_out {α : Type} {l : List (List α)} {d : α} {y : Nat} (h : 16 * l.length ≤ y) : z_g2 l d y = d := by
  unfold z_g2
  rw [z_nth_out (l := l) (by omega)]
  rfl
theorem z_up {Q : Nat → Prop} {k : Nat} (h : Q k) (t : ∀ y, k + 1 ≤ y → Q y) : ∀ y, k ≤ y → Q y := fun y hy => by
  rcases Nat.eq_or_lt_of_le hy with rfl | h1
  · exact h
  · exact t y h1
theorem z_good2 : ∀ w ∈ za_Ts, (w.onTables && w.keeps) = true ∨ ∃ ty, w = .arrayClass ty := fun w hw => good_of_word (List.mem_filter.mp hw).2
theorem z_all2 {ws : List Cond} (h : ws.all (fun w => goodWord w && lw_tbl.contains w) = true) : ∀ w ∈ ws, w ∈ za_Ts := fun w hw => by
  have h1 := List.all_eq_true.mp h w hw
  simp only [Bool.and_eq_true] at h1
  exact List.mem_filter.mpr ⟨List.contains_iff_mem.mp h1.2, h1.1⟩
theorem z_tfa : z_tf za_tf := by
  refine ⟨rfl, rfl, fun t ty h e => ?_⟩
  rcases Nat.lt_or_ge t 6 with h7 | h7
  · have h8 : t = 2 ∨ t = 3 ∨ t = 4 ∨ t = 5 := by omega
    rcases h8 with rfl | rfl | rfl | rfl
    · exact ⟨_, (Option.some.inj e).symm⟩
    · exact ⟨_, (Option.some.inj e).symm⟩
    · exact ⟨_, (Option.some.inj e).symm⟩
    · exact ⟨_, (Option.some.inj e).symm⟩
  · rw [List.getElem?_eq_none (by exact h7)] at e
    cases e
theorem zj_0 (xs : List Int32) : (∀ w ∈ u_ws "LyndonBench" za_T0 7, w ∈ za_Ts) ∧ (∀ k, k < 7 → parseFieldDescriptor (za_T0 k).2.2.1 = some ((za_T xs).2.2.2.2.1 0 k)) ∧ (∀ a, a < 7 → ∀ b, b < 7 → a ≠ b → (za_T0 a).2.1 ≠ (za_T0 b).2.1) := ⟨z_all2 (by decide +kernel), (by decide +kernel : ∀ k, k < 7 → parseFieldDescriptor (za_T0 k).2.2.1 = some (za_fty 0 k)), by decide +kernel⟩
theorem zj_1 (xs : List Int32) : (∀ w ∈ u_ws "LyndonBench$History" za_T1 2, w ∈ za_Ts) ∧ (∀ k, k < 2 → parseFieldDescriptor (za_T1 k).2.2.1 = some ((za_T xs).2.2.2.2.1 1 k)) ∧ (∀ a, a < 2 → ∀ b, b < 2 → a ≠ b → (za_T1 a).2.1 ≠ (za_T1 b).2.1) := ⟨z_all2 (by decide +kernel), (by decide +kernel : ∀ k, k < 2 → parseFieldDescriptor (za_T1 k).2.2.1 = some (za_fty 1 k)), by decide +kernel⟩
theorem zj_2 (xs : List Int32) : (∀ w ∈ u_ws "LyndonBench$Script" za_T2 12, w ∈ za_Ts) ∧ (∀ k, k < 12 → parseFieldDescriptor (za_T2 k).2.2.1 = some ((za_T xs).2.2.2.2.1 2 k)) ∧ (∀ a, a < 12 → ∀ b, b < 12 → a ≠ b → (za_T2 a).2.1 ≠ (za_T2 b).2.1) := ⟨z_all2 (by decide +kernel), (by decide +kernel : ∀ k, k < 12 → parseFieldDescriptor (za_T2 k).2.2.1 = some (za_fty 2 k)), by decide +kernel⟩
theorem zj_3 (xs : List Int32) : (∀ w ∈ u_ws "LyndonBench$State" za_T3 4, w ∈ za_Ts) ∧ (∀ k, k < 4 → parseFieldDescriptor (za_T3 k).2.2.1 = some ((za_T xs).2.2.2.2.1 3 k)) ∧ (∀ a, a < 4 → ∀ b, b < 4 → a ≠ b → (za_T3 a).2.1 ≠ (za_T3 b).2.1) := ⟨z_all2 (by decide +kernel), (by decide +kernel : ∀ k, k < 4 → parseFieldDescriptor (za_T3 k).2.2.1 = some (za_fty 3 k)), by decide +kernel⟩
theorem zj_4 (xs : List Int32) : (∀ w ∈ u_ws "LyndonBench$Word" za_T4 2, w ∈ za_Ts) ∧ (∀ k, k < 2 → parseFieldDescriptor (za_T4 k).2.2.1 = some ((za_T xs).2.2.2.2.1 4 k)) ∧ (∀ a, a < 2 → ∀ b, b < 2 → a ≠ b → (za_T4 a).2.1 ≠ (za_T4 b).2.1) := ⟨z_all2 (by decide +kernel), (by decide +kernel : ∀ k, k < 2 → parseFieldDescriptor (za_T4 k).2.2.1 = some (za_fty 4 k)), by decide +kernel⟩
theorem z_okca (xs : List Int32) : z_okc za_cl za_tf (za_T xs) za_Ts := by
  refine ⟨fun ci r e => ?_, fun t h1 h2 ty e => ?_⟩
  · rcases Nat.lt_or_ge ci 5 with h7 | h7
    · have h8 : ci = 0 ∨ ci = 1 ∨ ci = 2 ∨ ci = 3 ∨ ci = 4 := by omega
      rcases h8 with rfl | rfl | rfl | rfl | rfl
      · cases e; exact zj_0 xs
      · cases e; exact zj_1 xs
      · cases e; exact zj_2 xs
      · cases e; exact zj_3 xs
      · cases e; exact zj_4 xs
    · rw [List.getElem?_eq_none (by exact h7)] at e
      cases e
  · have h8 : t = 104 ∨ t = 105 := by omega
    rcases h8 with rfl | rfl
    · cases e; exact ⟨Nat.le_of_ble_eq_true rfl, _, rfl, rfl⟩
    · cases e; exact ⟨Nat.le_of_ble_eq_true rfl, _, rfl, rfl⟩
theorem z_nwa : ∀ w ∈ za_nw, z_nwk w := by
  intro w hw
  simp only [za_nw, List.mem_cons, List.not_mem_nil, or_false] at hw
  rcases hw with rfl | rfl | rfl <;> trivial
theorem zk_out (xs : List Int32) (y : Nat) (h1 : 96 ≤ y) : plainName (za_M.1 y).cls = true ∧ z_okm (za_T xs) za_P za_M y := by
  have e1 : za_M.1 y = ⟨"LyndonBench", "", ""⟩ := z_g2_out (l := za_n) h1
  have e2 : za_M.2.1 y = ⟨#[]⟩ := z_g2_out (l := za_b) h1
  have e3 : za_P.1 y = [] := z_g2_out (l := za_c) h1
  have e4 : za_P.2.2.1 y = [] := z_g2_out (l := za_h) h1
  exact ⟨by rw [e1]; decide +kernel, z_okm_of _ _ [] [] e1 e2 e3 e4 z_fn z_fn⟩
theorem za_nh (y : Nat) : za_P.2.2.1 y = [] := by
  rcases Nat.lt_or_ge y 96 with h | h
  · exact List.all_eq_true.mp (show ((List.range 96).all fun y => (z_g2 za_h [] y).isEmpty) = true by decide +kernel) y (List.mem_range.mpr h) |> fun e => List.isEmpty_iff.mp e
  · exact z_g2_out (l := za_h) h
theorem zk_up0 (xs : List Int32) (h : ∀ y, 40 ≤ y → plainName (za_M.1 y).cls = true ∧ z_okm (za_T xs) za_P za_M y) : ∀ y, 0 ≤ y → plainName (za_M.1 y).cls = true ∧ z_okm (za_T xs) za_P za_M y :=
  z_up ⟨by decide +kernel, zk_0 xs⟩ <|
  z_up ⟨by decide +kernel, zk_1 xs⟩ <|
  z_up ⟨by decide +kernel, zk_2 xs⟩ <|
  z_up ⟨by decide +kernel, zk_3 xs⟩ <|
  z_up ⟨by decide +kernel, zk_4 xs⟩ <|
  z_up ⟨by decide +kernel, zk_5 xs⟩ <|
  z_up ⟨by decide +kernel, zk_6 xs⟩ <|
  z_up ⟨by decide +kernel, zk_7 xs⟩ <|
  z_up ⟨by decide +kernel, zk_8 xs⟩ <|
  z_up ⟨by decide +kernel, zk_9 xs⟩ <|
  z_up ⟨by decide +kernel, zk_10 xs⟩ <|
  z_up ⟨by decide +kernel, zk_11 xs⟩ <|
  z_up ⟨by decide +kernel, zk_12 xs⟩ <|
  z_up ⟨by decide +kernel, zk_13 xs⟩ <|
  z_up ⟨by decide +kernel, zk_14 xs⟩ <|
  z_up ⟨by decide +kernel, zk_15 xs⟩ <|
  z_up ⟨by decide +kernel, zk_16 xs⟩ <|
  z_up ⟨by decide +kernel, zk_17 xs⟩ <|
  z_up ⟨by decide +kernel, zk_18 xs⟩ <|
  z_up ⟨by decide +kernel, zk_19 xs⟩ <|
  z_up ⟨by decide +kernel, zk_20 xs⟩ <|
  z_up ⟨by decide +kernel, zk_21 xs⟩ <|
  z_up ⟨by decide +kernel, zk_22 xs⟩ <|
  z_up ⟨by decide +kernel, zk_23 xs⟩ <|
  z_up ⟨by decide +kernel, zk_24 xs⟩ <|
  z_up ⟨by decide +kernel, zk_25 xs⟩ <|
  z_up ⟨by decide +kernel, zk_26 xs⟩ <|
  z_up ⟨by decide +kernel, zk_27 xs⟩ <|
  z_up ⟨by decide +kernel, zk_28 xs⟩ <|
  z_up ⟨by decide +kernel, zk_29 xs⟩ <|
  z_up ⟨by decide +kernel, zk_30 xs⟩ <|
  z_up ⟨by decide +kernel, zk_31 xs⟩ <|
  z_up ⟨by decide +kernel, zk_32 xs⟩ <|
  z_up ⟨by decide +kernel, zk_33 xs⟩ <|
  z_up ⟨by decide +kernel, zk_34 xs⟩ <|
  z_up ⟨by decide +kernel, zk_35 xs⟩ <|
  z_up ⟨by decide +kernel, zk_36 xs⟩ <|
  z_up ⟨by decide +kernel, zk_37 xs⟩ <|
  z_up ⟨by decide +kernel, zk_38 xs⟩ <|
  z_up ⟨by decide +kernel, zk_39 xs⟩ <|
  h
theorem zk_up1 (xs : List Int32) (h : ∀ y, 80 ≤ y → plainName (za_M.1 y).cls = true ∧ z_okm (za_T xs) za_P za_M y) : ∀ y, 40 ≤ y → plainName (za_M.1 y).cls = true ∧ z_okm (za_T xs) za_P za_M y :=
  z_up ⟨by decide +kernel, zk_40 xs⟩ <|
  z_up ⟨by decide +kernel, zk_41 xs⟩ <|
  z_up ⟨by decide +kernel, zk_42 xs⟩ <|
  z_up ⟨by decide +kernel, zk_43 xs⟩ <|
  z_up ⟨by decide +kernel, zk_44 xs⟩ <|
  z_up ⟨by decide +kernel, zk_45 xs⟩ <|
  z_up ⟨by decide +kernel, zk_46 xs⟩ <|
  z_up ⟨by decide +kernel, zk_47 xs⟩ <|
  z_up ⟨by decide +kernel, zk_48 xs⟩ <|
  z_up ⟨by decide +kernel, zk_49 xs⟩ <|
  z_up ⟨by decide +kernel, zk_50 xs⟩ <|
  z_up ⟨by decide +kernel, zk_51 xs⟩ <|
  z_up ⟨by decide +kernel, zk_52 xs⟩ <|
  z_up ⟨by decide +kernel, zk_53 xs⟩ <|
  z_up ⟨by decide +kernel, zk_54 xs⟩ <|
  z_up ⟨by decide +kernel, zk_55 xs⟩ <|
  z_up ⟨by decide +kernel, zk_56 xs⟩ <|
  z_up ⟨by decide +kernel, zk_57 xs⟩ <|
  z_up ⟨by decide +kernel, zk_58 xs⟩ <|
  z_up ⟨by decide +kernel, zk_59 xs⟩ <|
  z_up ⟨by decide +kernel, zk_60 xs⟩ <|
  z_up ⟨by decide +kernel, zk_61 xs⟩ <|
  z_up ⟨by decide +kernel, zk_62 xs⟩ <|
  z_up ⟨by decide +kernel, zk_63 xs⟩ <|
  z_up ⟨by decide +kernel, zk_64 xs⟩ <|
  z_up ⟨by decide +kernel, zk_65 xs⟩ <|
  z_up ⟨by decide +kernel, zk_66 xs⟩ <|
  z_up ⟨by decide +kernel, zk_67 xs⟩ <|
  z_up ⟨by decide +kernel, zk_68 xs⟩ <|
  z_up ⟨by decide +kernel, zk_69 xs⟩ <|
  z_up ⟨by decide +kernel, zk_70 xs⟩ <|
  z_up ⟨by decide +kernel, zk_71 xs⟩ <|
  z_up ⟨by decide +kernel, zk_72 xs⟩ <|
  z_up ⟨by decide +kernel, zk_73 xs⟩ <|
  z_up ⟨by decide +kernel, zk_74 xs⟩ <|
  z_up ⟨by decide +kernel, zk_75 xs⟩ <|
  z_up ⟨by decide +kernel, zk_76 xs⟩ <|
  z_up ⟨by decide +kernel, zk_77 xs⟩ <|
  z_up ⟨by decide +kernel, zk_78 xs⟩ <|
  z_up ⟨by decide +kernel, zk_79 xs⟩ <|
  h
theorem zk_up2 (xs : List Int32) (h : ∀ y, 96 ≤ y → plainName (za_M.1 y).cls = true ∧ z_okm (za_T xs) za_P za_M y) : ∀ y, 80 ≤ y → plainName (za_M.1 y).cls = true ∧ z_okm (za_T xs) za_P za_M y :=
  z_up ⟨by decide +kernel, zk_80 xs⟩ <|
  z_up ⟨by decide +kernel, zk_81 xs⟩ <|
  z_up ⟨by decide +kernel, zk_82 xs⟩ <|
  z_up ⟨by decide +kernel, zk_83 xs⟩ <|
  z_up ⟨by decide +kernel, zk_84 xs⟩ <|
  z_up ⟨by decide +kernel, zk_85 xs⟩ <|
  z_up ⟨by decide +kernel, zk_86 xs⟩ <|
  z_up ⟨by decide +kernel, zk_87 xs⟩ <|
  z_up ⟨by decide +kernel, zk_88 xs⟩ <|
  z_up ⟨by decide +kernel, zk_89 xs⟩ <|
  z_up ⟨by decide +kernel, zk_90 xs⟩ <|
  z_up ⟨by decide +kernel, zk_91 xs⟩ <|
  z_up ⟨by decide +kernel, zk_92 xs⟩ <|
  z_up ⟨by decide +kernel, zk_93 xs⟩ <|
  z_up ⟨by decide +kernel, zk_94 xs⟩ <|
  z_up ⟨by decide +kernel, zk_95 xs⟩ <|
  h
theorem zk_all (xs : List Int32) : ∀ y, plainName (za_M.1 y).cls = true ∧ z_okm (za_T xs) za_P za_M y := fun y => zk_up0 xs (zk_up1 xs (zk_up2 xs (zk_out xs))) y (Nat.zero_le y)
theorem za_okS (xs : List Int32) {tys : List (ClassId × FieldType)} (h1 : ∀ (t : Nat) (x : ClassId × FieldType), tys[t]? = some x → za_tf[t]? = some x.2) (h2 : ∀ t : Nat, t < 6 → ∀ ty : FieldType, za_tf[t]? = some ty → ∃ x : ClassId, tys[t]? = some (x, ty)) : z_okS (za_T xs) za_P za_M tys :=
  ⟨z_okca xs, z_tfa, h1, h2, z_nwa, z_good2, zk_all xs⟩
end
section
/-! THE START, in the pure machine's words. -/
/-- the claim's flat premises -/
def ze_flat : List Cond := flatC (Jvm.Cond.and given_1 narrow_1)
def ze_sm (C n d : String) : Term := .static C n d
/-- an array of whole numbers, its premises -/
def ze_els (tm : Term) : List Int32 → Nat → List Cond
  | [], _ => []
  | x :: r, j => .eq (.elem tm (.int (Int32.ofNat j))) (.int x) :: ze_els tm r (j + 1)
def ze_arr (tm : Term) (ty : FieldType) (l : List Int32) : List Cond := .arrayOf tm ty :: .eq (.length tm) (.int (Int32.ofNat l.length)) :: ze_els tm l 0
/-- a text's premises -/
def ze_str (own : String) (k : Nat) (l : List Int32) : List Cond := .exactly (.string own k) "java/lang/String" :: .eq (.field (.string own k) "java/lang/String" "coder" "B") (.int 0) :: ze_arr (.field (.string own k) "java/lang/String" "value" "[B") .byte l
def ze_data : List (String × Nat × List Int32) := [("LyndonBench", 55, [97, 99, 97, 98, 97, 97, 98, 97, 99, 99, 97, 98, 97, 98]),
  ("LyndonBench", 61, [97, 98, 97, 99, 97, 98])]
def z_path : List Bool → Cond → Option Cond
  | [], c => some c
  | false :: p, .and a _ => z_path p a
  | true :: p, .and _ b => z_path p b
  | _ :: _, _ => none
theorem z_path_ok {args : Array Value} {s : State} : ∀ (p : List Bool) (c d : Cond), c.before args s = true → z_path p c = some d → d.before args s = true := by
  intro p
  induction p with
  | nil => intro c d h e; cases e; exact h
  | cons x p ih =>
    intro c d h e
    unfold z_path at e
    split at e
    · cases e; exact h
    · rename_i q a b e1
      cases e1
      rw [Cond.before_and, Bool.and_eq_true] at h
      exact ih _ _ h.1 e
    · rename_i q a b e1
      cases e1
      rw [Cond.before_and, Bool.and_eq_true] at h
      exact ih _ _ h.2 e
    · cases e
theorem ze_p (p : List Bool) {d : Cond} {args : Array Value} {s : State} (hb : (Jvm.Cond.and given_1 narrow_1).before args s = true) (h : z_path p (Jvm.Cond.and given_1 narrow_1) = some d) : d.before args s = true := z_path_ok p _ _ hb h
theorem ze_k5_0 {args : Array Value} {s : State} (hb : (Jvm.Cond.and given_1 narrow_1).before args s = true) : ∀ c ∈ ze_str "LyndonBench" 55 [97, 99, 97, 98, 97, 97, 98, 97, 99, 99, 97, 98, 97, 98], c.before args s = true :=
  z_fc (ze_p [true, false, false, false, false, false, true, false, false, false] hb rfl) <|
  z_fc (ze_p [true, false, false, false, false, false, true, false, false, true] hb rfl) <|
  z_fc (ze_p [true, false, false, false, false, false, true, false, true, false] hb rfl) <|
  z_fc (ze_p [true, false, false, false, false, false, true, false, true, true] hb rfl) <|
  z_fc (ze_p [true, false, false, false, false, false, true, true, false, false] hb rfl) <|
  z_fc (ze_p [true, false, false, false, false, false, true, true, false, true] hb rfl) <|
  z_fc (ze_p [true, false, false, false, false, false, true, true, true, false] hb rfl) <|
  z_fc (ze_p [true, false, false, false, false, false, true, true, true, true, false] hb rfl) <|
  z_fc (ze_p [true, false, false, false, false, false, true, true, true, true, true] hb rfl) <|
  z_fc (ze_p [true, false, false, false, false, true, false, false, false, false] hb rfl) <|
  z_fc (ze_p [true, false, false, false, false, true, false, false, false, true] hb rfl) <|
  z_fc (ze_p [true, false, false, false, false, true, false, false, true, false] hb rfl) <|
  z_fc (ze_p [true, false, false, false, false, true, false, false, true, true] hb rfl) <|
  z_fc (ze_p [true, false, false, false, false, true, false, true, false, false] hb rfl) <|
  z_fc (ze_p [true, false, false, false, false, true, false, true, false, true] hb rfl) <|
  z_fc (ze_p [true, false, false, false, false, true, false, true, true, false] hb rfl) <|
  z_fc (ze_p [true, false, false, false, false, true, false, true, true, true, false] hb rfl) <|
  z_fc (ze_p [true, false, false, false, false, true, false, true, true, true, true] hb rfl) <|
  z_fn
theorem ze_k5_1 {args : Array Value} {s : State} (hb : (Jvm.Cond.and given_1 narrow_1).before args s = true) : ∀ c ∈ ze_str "LyndonBench" 61 [97, 98, 97, 99, 97, 98], c.before args s = true :=
  z_fc (ze_p [true, false, false, false, false, true, true, false, false, false] hb rfl) <|
  z_fc (ze_p [true, false, false, false, false, true, true, false, false, true] hb rfl) <|
  z_fc (ze_p [true, false, false, false, false, true, true, false, true, false] hb rfl) <|
  z_fc (ze_p [true, false, false, false, false, true, true, false, true, true] hb rfl) <|
  z_fc (ze_p [true, false, false, false, false, true, true, true, false, false] hb rfl) <|
  z_fc (ze_p [true, false, false, false, false, true, true, true, false, true] hb rfl) <|
  z_fc (ze_p [true, false, false, false, false, true, true, true, true, false] hb rfl) <|
  z_fc (ze_p [true, false, false, false, false, true, true, true, true, true, false] hb rfl) <|
  z_fc (ze_p [true, false, false, false, false, true, true, true, true, true, true] hb rfl) <|
  z_fc (ze_p [true, false, false, false, true, false, false, false, false, false] hb rfl) <|
  z_fn
theorem z_l1 {α : Type} {Q : Nat → α → Prop} {c : α} {l : List α} {k : Nat} (h : Q k c) (t : ∀ (j : Nat) (x : α), l[j]? = some x → Q (k + 1 + j) x) : ∀ (j : Nat) (x : α), (c :: l)[j]? = some x → Q (k + j) x := by
  intro j x e
  cases j with
  | zero => cases e; exact h
  | succ j => rw [show k + (j + 1) = k + 1 + j by omega]; exact t j x e
theorem z_l0 {α : Type} {R : Nat → α → Prop} : ∀ (j : Nat) (x : α), ([] : List α)[j]? = some x → R j x := fun j x e => by cases e
theorem z_l9 {α : Type} {Q : Nat → α → Prop} {l : List α} (t : ∀ (j : Nat) (x : α), l[j]? = some x → Q (0 + j) x) : ∀ (j : Nat) (x : α), l[j]? = some x → Q j x := fun j x e => by
  have h := t j x e
  rwa [Nat.zero_add] at h
theorem ze_k5 {args : Array Value} {s : State} (hb : (Jvm.Cond.and given_1 narrow_1).before args s = true) : ∀ (i : Nat) (q : String × Nat × List Int32), ze_data[i]? = some q → ∀ c ∈ ze_str q.1 q.2.1 q.2.2, c.before args s = true := z_l9 (Q := fun (_ : Nat) (q : String × Nat × List Int32) => ∀ c ∈ ze_str q.1 q.2.1 q.2.2, c.before args s = true) <| z_l1 (k := 0) (Q := fun (_ : Nat) (q : String × Nat × List Int32) => ∀ c ∈ ze_str q.1 q.2.1 q.2.2, c.before args s = true) (ze_k5_0 hb) <| z_l1 (k := 1) (Q := fun (_ : Nat) (q : String × Nat × List Int32) => ∀ c ∈ ze_str q.1 q.2.1 q.2.2, c.before args s = true) (ze_k5_1 hb) <| z_l0
theorem ze_k6 {args : Array Value} {s : State} (hb : (Jvm.Cond.and given_1 narrow_1).before args s = true) : ∀ c ∈ ([.eq (.static "java/lang/String" "COMPACT_STRINGS" "Z") (.int 1), .isRef (.static "jdk/internal/util/Preconditions" "SIOOBE_FORMATTER" "Ljava/util/function/BiFunction;"), .isRef (.static Bundle.tN "UNASSIGNED_STACK" Bundle.steD), .isRef (.static Bundle.tN "SUPPRESSED_SENTINEL" Bundle.listD)] : List Cond), c.before args s = true :=
  z_fc (ze_p [true, false, false, false, false, false, false, false, true, false] hb rfl) <|
  z_fc (ze_p [true, false, false, false, false, false, false, false, true, true] hb rfl) <|
  z_fc (ze_p [true, false, false, false, false, false, false, true, true, true, false] hb rfl) <|
  z_fc (ze_p [true, false, false, false, false, false, false, true, true, true, true] hb rfl) <|
  z_fn
theorem ze_nc {args : Array Value} {s : State} (hb : (Jvm.Cond.and given_1 narrow_1).before args s = true) : ∀ q ∈ za_nc, va_Nc (za_M.2.2.1 q.1) (za_M.2.2.1 q.2) s :=
  z_fn
def ze_thr : List (String × Nat × String) := [("LyndonBench", 55, "acabaabaccabab"), ("LyndonBench", 61, "abacab"), ("LyndonBench", 102, "there are 2 to 9 letters"), ("LyndonBench", 110, "a letter is still used"), ("LyndonBench", 123, "a text has at most 120 letters"), ("LyndonBench", 154, "the text is empty"), ("LyndonBench", 159, "the greatest length is 1 to 120"), ("LyndonBench", 164, "there is no next Lyndon word"), ("LyndonBench", 181, "the factor can't be kept"), ("LyndonBench", 186, "the text can't be kept"), ("LyndonBench", 194, "there is no such kept word"), ("LyndonBench", 203, "the kept words can't be joined"), ("LyndonBench", 295, "this is not one of the letters"), ("LyndonBench", 297, "the text has not so many letters"), ("LyndonBench", 299, "the text has no such part"), ("LyndonBench", 306, "there is no such factor")]
def ze_dtx : List String := ["acabaabaccabab", "abacab"]
theorem ze_els_mem (tm : Term) : ∀ (l : List Int32) (k j : Nat), j < l.length → Cond.eq (.elem tm (.int (Int32.ofNat (k + j)))) (.int (l.getD j 0)) ∈ ze_els tm l k := by
  intro l
  induction l with
  | nil => intro k j hj; cases hj
  | cons x r ih =>
    intro k j hj
    cases j with
    | zero => exact List.mem_cons_self
    | succ j =>
      have h := ih (k + 1) j (by simpa using hj)
      rw [show k + 1 + j = k + (j + 1) by omega] at h
      exact List.mem_cons_of_mem _ (by simpa using h)
theorem ze_k9 {args : Array Value} {s : State} (hb : (Jvm.Cond.and given_1 narrow_1).before args s = true) : ∀ (i : Nat) (q : String × Nat × String), ze_thr[i]? = some q → (Cond.exactly (.string q.1 q.2.1) "java/lang/String").before args s = true := z_l9 (Q := fun (_ : Nat) (q : String × Nat × String) => (Cond.exactly (.string q.1 q.2.1) "java/lang/String").before args s = true) <| z_l1 (k := 0) (Q := fun (_ : Nat) (q : String × Nat × String) => (Cond.exactly (.string q.1 q.2.1) "java/lang/String").before args s = true) (ze_p [true, false, false, false, false, false, true, false, false, false] hb rfl) <|
  z_l1 (k := 1) (Q := fun (_ : Nat) (q : String × Nat × String) => (Cond.exactly (.string q.1 q.2.1) "java/lang/String").before args s = true) (ze_p [true, false, false, false, false, true, true, false, false, false] hb rfl) <|
  z_l1 (k := 2) (Q := fun (_ : Nat) (q : String × Nat × String) => (Cond.exactly (.string q.1 q.2.1) "java/lang/String").before args s = true) (ze_p [true, true, true, false, true, true, false, true, true, true, true] hb rfl) <|
  z_l1 (k := 3) (Q := fun (_ : Nat) (q : String × Nat × String) => (Cond.exactly (.string q.1 q.2.1) "java/lang/String").before args s = true) (ze_p [true, true, true, true, false, true, true, true, false, true] hb rfl) <|
  z_l1 (k := 4) (Q := fun (_ : Nat) (q : String × Nat × String) => (Cond.exactly (.string q.1 q.2.1) "java/lang/String").before args s = true) (ze_p [true, false, false, true, false, false, false, false, true, false] hb rfl) <|
  z_l1 (k := 5) (Q := fun (_ : Nat) (q : String × Nat × String) => (Cond.exactly (.string q.1 q.2.1) "java/lang/String").before args s = true) (ze_p [true, false, true, false, false, false, false, true, true, true, false] hb rfl) <|
  z_l1 (k := 6) (Q := fun (_ : Nat) (q : String × Nat × String) => (Cond.exactly (.string q.1 q.2.1) "java/lang/String").before args s = true) (ze_p [true, false, true, false, false, true, true, true, true, false] hb rfl) <|
  z_l1 (k := 7) (Q := fun (_ : Nat) (q : String × Nat × String) => (Cond.exactly (.string q.1 q.2.1) "java/lang/String").before args s = true) (ze_p [true, false, true, true, false, false, false, false, true, false] hb rfl) <|
  z_l1 (k := 8) (Q := fun (_ : Nat) (q : String × Nat × String) => (Cond.exactly (.string q.1 q.2.1) "java/lang/String").before args s = true) (ze_p [true, true, false, false, false, false, false, true, false, false] hb rfl) <|
  z_l1 (k := 9) (Q := fun (_ : Nat) (q : String × Nat × String) => (Cond.exactly (.string q.1 q.2.1) "java/lang/String").before args s = true) (ze_p [true, true, false, false, true, false, false, true, false, true] hb rfl) <|
  z_l1 (k := 10) (Q := fun (_ : Nat) (q : String × Nat × String) => (Cond.exactly (.string q.1 q.2.1) "java/lang/String").before args s = true) (ze_p [true, true, false, true, false, false, false, true, false, true] hb rfl) <|
  z_l1 (k := 11) (Q := fun (_ : Nat) (q : String × Nat × String) => (Cond.exactly (.string q.1 q.2.1) "java/lang/String").before args s = true) (ze_p [true, true, false, true, true, false, true, false, false, true] hb rfl) <|
  z_l1 (k := 12) (Q := fun (_ : Nat) (q : String × Nat × String) => (Cond.exactly (.string q.1 q.2.1) "java/lang/String").before args s = true) (ze_p [true, false, false, false, true, false, false, false, true, false] hb rfl) <|
  z_l1 (k := 13) (Q := fun (_ : Nat) (q : String × Nat × String) => (Cond.exactly (.string q.1 q.2.1) "java/lang/String").before args s = true) (ze_p [true, false, false, true, true, false, false, false, true, true] hb rfl) <|
  z_l1 (k := 14) (Q := fun (_ : Nat) (q : String × Nat × String) => (Cond.exactly (.string q.1 q.2.1) "java/lang/String").before args s = true) (ze_p [true, true, true, false, false, true, false, false, true, false] hb rfl) <|
  z_l1 (k := 15) (Q := fun (_ : Nat) (q : String × Nat × String) => (Cond.exactly (.string q.1 q.2.1) "java/lang/String").before args s = true) (ze_p [true, false, true, true, true, false, false, true, false, true] hb rfl) <|
  z_l0
theorem ze_T_congr {ty : FieldType} {t N : Nat} {f g : Nat → Value} {A : Nat → Prop} {U : State} {H : Heap} (h : va_T ty t N f A U H) (e : ∀ j, j < N → f j = g j) : va_T ty t N g A U H := by
  obtain ⟨cell, h1, h2, h3, h4, h5, h6, h7⟩ := h
  exact ⟨cell, h1, h2, h3, h4, h5, fun j hj => (h6 j hj).trans (congrArg some (e j hj)), h7⟩
section ZES
variable {args : Array Value} {s : State} {A : Nat → Prop}
theorem ze_arr_T {tm : Term} {ty : FieldType} {l : List Int32} (h : ∀ c ∈ ze_arr tm ty l, c.before args s = true) (hl : l.length < 2 ^ 31) (hA : ∀ a : Nat, a < s.heap.size → ¬ A a) : ∃ t : Nat, tm.eval args s none [] s = some (.ref t) ∧ va_T ty t l.length (fun i => .int (l.getD i 0)) A s s.heap :=
  va_Tof hl (h _ List.mem_cons_self) (va_eqt (h _ (List.mem_cons_of_mem _ List.mem_cons_self))) (fun j hj => va_eqt (h _ (List.mem_cons_of_mem _ (List.mem_cons_of_mem _ (by have h9 := ze_els_mem tm l 0 j hj; rwa [Nat.zero_add] at h9))))) hA
theorem ze_str_T {own : String} {k : Nat} {l : List Int32} (h : ∀ c ∈ ze_str own k l, c.before args s = true) (hl : l.length < 2 ^ 31) (hA : ∀ a : Nat, a < s.heap.size → ¬ A a) : ∃ a t : Nat, (Term.string own k).eval args s none [] s = some (.ref a) ∧ va_O "java/lang/String" a A s s.heap ∧ va_OF "java/lang/String" "coder" "B" (.int 0) a A s s.heap ∧ va_OF "java/lang/String" "value" "[B" (.ref t) a A s s.heap ∧ va_T .byte t l.length (fun i => .int (l.getD i 0)) A s s.heap := by
  obtain ⟨a, c, cA, kA, q1, q2, q3, q4, q5, q6, -⟩ := Cond.exactly_spec (args := args) (first := s) (o := none) (s := s) (idx := []) (t := .string own k) (cls := "java/lang/String") (h _ List.mem_cons_self)
  obtain ⟨t, ht, hT⟩ := ze_arr_T (fun c hc => h c (List.mem_cons_of_mem _ (List.mem_cons_of_mem _ hc))) hl hA
  exact ⟨a, t, q1, va_Oof (h _ List.mem_cons_self) q1 hA, vk_OFof q1 (va_eqt (h _ (List.mem_cons_of_mem _ List.mem_cons_self))) hA, vk_OFof q1 ht hA, hT⟩
theorem ze_strs (hb : (Jvm.Cond.and given_1 narrow_1).before args s = true) (hA : ∀ a : Nat, a < s.heap.size → ¬ A a) : ∃ adK adV : Nat → Nat, ∀ (i : Nat) (q : String × Nat × List Int32), ze_data[i]? = some q → (Term.string q.1 q.2.1).eval args s none [] s = some (.ref (adK i)) ∧ va_O "java/lang/String" (adK i) A s s.heap ∧ va_OF "java/lang/String" "coder" "B" (.int 0) (adK i) A s s.heap ∧ va_OF "java/lang/String" "value" "[B" (.ref (adV i)) (adK i) A s s.heap ∧ va_T .byte (adV i) q.2.2.length (fun j => .int (q.2.2.getD j 0)) A s s.heap := by
  have hlen : ∀ q ∈ ze_data, q.2.2.length < 100 := by decide +kernel
  have h0 : ∀ i : Nat, ∃ w : Nat × Nat, ∀ q : String × Nat × List Int32, ze_data[i]? = some q → (Term.string q.1 q.2.1).eval args s none [] s = some (.ref w.1) ∧ va_O "java/lang/String" w.1 A s s.heap ∧ va_OF "java/lang/String" "coder" "B" (.int 0) w.1 A s s.heap ∧ va_OF "java/lang/String" "value" "[B" (.ref w.2) w.1 A s s.heap ∧ va_T .byte w.2 q.2.2.length (fun j => .int (q.2.2.getD j 0)) A s s.heap := by
    intro i
    cases e : ze_data[i]? with
    | none => exact ⟨(0, 0), fun q hq => by cases hq⟩
    | some q =>
      have hm := List.mem_of_getElem? e
      obtain ⟨a, t, g⟩ := ze_str_T (own := q.1) (k := q.2.1) (l := q.2.2) (A := A) (ze_k5 hb i q e) (Nat.lt_trans (hlen q hm) (by decide)) hA
      exact ⟨(a, t), fun q' hq' => by cases hq'; exact g⟩
  obtain ⟨ad, had⟩ := Classical.axiomOfChoice h0
  exact ⟨fun i => (ad i).1, fun i => (ad i).2, fun i q hq => had i q hq⟩
theorem ze_thrs (hb : (Jvm.Cond.and given_1 narrow_1).before args s = true) : ∃ adX : Nat → Nat, ∀ (i : Nat) (q : String × Nat × String), ze_thr[i]? = some q → (Term.string q.1 q.2.1).eval args s none [] s = some (.ref (adX i)) := by
  have h0 : ∀ i : Nat, ∃ w : Nat, ∀ q : String × Nat × String, ze_thr[i]? = some q → (Term.string q.1 q.2.1).eval args s none [] s = some (.ref w) := by
    intro i
    cases e : ze_thr[i]? with
    | none => exact ⟨0, fun q hq => by cases hq⟩
    | some q =>
      obtain ⟨a, c, cA, kA, q1, -⟩ := Cond.exactly_spec (args := args) (first := s) (o := none) (s := s) (idx := []) (t := .string q.1 q.2.1) (cls := "java/lang/String") (ze_k9 hb i q e)
      exact ⟨a, fun q' hq' => by cases hq'; exact q1⟩
  obtain ⟨ad, had⟩ := Classical.axiomOfChoice h0
  exact ⟨ad, had⟩
end ZES
end
section
-- ===== end of PART A; then your names; then what follows =====
/-! THE CLAIM OUT OF ONE WALK OF THE LAW'S BODY. Your part is whole_start (and what it stands on); all else here is the same for every law, but numbers. -/
def R_law : String := "LyndonBenchLaw"
def lw_P (b : Addr) (xs : List Int32) (args : Array Value) (s : State) : Prop := args = #[.ref b] ∧ s.IntsAt b xs ∧ xs.length ≤ 260 ∧ (Jvm.Cond.and given_1 narrow_1).before args s = true
def lw_Q (_ : Array Value) (s : State) (o : Outcome) (t : State) : Prop := o = .returned (some (.int 1)) ∧ Framed s o t [] 600086 7301442
def lw_Z (below : List Frame) (a : Array Value) (s : State) : State → Prop := fun t => ∃ o, t.status = .running ∧ Ended t below o ∧ lw_Q a s o t
/-- the law's own end, with 1 on the stack, nothing written that was there before, its room as the claim has it -/
theorem lw_ret {p : Program} {l : Launch} {e : Env} {s : State} {m : MethodId} {below : List Frame} {meth : Method} {c : Code} {b : Nat} (hx : p.tables.exec = Jvm.exec) (hb : c.code = code) (hr : meth.sig.returnType = ret) (hlocks : meth.locks = false) {pc : Nat} {H : Heap} {ls : Array Slot} (hdg : decode code pc = .ok (.ireturn, 1)) : W p l e room_1 s m #[Value.ref b] below meth c H [] 600086 7301442 (lw_Z below #[Value.ref b] s) (F0 m pc ls [.int 1]) := by
  intro T hT X
  obtain ⟨fs, hret, hrun, hended, hW, hframe⟩ := X.leave (v := some (.int 1)) (hlocks := hlocks) (fun h => by rw [hr] at h; cases h)
  have hmeth' : T.vm.method? m = some meth := X.method'
  refine ⟨T.setFrames fs, ?_, .returned (some (.int 1)), hrun, hended, rfl, ⟨_, rfl⟩, hW, hframe⟩
  jvm_step X.here [X.here.top, hx, hb, hdg, hmeth', hr, ret, narrow_b1]
  (try refine ⟨rfl, ?_⟩); (try refine ⟨rfl, ?_⟩)
  first | (intro acts; rw [hret _ acts rfl rfl rfl]) | rw [hret _ _ rfl rfl rfl]
  exact Steps.refl _
/-- what holds at the law's entry: the machine, the code, the tables' words (any of lw_tbl by 'hts w (by decide +kernel)'), the script of L ints xs at the cell b, what the Statement gives of the start (any of its parts by flat_of_before) -/
def lw_At (p : Program) (s : State) (m : MethodId) (meth : Method) (c : Code) (b L : Nat) (xs : Nat → Int32) : Prop :=
  p.tables.exec = Jvm.exec ∧ c.code = code ∧ meth.sig.returnType = ret ∧ c.maxLocals = 8 ∧ s.vm.findClass R_law = some m.cls ∧ (∀ w ∈ lw_tbl, w.before #[Value.ref b] s = true) ∧ va_X b L xs s s.heap ∧ b < s.heap.size ∧ meth.locks = false ∧ (Jvm.Cond.and given_1 narrow_1).before #[Value.ref b] s = true
end
section
/-! THE START, put together. -/
theorem z_lt1 (j : Nat) {w : Cond} (h : tables_1_1[j]? = some w) : w ∈ lw_tbl := List.mem_append_right _ (show w ∈ tables_1 from List.mem_append_left _ (List.mem_of_getElem? h))
theorem z_lt2 (j : Nat) {w : Cond} (h : tables_1_2[j]? = some w) : w ∈ lw_tbl := List.mem_append_right _ (show w ∈ tables_1 from List.mem_append_right _ (List.mem_append_left _ (List.mem_of_getElem? h)))
theorem z_lt3 (j : Nat) {w : Cond} (h : tables_1_3[j]? = some w) : w ∈ lw_tbl := List.mem_append_right _ (show w ∈ tables_1 from List.mem_append_right _ (List.mem_append_right _ (List.mem_of_getElem? h)))
def ze_ad (aK aV aX : Nat → Nat) (b : Nat) (fmt : Option Nat) : Nat → Option Nat := fun q =>
  if q < 1000000 then none else if q < 1000004 then (if q % 2 = 0 then some (aV ((q - 1000000) / 2)) else some (aK ((q - 1000000) / 2))) else if q = 1000004 then some b else if q = 2000000 then fmt else if 3000000 ≤ q then some (aX (q - 3000000)) else none
theorem ze_getI {l : List Int32} {i : Nat} (ad : Nat → Option Nat) (h : i < l.length) : z_cv ad ((l.map Value.int).getD i .null) = .int (l.getD i 0) := by
  simp [List.getD_eq_getElem?_getD, List.getElem?_map, List.getElem?_eq_getElem h, z_cv]
theorem ze_getS {f : Nat → Nat} {n i : Nat} (ad : Nat → Option Nat) (h : i < n) (hf : ∀ k, k < n → ad (1000000 + k) = some (f k)) : z_cv ad (((List.range n).map (fun k => Value.ref (1000000 + k))).getD i .null) = .ref (f i) := by
  simp [List.getD_eq_getElem?_getD, List.getElem?_map, List.getElem?_range h, z_cv, hf i h, va_rf]
section ZEF
variable {s : State} {b L : Nat} {xs : Nat → Int32} {A : Nat → Prop}
/-- a cell that nobody writes, as z_stat has it -/
def ze_Q (ad : Nat → Option Nat) (A : Nat → Prop) (s : State) (j : Nat) (c : zC) : Prop := (∀ v ∈ c.2, z_vk 0 v) ∧ ∃ t : Nat, ad (1000000 + j) = some t ∧ ((100 ≤ c.1 ∧ ∃ ty : FieldType, za_tf[c.1 - 100]? = some ty ∧ va_T ty t c.2.length (fun i => z_cv ad (c.2.getD i .null)) A s s.heap) ∨ (c.1 < 100 ∧ ∃ r : vw_C, za_scl[c.1 - 50]? = some r ∧ 50 ≤ c.1 ∧ va_O r.1 t A s s.heap ∧ ∀ (k : Nat) (v : Value), c.2[k]? = some v → va_OF (r.2.1 k).1 (r.2.1 k).2.1 (r.2.1 k).2.2.1 (z_cv ad v) t A s s.heap))
theorem ze_Qa {ad : Nat → Option Nat} {j t a : Nat} {ty : FieldType} {l : List Int32} {vs : List Value} (hvs : vs = l.map Value.int) (h1 : ad (1000000 + j) = some t) (h2 : 100 ≤ a) (h3 : za_tf[a - 100]? = some ty) (h4 : va_T ty t l.length (fun i => .int (l.getD i 0)) A s s.heap) : ze_Q ad A s j (a, vs) := by
  subst hvs
  refine ⟨fun v hv => ?_, t, h1, Or.inl ⟨h2, ty, h3, ?_⟩⟩
  · obtain ⟨x, -, rfl⟩ := List.mem_map.mp hv
    trivial
  · dsimp only
    rw [List.length_map]
    exact ze_T_congr h4 (fun j hj => (ze_getI ad hj).symm)
theorem ze_Qs {ad : Nat → Option Nat} {j t k w : Nat} (h1 : ad (1000000 + j) = some t) (hk : ad k = some w) (hk0 : 1000000 ≤ k) (h2 : va_O "java/lang/String" t A s s.heap) (h3 : va_OF "java/lang/String" "coder" "B" (.int 0) t A s s.heap) (h4 : va_OF "java/lang/String" "value" "[B" (.ref w) t A s s.heap) : ze_Q ad A s j (50, [.ref k, .int 0]) := by
  refine ⟨fun v hv => ?_, t, h1, Or.inr ⟨Nat.le_of_ble_eq_true rfl, _, rfl, Nat.le_of_ble_eq_true rfl, h2, fun i v hv => ?_⟩⟩
  · simp only [List.mem_cons, List.not_mem_nil, or_false] at hv
    rcases hv with rfl | rfl
    · exact Or.inr hk0
    · trivial
  · match i, hv with
    | 0, hv =>
      cases hv
      have e1 : z_cv ad (.ref k) = .ref w := congrArg va_rf hk
      rw [e1]
      exact h4
    | 1, hv =>
      cases hv
      exact h3
    | (i + 2), hv => cases hv
theorem ze_sfq {C n dd : String} {A : Nat → Prop} (h : va_Zq C n dd A s s.heap) : ∃ f : Option Nat, va_Z C n dd (va_rf f) A s s.heap := by
  rcases h with h | ⟨t, h⟩
  · exact ⟨none, h⟩
  · exact ⟨some t, h⟩
end ZEF
set_option maxHeartbeats 4000000 in
theorem ze_K {s : State} {b : Nat} (hts : ∀ w ∈ lw_tbl, w.before #[Value.ref b] s = true) : ∃ (D : va_G) (tys : List (ClassId × FieldType)), va_K D za_cl tys s ∧ (∀ (t : Nat) (x : ClassId × FieldType), tys[t]? = some x → za_tf[t]? = some x.2) ∧ (∀ t : Nat, t < 6 → ∀ ty : FieldType, za_tf[t]? = some ty → ∃ x : ClassId, tys[t]? = some (x, ty)) := by
  obtain ⟨c0, i0, k0⟩ := u_known (C := "LyndonBench") (T := za_T0) (N := 7) (n := 7) hts (fun w hw => (List.mem_filter.mp ((zj_0 []).1 w hw)).1) (hts (Jvm.Cond.instantiable "LyndonBench" (7 : Nat)) (z_lt1 19 rfl))
  obtain ⟨c1, i1, k1⟩ := u_known (C := "LyndonBench$History") (T := za_T1) (N := 2) (n := 2) hts (fun w hw => (List.mem_filter.mp ((zj_1 []).1 w hw)).1) (hts (Jvm.Cond.instantiable "LyndonBench$History" (2 : Nat)) (z_lt1 69 rfl))
  obtain ⟨c2, i2, k2⟩ := u_known (C := "LyndonBench$Script") (T := za_T2) (N := 12) (n := 12) hts (fun w hw => (List.mem_filter.mp ((zj_2 []).1 w hw)).1) (hts (Jvm.Cond.instantiable "LyndonBench$Script" (12 : Nat)) (z_lt1 86 rfl))
  obtain ⟨c3, i3, k3⟩ := u_known (C := "LyndonBench$State") (T := za_T3) (N := 4) (n := 4) hts (fun w hw => (List.mem_filter.mp ((zj_3 []).1 w hw)).1) (hts (Jvm.Cond.instantiable "LyndonBench$State" (4 : Nat)) (z_lt1 27 rfl))
  obtain ⟨c4, i4, k4⟩ := u_known (C := "LyndonBench$Word") (T := za_T4) (N := 2) (n := 2) hts (fun w hw => (List.mem_filter.mp ((zj_4 []).1 w hw)).1) (hts (Jvm.Cond.instantiable "LyndonBench$Word" (2 : Nat)) (z_lt1 33 rfl))
  obtain ⟨a0, g0, m0, f0a, f0b, f0c⟩ := Cond.arrayClass_spec (args := #[Value.ref b]) (first := s) (o := none) (s := s) (idx := []) (hts (Jvm.Cond.arrayClass Jvm.ClassFile.FieldType.int) (z_lt1 132 rfl))
  obtain ⟨a1, g1, m1, f1a, f1b, f1c⟩ := Cond.arrayClass_spec (args := #[Value.ref b]) (first := s) (o := none) (s := s) (idx := []) (hts (Jvm.Cond.arrayClass Jvm.ClassFile.FieldType.byte) (z_lt1 50 rfl))
  obtain ⟨m2, a2, g2, f2d, -, f2b, f2c, f2a⟩ := Cond.arrayOver_spec (args := #[Value.ref b]) (first := s) (o := none) (s := s) (idx := []) (hts (Jvm.Cond.arrayOver (Jvm.ClassFile.FieldType.object "LyndonBench$Word")) (z_lt1 51 rfl))
  obtain ⟨m3, a3, g3, f3d, -, f3b, f3c, f3a⟩ := Cond.arrayOver_spec (args := #[Value.ref b]) (first := s) (o := none) (s := s) (idx := []) (hts (Jvm.Cond.arrayOver (Jvm.ClassFile.FieldType.object "LyndonBench$State")) (z_lt1 75 rfl))
  refine ⟨(fun k => z_nth [c0, c1, c2, c3, c4] k c0, fun k => z_nth [i0, i1, i2, i3, i4] k i0), [(a0, .int), (a1, .byte), (a2, .object "LyndonBench$Word"), (a3, .object "LyndonBench$State"), (a2, .object "LyndonBench$Word"), (a3, .object "LyndonBench$State")], ⟨z_l9 (Q := fun (c : Nat) (q : vw_C) => u_Kn s q.1 q.2.1 q.2.2 (z_nth [c0, c1, c2, c3, c4] c c0) (z_nth [i0, i1, i2, i3, i4] c i0)) ?_, z_l9 (Q := fun (_ : Nat) (q : ClassId × FieldType) => ArrOfT s q.1 q.2 ∧ va_RA s q.1 q.2) ?_⟩, z_l9 (Q := fun (t : Nat) (x : ClassId × FieldType) => za_tf[t]? = some x.2) ?_, ?_⟩
  · exact z_l1 (k := 0) (Q := fun (c : Nat) (q : vw_C) => u_Kn s q.1 q.2.1 q.2.2 (z_nth [c0, c1, c2, c3, c4] c c0) (z_nth [i0, i1, i2, i3, i4] c i0)) k0 <| z_l1 (k := 1) (Q := fun (c : Nat) (q : vw_C) => u_Kn s q.1 q.2.1 q.2.2 (z_nth [c0, c1, c2, c3, c4] c c0) (z_nth [i0, i1, i2, i3, i4] c i0)) k1 <| z_l1 (k := 2) (Q := fun (c : Nat) (q : vw_C) => u_Kn s q.1 q.2.1 q.2.2 (z_nth [c0, c1, c2, c3, c4] c c0) (z_nth [i0, i1, i2, i3, i4] c i0)) k2 <| z_l1 (k := 3) (Q := fun (c : Nat) (q : vw_C) => u_Kn s q.1 q.2.1 q.2.2 (z_nth [c0, c1, c2, c3, c4] c c0) (z_nth [i0, i1, i2, i3, i4] c i0)) k3 <| z_l1 (k := 4) (Q := fun (c : Nat) (q : vw_C) => u_Kn s q.1 q.2.1 q.2.2 (z_nth [c0, c1, c2, c3, c4] c c0) (z_nth [i0, i1, i2, i3, i4] c i0)) k4 <| z_l0
  · exact z_l1 (k := 0) (Q := fun (_ : Nat) (q : ClassId × FieldType) => ArrOfT s q.1 q.2 ∧ va_RA s q.1 q.2) ⟨fun n z => ⟨fun k h => (by cases h), g0, f0b, m0, f0c⟩, f0a⟩ <| z_l1 (k := 1) (Q := fun (_ : Nat) (q : ClassId × FieldType) => ArrOfT s q.1 q.2 ∧ va_RA s q.1 q.2) ⟨fun n z => ⟨fun k h => (by cases h), g1, f1b, m1, f1c⟩, f1a⟩ <| z_l1 (k := 2) (Q := fun (_ : Nat) (q : ClassId × FieldType) => ArrOfT s q.1 q.2 ∧ va_RA s q.1 q.2) ⟨fun n z => ⟨fun k h => (by cases h), g2, f2b, m2, f2c⟩, ⟨g2, m2, f2b, f2c, f2d, f2a⟩⟩ <| z_l1 (k := 3) (Q := fun (_ : Nat) (q : ClassId × FieldType) => ArrOfT s q.1 q.2 ∧ va_RA s q.1 q.2) ⟨fun n z => ⟨fun k h => (by cases h), g3, f3b, m3, f3c⟩, ⟨g3, m3, f3b, f3c, f3d, f3a⟩⟩ <| z_l1 (k := 4) (Q := fun (_ : Nat) (q : ClassId × FieldType) => ArrOfT s q.1 q.2 ∧ va_RA s q.1 q.2) ⟨fun n z => ⟨fun k h => (by cases h), g2, f2b, m2, f2c⟩, ⟨g2, m2, f2b, f2c, f2d, f2a⟩⟩ <| z_l1 (k := 5) (Q := fun (_ : Nat) (q : ClassId × FieldType) => ArrOfT s q.1 q.2 ∧ va_RA s q.1 q.2) ⟨fun n z => ⟨fun k h => (by cases h), g3, f3b, m3, f3c⟩, ⟨g3, m3, f3b, f3c, f3d, f3a⟩⟩ <| z_l0
  · exact z_l1 (k := 0) (Q := fun (t : Nat) (x : ClassId × FieldType) => za_tf[t]? = some x.2) rfl <| z_l1 (k := 1) (Q := fun (t : Nat) (x : ClassId × FieldType) => za_tf[t]? = some x.2) rfl <| z_l1 (k := 2) (Q := fun (t : Nat) (x : ClassId × FieldType) => za_tf[t]? = some x.2) rfl <| z_l1 (k := 3) (Q := fun (t : Nat) (x : ClassId × FieldType) => za_tf[t]? = some x.2) rfl <| z_l1 (k := 4) (Q := fun (t : Nat) (x : ClassId × FieldType) => za_tf[t]? = some x.2) rfl <| z_l1 (k := 5) (Q := fun (t : Nat) (x : ClassId × FieldType) => za_tf[t]? = some x.2) rfl <| z_l0
  · intro t ht ty e
    have h8 : t = 0 ∨ t = 1 ∨ t = 2 ∨ t = 3 ∨ t = 4 ∨ t = 5 := by omega
    rcases h8 with rfl | rfl | rfl | rfl | rfl | rfl <;> (cases e; exact ⟨_, rfl⟩)
set_option maxHeartbeats 8000000 in
set_option maxRecDepth 20000 in
theorem ze_st {s : State} {b L : Nat} {xs : Nat → Int32} (hts : ∀ w ∈ lw_tbl, w.before #[Value.ref b] s = true) (hX : va_X b L xs s s.heap) (hLs : L < 2 ^ 31) (hbl : b < s.heap.size) (hgv : (Jvm.Cond.and given_1 narrow_1).before #[Value.ref b] s = true) : ∃ ad0 : Nat → Option Nat, ad0 1000004 = some b ∧ z_stat za_scl za_tf (za_T ((List.range L).map xs)).1 za_sf za_ss za_nw (fun q => s.heap.size ≤ q) ad0 s := by
  have hA : ∀ a : Nat, a < s.heap.size → ¬ (s.heap.size ≤ a) := fun a h => Nat.not_le.mpr h
  obtain ⟨aK, aV, hS⟩ := ze_strs (A := fun q => s.heap.size ≤ q) hgv hA
  obtain ⟨aX, hXs⟩ := ze_thrs hgv
  have u6 := ze_k6 hgv
  have u7 := u6 _ List.mem_cons_self
  have u8 := u6 _ (List.mem_cons_of_mem _ List.mem_cons_self)
  have u9 := u6 _ (List.mem_cons_of_mem _ (List.mem_cons_of_mem _ List.mem_cons_self))
  have u10 := u6 _ (List.mem_cons_of_mem _ (List.mem_cons_of_mem _ (List.mem_cons_of_mem _ List.mem_cons_self)))
  obtain ⟨fmt, hfmt⟩ := ze_sfq (va_Zqof (A := fun q => s.heap.size ≤ q) (hts (Jvm.Cond.laysStatic "jdk/internal/util/Preconditions" "SIOOBE_FORMATTER" "Ljava/util/function/BiFunction;") (z_lt1 173 rfl)) (hts (Jvm.Cond.initialized "jdk/internal/util/Preconditions") (z_lt1 9 rfl)) u8 hA)
  have s0 := hS 0 _ rfl
  have s1 := hS 1 _ rfl
  refine ⟨ze_ad aK aV aX b fmt, rfl, ?_, ?_, ?_, ?_, ⟨?_, ?_⟩, ?_⟩
  · exact z_l9 (Q := ze_Q (ze_ad aK aV aX b fmt) (fun q => s.heap.size ≤ q) s) <|
      z_l1 (k := 0) (Q := ze_Q (ze_ad aK aV aX b fmt) (fun q => s.heap.size ≤ q) s) (ze_Qa rfl rfl (Nat.le_of_ble_eq_true rfl) rfl s0.2.2.2.2) <|
      z_l1 (k := 1) (Q := ze_Q (ze_ad aK aV aX b fmt) (fun q => s.heap.size ≤ q) s) (ze_Qs rfl rfl (Nat.le_of_ble_eq_true rfl) s0.2.1 s0.2.2.1 s0.2.2.2.1) <|
      z_l1 (k := 2) (Q := ze_Q (ze_ad aK aV aX b fmt) (fun q => s.heap.size ≤ q) s) (ze_Qa rfl rfl (Nat.le_of_ble_eq_true rfl) rfl s1.2.2.2.2) <|
      z_l1 (k := 3) (Q := ze_Q (ze_ad aK aV aX b fmt) (fun q => s.heap.size ≤ q) s) (ze_Qs rfl rfl (Nat.le_of_ble_eq_true rfl) s1.2.1 s1.2.2.1 s1.2.2.2.1) <|
      z_l1 (k := 4) (Q := ze_Q (ze_ad aK aV aX b fmt) (fun q => s.heap.size ≤ q) s) (by
      obtain ⟨scr, x1, x2, x3, x4, x5⟩ := hX
      refine ze_Qa (l := (List.range L).map xs) rfl rfl (Nat.le_of_ble_eq_true rfl) rfl ⟨scr, x1, x2, x3, ?_, ?_, ?_, hA b hbl⟩
      · rw [List.length_map, List.length_range, x4]; exact Nat.le_refl _
      · rw [List.length_map, List.length_range, x4]
      · intro j hj
        rw [List.length_map, List.length_range] at hj
        rw [x5 j hj]
        simp [List.getD_eq_getElem?_getD, List.getElem?_map, List.getElem?_range hj]) <|
      z_l0
  · exact z_l9 (Q := fun (_ : Nat) (q : zF) => z_vk 0 q.2.2.2 ∧ va_Z q.1 q.2.1 q.2.2.1 (z_cv (ze_ad aK aV aX b fmt) q.2.2.2) (fun q => s.heap.size ≤ q) s s.heap) <|
      z_l1 (k := 0) (Q := fun (_ : Nat) (q : zF) => z_vk 0 q.2.2.2 ∧ va_Z q.1 q.2.1 q.2.2.1 (z_cv (ze_ad aK aV aX b fmt) q.2.2.2) (fun q => s.heap.size ≤ q) s s.heap) ⟨trivial, va_Zof (hts (Jvm.Cond.laysStatic "java/lang/String" "COMPACT_STRINGS" "Z") (z_lt1 157 rfl)) (hts (Jvm.Cond.initialized "java/lang/String") (z_lt1 7 rfl)) (va_eqi u7) hA⟩ <|
      z_l1 (k := 1) (Q := fun (_ : Nat) (q : zF) => z_vk 0 q.2.2.2 ∧ va_Z q.1 q.2.1 q.2.2.1 (z_cv (ze_ad aK aV aX b fmt) q.2.2.2) (fun q => s.heap.size ≤ q) s s.heap) ⟨Or.inr (Nat.le_of_ble_eq_true rfl), hfmt⟩ <|
      z_l0
  · exact z_l9 (Q := fun (_ : Nat) (q : zS) => 1000000 ≤ q.2.2.2 ∧ ∃ t : Nat, ze_ad aK aV aX b fmt q.2.2.2 = some t ∧ vk_R q.1 q.2.1 q.2.2.1 t s) <|
      z_l1 (k := 0) (Q := fun (_ : Nat) (q : zS) => 1000000 ≤ q.2.2.2 ∧ ∃ t : Nat, ze_ad aK aV aX b fmt q.2.2.2 = some t ∧ vk_R q.1 q.2.1 q.2.2.1 t s) ⟨Nat.le_of_ble_eq_true rfl, aK 0, rfl, vk_R.of (hts (Jvm.Cond.stringRef "LyndonBench" (55 : Nat) "acabaabaccabab") (z_lt1 143 rfl)) s0.1⟩ <|
      z_l1 (k := 1) (Q := fun (_ : Nat) (q : zS) => 1000000 ≤ q.2.2.2 ∧ ∃ t : Nat, ze_ad aK aV aX b fmt q.2.2.2 = some t ∧ vk_R q.1 q.2.1 q.2.2.1 t s) ⟨Nat.le_of_ble_eq_true rfl, aK 1, rfl, vk_R.of (hts (Jvm.Cond.stringRef "LyndonBench" (61 : Nat) "abacab") (z_lt1 200 rfl)) s1.1⟩ <|
      z_l1 (k := 2) (Q := fun (_ : Nat) (q : zS) => 1000000 ≤ q.2.2.2 ∧ ∃ t : Nat, ze_ad aK aV aX b fmt q.2.2.2 = some t ∧ vk_R q.1 q.2.1 q.2.2.1 t s) ⟨Nat.le_of_ble_eq_true rfl, aX 2, rfl, vk_R.of (hts (Jvm.Cond.stringRef "LyndonBench" (102 : Nat) "there are 2 to 9 letters") (z_lt3 108 rfl)) (hXs 2 _ rfl)⟩ <|
      z_l1 (k := 3) (Q := fun (_ : Nat) (q : zS) => 1000000 ≤ q.2.2.2 ∧ ∃ t : Nat, ze_ad aK aV aX b fmt q.2.2.2 = some t ∧ vk_R q.1 q.2.1 q.2.2.1 t s) ⟨Nat.le_of_ble_eq_true rfl, aX 3, rfl, vk_R.of (hts (Jvm.Cond.stringRef "LyndonBench" (110 : Nat) "a letter is still used") (z_lt3 117 rfl)) (hXs 3 _ rfl)⟩ <|
      z_l1 (k := 4) (Q := fun (_ : Nat) (q : zS) => 1000000 ≤ q.2.2.2 ∧ ∃ t : Nat, ze_ad aK aV aX b fmt q.2.2.2 = some t ∧ vk_R q.1 q.2.1 q.2.2.1 t s) ⟨Nat.le_of_ble_eq_true rfl, aX 4, rfl, vk_R.of (hts (Jvm.Cond.stringRef "LyndonBench" (123 : Nat) "a text has at most 120 letters") (z_lt2 124 rfl)) (hXs 4 _ rfl)⟩ <|
      z_l1 (k := 5) (Q := fun (_ : Nat) (q : zS) => 1000000 ≤ q.2.2.2 ∧ ∃ t : Nat, ze_ad aK aV aX b fmt q.2.2.2 = some t ∧ vk_R q.1 q.2.1 q.2.2.1 t s) ⟨Nat.le_of_ble_eq_true rfl, aX 5, rfl, vk_R.of (hts (Jvm.Cond.stringRef "LyndonBench" (154 : Nat) "the text is empty") (z_lt2 197 rfl)) (hXs 5 _ rfl)⟩ <|
      z_l1 (k := 6) (Q := fun (_ : Nat) (q : zS) => 1000000 ≤ q.2.2.2 ∧ ∃ t : Nat, ze_ad aK aV aX b fmt q.2.2.2 = some t ∧ vk_R q.1 q.2.1 q.2.2.1 t s) ⟨Nat.le_of_ble_eq_true rfl, aX 6, rfl, vk_R.of (hts (Jvm.Cond.stringRef "LyndonBench" (159 : Nat) "the greatest length is 1 to 120") (z_lt2 226 rfl)) (hXs 6 _ rfl)⟩ <|
      z_l1 (k := 7) (Q := fun (_ : Nat) (q : zS) => 1000000 ≤ q.2.2.2 ∧ ∃ t : Nat, ze_ad aK aV aX b fmt q.2.2.2 = some t ∧ vk_R q.1 q.2.1 q.2.2.1 t s) ⟨Nat.le_of_ble_eq_true rfl, aX 7, rfl, vk_R.of (hts (Jvm.Cond.stringRef "LyndonBench" (164 : Nat) "there is no next Lyndon word") (z_lt2 237 rfl)) (hXs 7 _ rfl)⟩ <|
      z_l1 (k := 8) (Q := fun (_ : Nat) (q : zS) => 1000000 ≤ q.2.2.2 ∧ ∃ t : Nat, ze_ad aK aV aX b fmt q.2.2.2 = some t ∧ vk_R q.1 q.2.1 q.2.2.1 t s) ⟨Nat.le_of_ble_eq_true rfl, aX 8, rfl, vk_R.of (hts (Jvm.Cond.stringRef "LyndonBench" (181 : Nat) "the factor can't be kept") (z_lt3 49 rfl)) (hXs 8 _ rfl)⟩ <|
      z_l1 (k := 9) (Q := fun (_ : Nat) (q : zS) => 1000000 ≤ q.2.2.2 ∧ ∃ t : Nat, ze_ad aK aV aX b fmt q.2.2.2 = some t ∧ vk_R q.1 q.2.1 q.2.2.1 t s) ⟨Nat.le_of_ble_eq_true rfl, aX 9, rfl, vk_R.of (hts (Jvm.Cond.stringRef "LyndonBench" (186 : Nat) "the text can't be kept") (z_lt3 54 rfl)) (hXs 9 _ rfl)⟩ <|
      z_l1 (k := 10) (Q := fun (_ : Nat) (q : zS) => 1000000 ≤ q.2.2.2 ∧ ∃ t : Nat, ze_ad aK aV aX b fmt q.2.2.2 = some t ∧ vk_R q.1 q.2.1 q.2.2.1 t s) ⟨Nat.le_of_ble_eq_true rfl, aX 10, rfl, vk_R.of (hts (Jvm.Cond.stringRef "LyndonBench" (194 : Nat) "there is no such kept word") (z_lt3 60 rfl)) (hXs 10 _ rfl)⟩ <|
      z_l1 (k := 11) (Q := fun (_ : Nat) (q : zS) => 1000000 ≤ q.2.2.2 ∧ ∃ t : Nat, ze_ad aK aV aX b fmt q.2.2.2 = some t ∧ vk_R q.1 q.2.1 q.2.2.1 t s) ⟨Nat.le_of_ble_eq_true rfl, aX 11, rfl, vk_R.of (hts (Jvm.Cond.stringRef "LyndonBench" (203 : Nat) "the kept words can't be joined") (z_lt3 80 rfl)) (hXs 11 _ rfl)⟩ <|
      z_l1 (k := 12) (Q := fun (_ : Nat) (q : zS) => 1000000 ≤ q.2.2.2 ∧ ∃ t : Nat, ze_ad aK aV aX b fmt q.2.2.2 = some t ∧ vk_R q.1 q.2.1 q.2.2.1 t s) ⟨Nat.le_of_ble_eq_true rfl, aX 12, rfl, vk_R.of (hts (Jvm.Cond.stringRef "LyndonBench" (295 : Nat) "this is not one of the letters") (z_lt2 89 rfl)) (hXs 12 _ rfl)⟩ <|
      z_l1 (k := 13) (Q := fun (_ : Nat) (q : zS) => 1000000 ≤ q.2.2.2 ∧ ∃ t : Nat, ze_ad aK aV aX b fmt q.2.2.2 = some t ∧ vk_R q.1 q.2.1 q.2.2.1 t s) ⟨Nat.le_of_ble_eq_true rfl, aX 13, rfl, vk_R.of (hts (Jvm.Cond.stringRef "LyndonBench" (297 : Nat) "the text has not so many letters") (z_lt2 167 rfl)) (hXs 13 _ rfl)⟩ <|
      z_l1 (k := 14) (Q := fun (_ : Nat) (q : zS) => 1000000 ≤ q.2.2.2 ∧ ∃ t : Nat, ze_ad aK aV aX b fmt q.2.2.2 = some t ∧ vk_R q.1 q.2.1 q.2.2.1 t s) ⟨Nat.le_of_ble_eq_true rfl, aX 14, rfl, vk_R.of (hts (Jvm.Cond.stringRef "LyndonBench" (299 : Nat) "the text has no such part") (z_lt3 98 rfl)) (hXs 14 _ rfl)⟩ <|
      z_l1 (k := 15) (Q := fun (_ : Nat) (q : zS) => 1000000 ≤ q.2.2.2 ∧ ∃ t : Nat, ze_ad aK aV aX b fmt q.2.2.2 = some t ∧ vk_R q.1 q.2.1 q.2.2.1 t s) ⟨Nat.le_of_ble_eq_true rfl, aX 15, rfl, vk_R.of (hts (Jvm.Cond.stringRef "LyndonBench" (306 : Nat) "there is no such factor") (z_lt3 33 rfl)) (hXs 15 _ rfl)⟩ <|
      z_l0
  · intro x y hx1 hx2 hy1 hy2 he
    omega
  · exact vx_Zqof (hts (Jvm.Cond.laysStatic "java/lang/Throwable" "UNASSIGNED_STACK" "[Ljava/lang/StackTraceElement;") (z_lt2 75 rfl)) (hts (Jvm.Cond.initialized "java/lang/Throwable") (z_lt1 11 rfl)) u9 hA
  · exact vx_Zqof (hts (Jvm.Cond.laysStatic "java/lang/Throwable" "SUPPRESSED_SENTINEL" "Ljava/util/List;") (z_lt2 77 rfl)) (hts (Jvm.Cond.initialized "java/lang/Throwable") (z_lt1 11 rfl)) u10 hA
  · intro w hw
    simp only [za_nw, List.mem_cons, List.not_mem_nil, or_false] at hw
    rcases hw with rfl | rfl | rfl
    · exact va_tabs rfl rfl (hts (Jvm.Cond.methodLinkNest "LyndonBench" (32 : Nat) ({ cls := "LyndonBench$Script", name := "<init>", desc := "()V" } : Jvm.MethodName) "LyndonBench") (z_lt1 87 rfl))
    · exact va_AO.of (hts (Jvm.Cond.arrayOver (Jvm.ClassFile.FieldType.object "LyndonBench$Word")) (z_lt1 51 rfl))
    · exact va_AO.of (hts (Jvm.Cond.arrayOver (Jvm.ClassFile.FieldType.object "LyndonBench$State")) (z_lt1 75 rfl))
theorem ze_fx {p : Program} {s : State} {m : MethodId} {meth : Method} {c : Code} {b L : Nat} {xs : Nat → Int32} (hLs : L < 2 ^ 31) (C0 : lw_At p s m meth c b L xs) : ∃ (D : va_G) (tys : List (ClassId × FieldType)) (ad0 : Nat → Option Nat), z_fx (za_T ((List.range L).map xs)) za_P za_M D tys (fun q => s.heap.size ≤ q) ad0 s ∧ ad0 1000004 = some b ∧ z_okS (za_T ((List.range L).map xs)) za_P za_M tys := by
  obtain ⟨-, -, -, -, -, hts, hX, hbl, -, hgv⟩ := C0
  obtain ⟨D, tys, k1, k2, k3⟩ := ze_K hts
  obtain ⟨ad0, g1, g2⟩ := ze_st hts hX hLs hbl hgv
  exact ⟨D, tys, ad0, ⟨fun q h => h, k1, g2, ze_nc hgv⟩, g1, za_okS _ k2 k3⟩
end
section
/-! THE LAW'S RUN out of a pure run. -/
theorem ze_run {p : Program} {e : Env} {s : State} {m : MethodId} {below : List Frame} {meth : Method} {c : Code} (l : Launch) (hflags : l.flags = flags0) {b L : Nat} {xs : Nat → Int32} (hLs : L < 2 ^ 31) (C0 : lw_At p s m meth c b L xs)
    (hz : ∃ (f d : Nat) (h2 : zH) (c2 s2 : Nat), d + 1 ≤ 12 ∧ 35 * d + 20 ≤ 452 ∧ c2 ≤ 600086 ∧ s2 ≤ 7301442 ∧ z_run (za_T ((List.range L).map xs)) za_P f d 95 0 [(0, .ref 1000004)] [] [] 0 0 = some (.inl (some (.int 1)), h2, c2, s2)) : W p l e room_1 s m #[Value.ref b] below meth c s.heap [] 0 0 (lw_Z below #[Value.ref b] s) (entryFrame m ([Value.ref b] : List Value).toArray 8) := by
  obtain ⟨f, d, h2, c2, s2, hd1, hd2, hc2, hs2, hr⟩ := hz
  obtain ⟨D, tys, ad0, hfx, hb0, hok⟩ := ze_fx hLs C0
  obtain ⟨hx, hcode, hret, hml, hown, hts, hX, hbl, hlk, hgv⟩ := C0
  have hl0 : l.stackTraces = false := by unfold Launch.stackTraces; rw [hflags]; decide +kernel
  have hent := lv_entry ([Value.ref b] : List Value) (n := 8) (Nat.le_of_ble_eq_true rfl)
  rw [lg_entry_eq]
  generalize (lg_sl [Value.ref b] ++ List.replicate (8 - (lg_sl [Value.ref b]).length) Slot.unset).toArray = ls at hent ⊢
  have hcv : z_cv ad0 (.ref 1000004) = .ref b := congrArg va_rf hb0
  have hl : lv_has ls 8 (z_lvm ad0 [(0, .ref 1000004)]) := by
    show lv_has ls 8 [(0, z_cv ad0 (.ref 1000004))]
    rw [hcv]
    exact hent
  refine z_Sall hok hl0 za_nh f d 95 0 [(0, .ref 1000004)] [] [] 0 0 (.inl (some (.int 1))) h2 c2 s2 hr ⟨_, rfl⟩ p e room_1 s m #[Value.ref b] below meth c s.heap [] ls ad0 ad0 0 _ hx hcode hml hown (fun w hw => hts w (List.mem_filter.mp hw).1) (fun z => absurd (show "law" = "<init>" from z) (by decide +kernel)) (fun z => absurd rfl z) hfx ⟨hd1, hd2⟩ hc2 hs2 z_ext.rf z_ext.rf (Nat.le_refl _) ⟨[], fun k q hq => (by cases hq), ⟨fun i j p q hp => (by cases hp), fun k q hq => (by cases hq)⟩, rfl, fun k c hk => (by cases hk)⟩ va_S.rf (fun c hc => by cases hc) (fun q hq => ?_) (fun v hv => by cases hv) hl ?_
  · rw [List.mem_singleton] at hq
    subst hq
    exact Or.inr (Nat.le_of_ble_eq_true rfl)
  · intro pc' i v ls' H' locs' ad' hdec ho hro hxt hw' hS' hv2 hn2 hvv
    cases ho
    have hi : i = .ireturn := by
      have h9 : z_rok i (some .boolean) (.int 1) = true := hro
      unfold z_rok at h9
      split at h9 <;> first
        | rfl
        | (exfalso; simp_all; done)
        | cases h9
    subst hi
    refine va_forget (fun q hq => hS'.2.2 q hq) ?_
    refine W.widen hc2 hs2 ?_
    exact lw_ret (s := s) hx hcode hret hlk hdec
end
section
/-! RUNS BY RULES: more fuel, more depth, more locals, more made ahead change no run; a run as a statement (zt); its rules. -/
/-- lv's entries are the first of their places in lv2 -/
def zR1 (lv lv2 : List (Nat × Value)) : Prop := ∀ q ∈ lv, z_get lv2 q.1 = some q.2
theorem zR1.get {lv lv2 : List (Nat × Value)} (h : zR1 lv lv2) {i : Nat} {v : Value} (hg : z_get lv i = some v) : z_get lv2 i = some v := h (i, v) (z_get_in hg)
theorem z_get_filter {p : Nat × Value → Bool} {j : Nat} {w : Value} (hp : p (j, w) = true) : ∀ {lv : List (Nat × Value)}, z_get lv j = some w → z_get (lv.filter p) j = some w := by
  intro lv
  induction lv with
  | nil => intro h; cases h
  | cons q l ih =>
    intro h
    rw [z_get] at h
    cases e : Nat.beq q.1 j with
    | true =>
      rw [e] at h
      obtain ⟨a, b⟩ := q
      have e1 : a = j := Nat.eq_of_beq_eq_true e
      cases h
      subst e1
      rw [List.filter_cons, if_pos hp, z_get]
      dsimp only
      rw [show Nat.beq a a = true from Nat.beq_refl a]
      rfl
    | false =>
      rw [e] at h
      rw [List.filter_cons]
      split
      · rw [z_get, e]
        exact ih h
      · exact ih h
theorem zR1.st {p : Nat × Value → Bool} {i : Nat} {v : Value} {lv lv2 : List (Nat × Value)} (h : zR1 lv lv2) (hp : ∀ w : Value, p (i, w) = false) : zR1 ((i, v) :: lv.filter p) ((i, v) :: lv2.filter p) := by
  intro q hq
  rcases List.mem_cons.mp hq with rfl | hq
  · rw [z_get]
    dsimp only
    rw [show Nat.beq i i = true from Nat.beq_refl i]
    rfl
  · obtain ⟨hq1, hq2⟩ := List.mem_filter.mp hq
    have hne : Nat.beq i q.1 = false := by
      cases e : Nat.beq i q.1 with
      | false => rfl
      | true =>
        have e1 : i = q.1 := Nat.eq_of_beq_eq_true e
        have := hp q.2
        rw [e1] at this
        rw [show (q.1, q.2) = q from rfl] at this
        rw [hq2] at this
        cases this
    rw [z_get]
    dsimp only
    rw [hne]
    exact z_get_filter (j := q.1) (w := q.2) hq2 (h q hq1)
theorem zR1.st1 {i : Nat} {v : Value} {lv lv2 : List (Nat × Value)} (h : zR1 lv lv2) : zR1 (z_st1 i v lv) (z_st1 i v lv2) := h.st (fun w => by simp)
theorem zR1.st2 {i : Nat} {v : Value} {lv lv2 : List (Nat × Value)} (h : zR1 lv lv2) : zR1 (z_st2 i v lv) (z_st2 i v lv2) := h.st (fun w => by simp)
def zRe (lv lv2 : List (Nat × Value)) : Prop := lv = lv2 ∨ zR1 lv lv2
set_option maxHeartbeats 4000000 in
theorem z_loc_mono {i : Instr} {pc a nL pc2 : Nat} {lv lv2 lvo : List (Nat × Value)} {st st2 : List Value} (h : z_loc i pc a nL lv st = some (pc2, lvo, st2)) (hr : zRe lv lv2) : ∃ lvo2, z_loc i pc a nL lv2 st = some (pc2, lvo2, st2) ∧ zRe lvo lvo2 := by
  rcases hr with rfl | hr
  · exact ⟨lvo, h, Or.inl rfl⟩
  · cases i <;> simp only [z_loc] at h <;> (repeat' split at h) <;> first
      | (exfalso; cases h; done)
      | (cases h; simp only [z_loc]; first
        | exact ⟨_, rfl, Or.inr hr⟩
        | (rename_i g; rw [hr.get g]; exact ⟨_, rfl, Or.inr hr⟩)
        | (rename_i g _; rw [hr.get g]; rw [if_pos (by assumption)]; exact ⟨_, rfl, Or.inr hr.st1⟩)
        | (rw [if_pos (by assumption)]; exact ⟨_, rfl, Or.inr hr.st1⟩)
        | (rw [if_pos (by assumption)]; exact ⟨_, rfl, Or.inr hr.st2⟩)
        | (rw [if_pos (by assumption)]; exact ⟨_, rfl, Or.inr hr⟩)
        | (rw [if_neg (by assumption)]; exact ⟨_, rfl, Or.inr hr⟩)
        | (rename_i g hif; rw [hr.get g]; dsimp only; rw [if_pos hif]; exact ⟨_, rfl, Or.inr hr.st1⟩)
        | (refine ⟨lv2, ?_, Or.inr hr⟩; simp_all; done)
        | (refine ⟨lv2, ?_, Or.inr hr⟩; rw [if_pos (by assumption)]; simp_all; done)
        | (refine ⟨lv2, ?_, Or.inr hr⟩; rw [if_neg (by assumption)]; simp_all; done))

theorem zRe.args (vs : List Value) (k : Nat) : zRe (lv_args k vs) (lv_args k vs) := Or.inl rfl
set_option maxHeartbeats 4000000 in
/-- more fuel, more depth, more locals, more made ahead -/
theorem z_more {T : zT} {P : zP} : ∀ (f d y pc : Nat) (lv : List (Nat × Value)) (st : List Value) (h : zH) (cs ss : Nat) (o : Option Value ⊕ Nat) (h2 : zH) (c2 s2 : Nat), z_run T P f d y pc lv st h cs ss = some (o, h2, c2, s2) →
    ∀ (g e : Nat) (lv2 : List (Nat × Value)) (k n : Nat), f ≤ g → d ≤ e → zRe lv lv2 → z_run T P g e y pc lv2 st h (cs + k) (ss + n) = some (o, h2, c2 + k, s2 + n) := by
  intro f
  induction f with
  | zero => intro d y pc lv st h cs ss o h2 c2 s2 er; cases er
  | succ f ih =>
    intro d y pc lv st h cs ss o h2 c2 s2 er g e lv2 k n hfg hde hR
    obtain ⟨g, rfl⟩ : ∃ g', g = g' + 1 := ⟨g - 1, by omega⟩
    have hfg' : f ≤ g := by omega
    rw [z_run] at er ⊢
    split at er
    · cases er
    · rename_i i len a b e1
      split at er
      · rename_i hk
        try simp only [hk]
        split at er
        · rename_i pc2 lvo st2 e2
          obtain ⟨lvo2, e3, hR2⟩ := z_loc_mono e2 hR
          simp only [e3]
          exact ih _ _ _ _ _ _ _ _ _ _ _ _ er _ _ _ _ _ hfg' hde hR2
        · cases er
      · rename_i hk
        try simp only [hk]
        split at er
        · rename_i pc2 st2 h3 dc ds e2
          try simp only [e2]
          have := ih _ _ _ _ _ _ _ _ _ _ _ _ er g e lv2 k n hfg' hde hR
          rw [show cs + k + dc = cs + dc + k by omega, show ss + n + ds = ss + ds + n by omega]
          exact this
        · cases er
      · rename_i hk
        try simp only [hk]
        split at er
        · split at er
          · rename_i hr
            cases er
            rw [if_pos hr]
          · cases er
        · cases er
      · rename_i hk
        try simp only [hk]
        split at er
        · rename_i hr
          cases er
          rw [if_pos hr]
        · cases er
      · rename_i hk
        try simp only [hk]
        split at er
        · rename_i hr
          cases er
          rw [if_pos hr, show cs + k + 1 = cs + 1 + k by omega, show ss + n + 6 = ss + 6 + n by omega]
        · cases er
      · rename_i hk0 hk1 hk4 hk5 hk6
        split at er
        · cases er
        · rename_i d'
          obtain ⟨e', rfl⟩ : ∃ e', e = e' + 1 := ⟨e - 1, by omega⟩
          dsimp only
          split at er
          · rename_i hc
            rw [if_pos hc]
            split at er
            · cases er
            · rename_i ov h3 dc ds e2
              have e3 := ih _ _ _ _ _ _ _ _ _ _ _ _ e2 g e' _ 0 0 hfg' (by omega) (zRe.args _ _)
              simp only [Nat.add_zero] at e3
              simp only [e3]
              have := ih _ _ _ _ _ _ _ _ _ _ _ _ er g (e' + 1) lv2 k n hfg' hde hR
              rw [show cs + k + dc = cs + dc + k by omega, show ss + n + ds = ss + ds + n by omega]
              exact this
            · rename_i ex h3 dc ds e2
              have e3 := ih _ _ _ _ _ _ _ _ _ _ _ _ e2 g e' _ 0 0 hfg' (by omega) (zRe.args _ _)
              simp only [Nat.add_zero] at e3
              simp only [e3]
              split at er
              · cases er
              · rename_i hk7
                rw [if_neg hk7]
                split at er
                · cases er
                  rw [show cs + k + dc = cs + dc + k by omega, show ss + n + ds = ss + ds + n by omega]
                · split at er
                  · rename_i hw
                    cases er
                    rw [show cs + k + dc = cs + dc + k by omega, show ss + n + ds = ss + ds + n by omega]
                  · cases er
          · cases er
end
section
/-! A run over the tables without the script is a run over any script; runs of local and heap steps, counted. -/
/-- the tables without the script -/
def za_Tb : zT := (za_S0, za_sf, za_ss, za_num, za_fty, za_fresh, za_elem)
theorem z_hg_ap {S1 S2 : List zC} {h : zH} {q : Nat} {c : zC} (e : z_hg S1 h q = some c) : z_hg (S1 ++ S2) h q = some c := by
  rcases z_hg_cases e with ⟨g, e'⟩ | ⟨g, e'⟩
  · unfold z_hg
    rw [Nat.blt_eq.mpr g]
    exact e'
  · have hb : Nat.blt q 1000000 = false := by
      cases hb : Nat.blt q 1000000 with
      | false => rfl
      | true => exact absurd (Nat.blt_eq.mp hb) (Nat.not_lt.mpr g)
    unfold z_hg
    rw [hb]
    generalize q - 1000000 = j at e' ⊢
    show (S1 ++ S2)[j]? = some c
    rw [List.getElem?_append_left (List.getElem?_eq_some_iff.mp e').1]
    exact e'
section ZB
variable {xs : List Int32}
theorem z_hgb {h : zH} {q : Nat} {c : zC} (e : z_hg za_Tb.1 h q = some c) : z_hg (za_T xs).1 h q = some c := z_hg_ap (S2 := [(100, xs.map Value.int)]) e
theorem z_rcvb {h : zH} {st : List Value} {t : Nat} (e : z_rcv za_Tb h st t = true) : z_rcv (za_T xs) h st t = true := by
  unfold z_rcv at e ⊢
  split at e
  · split at e
    · rename_i c e1
      simp only [z_hgb e1]
      exact e
    · cases e
  · cases e
theorem z_aldb {t0 pc : Nat} {st : List Value} {h : zH} {r : zHR} (e : z_ald za_Tb t0 pc st h = some r) : z_ald (za_T xs) t0 pc st h = some r := by
  unfold z_ald at e ⊢
  split at e
  · split at e
    · rename_i t vs e1
      simp only [z_hgb e1]
      exact e
    · cases e
  · cases e
set_option maxHeartbeats 4000000 in
theorem z_hpb {i : Instr} {pc a b : Nat} {st : List Value} {h : zH} {r : zHR} (e : z_hp za_Tb i pc a b st h = some r) : z_hp (za_T xs) i pc a b st h = some r := by
  cases i
  case getfield idx =>
    simp only [z_hp] at e ⊢
    split at e
    · split at e
      · rename_i t vs e1
        simp only [z_hgb e1]
        exact e
      · cases e
    · cases e
  case arraylength =>
    simp only [z_hp] at e ⊢
    split at e
    · split at e
      · rename_i t vs e1
        simp only [z_hgb e1]
        exact e
      · cases e
    · cases e
  case aaload =>
    simp only [z_hp] at e ⊢
    split at e
    · split at e
      · rename_i t vs e1
        simp only [z_hgb e1]
        exact e
      · cases e
    · cases e
  case invokespecial idx =>
    simp only [z_hp] at e ⊢
    split at e
    · split at e
      · rename_i c e1
        simp only [z_hgb e1]
        exact e
      · cases e
    · cases e
  case ifnull off =>
    simp only [z_hp] at e ⊢
    split at e
    · exact e
    · split at e
      · rename_i c e1
        simp only [z_hgb e1]
        exact e
      · cases e
    · cases e
  case ifnonnull off =>
    simp only [z_hp] at e ⊢
    split at e
    · exact e
    · split at e
      · rename_i c e1
        simp only [z_hgb e1]
        exact e
      · cases e
    · cases e
  case iaload => exact z_aldb e
  case baload => exact z_aldb e
  all_goals exact e
set_option maxHeartbeats 4000000 in
theorem z_runb : ∀ (f d y pc : Nat) (lv : List (Nat × Value)) (st : List Value) (h : zH) (cs ss : Nat) (r : zO), z_run za_Tb za_P f d y pc lv st h cs ss = some r → z_run (za_T xs) za_P f d y pc lv st h cs ss = some r := by
  intro f
  induction f with
  | zero => intro d y pc lv st h cs ss r er; cases er
  | succ f ih =>
    intro d y pc lv st h cs ss r er
    rw [z_run] at er ⊢
    split at er
    · cases er
    · split at er
      · split at er
        · exact ih _ _ _ _ _ _ _ _ _ er
        · cases er
      · split at er
        · rename_i e2
          simp only [z_hpb e2]
          exact ih _ _ _ _ _ _ _ _ _ er
        · cases er
      · exact er
      · exact er
      · exact er
      · split at er
        · cases er
        · split at er
          · rename_i hc
            rw [if_pos ⟨hc.1, hc.2.1, hc.2.2.1, fun hz => z_rcvb (hc.2.2.2 hz)⟩]
            split at er
            · cases er
            · rename_i e2
              simp only [ih _ _ _ _ _ _ _ _ _ e2]
              exact ih _ _ _ _ _ _ _ _ _ er
            · rename_i e2
              simp only [ih _ _ _ _ _ _ _ _ _ e2]
              exact er
          · cases er
/-- n steps, local or of the heap -/
def z_it (T : zT) (P : zP) (y : Nat) : Nat → Nat × List (Nat × Value) × List Value × zH × Nat × Nat → Option (Nat × List (Nat × Value) × List Value × zH × Nat × Nat)
  | 0, r => some r
  | n + 1, (pc, lv, st, h, cs, ss) => match z_at (P.1 y) pc with
    | some (i, _, a, b) => (match z_kind i a b with
      | 0 => (match z_loc i pc a (P.2.1 y) lv st with
        | some (pc2, lv2, st2) => z_it T P y n (pc2, lv2, st2, h, cs, ss)
        | none => none)
      | 1 => (match z_hp T i pc a b st h with
        | some (pc2, st2, h2, dc, ds) => z_it T P y n (pc2, lv, st2, h2, cs + dc, ss + ds)
        | none => none)
      | _ => none)
    | none => none
theorem z_it_run {d y : Nat} : ∀ (n pc : Nat) (lv : List (Nat × Value)) (st : List Value) (h : zH) (cs ss pc2 : Nat) (lv2 : List (Nat × Value)) (st2 : List Value) (h2 : zH) (c2 s2 : Nat), z_it za_Tb za_P y n (pc, lv, st, h, cs, ss) = some (pc2, lv2, st2, h2, c2, s2) → ∀ f, z_run (za_T xs) za_P (f + n) d y pc lv st h cs ss = z_run (za_T xs) za_P f d y pc2 lv2 st2 h2 c2 s2 := by
  intro n
  induction n with
  | zero => intro pc lv st h cs ss pc2 lv2 st2 h2 c2 s2 e f; cases e; rfl
  | succ n ih =>
    intro pc lv st h cs ss pc2 lv2 st2 h2 c2 s2 e f
    rw [z_it] at e
    rw [show f + (n + 1) = (f + n) + 1 by omega, z_run]
    split at e
    · rename_i i len a b e1
      simp only [e1]
      split at e
      · rename_i hk
        simp only [hk]
        split at e
        · rename_i e2
          simp only [e2]
          exact ih _ _ _ _ _ _ _ _ _ _ _ _ e f
        · cases e
      · rename_i hk
        simp only [hk]
        split at e
        · rename_i e2
          simp only [z_hpb e2]
          exact ih _ _ _ _ _ _ _ _ _ _ _ _ e f
        · cases e
      · cases e
    · cases e
end ZB
end
section
/-! RULES: a run as a statement; F functions against runs. -/
def zxc (o : Option Value ⊕ Nat) : Nat := match o with | .inl _ => 0 | .inr _ => 1
/-- the run from here ends so that Q; C and S: cells and slots made till it answers (one cell and 6 slots more where it throws) -/
def zt (xs : List Int32) (d y pc : Nat) (lv : List (Nat × Value)) (st : List Value) (h : zH) (C S : Nat) (Q : (Option Value ⊕ Nat) → zH → Prop) : Prop :=
  ∃ (f : Nat) (o : Option Value ⊕ Nat) (h2 : zH) (c2 s2 : Nat), z_run (za_T xs) za_P f d y pc lv st h 0 0 = some (o, h2, c2, s2) ∧ c2 ≤ C + zxc o ∧ s2 ≤ S + 6 * zxc o ∧ Q o h2
def zQ {α : Type} (cv : α → Option Value ⊕ Nat) (r : α × zH) : (Option Value ⊕ Nat) → zH → Prop := fun o h2 => o = cv r.1 ∧ h2 = r.2
def cI (x : Int32) : Option Value ⊕ Nat := .inl (some (.int x))
def cL (x : Int64) : Option Value ⊕ Nat := .inl (some (.long x))
def cF (x : UInt32) : Option Value ⊕ Nat := .inl (some (.float x))
def cD (x : UInt64) : Option Value ⊕ Nat := .inl (some (.double x))
def cO (x : Option Nat) : Option Value ⊕ Nat := .inl (some (va_rf x))
def cV (_ : Unit) : Option Value ⊕ Nat := .inl none
def cX {α : Type} (cv : α → Option Value ⊕ Nat) (x : α ⊕ Nat) : Option Value ⊕ Nat := match x with | .inl a => cv a | .inr e => .inr e
/-- a method: its code, locals, handlers, what it returns -/
def z_me (y : Nat) (cd : List zE) (nL : Nat) (hs : List zX) (rt : Option FieldType) : Prop := za_P.1 y = cd ∧ za_P.2.1 y = nL ∧ za_P.2.2.1 y = hs ∧ za_P.2.2.2.2.1 y = rt
def b2 {α β : Type} (o : Option (α × zH)) (g : α → zH → Option β) : Option β := match o with | some (a, h) => g a h | none => none
theorem b2_some {α β : Type} {o : Option (α × zH)} {g : α → zH → Option β} {r : β} (e : b2 o g = some r) : ∃ (a : α) (h : zH), o = some (a, h) ∧ g a h = some r := by
  cases o with
  | none => cases e
  | some p => obtain ⟨a, h⟩ := p; exact ⟨a, h, rfl, e⟩
def b1 {α β : Type} (o : Option α) (g : α → Option β) : Option β := match o with | some a => g a | none => none
theorem b1_some {α β : Type} {o : Option α} {g : α → Option β} {r : β} (e : b1 o g = some r) : ∃ a : α, o = some a ∧ g a = some r := by
  cases o with
  | none => cases e
  | some a => exact ⟨a, rfl, e⟩
def z_l1s (cd : List zE) (nL : Nat) (r : zR) : Option zR := match z_at cd r.1 with
  | some (i, _, a, b) => cond (Nat.beq (z_kind i a b) 0) (z_loc i r.1 a nL r.2.1 r.2.2) none
  | none => none
def z_ls (cd : List zE) (nL : Nat) : Nat → zR → Option zR
  | 0, r => some r
  | n + 1, r => match z_l1s cd nL r with
    | some r2 => z_ls cd nL n r2
    | none => none
section ZEQ
variable {T : zT} {P : zP} {f d y pc : Nat} {lv : List (Nat × Value)} {st : List Value} {h : zH} {cs ss : Nat} {i : Instr} {len a b : Nat}
theorem zq_0 (h1 : z_at (P.1 y) pc = some (i, len, a, b)) (h2 : z_kind i a b = 0) : z_run T P (f + 1) d y pc lv st h cs ss = (match z_loc i pc a (P.2.1 y) lv st with
        | some (pc2, lv2, st2) => z_run T P f d y pc2 lv2 st2 h cs ss
        | none => none) := by
  simp only [z_run, h1, h2]
  rfl
theorem zq_1 (h1 : z_at (P.1 y) pc = some (i, len, a, b)) (h2 : z_kind i a b = 1) : z_run T P (f + 1) d y pc lv st h cs ss = (match z_hp T i pc a b st h with
        | some (pc2, st2, h2, dc, ds) => z_run T P f d y pc2 lv st2 h2 (cs + dc) (ss + ds)
        | none => none) := by
  simp only [z_run, h1, h2]
  rfl
theorem zq_4 {v : Value} (h1 : z_at (P.1 y) pc = some (i, len, a, b)) (h2 : z_kind i a b = 4) (h3 : z_rok i (P.2.2.2.2.1 y) v = true) : z_run T P (f + 1) d y pc lv [v] h cs ss = some (.inl (some v), h, cs, ss) := by
  simp only [z_run, h1, h2]
  rw [if_pos ⟨trivial, h3⟩]
theorem zq_5 (h1 : z_at (P.1 y) pc = some (i, len, a, b)) (h2 : z_kind i a b = 5) (h3 : P.2.2.2.2.1 y = none) : z_run T P (f + 1) d y pc lv [] h cs ss = some (.inl none, h, cs, ss) := by
  simp only [z_run, h1, h2]
  rw [if_pos ⟨trivial, h3⟩]
theorem zq_6 (h1 : z_at (P.1 y) pc = some (i, len, a, b)) (h2 : z_kind i a b = 6) (h3 : z_cs st ≤ 8) (h4 : P.2.2.1 y = []) : z_run T P (f + 1) d y pc lv st h cs ss = some (.inr a, h, cs + 1, ss + 6) := by
  simp only [z_run, h1, h2]
  rw [if_pos ⟨h3, h4⟩]
theorem zq_c {k0 : Nat} (h1 : z_at (P.1 y) pc = some (i, len, a, b)) (h2 : z_kind i a b = k0) (h3 : k0 = 2 ∨ k0 = 3 ∨ k0 = 7) (hc : z_nn k0 b ≤ st.length ∧ z_cs (st.drop (z_nn k0 b)) ≤ 8 ∧ z_cs (st.take (z_nn k0 b)) ≤ P.2.1 a ∧ (k0 ≠ 3 → z_rcv T h (st.take (z_nn k0 b)).reverse (P.2.2.2.1 a) = true)) : z_run T P (f + 1) (d + 1) y pc lv st h cs ss = (match z_run T P f d a 0 (lv_args 0 (st.take (z_nn k0 b)).reverse) [] h 0 0 with
            | none => none
            | some (.inl o, h2, dc, ds) => z_run T P f (d + 1) y (pc + 3) lv (o.toList ++ st.drop (z_nn k0 b)) h2 (cs + dc) (ss + ds)
            | some (.inr e, h2, dc, ds) => if k0 = 7 then none else (match P.2.2.1 y with
              | [] => some (.inr e, h2, cs + dc, ss + ds)
              | x :: l => (match z_catch P.2.2.2.2.2 (x :: l) pc e with
                | some w => some (.inl (some (.int w.2.2)), h2, cs + dc, ss + ds)
                | none => none))) := by
  rcases h3 with rfl | rfl | rfl
  · simp only [z_run, h1, h2]
    rw [if_pos hc]
    rfl
  · simp only [z_run, h1, h2]
    rw [if_pos hc]
    rfl
  · simp only [z_run, h1, h2]
    rw [if_pos hc]
    rfl
end ZEQ
section ZT
variable {xs : List Int32} {d y pc : Nat} {lv : List (Nat × Value)} {st rest : List Value} {h : zH} {C S : Nat} {Q : (Option Value ⊕ Nat) → zH → Prop} {cd : List zE} {nL : Nat} {hs : List zX} {rt : Option FieldType}
theorem zt_step {pc2 dc ds : Nat} {lv2 : List (Nat × Value)} {st2 : List Value} {h2 : zH} (hs : ∀ f, z_run (za_T xs) za_P (f + 1) d y pc lv st h 0 0 = z_run (za_T xs) za_P f d y pc2 lv2 st2 h2 dc ds) (k : zt xs d y pc2 lv2 st2 h2 C S Q) : zt xs d y pc lv st h (dc + C) (ds + S) Q := by
  obtain ⟨f, o, h3, c2, s2, hr, h1, h4, hq⟩ := k
  refine ⟨f + 1, o, h3, c2 + dc, s2 + ds, ?_, by omega, by omega, hq⟩
  rw [hs]
  have := z_more f d y pc2 lv2 st2 h2 0 0 o h3 c2 s2 hr f d lv2 dc ds (Nat.le_refl _) (Nat.le_refl _) (Or.inl rfl)
  simpa using this
theorem zt_deep {e : Nat} (hde : d ≤ e) (k : zt xs d y pc lv st h C S Q) : zt xs e y pc lv st h C S Q := by
  obtain ⟨f, o, h3, c2, s2, hr, h1⟩ := k
  exact ⟨f, o, h3, c2, s2, z_more f d y pc lv st h 0 0 o h3 c2 s2 hr f e lv 0 0 (Nat.le_refl _) hde (Or.inl rfl), h1⟩
theorem zt_sub {lv2 : List (Nat × Value)} (hR : zR1 lv2 lv) (k : zt xs d y pc lv2 st h C S Q) : zt xs d y pc lv st h C S Q := by
  obtain ⟨f, o, h3, c2, s2, hr, h1⟩ := k
  exact ⟨f, o, h3, c2, s2, z_more f d y pc lv2 st h 0 0 o h3 c2 s2 hr f d lv 0 0 (Nat.le_refl _) (Nat.le_refl _) (Or.inr hR), h1⟩
theorem zt_wide {C2 S2 : Nat} {Q2 : (Option Value ⊕ Nat) → zH → Prop} (hC : C ≤ C2) (hS : S ≤ S2) (hQ : ∀ o h2, Q o h2 → Q2 o h2) (k : zt xs d y pc lv st h C S Q) : zt xs d y pc lv st h C2 S2 Q2 := by
  obtain ⟨f, o, h3, c2, s2, hr, h1, h2, h4⟩ := k
  exact ⟨f, o, h3, c2, s2, hr, by omega, by omega, hQ _ _ h4⟩
theorem z_step0 (hy : z_me y cd nL hs rt) {i : Instr} {len a b pc2 : Nat} {lv2 : List (Nat × Value)} {st2 : List Value} (hat : z_at cd pc = some (i, len, a, b)) (hk : z_kind i a b = 0) (hl : z_loc i pc a nL lv st = some (pc2, lv2, st2)) (k : zt xs d y pc2 lv2 st2 h C S Q) : zt xs d y pc lv st h C S Q := by
  have := zt_step (xs := xs) (d := d) (y := y) (pc := pc) (lv := lv) (st := st) (h := h) (pc2 := pc2) (lv2 := lv2) (st2 := st2) (h2 := h) (dc := 0) (ds := 0) (C := C) (S := S) (Q := Q) (fun f => by rw [zq_0 (by rw [hy.1]; exact hat) hk, hy.2.1, hl]) k
  simpa using this
theorem zl (hy : z_me y cd nL hs rt) : ∀ (n : Nat) {pc : Nat} {lv : List (Nat × Value)} {st : List Value} {pc2 : Nat} {lv2 : List (Nat × Value)} {st2 : List Value}, z_ls cd nL n (pc, lv, st) = some (pc2, lv2, st2) → zt xs d y pc2 lv2 st2 h C S Q → zt xs d y pc lv st h C S Q := by
  intro n
  induction n with
  | zero => intro pc lv st pc2 lv2 st2 e k; cases e; exact k
  | succ n ih =>
    intro pc lv st pc2 lv2 st2 e k
    rw [z_ls] at e
    split at e
    · rename_i r2 e1
      obtain ⟨pc3, lv3, st3⟩ := r2
      unfold z_l1s at e1
      split at e1
      · rename_i i len a b e2
        cases e3 : Nat.beq (z_kind i a b) 0 with
        | false => rw [e3] at e1; cases e1
        | true =>
          rw [e3] at e1
          exact z_step0 hy e2 (Nat.eq_of_beq_eq_true e3) e1 (ih e k)
      · cases e1
    · cases e
theorem zx_bip (hy : z_me y cd nL hs rt) {n c : Int} {len a b : Nat} (hat : z_at cd pc = some (.bipush n, len, a, b)) (hc : (Int8.ofInt n).toInt32 = Int32.ofInt c) (k : zt xs d y (pc + 2) lv (.int (Int32.ofInt c) :: st) h C S Q) : zt xs d y pc lv st h C S Q := z_step0 hy hat rfl (by simp only [z_loc]; rw [hc]) k
theorem zx_sip (hy : z_me y cd nL hs rt) {n c : Int} {len a b : Nat} (hat : z_at cd pc = some (.sipush n, len, a, b)) (hc : (Int16.ofInt n).toInt32 = Int32.ofInt c) (k : zt xs d y (pc + 3) lv (.int (Int32.ofInt c) :: st) h C S Q) : zt xs d y pc lv st h C S Q := z_step0 hy hat rfl (by simp only [z_loc]; rw [hc]) k
theorem zx_div (hy : z_me y cd nL hs rt) {x z : Int32} {len a b : Nat} {α : Type} {G : Int32 → Option α} {r : α} (hat : z_at cd pc = some (.idiv, len, a, b)) (e : (if z = Int32.ofInt 0 then none else G (x / z)) = some r) (k : z ≠ Int32.ofInt 0 → G (x / z) = some r → zt xs d y (pc + 1) lv (.int (x / z) :: st) h C S Q) : zt xs d y pc lv (.int z :: .int x :: st) h C S Q := by
  split at e
  · cases e
  · rename_i hz
    exact z_step0 hy hat rfl (by simp only [z_loc]; rw [show (0 : Int32) = Int32.ofInt 0 from rfl, if_neg hz]) (k hz e)
theorem zx_rem (hy : z_me y cd nL hs rt) {x z : Int32} {len a b : Nat} {α : Type} {G : Int32 → Option α} {r : α} (hat : z_at cd pc = some (.irem, len, a, b)) (e : (if z = Int32.ofInt 0 then none else G (x - x / z * z)) = some r) (k : z ≠ Int32.ofInt 0 → G (x - x / z * z) = some r → zt xs d y (pc + 1) lv (.int (x - x / z * z) :: st) h C S Q) : zt xs d y pc lv (.int z :: .int x :: st) h C S Q := by
  split at e
  · cases e
  · rename_i hz
    exact z_step0 hy hat rfl (by simp only [z_loc]; rw [show (0 : Int32) = Int32.ofInt 0 from rfl, if_neg hz]) (k hz e)
theorem zx_ldv (hy : z_me y cd nL hs rt) {x z : Int64} {len a b : Nat} {α : Type} {G : Int64 → Option α} {r : α} (hat : z_at cd pc = some (.ldiv, len, a, b)) (e : (if z = Int64.ofInt 0 then none else G (x / z)) = some r) (k : z ≠ Int64.ofInt 0 → G (x / z) = some r → zt xs d y (pc + 1) lv (.long (x / z) :: st) h C S Q) : zt xs d y pc lv (.long z :: .long x :: st) h C S Q := by
  split at e
  · cases e
  · rename_i hz
    exact z_step0 hy hat rfl (by simp only [z_loc]; rw [show (0 : Int64) = Int64.ofInt 0 from rfl, if_neg hz]) (k hz e)
section IFS
variable {α : Type} {A B : Option α} {r : α} {x z : Int32} {off : Int} {len a b : Nat}
theorem zx_icmp (hy : z_me y cd nL hs rt) {c0 : ClassFile.Cond} (hat : z_at cd pc = some (.if_icmp c0 off, len, a, b)) (k1 : z_cmp c0 x z = true → zt xs d y a lv st h C S Q) (k2 : z_cmp c0 x z = false → zt xs d y (pc + 3) lv st h C S Q) : zt xs d y pc lv (.int z :: .int x :: st) h C S Q := by
  cases e : z_cmp c0 x z with
  | true => exact z_step0 hy hat rfl (by simp only [z_loc, e]) (k1 e)
  | false => exact z_step0 hy hat rfl (by simp only [z_loc, e]) (k2 e)
theorem zx_if0 (hy : z_me y cd nL hs rt) {c0 : ClassFile.Cond} (hat : z_at cd pc = some (.ifCond c0 off, len, a, b)) (k1 : z_cmp c0 x (Int32.ofInt 0) = true → zt xs d y a lv st h C S Q) (k2 : z_cmp c0 x (Int32.ofInt 0) = false → zt xs d y (pc + 3) lv st h C S Q) : zt xs d y pc lv (.int x :: st) h C S Q := by
  cases e : z_cmp c0 x (Int32.ofInt 0) with
  | true => exact z_step0 hy hat rfl (by simp only [z_loc]; rw [show (0 : Int32) = Int32.ofInt 0 from rfl, e]) (k1 e)
  | false => exact z_step0 hy hat rfl (by simp only [z_loc]; rw [show (0 : Int32) = Int32.ofInt 0 from rfl, e]) (k2 e)
theorem zx_c (hy : z_me y cd nL hs rt) {c0 : ClassFile.Cond} (hat : z_at cd pc = some (.if_icmp c0 off, len, a, b)) (e : cond (z_cmp c0 x z) A B = some r) (k1 : z_cmp c0 x z = true → A = some r → zt xs d y a lv st h C S Q) (k2 : z_cmp c0 x z = false → B = some r → zt xs d y (pc + 3) lv st h C S Q) : zt xs d y pc lv (.int z :: .int x :: st) h C S Q :=
  zx_icmp hy hat (fun g => k1 g (by rw [g] at e; exact e)) (fun g => k2 g (by rw [g] at e; exact e))
theorem zx_c0 (hy : z_me y cd nL hs rt) {c0 : ClassFile.Cond} (hat : z_at cd pc = some (.ifCond c0 off, len, a, b)) (e : cond (z_cmp c0 x (Int32.ofInt 0)) A B = some r) (k1 : z_cmp c0 x (Int32.ofInt 0) = true → A = some r → zt xs d y a lv st h C S Q) (k2 : z_cmp c0 x (Int32.ofInt 0) = false → B = some r → zt xs d y (pc + 3) lv st h C S Q) : zt xs d y pc lv (.int x :: st) h C S Q :=
  zx_if0 hy hat (fun g => k1 g (by rw [g] at e; exact e)) (fun g => k2 g (by rw [g] at e; exact e))
end IFS
/-! the heap -/
theorem z_hg_app {S1 S2 : List zC} {h : zH} {q : Nat} {c : zC} (e : z_hg S1 h q = some c) : z_hg (S1 ++ S2) h q = some c := by
  rcases z_hg_cases e with ⟨g, e'⟩ | ⟨g, e'⟩
  · unfold z_hg
    rw [Nat.blt_eq.mpr g]
    exact e'
  · have hb : Nat.blt q 1000000 = false := by
      cases hb : Nat.blt q 1000000 with
      | false => rfl
      | true => exact absurd (Nat.blt_eq.mp hb) (Nat.not_lt.mpr g)
    unfold z_hg
    rw [hb]
    generalize q - 1000000 = j at e' ⊢
    show (S1 ++ S2)[j]? = some c
    rw [List.getElem?_append_left (List.getElem?_eq_some_iff.mp e').1]
    exact e'
theorem z_hgT {q : Nat} {c : zC} (e : z_hg za_S0 h q = some c) : z_hg (za_T xs).1 h q = some c := z_hg_app (S2 := [(100, xs.map Value.int)]) e
end ZT
/-- a cell's value at a place -/
def fV (h : zH) (q t b : Nat) : Option Value := match z_hg za_S0 h q with
  | some c => cond (Nat.beq c.1 t) c.2[b]? none
  | none => none
theorem fV_some {h : zH} {q t b : Nat} {v : Value} (e : fV h q t b = some v) : ∃ vs : List Value, z_hg za_S0 h q = some (t, vs) ∧ vs[b]? = some v := by
  unfold fV at e
  split at e
  · rename_i c e1
    cases g : Nat.beq c.1 t with
    | false => rw [g] at e; cases e
    | true =>
      rw [g] at e
      obtain ⟨t', vs⟩ := c
      have g1 : t' = t := Nat.eq_of_beq_eq_true g
      subst g1
      exact ⟨vs, e1, e⟩
  · cases e
def fI (h : zH) (q t b : Nat) : Option Int32 := match fV h q t b with | some (.int x) => some x | _ => none
def fL (h : zH) (q t b : Nat) : Option Int64 := match fV h q t b with | some (.long x) => some x | _ => none
def fR (h : zH) (q t b : Nat) : Option Nat := match fV h q t b with | some (.ref x) => some x | _ => none
theorem fI_some {h : zH} {q t b : Nat} {x : Int32} (e : fI h q t b = some x) : fV h q t b = some (.int x) := by
  unfold fI at e
  split at e
  · rename_i y e1; cases e; exact e1
  · cases e
theorem fL_some {h : zH} {q t b : Nat} {x : Int64} (e : fL h q t b = some x) : fV h q t b = some (.long x) := by
  unfold fL at e
  split at e
  · rename_i y e1; cases e; exact e1
  · cases e
theorem fR_some {h : zH} {q t b : Nat} {x : Nat} (e : fR h q t b = some x) : fV h q t b = some (.ref x) := by
  unfold fR at e
  split at e
  · rename_i y e1; cases e; exact e1
  · cases e
/-- an array's element -/
def fAI (h : zH) (q t : Nat) (i : Int32) : Option Int32 := cond (decide (i < 0)) none (fI h q t i.toNatClampNeg)
def fAL (h : zH) (q t : Nat) (i : Int32) : Option Int64 := cond (decide (i < 0)) none (fL h q t i.toNatClampNeg)
def fAR (h : zH) (q t : Nat) (i : Int32) : Option Nat := cond (decide (i < 0)) none (fR h q t i.toNatClampNeg)
theorem cond_none {α : Type} {b : Bool} {o : Option α} {x : α} (e : cond b none o = some x) : b = false ∧ o = some x := by
  cases b with
  | true => cases e
  | false => exact ⟨rfl, e⟩
def fN (h : zH) (q t : Nat) : Option Int32 := match z_hg za_S0 h q with
  | some c => cond (Nat.beq c.1 t) (some (Int32.ofNat c.2.length)) none
  | none => none
theorem fN_some {h : zH} {q t : Nat} {x : Int32} (e : fN h q t = some x) : ∃ vs : List Value, z_hg za_S0 h q = some (t, vs) ∧ x = Int32.ofNat vs.length := by
  unfold fN at e
  split at e
  · rename_i c e1
    cases g : Nat.beq c.1 t with
    | false => rw [g] at e; cases e
    | true =>
      rw [g] at e
      obtain ⟨t', vs⟩ := c
      have g1 : t' = t := Nat.eq_of_beq_eq_true g
      subst g1
      cases e
      exact ⟨vs, e1, rfl⟩
  · cases e
/-- a write -/
def fS (h : zH) (q t b : Nat) (v : Value) : Option zH := match h[q]? with
  | some c => cond (Nat.beq c.1 t && Nat.blt b c.2.length) (some (h.set q (t, c.2.set b v))) none
  | none => none
theorem fS_some {h h2 : zH} {q t b : Nat} {v : Value} (e : fS h q t b v = some h2) : ∃ vs : List Value, h[q]? = some (t, vs) ∧ b < vs.length ∧ h2 = h.set q (t, vs.set b v) := by
  unfold fS at e
  split at e
  · rename_i c e1
    cases g : (Nat.beq c.1 t && Nat.blt b c.2.length) with
    | false => rw [g] at e; cases e
    | true =>
      rw [g] at e
      rw [Bool.and_eq_true] at g
      obtain ⟨t', vs⟩ := c
      have g1 : t' = t := Nat.eq_of_beq_eq_true g.1
      subst g1
      cases e
      exact ⟨vs, e1, Nat.le_of_ble_eq_true g.2, rfl⟩
  · cases e
def fAS (h : zH) (q t : Nat) (i : Int32) (v : Value) : Option zH := cond (decide (i < 0)) none (fS h q t i.toNatClampNeg v)
/-- is there an object of this kind -/
def fT (h : zH) (q t : Nat) : Bool := match z_hg za_S0 h q with | some c => Nat.beq c.1 t | none => false
section ZT2
variable {xs : List Int32} {d y pc : Nat} {lv : List (Nat × Value)} {st rest : List Value} {h : zH} {C S : Nat} {Q : (Option Value ⊕ Nat) → zH → Prop} {cd : List zE} {nL : Nat} {hs : List zX} {rt : Option FieldType}
variable {α : Type} {r : α} {len a b : Nat}
theorem z_step1 (hy : z_me y cd nL hs rt) {i : Instr} {pc2 dc ds : Nat} {st2 : List Value} {h2 : zH} (hat : z_at cd pc = some (i, len, a, b)) (hk : z_kind i a b = 1) (hl : z_hp (za_T xs) i pc a b st h = some (pc2, st2, h2, dc, ds)) (k : zt xs d y pc2 lv st2 h2 C S Q) : zt xs d y pc lv st h (dc + C) (ds + S) Q :=
  zt_step (fun f => by rw [zq_1 (by rw [hy.1]; exact hat) hk, hl]; simp only [Nat.zero_add]) k
theorem z_step10 (hy : z_me y cd nL hs rt) {i : Instr} {pc2 : Nat} {st2 : List Value} {h2 : zH} (hat : z_at cd pc = some (i, len, a, b)) (hk : z_kind i a b = 1) (hl : z_hp (za_T xs) i pc a b st h = some (pc2, st2, h2, 0, 0)) (k : zt xs d y pc2 lv st2 h2 C S Q) : zt xs d y pc lv st h C S Q := by
  have := z_step1 hy hat hk hl k
  simpa using this
theorem zx_gI (hy : z_me y cd nL hs rt) {idx q : Nat} {G : Int32 → Option α} (hat : z_at cd pc = some (.getfield idx, len, a, b)) (e : b1 (fI h q a b) G = some r) (k : ∀ x : Int32, fI h q a b = some x → G x = some r → zt xs d y (pc + 3) lv (.int x :: st) h C S Q) : zt xs d y pc lv (.ref q :: st) h C S Q := by
  obtain ⟨x, e1, e2⟩ := b1_some e
  obtain ⟨vs, e3, e4⟩ := fV_some (fI_some e1)
  exact z_step10 hy hat rfl (by simp only [z_hp, z_hgT e3, if_true, e4]) (k x e1 e2)
theorem zx_gR (hy : z_me y cd nL hs rt) {idx q : Nat} {G : Nat → Option α} (hat : z_at cd pc = some (.getfield idx, len, a, b)) (e : b1 (fR h q a b) G = some r) (k : ∀ x : Nat, fR h q a b = some x → G x = some r → zt xs d y (pc + 3) lv (.ref x :: st) h C S Q) : zt xs d y pc lv (.ref q :: st) h C S Q := by
  obtain ⟨x, e1, e2⟩ := b1_some e
  obtain ⟨vs, e3, e4⟩ := fV_some (fR_some e1)
  exact z_step10 hy hat rfl (by simp only [z_hp, z_hgT e3, if_true, e4]) (k x e1 e2)
theorem zx_pf (hy : z_me y cd nL hs rt) {idx q : Nat} {v : Value} {G : zH → Option α} (hat : z_at cd pc = some (.putfield idx, len, a, b)) (e : b1 (fS h q a b v) G = some r) (hf : z_fit (za_fty a b) v = true) (k : ∀ h2 : zH, fS h q a b v = some h2 → G h2 = some r → zt xs d y (pc + 3) lv st h2 C S Q) : zt xs d y pc lv (v :: .ref q :: st) h C S Q := by
  obtain ⟨h2, e1, e2⟩ := b1_some e
  obtain ⟨vs, e3, e4, e5⟩ := fS_some e1
  have e6 : z_hp (za_T xs) (.putfield idx) pc a b (v :: .ref q :: st) h = some (pc + 3, st, h2, 0, 0) := by
    simp only [z_hp, e3]
    rw [if_pos ⟨trivial, e4, hf⟩, e5]
  exact z_step10 hy hat rfl e6 (k h2 e1 e2)
theorem zx_len (hy : z_me y cd nL hs rt) {q t : Nat} {G : Int32 → Option α} (ht : 100 ≤ t) (hat : z_at cd pc = some (.arraylength, len, a, b)) (e : b1 (fN h q t) G = some r) (k : ∀ x : Int32, fN h q t = some x → G x = some r → zt xs d y (pc + 1) lv (.int x :: st) h C S Q) : zt xs d y pc lv (.ref q :: st) h C S Q := by
  obtain ⟨x, e1, e2⟩ := b1_some e
  obtain ⟨vs, e3, e4⟩ := fN_some e1
  exact z_step10 hy hat rfl (by simp only [z_hp, z_hgT e3]; rw [if_pos ht, e4]) (k x e1 e2)
theorem z_aldT {t0 q : Nat} {i : Int32} {v : Value} {vs : List Value} (e1 : z_hg za_S0 h q = some (t0, vs)) (e2 : decide (i < 0) = false) (e3 : vs[i.toNatClampNeg]? = some v) : z_ald (za_T xs) t0 pc (.int i :: .ref q :: st) h = some (pc + 1, v :: st, h, 0, 0) := by
  unfold z_ald
  simp only [z_hgT e1]
  rw [if_pos ⟨trivial, of_decide_eq_false e2⟩, e3]
theorem zx_aI (hy : z_me y cd nL hs rt) {q t : Nat} {i : Int32} {j : Instr} {G : Int32 → Option α} (hj : (j = .iaload ∧ t = 100) ∨ (j = .baload ∧ t = 101)) (hat : z_at cd pc = some (j, len, a, b)) (e : b1 (fAI h q t i) G = some r) (k : ∀ x : Int32, fAI h q t i = some x → G x = some r → zt xs d y (pc + 1) lv (.int x :: st) h C S Q) : zt xs d y pc lv (.int i :: .ref q :: st) h C S Q := by
  obtain ⟨x, e1, e2⟩ := b1_some e
  obtain ⟨e3, e4⟩ := cond_none e1
  obtain ⟨vs, e5, e6⟩ := fV_some (fI_some e4)
  rcases hj with ⟨rfl, rfl⟩ | ⟨rfl, rfl⟩
  · exact z_step10 hy hat rfl (z_aldT e5 e3 e6) (k x e1 e2)
  · exact z_step10 hy hat rfl (z_aldT e5 e3 e6) (k x e1 e2)
theorem zx_aR (hy : z_me y cd nL hs rt) {q t : Nat} {i : Int32} {G : Nat → Option α} (ht : 104 ≤ t) (hat : z_at cd pc = some (.aaload, len, a, b)) (e : b1 (fAR h q t i) G = some r) (k : ∀ x : Nat, fAR h q t i = some x → G x = some r → zt xs d y (pc + 1) lv (.ref x :: st) h C S Q) : zt xs d y pc lv (.int i :: .ref q :: st) h C S Q := by
  obtain ⟨x, e1, e2⟩ := b1_some e
  obtain ⟨e3, e4⟩ := cond_none e1
  obtain ⟨vs, e5, e6⟩ := fV_some (fR_some e4)
  exact z_step10 hy hat rfl (by simp only [z_hp, z_hgT e5]; rw [if_pos ⟨ht, of_decide_eq_false e3⟩, e6]) (k x e1 e2)
theorem zx_sI (hy : z_me y cd nL hs rt) {q t : Nat} {i x v : Int32} {j : Instr} {G : zH → Option α} (hj : (j = .iastore ∧ t = 100 ∧ v = x) ∨ (j = .bastore ∧ t = 101 ∧ v = vp_nar .byte x)) (hat : z_at cd pc = some (j, len, a, b)) (e : b1 (fAS h q t i (.int v)) G = some r) (k : ∀ h2 : zH, fAS h q t i (.int v) = some h2 → G h2 = some r → zt xs d y (pc + 1) lv st h2 C S Q) : zt xs d y pc lv (.int x :: .int i :: .ref q :: st) h C S Q := by
  obtain ⟨h2, e1, e2⟩ := b1_some e
  obtain ⟨e3, e4⟩ := cond_none e1
  obtain ⟨vs, e5, e6, e7⟩ := fS_some e4
  have e8 := of_decide_eq_false e3
  rcases hj with ⟨rfl, rfl, rfl⟩ | ⟨rfl, rfl, rfl⟩
  · exact z_step10 hy hat rfl (by simp only [z_hp, e5]; rw [if_pos ⟨trivial, e8, e6⟩, e7]) (k h2 e1 e2)
  · exact z_step10 hy hat rfl (by simp only [z_hp, e5]; rw [if_pos ⟨trivial, e8, e6⟩, e7]) (k h2 e1 e2)
/-- a reference into an array; w is an object of the array's kind -/
theorem zx_sR (hy : z_me y cd nL hs rt) {q w t : Nat} {i : Int32} {G : zH → Option α} (ht : 104 ≤ t ∧ t < 106) (hat : z_at cd pc = some (.aastore, len, a, b)) (e : cond (fT h w (za_elem t) && Nat.blt w 1000000) (b1 (fAS h q t i (.ref w)) G) none = some r) (k : ∀ h2 : zH, fAS h q t i (.ref w) = some h2 → G h2 = some r → zt xs d y (pc + 1) lv st h2 C S Q) : zt xs d y pc lv (.ref w :: .int i :: .ref q :: st) h C S Q := by
  cases g : (fT h w (za_elem t) && Nat.blt w 1000000) with
  | false => rw [g] at e; cases e
  | true =>
    rw [g] at e
    rw [Bool.and_eq_true] at g
    obtain ⟨h2, e1, e2⟩ := b1_some e
    obtain ⟨e3, e4⟩ := cond_none e1
    obtain ⟨vs, e5, e6, e7⟩ := fS_some e4
    obtain ⟨g1, g2⟩ := g
    unfold fT z_hg at g1
    rw [g2] at g1
    have g3 : ∃ vw, h[w]? = some (za_elem t, vw) := by
      cases g4 : h[w]? with
      | none => simp only [cond_true, g4] at g1; cases g1
      | some c =>
        simp only [cond_true, g4] at g1
        obtain ⟨t', vw⟩ := c
        have g5 : t' = za_elem t := Nat.eq_of_beq_eq_true g1
        rw [g5]
        exact ⟨vw, rfl⟩
    obtain ⟨vw, g3⟩ := g3
    exact z_step10 hy hat rfl (by simp only [z_hp, e5, g3]; rw [if_pos ⟨ht, of_decide_eq_false e3, e6, rfl⟩, e7]) (k h2 e1 e2)
theorem zx_gs (hy : z_me y cd nL hs rt) {idx : Nat} {v : Value} (hat : z_at cd pc = some (.getstatic idx, len, a, b)) {f : zF} (hf : za_sf[b]? = some f) (hv : f.2.2.2 = v) (k : zt xs d y (pc + 3) lv (v :: st) h C S Q) : zt xs d y pc lv st h C S Q := by
  subst hv
  exact z_step10 hy hat rfl (by simp only [z_hp]; rw [show (za_T xs).2.1[b]? = some f from hf]) k
theorem zx_ldcS (hy : z_me y cd nL hs rt) {idx : Nat} (hat : z_at cd pc = some (.ldc idx, len, 1, b)) {f : zS} (hf : za_ss[b]? = some f) {q : Nat} (hv : f.2.2.2 = q) (k : zt xs d y (pc + 2) lv (.ref q :: st) h C S Q) : zt xs d y pc lv st h C S Q := by
  subst hv
  exact z_step10 hy hat rfl (by simp only [z_hp]; rw [show (za_T xs).2.2.1[b]? = some f from hf]) k
theorem zx_ldcw (hy : z_me y cd nL hs rt) {idx : Nat} (hat : z_at cd pc = some (.ldc_w idx, len, a, b)) {f : zS} (hf : za_ss[b]? = some f) {q : Nat} (hv : f.2.2.2 = q) (k : zt xs d y (pc + 3) lv (.ref q :: st) h C S Q) : zt xs d y pc lv st h C S Q := by
  subst hv
  exact z_step10 hy hat rfl (by simp only [z_hp]; rw [show (za_T xs).2.2.1[b]? = some f from hf]) k
theorem zx_ldcI (hy : z_me y cd nL hs rt) {idx : Nat} (hat : z_at cd pc = some (.ldc idx, len, 0, b)) {v : Value} (hf : za_num[b]? = some v) (k : zt xs d y (pc + 2) lv (v :: st) h C S Q) : zt xs d y pc lv st h C S Q :=
  z_step10 hy hat rfl (by simp only [z_hp]; rw [show (za_T xs).2.2.2.1[b]? = some v from hf]) k
theorem zx_ldcL (hy : z_me y cd nL hs rt) {idx : Nat} (hat : z_at cd pc = some (.ldc2_w idx, len, a, b)) {v : Value} (hf : za_num[b]? = some v) (k : zt xs d y (pc + 3) lv (v :: st) h C S Q) : zt xs d y pc lv st h C S Q :=
  z_step10 hy hat rfl (by simp only [z_hp]; rw [show (za_T xs).2.2.2.1[b]? = some v from hf]) k
theorem zx_nullN (hy : z_me y cd nL hs rt) {off : Int} (hat : z_at cd pc = some (.ifnull off, len, a, b)) (k : zt xs d y a lv st h C S Q) : zt xs d y pc lv (.null :: st) h C S Q := z_step10 hy hat rfl rfl k
theorem zx_nonnullN (hy : z_me y cd nL hs rt) {off : Int} (hat : z_at cd pc = some (.ifnonnull off, len, a, b)) (k : zt xs d y (pc + 3) lv st h C S Q) : zt xs d y pc lv (.null :: st) h C S Q := z_step10 hy hat rfl rfl k
def fX (h : zH) (q : Nat) : Bool := (z_hg za_S0 h q).isSome
theorem fX_some {q : Nat} (e : fX h q = true) : ∃ c, z_hg (za_T xs).1 h q = some c := by
  unfold fX at e
  obtain ⟨c, e1⟩ := Option.isSome_iff_exists.mp e
  exact ⟨c, z_hgT e1⟩
theorem zx_nullR (hy : z_me y cd nL hs rt) {off : Int} {q : Nat} {A : Option α} (hat : z_at cd pc = some (.ifnull off, len, a, b)) (e : cond (fX h q) A none = some r) (k : A = some r → zt xs d y (pc + 3) lv st h C S Q) : zt xs d y pc lv (.ref q :: st) h C S Q := by
  cases g : fX h q with
  | false => rw [g] at e; cases e
  | true =>
    rw [g] at e
    obtain ⟨c, e1⟩ := fX_some (xs := xs) g
    exact z_step10 hy hat rfl (by simp only [z_hp, e1]) (k e)
theorem zx_nonnullR (hy : z_me y cd nL hs rt) {off : Int} {q : Nat} {A : Option α} (hat : z_at cd pc = some (.ifnonnull off, len, a, b)) (e : cond (fX h q) A none = some r) (k : A = some r → zt xs d y a lv st h C S Q) : zt xs d y pc lv (.ref q :: st) h C S Q := by
  cases g : fX h q with
  | false => rw [g] at e; cases e
  | true =>
    rw [g] at e
    obtain ⟨c, e1⟩ := fX_some (xs := xs) g
    exact z_step10 hy hat rfl (by simp only [z_hp, e1]) (k e)
theorem zx_acmp (hy : z_me y cd nL hs rt) {off : Int} {q w : Nat} {A B : Option α} (hat : z_at cd pc = some (.if_acmp .ne off, len, a, b)) (e : cond (Nat.ble 1000000 q && Nat.blt q 1000000 && Nat.ble 1000000 w && Nat.blt w 1000000) (cond (Nat.beq q w) A B) none = some r) (k1 : q = w → A = some r → zt xs d y (pc + 3) lv st h C S Q) (k2 : q ≠ w → B = some r → zt xs d y a lv st h C S Q) : zt xs d y pc lv (.ref w :: .ref q :: st) h C S Q := by
  cases g : (Nat.ble 1000000 q && Nat.blt q 1000000 && Nat.ble 1000000 w && Nat.blt w 1000000) with
  | false => rw [g] at e; cases e
  | true =>
    rw [g] at e
    simp only [Bool.and_eq_true] at g
    obtain ⟨⟨⟨g1, g2⟩, g3⟩, g4⟩ := g
    have g5 : 1000000 ≤ q ∧ q < 1000000 ∧ 1000000 ≤ w ∧ w < 1000000 := ⟨Nat.le_of_ble_eq_true g1, Nat.le_of_ble_eq_true g2, Nat.le_of_ble_eq_true g3, Nat.le_of_ble_eq_true g4⟩
    cases g6 : Nat.beq q w with
    | true =>
      rw [g6] at e
      have g7 := Nat.eq_of_beq_eq_true g6
      exact z_step10 hy hat rfl (by simp only [z_hp]; rw [if_pos g5, if_pos g7]) (k1 g7 e)
    | false =>
      rw [g6] at e
      have g7 : q ≠ w := Nat.ne_of_beq_eq_false g6
      exact z_step10 hy hat rfl (by simp only [z_hp]; rw [if_pos g5, if_neg g7]) (k2 g7 e)
theorem zx_max (hy : z_me y cd nL hs rt) {idx : Nat} {x z : Int32} (hat : z_at cd pc = some (.invokestatic idx, len, 9998, b)) (hr : z_cs st ≤ 7) (k : zt xs d y (pc + 3) lv (.int (if x < z then z else x) :: st) h C S Q) : zt xs d y pc lv (.int z :: .int x :: st) h C S Q :=
  z_step10 hy hat rfl (by simp only [z_hp]; rw [if_pos hr]) k
theorem zx_min (hy : z_me y cd nL hs rt) {idx : Nat} {x z : Int32} (hat : z_at cd pc = some (.invokestatic idx, len, 9997, b)) (hr : z_cs st ≤ 7) (k : zt xs d y (pc + 3) lv (.int (if x < z then x else z) :: st) h C S Q) : zt xs d y pc lv (.int z :: .int x :: st) h C S Q :=
  z_step10 hy hat rfl (by simp only [z_hp]; rw [if_pos hr]) k
theorem zx_obj (hy : z_me y cd nL hs rt) {idx q : Nat} {A : Option α} (hat : z_at cd pc = some (.invokespecial idx, len, 9999, b)) (hr : z_cs st ≤ 8) (e : cond (fX h q) A none = some r) (k : A = some r → zt xs d y (pc + 3) lv st h C S Q) : zt xs d y pc lv (.ref q :: st) h C S Q := by
  cases g : fX h q with
  | false => rw [g] at e; cases e
  | true =>
    rw [g] at e
    obtain ⟨c, e1⟩ := fX_some (xs := xs) g
    exact z_step10 hy hat rfl (by simp only [z_hp, e1]; rw [if_pos hr]) (k e)
/-! ends -/
theorem zx_ret (hy : z_me y cd nL hs rt) {i : Instr} {v : Value} {cv : α → Option Value ⊕ Nat} {x : α} {r : α × zH} (hat : z_at cd pc = some (i, len, a, b)) (hk : z_kind i a b = 4) (hro : z_rok i rt v = true) (hcv : cv x = .inl (some v)) (e : some (x, h) = some r) : zt xs d y pc lv [v] h C S (zQ cv r) := by
  cases e
  refine ⟨1, .inl (some v), h, 0, 0, ?_, Nat.zero_le _, Nat.zero_le _, hcv.symm, rfl⟩
  exact zq_4 (by rw [hy.1]; exact hat) hk (by rw [hy.2.2.2]; exact hro)
theorem zx_retB (hy : z_me y cd nL hs (some .boolean)) {x : Int32} {cv : Int32 → Option Value ⊕ Nat} {r : Int32 × zH} (hat : z_at cd pc = some (.ireturn, len, a, b)) (hcv : cv x = .inl (some (.int x))) (e : cond (decide (x = Int32.ofInt 0) || decide (x = Int32.ofInt 1)) (some (x, h)) none = some r) : zt xs d y pc lv [.int x] h C S (zQ cv r) := by
  cases g : (decide (x = Int32.ofInt 0) || decide (x = Int32.ofInt 1)) with
  | false => rw [g] at e; cases e
  | true =>
    rw [g] at e
    exact zx_ret hy hat rfl g hcv e
theorem zx_retV (hy : z_me y cd nL hs none) {cv : Unit → Option Value ⊕ Nat} {r : Unit × zH} (hat : z_at cd pc = some (.return_, len, a, b)) (hcv : cv () = .inl none) (e : some ((), h) = some r) : zt xs d y pc lv [] h C S (zQ cv r) := by
  cases e
  refine ⟨1, .inl none, h, 0, 0, ?_, Nat.zero_le _, Nat.zero_le _, hcv.symm, rfl⟩
  exact zq_5 (by rw [hy.1]; exact hat) rfl hy.2.2.2
theorem zx_retVX {β : Type} (hy : z_me y cd nL hs none) {cv : β → Option Value ⊕ Nat} {x : β} {r : β × zH} (hat : z_at cd pc = some (.return_, len, a, b)) (hcv : cv x = .inl none) (e : some (x, h) = some r) : zt xs d y pc lv [] h C S (zQ cv r) := by
  cases e
  refine ⟨1, .inl none, h, 0, 0, ?_, Nat.zero_le _, Nat.zero_le _, hcv.symm, rfl⟩
  exact zq_5 (by rw [hy.1]; exact hat) rfl hy.2.2.2
theorem zx_thr (hy : z_me y cd nL [] rt) {ik : Nat} {cv : α → Option Value ⊕ Nat} {r : (α ⊕ Nat) × zH} (hat : z_at cd pc = some (.new ik, len, a, 1000)) (hr : z_cs st ≤ 8) (e : some (Sum.inr a, h) = some r) : zt xs d y pc lv st h C S (zQ (cX cv) r) := by
  cases e
  refine ⟨1, .inr a, h, 1, 6, ?_, ?_, ?_, rfl, rfl⟩
  · exact zq_6 (by rw [hy.1]; exact hat) rfl hr hy.2.2.1
  · show 1 ≤ C + 1
    omega
  · show 6 ≤ S + 6 * 1
    omega
/-! calls -/
theorem z_rcvT {q t : Nat} {l : List Value} (e : fT h q t = true) : z_rcv (za_T xs) h (.ref q :: l) t = true := by
  unfold fT at e
  unfold z_rcv
  split at e
  · rename_i c e1
    simp only [z_hgT e1]
    exact e
  · cases e
/-- a call, behind it -/
theorem z_call (hy : z_me y cd nL hs rt) {i : Instr} {k0 c1 s1 : Nat} {as : List Value} {v : Option Value} {h2 : zH} (hat : z_at cd pc = some (i, len, a, b)) (hk : z_kind i a b = k0) (h3 : k0 = 2 ∨ k0 = 3 ∨ k0 = 7) (hst : st = as.reverse ++ rest) (hn : as.length = z_nn k0 b) (hcs : z_cs as ≤ za_P.2.1 a) (hrest : z_cs rest ≤ 8) (hrc : k0 ≠ 3 → z_rcv (za_T xs) h as (za_P.2.2.2.1 a) = true)
    (hm : zt xs d a 0 (lv_args 0 as) [] h c1 s1 (fun o g => o = .inl v ∧ g = h2)) (k : zt xs (d + 1) y (pc + 3) lv (v.toList ++ rest) h2 C S Q) : zt xs (d + 1) y pc lv st h (c1 + C) (s1 + S) Q := by
  obtain ⟨f1, o1, g1, c2, s2, hr1, hc1, hs1, rfl, rfl⟩ := hm
  obtain ⟨f2, o2, g2, c3, s3, hr2, hc2, hs2, hq⟩ := k
  refine ⟨f1 + f2 + 1, o2, g2, c3 + c2, s3 + s2, ?_, ?_, ?_, hq⟩
  · have e1 := z_more f1 d a 0 _ [] h 0 0 _ _ c2 s2 hr1 (f1 + f2) d _ 0 0 (Nat.le_add_right _ _) (Nat.le_refl _) (Or.inl rfl)
    have e2 := z_more f2 (d + 1) y (pc + 3) lv _ _ 0 0 o2 g2 c3 s3 hr2 (f1 + f2) (d + 1) lv c2 s2 (Nat.le_add_left _ _) (Nat.le_refl _) (Or.inl rfl)
    simp only [Nat.add_zero, Nat.zero_add] at e1 e2
    have et : st.take (z_nn k0 b) = as.reverse := by rw [hst, ← hn, ← List.length_reverse, List.take_left]
    have ed : st.drop (z_nn k0 b) = rest := by rw [hst, ← hn, ← List.length_reverse, List.drop_left]
    have hcond : z_nn k0 b ≤ st.length ∧ z_cs (st.drop (z_nn k0 b)) ≤ 8 ∧ z_cs (st.take (z_nn k0 b)) ≤ za_P.2.1 a ∧ (k0 ≠ 3 → z_rcv (za_T xs) h (st.take (z_nn k0 b)).reverse (za_P.2.2.2.1 a) = true) := by
      refine ⟨?_, by rw [ed]; exact hrest, by rw [et, z_cs_rev]; exact hcs, fun hz => by rw [et, List.reverse_reverse]; exact hrc hz⟩
      rw [hst, List.length_append, List.length_reverse, hn]
      exact Nat.le_add_right _ _
    have e1' : z_run (za_T xs) za_P (f1 + f2) d a 0 (lv_args 0 (st.take (z_nn k0 b)).reverse) [] h 0 0 = some (.inl v, g1, c2, s2) := by rw [et, List.reverse_reverse]; exact e1
    have e2' : z_run (za_T xs) za_P (f1 + f2) (d + 1) y (pc + 3) lv (v.toList ++ st.drop (z_nn k0 b)) g1 (0 + c2) (0 + s2) = some (o2, g2, c3 + c2, s3 + s2) := by rw [ed]; simpa using e2
    rw [zq_c (by rw [hy.1]; exact hat) hk h3 hcond, e1']
    exact e2'
  · have : zxc (.inl v) = 0 := rfl
    rw [this] at hc1
    omega
  · have : zxc (.inl v) = 0 := rfl
    rw [this] at hs1
    omega
/-- a call out of which something is thrown that is not caught here -/
theorem z_callX (hy : z_me y cd nL [] rt) {i : Instr} {k0 : Nat} {as : List Value} {E : Nat} {h2 : zH} (hat : z_at cd pc = some (i, len, a, b)) (hk : z_kind i a b = k0) (h3 : k0 = 2 ∨ k0 = 3) (hst : st = as.reverse ++ rest) (hn : as.length = z_nn k0 b) (hcs : z_cs as ≤ za_P.2.1 a) (hrest : z_cs rest ≤ 8) (hrc : k0 ≠ 3 → z_rcv (za_T xs) h as (za_P.2.2.2.1 a) = true)
    (hm : zt xs d a 0 (lv_args 0 as) [] h C S (fun o g => o = .inr E ∧ g = h2)) (hq : Q (.inr E) h2) : zt xs (d + 1) y pc lv st h C S Q := by
  obtain ⟨f1, o1, g1, c2, s2, hr1, hc1, hs1, rfl, rfl⟩ := hm
  refine ⟨f1 + 1, .inr E, g1, c2, s2, ?_, hc1, hs1, hq⟩
  have et : st.take (z_nn k0 b) = as.reverse := by rw [hst, ← hn, ← List.length_reverse, List.take_left]
  have ed : st.drop (z_nn k0 b) = rest := by rw [hst, ← hn, ← List.length_reverse, List.drop_left]
  have hcond : z_nn k0 b ≤ st.length ∧ z_cs (st.drop (z_nn k0 b)) ≤ 8 ∧ z_cs (st.take (z_nn k0 b)) ≤ za_P.2.1 a ∧ (k0 ≠ 3 → z_rcv (za_T xs) h (st.take (z_nn k0 b)).reverse (za_P.2.2.2.1 a) = true) := by
    refine ⟨?_, by rw [ed]; exact hrest, by rw [et, z_cs_rev]; exact hcs, fun hz => by rw [et, List.reverse_reverse]; exact hrc hz⟩
    rw [hst, List.length_append, List.length_reverse, hn]
    exact Nat.le_add_right _ _
  have e1' : z_run (za_T xs) za_P f1 d a 0 (lv_args 0 (st.take (z_nn k0 b)).reverse) [] h 0 0 = some (.inr E, g1, c2, s2) := by rw [et, List.reverse_reverse]; exact hr1
  rw [zq_c (by rw [hy.1]; exact hat) hk (h3.imp id Or.inl) hcond, e1']
  try dsimp only
  rw [if_neg (by omega), hy.2.2.1]
  simp
/-- a call out of which something is thrown that a handler here takes: it answers a constant -/
theorem z_callH (hy : z_me y cd nL hs rt) {i : Instr} {k0 c1 s1 : Nat} {as : List Value} {E : Nat} {w x0 : zX} {l0 : List zX} {h2 : zH} (hhs : hs = x0 :: l0) (hat : z_at cd pc = some (i, len, a, b)) (hk : z_kind i a b = k0) (h3 : k0 = 2 ∨ k0 = 3) (hst : st = as.reverse ++ rest) (hn : as.length = z_nn k0 b) (hcs : z_cs as ≤ za_P.2.1 a) (hrest : z_cs rest ≤ 8) (hrc : k0 ≠ 3 → z_rcv (za_T xs) h as (za_P.2.2.2.1 a) = true)
    (hm : zt xs d a 0 (lv_args 0 as) [] h c1 s1 (fun o g => o = .inr E ∧ g = h2)) (hw : z_catch za_nc hs pc E = some w) (hC : c1 + 1 ≤ C) (hS : s1 + 6 ≤ S) (hq : Q (.inl (some (.int w.2.2))) h2) : zt xs (d + 1) y pc lv st h C S Q := by
  obtain ⟨f1, o1, g1, c2, s2, hr1, hc1, hs1, rfl, rfl⟩ := hm
  have hx : zxc (.inr E) = 1 := rfl
  rw [hx] at hc1 hs1
  refine ⟨f1 + 1, .inl (some (.int w.2.2)), g1, c2, s2, ?_, by show c2 ≤ C + 0; omega, by show s2 ≤ S + 6 * 0; omega, hq⟩
  have et : st.take (z_nn k0 b) = as.reverse := by rw [hst, ← hn, ← List.length_reverse, List.take_left]
  have ed : st.drop (z_nn k0 b) = rest := by rw [hst, ← hn, ← List.length_reverse, List.drop_left]
  have hcond : z_nn k0 b ≤ st.length ∧ z_cs (st.drop (z_nn k0 b)) ≤ 8 ∧ z_cs (st.take (z_nn k0 b)) ≤ za_P.2.1 a ∧ (k0 ≠ 3 → z_rcv (za_T xs) h (st.take (z_nn k0 b)).reverse (za_P.2.2.2.1 a) = true) := by
    refine ⟨?_, by rw [ed]; exact hrest, by rw [et, z_cs_rev]; exact hcs, fun hz => by rw [et, List.reverse_reverse]; exact hrc hz⟩
    rw [hst, List.length_append, List.length_reverse, hn]
    exact Nat.le_add_right _ _
  have e1' : z_run (za_T xs) za_P f1 d a 0 (lv_args 0 (st.take (z_nn k0 b)).reverse) [] h 0 0 = some (.inr E, g1, c2, s2) := by rw [et, List.reverse_reverse]; exact hr1
  have hw' : z_catch za_P.2.2.2.2.2 (x0 :: l0) pc E = some w := by rw [hhs] at hw; exact hw
  rw [zq_c (by rw [hy.1]; exact hat) hk (h3.imp id Or.inl) hcond, e1']
  try dsimp only
  rw [if_neg (by omega), hy.2.2.1, hhs]
  try dsimp only
  rw [hw']
  simp
end ZT2
/-! calls of F functions; switches -/
theorem cond_some {α : Type} {b : Bool} {o : Option α} {x : α} (e : cond b o none = some x) : b = true ∧ o = some x := by
  cases b with
  | true => exact ⟨rfl, e⟩
  | false => cases e
/-- behind a callee that may throw -/
def bX {α β : Type} (o : Option ((α ⊕ Nat) × zH)) (g : α → zH → Option ((β ⊕ Nat) × zH)) : Option ((β ⊕ Nat) × zH) := match o with
  | some (.inl a, h) => g a h
  | some (.inr E, h) => some (.inr E, h)
  | none => none
/-- the same, thrown things taken by handlers here, which answer constants -/
def bH {α : Type} (hs : List zX) (pc : Nat) (o : Option ((α ⊕ Nat) × zH)) (g : α → zH → Option (Int32 × zH)) : Option (Int32 × zH) := match o with
  | some (.inl a, h) => g a h
  | some (.inr E, h) => (match z_catch za_nc hs pc E with | some w => some (w.2.2, h) | none => none)
  | none => none
/-- a call of what may throw, from where nothing thrown is expected -/
def bN {α β : Type} (o : Option ((α ⊕ Nat) × zH)) (g : α → zH → Option β) : Option β := match o with
  | some (.inl a, h) => g a h
  | _ => none
/-- a new row of numbers, at most 200 -/
def fNI (h : zH) (n : Int32) : Option zH := cond (decide (¬ n < 0) && (decide (n.toNatClampNeg ≤ 200) && Nat.blt h.length 1000000)) (some (h ++ [(100, List.replicate n.toNatClampNeg (.int 0))])) none
section ZT3
variable {xs : List Int32} {d y pc : Nat} {lv : List (Nat × Value)} {st rest : List Value} {h : zH} {C S : Nat} {Q : (Option Value ⊕ Nat) → zH → Prop} {cd : List zE} {nL : Nat} {hs : List zX} {rt : Option FieldType}
variable {len a b : Nat}
theorem zx_call {α β : Type} (hy : z_me y cd nL hs rt) {i : Instr} {k0 : Nat} {as : List Value} {X : Option (β × zH)} {G : β → zH → Option α} {r : α} {cv : β → Option Value ⊕ Nat} {ov : β → Option Value} (hcv : ∀ v, cv v = .inl (ov v)) (hat : z_at cd pc = some (i, len, a, b)) (hk : z_kind i a b = k0) (h3 : k0 = 2 ∨ k0 = 3 ∨ k0 = 7) (hst : st = as.reverse ++ rest) (hn : as.length = z_nn k0 b) (hcs : z_cs as ≤ za_P.2.1 a) (hrest : z_cs rest ≤ 8)
    (hrc : ∀ p, X = some p → k0 ≠ 3 → z_rcv (za_T xs) h as (za_P.2.2.2.1 a) = true) (hm : ∀ p, X = some p → zt xs d a 0 (lv_args 0 as) [] h 0 0 (zQ cv p)) (e : b2 X G = some r) (k : ∀ (v : β) (h2 : zH), X = some (v, h2) → G v h2 = some r → zt xs (d + 1) y (pc + 3) lv ((ov v).toList ++ rest) h2 C S Q) : zt xs (d + 1) y pc lv st h C S Q := by
  obtain ⟨v, h2, e1, e2⟩ := b2_some e
  have h9 := z_call (c1 := 0) (s1 := 0) hy hat hk h3 hst hn hcs hrest (hrc _ e1) (zt_wide (Nat.le_refl _) (Nat.le_refl _) (fun o g hq => ⟨hq.1.trans (hcv v), hq.2⟩) (hm _ e1)) (k v h2 e1 e2)
  simpa using h9
theorem zx_callX {α β : Type} (hy : z_me y cd nL [] rt) {i : Instr} {k0 : Nat} {as : List Value} {X : Option ((β ⊕ Nat) × zH)} {G : β → zH → Option ((α ⊕ Nat) × zH)} {r : (α ⊕ Nat) × zH} {cv : β → Option Value ⊕ Nat} {cw : α → Option Value ⊕ Nat} {ov : β → Option Value} (hcv : ∀ v, cv v = .inl (ov v)) (hat : z_at cd pc = some (i, len, a, b)) (hk : z_kind i a b = k0) (h3 : k0 = 2 ∨ k0 = 3) (hst : st = as.reverse ++ rest) (hn : as.length = z_nn k0 b) (hcs : z_cs as ≤ za_P.2.1 a) (hrest : z_cs rest ≤ 8)
    (hrc : ∀ p, X = some p → k0 ≠ 3 → z_rcv (za_T xs) h as (za_P.2.2.2.1 a) = true) (hm : ∀ p, X = some p → zt xs d a 0 (lv_args 0 as) [] h 0 0 (zQ (cX cv) p)) (e : bX X G = some r) (k : ∀ (v : β) (h2 : zH), X = some (.inl v, h2) → G v h2 = some r → zt xs (d + 1) y (pc + 3) lv ((ov v).toList ++ rest) h2 C S (zQ (cX cw) r)) : zt xs (d + 1) y pc lv st h C S (zQ (cX cw) r) := by
  unfold bX at e
  split at e
  · rename_i v h2
    have h9 := z_call (c1 := 0) (s1 := 0) hy hat hk (h3.imp id Or.inl) hst hn hcs hrest (hrc _ rfl) (zt_wide (Nat.le_refl _) (Nat.le_refl _) (fun o g hq => ⟨hq.1.trans (hcv v), hq.2⟩) (hm _ rfl)) (k v h2 rfl e)
    simpa using h9
  · rename_i E h2
    cases e
    exact z_callX hy hat hk h3 hst hn hcs hrest (hrc _ rfl) (zt_wide (Nat.zero_le _) (Nat.zero_le _) (fun o g hq => hq) (hm _ rfl)) ⟨rfl, rfl⟩
  · cases e
/-- the same, where nothing thrown is expected -/
theorem zx_callN {α β : Type} (hy : z_me y cd nL hs rt) {i : Instr} {k0 : Nat} {as : List Value} {X : Option ((β ⊕ Nat) × zH)} {G : β → zH → Option α} {r : α} {cv : β → Option Value ⊕ Nat} {ov : β → Option Value} (hcv : ∀ v, cv v = .inl (ov v)) (hat : z_at cd pc = some (i, len, a, b)) (hk : z_kind i a b = k0) (h3 : k0 = 2 ∨ k0 = 3) (hst : st = as.reverse ++ rest) (hn : as.length = z_nn k0 b) (hcs : z_cs as ≤ za_P.2.1 a) (hrest : z_cs rest ≤ 8)
    (hrc : ∀ p, X = some p → k0 ≠ 3 → z_rcv (za_T xs) h as (za_P.2.2.2.1 a) = true) (hm : ∀ p, X = some p → zt xs d a 0 (lv_args 0 as) [] h 0 0 (zQ (cX cv) p)) (e : bN X G = some r) (k : ∀ (v : β) (h2 : zH), X = some (.inl v, h2) → G v h2 = some r → zt xs (d + 1) y (pc + 3) lv ((ov v).toList ++ rest) h2 C S Q) : zt xs (d + 1) y pc lv st h C S Q := by
  unfold bN at e
  split at e
  · rename_i v h2
    have h9 := z_call (c1 := 0) (s1 := 0) hy hat hk (h3.imp id Or.inl) hst hn hcs hrest (hrc _ rfl) (zt_wide (Nat.le_refl _) (Nat.le_refl _) (fun o g hq => ⟨hq.1.trans (hcv v), hq.2⟩) (hm _ rfl)) (k v h2 rfl e)
    simpa using h9
  · cases e
/-- a call of a method that makes rows -/
theorem zx_callB {α β : Type} {c1 s1 C2 S2 : Nat} (hC : c1 + C ≤ C2) (hS : s1 + S ≤ S2) (hy : z_me y cd nL hs rt) {i : Instr} {k0 : Nat} {as : List Value} {X : Option (β × zH)} {G : β → zH → Option α} {r : α} {cv : β → Option Value ⊕ Nat} {ov : β → Option Value} (hcv : ∀ v, cv v = .inl (ov v)) (hat : z_at cd pc = some (i, len, a, b)) (hk : z_kind i a b = k0) (h3 : k0 = 2 ∨ k0 = 3 ∨ k0 = 7) (hst : st = as.reverse ++ rest) (hn : as.length = z_nn k0 b) (hcs : z_cs as ≤ za_P.2.1 a) (hrest : z_cs rest ≤ 8)
    (hrc : ∀ p, X = some p → k0 ≠ 3 → z_rcv (za_T xs) h as (za_P.2.2.2.1 a) = true) (hm : ∀ p, X = some p → zt xs d a 0 (lv_args 0 as) [] h c1 s1 (zQ cv p)) (e : b2 X G = some r) (k : ∀ (v : β) (h2 : zH), X = some (v, h2) → G v h2 = some r → zt xs (d + 1) y (pc + 3) lv ((ov v).toList ++ rest) h2 C S Q) : zt xs (d + 1) y pc lv st h C2 S2 Q := by
  obtain ⟨v, h2, e1, e2⟩ := b2_some e
  exact zt_wide hC hS (fun _ _ q => q) (z_call (c1 := c1) (s1 := s1) hy hat hk h3 hst hn hcs hrest (hrc _ e1) (zt_wide (Nat.le_refl _) (Nat.le_refl _) (fun o g hq => ⟨hq.1.trans (hcv v), hq.2⟩) (hm _ e1)) (k v h2 e1 e2))
theorem zx_newI {α : Type} {C2 S2 : Nat} {r : α} (hC : 1 + C ≤ C2) (hS : 200 + S ≤ S2) (hy : z_me y cd nL hs rt) {n : Int32} {G : zH → Option α} (hat : z_at cd pc = some (.newarray .int, len, a, b)) (e : b1 (fNI h n) G = some r) (k : ∀ h2 : zH, fNI h n = some h2 → G h2 = some r → zt xs d y (pc + 2) lv (.ref h.length :: st) h2 C S Q) : zt xs d y pc lv (.int n :: st) h C2 S2 Q := by
  obtain ⟨h2, e1, e2⟩ := b1_some e
  have e0 := e1
  unfold fNI at e1
  cases g : (decide (¬ n < 0) && (decide (n.toNatClampNeg ≤ 200) && Nat.blt h.length 1000000)) with
  | false => rw [g] at e1; cases e1
  | true =>
    rw [g] at e1
    rw [Bool.and_eq_true, Bool.and_eq_true, decide_eq_true_eq, decide_eq_true_eq] at g
    obtain ⟨g1, g2, g3⟩ := g
    have g3 : h.length < 1000000 := Nat.le_of_ble_eq_true g3
    cases e1
    refine zt_wide (C := 1 + C) (S := n.toNatClampNeg + S) hC (by omega) (fun _ _ q => q) (z_step1 hy hat rfl ?_ (k _ e0 e2))
    simp only [z_hp]
    rw [if_pos ⟨g1, by omega⟩]
    unfold z_mk
    rw [if_pos g3]
theorem zx_callH {β : Type} (hy : z_me y cd nL hs rt) {i : Instr} {k0 : Nat} {as : List Value} {x0 : zX} {l0 : List zX} {X : Option ((β ⊕ Nat) × zH)} {G : β → zH → Option (Int32 × zH)} {r : Int32 × zH} {cv : β → Option Value ⊕ Nat} {ov : β → Option Value} (hhs : hs = x0 :: l0) (hcv : ∀ v, cv v = .inl (ov v)) (hat : z_at cd pc = some (i, len, a, b)) (hk : z_kind i a b = k0) (h3 : k0 = 2 ∨ k0 = 3) (hst : st = as.reverse ++ rest) (hn : as.length = z_nn k0 b) (hcs : z_cs as ≤ za_P.2.1 a) (hrest : z_cs rest ≤ 8)
    (hrc : ∀ p, X = some p → k0 ≠ 3 → z_rcv (za_T xs) h as (za_P.2.2.2.1 a) = true) (hm : ∀ p, X = some p → zt xs d a 0 (lv_args 0 as) [] h 0 0 (zQ (cX cv) p)) (hC : 1 ≤ C) (hS : 6 ≤ S) (e : bH hs pc X G = some r) (k : ∀ (v : β) (h2 : zH), X = some (.inl v, h2) → G v h2 = some r → zt xs (d + 1) y (pc + 3) lv ((ov v).toList ++ rest) h2 C S (zQ cI r)) : zt xs (d + 1) y pc lv st h C S (zQ cI r) := by
  unfold bH at e
  split at e
  · rename_i v h2
    have h9 := z_call (c1 := 0) (s1 := 0) hy hat hk (h3.imp id Or.inl) hst hn hcs hrest (hrc _ rfl) (zt_wide (Nat.le_refl _) (Nat.le_refl _) (fun o g hq => ⟨hq.1.trans (hcv v), hq.2⟩) (hm _ rfl)) (k v h2 rfl e)
    simpa using h9
  · rename_i E h2
    split at e
    · rename_i w hw
      cases e
      exact z_callH (c1 := 0) (s1 := 0) hy hhs hat hk h3 hst hn hcs hrest (hrc _ rfl) (zt_wide (Nat.le_refl _) (Nat.le_refl _) (fun o g hq => hq) (hm _ rfl)) hw hC hS ⟨rfl, rfl⟩
    · cases e
  · cases e
/-- a switch's targets against its cases -/
def zK {α : Type} (xs : List Int32) (d y : Nat) (lv : List (Nat × Value)) (st : List Value) (h : zH) (C S : Nat) (Q : (Option Value ⊕ Nat) → zH → Prop) (r : α) : List Nat → List (Option α) → Prop
  | [], [] => True
  | t :: ts, G :: Gs => (G = some r → zt xs d y t lv st h C S Q) ∧ zK xs d y lv st h C S Q r ts Gs
  | _, _ => False
theorem zK_at {α : Type} {r : α} : ∀ {ts : List Nat} {Gs : List (Option α)}, zK xs d y lv st h C S Q r ts Gs → ∀ j : Nat, z_nth Gs j none = some r → ∃ t : Nat, ts[j]? = some t ∧ zt xs d y t lv st h C S Q := by
  intro ts
  induction ts with
  | nil =>
    intro Gs hk j e
    cases Gs with
    | nil => cases e
    | cons G Gs => exact hk.elim
  | cons t ts ih =>
    intro Gs hk j e
    cases Gs with
    | nil => exact hk.elim
    | cons G Gs =>
      cases j with
      | zero => exact ⟨t, rfl, hk.1 e⟩
      | succ j => exact ih hk.2 j e
theorem zx_tsw {α : Type} {r : α} {Gd : Option α} {Gs : List (Option α)} (hy : z_me y cd nL hs rt) {dflt lo hi : Int} {offs : Array Int} {x : Int32} (ts : List Nat) (td : Nat) (hat : z_at cd pc = some (.tableswitch dflt lo hi offs, len, a, b)) (hd : z_tg pc dflt = some td) (ho : offs.toList.map (z_tg pc) = ts.map some) (e : cond (decide (x.toInt < lo) || decide (hi < x.toInt)) Gd (z_nth Gs (x.toInt - lo).toNat none) = some r) (kd : Gd = some r → zt xs d y td lv st h C S Q) (ks : zK xs d y lv st h C S Q r ts Gs) : zt xs d y pc lv (.int x :: st) h C S Q := by
  cases g : (decide (x.toInt < lo) || decide (hi < x.toInt)) with
  | true =>
    rw [g] at e
    rw [Bool.or_eq_true, decide_eq_true_eq, decide_eq_true_eq] at g
    exact z_step0 hy hat rfl (by simp only [z_loc]; rw [if_pos g, hd]) (kd e)
  | false =>
    rw [g] at e
    rw [Bool.or_eq_false_iff, decide_eq_false_iff_not, decide_eq_false_iff_not] at g
    obtain ⟨t, h1, h2⟩ := zK_at ks _ e
    have h3 : (offs.toList.map (z_tg pc))[(x.toInt - lo).toNat]? = some (some t) := by rw [ho, List.getElem?_map, h1]; rfl
    rw [List.getElem?_map] at h3
    have h5 : ∃ off, offs[(x.toInt - lo).toNat]? = some off ∧ z_tg pc off = some t := by
      cases h4 : offs.toList[(x.toInt - lo).toNat]? with
      | none => rw [h4] at h3; cases h3
      | some off =>
        rw [h4] at h3
        exact ⟨off, by rw [← Array.getElem?_toList]; exact h4, Option.some.inj h3⟩
    obtain ⟨off, h6, h7⟩ := h5
    exact z_step0 hy hat rfl (by simp only [z_loc]; rw [if_neg (by omega), h6]; simp only [h7]) h2
/-- the first case of these keys, or the last -/
def z_lk {α : Type} (v : Int) (d0 : α) : List (Int × α) → α
  | [] => d0
  | q :: l => cond (decide (q.1 = v)) q.2 (z_lk v d0 l)
theorem z_lk_at {α : Type} {r : α} {v : Int} {Gd : Option α} {td : Nat} (kd : Gd = some r → zt xs d y td lv st h C S Q) : ∀ {ts : List (Int × Nat)} {Gs : List (Option α)}, zK xs d y lv st h C S Q r (ts.map (·.2)) Gs → z_lk v Gd ((ts.map (·.1)).zip Gs) = some r → zt xs d y (z_lk v td ts) lv st h C S Q := by
  intro ts
  induction ts with
  | nil => intro Gs hk e; exact kd e
  | cons t ts ih =>
    intro Gs hk e
    cases Gs with
    | nil => exact hk.elim
    | cons G Gs =>
      rw [List.map_cons, List.zip_cons_cons, z_lk] at e
      rw [z_lk]
      cases g : decide (t.1 = v) with
      | true => rw [g] at e; exact hk.1 e
      | false => rw [g] at e; exact ih hk.2 e
theorem zx_lsw {α : Type} {r : α} {Gd : Option α} {Gs : List (Option α)} (hy : z_me y cd nL hs rt) {dflt : Int} {ps : Array (Int × Int)} {x : Int32} (ts : List (Int × Nat)) (td : Nat) (hat : z_at cd pc = some (.lookupswitch dflt ps, len, a, b)) (hsort : (ps.toList.zip (ps.toList.drop 1)).all (fun (a, next) => a.1 < next.1) = true) (ho : ∀ v : Int, z_tg pc (Op.lookupswitch.offset ps.toList dflt v) = some (z_lk v td ts)) (e : z_lk x.toInt Gd ((ts.map (·.1)).zip Gs) = some r) (kd : Gd = some r → zt xs d y td lv st h C S Q) (ks : zK xs d y lv st h C S Q r (ts.map (·.2)) Gs) : zt xs d y pc lv (.int x :: st) h C S Q :=
  z_step0 hy hat rfl (by simp only [z_loc]; rw [if_pos hsort, ho]) (z_lk_at kd ks e)
theorem zx_fdiv {α : Type} {r : α} {G : UInt32 → Option α} (hy : z_me y cd nL hs rt) {x z : UInt32} (hat : z_at cd pc = some (.fdiv, len, a, b)) (e : (if FP.fdiv x z &&& 0x7fffffff ≤ 0x7f800000 then G (FP.fdiv x z) else none) = some r) (k : G (FP.fdiv x z) = some r → zt xs d y (pc + 1) lv (.float (FP.fdiv x z) :: st) h C S Q) : zt xs d y pc lv (.float z :: .float x :: st) h C S Q := by
  split at e
  · rename_i g
    exact z_step0 hy hat rfl (by simp only [z_loc]; rw [if_pos g]) (k e)
  · cases e
theorem zx_ddiv {α : Type} {r : α} {G : UInt64 → Option α} (hy : z_me y cd nL hs rt) {x z : UInt64} (hat : z_at cd pc = some (.ddiv, len, a, b)) (e : (if FP.ddiv x z &&& 0x7fffffffffffffff ≤ 0x7ff0000000000000 then G (FP.ddiv x z) else none) = some r) (k : G (FP.ddiv x z) = some r → zt xs d y (pc + 1) lv (.double (FP.ddiv x z) :: st) h C S Q) : zt xs d y pc lv (.double z :: .double x :: st) h C S Q := by
  split at e
  · rename_i g
    exact z_step0 hy hat rfl (by simp only [z_loc]; rw [if_pos g]) (k e)
  · cases e
theorem zx_f2d {α : Type} {r : α} {G : UInt64 → Option α} (hy : z_me y cd nL hs rt) {x : UInt32} (hat : z_at cd pc = some (.f2d, len, a, b)) (e : (if FP.f2d x &&& 0x7fffffffffffffff ≤ 0x7ff0000000000000 then G (FP.f2d x) else none) = some r) (k : G (FP.f2d x) = some r → zt xs d y (pc + 1) lv (.double (FP.f2d x) :: st) h C S Q) : zt xs d y pc lv (.float x :: st) h C S Q := by
  split at e
  · rename_i g
    exact z_step0 hy hat rfl (by simp only [z_loc]; rw [if_pos g]) (k e)
  · cases e
end ZT3
theorem z_lkT {pc td : Nat} {dflt : Int} (hd : z_tg pc dflt = some td) : ∀ (ps : List (Int × Int)) (ts : List (Int × Nat)), ps.map (fun q => (q.1, z_tg pc q.2)) = ts.map (fun q => (q.1, some q.2)) → ∀ v : Int, z_tg pc (Op.lookupswitch.offset ps dflt v) = some (z_lk v td ts) := by
  intro ps
  induction ps with
  | nil =>
    intro ts h v
    cases ts with
    | nil => exact hd
    | cons t ts => cases h
  | cons p ps ih =>
    intro ts h v
    cases ts with
    | nil => cases h
    | cons t ts =>
      rw [List.map_cons, List.map_cons, List.cons.injEq, Prod.mk.injEq] at h
      obtain ⟨a, o⟩ := p
      rw [Op.lookupswitch.offset_cons, z_lk]
      by_cases g : a = v
      · rw [if_pos g, show decide (t.1 = v) = true from decide_eq_true (by rw [← h.1.1]; exact g)]
        exact h.1.2
      · rw [if_neg g, show decide (t.1 = v) = false from decide_eq_false (by rw [← h.1.1]; exact g)]
        exact ih ts h.2 v
end
