section
/-! ===== BEGIN words of one list among another's, by their places ===== -/
theorem goodIn_r {big : List Cond} (ws : List Cond) (ps : List Nat) (hp : ws = ps.filterMap (fun i => big[i]?)) (h : ws.all goodWord = true) : GoodIn big ws := by
  intro w hw
  have h1 := List.all_eq_true.mp h w hw
  rw [hp] at hw
  obtain ⟨i, -, hi⟩ := List.mem_filterMap.mp hw
  have hm : w ∈ big := by first | exact List.mem_of_getElem? hi | exact List.getElem?_mem hi
  exact ⟨hm, good_of_word h1⟩
theorem goodIn_app {big a b : List Cond} (ha : GoodIn big a) (hb : GoodIn big b) : GoodIn big (a ++ b) := fun w h => (List.mem_append.mp h).elim (ha w) (hb w)
theorem goodIn_ca {big a b : List Cond} {c : Cond} (ha : GoodIn big (c :: a)) (hb : GoodIn big b) : GoodIn big (c :: (a ++ b)) := fun w h => (List.mem_cons.mp h).elim (fun e => ha w (List.mem_cons.mpr (Or.inl e))) (fun h => (List.mem_append.mp h).elim (fun h => ha w (List.mem_cons.mpr (Or.inr h))) (hb w))
theorem goodIn_sub {big ws : List Cond} (hm : ∀ w ∈ ws, w ∈ big) (h : ws.all goodWord = true) : GoodIn big ws := fun w hw => ⟨hm w hw, good_of_word (List.all_eq_true.mp h w hw)⟩
/-! ===== END ===== -/

/-! ===== BEGIN exceptions that leave a method, and their catching by the caller (launches without stack traces) ===== -/
section VXA
/-! The laws vx_back, vx_callV, vx_callS, vx_callSW, vx_throw0, vx_throwS follow proofs of the library, with one case more: JvmDerived/Free/Laws.lean (Back.of_free), Shelf42/LK1.lean (callV, callS), Shelf/KitTraced.lean (throwNew0V, throwNewS). -/
/-- where a method has thrown q: the class by its name, the cell, what was written, the world -/
def vx_T (XC : String → State → State → Prop) (st : State) (q : Addr) (t : State) (mc ms : Nat) (free : Addr → Prop) : Prop :=
  ∃ (E : String) (ce : Cell) (L : List Loc), XC E st t ∧ t.heap[q]? = some ce ∧ ce.vm = .none ∧ st.vm.findClass E = some ce.cls ∧ st.WarmedH t.vm ∧ st.sameButNew ({ t with vm := st.vm } : State) L mc ms ∧ ∀ z ∈ L, free z.base
def vx_Q (Qc : Array Value → State → Outcome → State → Prop) (XC : String → State → State → Prop) (mc ms : Nat) (free : Addr → Prop) : Array Value → State → Outcome → State → Prop := fun a st o t =>
  (Qc a st o t ∧ ∃ L, FrameEnd st o t L mc ms ∧ ∀ q ∈ L, free q.base) ∨ ∃ q, o = .threw q ∧ vx_T XC st q t mc ms free
/-- a callee that returns or throws -/
def vx_Met (l : Launch) (y : MethodName) (ws : List Cond) (rm : Room) (Pc : Array Value → State → Prop) (Qc : Array Value → State → Outcome → State → Prop) (XC : String → State → State → Prop) (mc ms : Nat) (free : Addr → Prop) : Prop :=
  MetFree l y (headSpec ws rm) Pc (fun _ _ _ _ _ => True) (vx_Q Qc XC mc ms free)
def vx_Post (XC : String → State → State → Prop) (mc ms : Nat) (free : Addr → Prop) : Pt → Array Value → Addr → Pt → Prop := fun A a q B =>
  ∃ (g : JFrame) (mk : MethodId) (t : State) (L : List Loc) (E : String) (ce : Cell), B.U.heap = t.heap ∧ B.U.vm = t.vm ∧ XC E (A.U.calling g mk a) t ∧ t.heap[q]? = some ce ∧ ce.vm = .none ∧ A.U.vm.findClass E = some ce.cls ∧ B.locs = A.locs ++ L ∧ (∀ z ∈ L, free z.base) ∧ B.cells = A.cells + mc ∧ B.slots = A.slots + ms
def vx_Back (l : Launch) (R : Room) (p : Program) (e : Env) (below : List Frame) (s : State) (sargs : Array Value) (y : MethodName) (len W9 : Nat)
    (Pre : Pt → Array Value → Prop) (Post : Pt → Array Value → Option Value → Pt → Prop) (PostX : Pt → Array Value → Addr → Pt → Prop) : Prop :=
  ∀ (m : MethodId) (meth : Method) (c : Code) (A : Pt) (g : JFrame) (ig : Instr) (mk : MethodId) (a : Array Value),
    Stand p l e R s m sargs below meth c A.U A.locs A.cells A.slots → g.method = m → g.locals.size = c.maxLocals → decode c.code g.pc = .ok (ig, len) →
    2 * g.monitorRoom + (g.stack.map fun v => v.category).sum ≤ W9 → A.U.methodNamed? y = some mk → Pre A a →
    (∃ (v : Option Value) (B : Pt), Stand p l e R s m sargs below meth c B.U B.locs B.cells B.slots ∧ Post A a v B ∧
      Steps p.tables e below (doInvoke e (A.U.setTop g) [] mk a).1 (B.U.setTop { g with pc := g.pc + len, stack := v.toList ++ g.stack })) ∨
    (∃ (q : Addr) (B : Pt), Stand p l e R s m sargs below meth c B.U B.locs B.cells B.slots ∧ PostX A a q B ∧
      Steps p.tables e below (doInvoke e (A.U.setTop g) [] mk a).1 ((B.U.setTop g).pushFrame (.throwing q)))
section Payer
variable {l : Launch} {R : Room} {p : Program} {e : Env} {below : List Frame} {s : State} {sargs : Array Value} {y : MethodName} {len W9 : Nat}
theorem vx_back {ws : List Cond} {rm : Room} {Pc : Array Value → State → Prop} {Qc : Array Value → State → Outcome → State → Prop} {XC : String → State → State → Prop} {mc ms : Nat} {free : Addr → Prop} {bytes : ByteArray} {maxL : Nat} {ret : Option FieldType}
    (hM : vx_Met l y ws rm Pc Qc XC mc ms free) (hblind : FrameBlind Pc) (hrc : rm.cells = mc) (hrs : rm.slots = ms)
    (hframes : rm.frames + 1 ≤ R.frames) (hlocals : W9 + (maxL + 11) + rm.locals ≤ R.locals)
    (hws : ∀ w ∈ ws, ∀ a' U, s.WarmedH U.vm → w.before a' U = true) (hcode : Cond.code y bytes maxL ret ∈ ws) (hinit : ∀ a' U, s.WarmedH U.vm → (Cond.initialized y.cls).before a' U = true) :
    vx_Back l R p e below s sargs y len W9 (PreOf R mc ms Pc) (PostOf Qc mc ms free) (vx_Post XC mc ms free) := by
  intro m meth c A g ig mk a X hg hsize hdg hW hn hp
  have h1 : (headSpec ws rm).pre.before a A.U = true := atoms_intro fun w hw => hws w hw _ _ X.warmed
  have h2 : (Cond.code y bytes maxL ret).before a A.U = true := hws _ hcode _ _ X.warmed
  have h3 : (Cond.initialized y.cls).before a A.U = true := hinit _ _ X.warmed
  have h4 : A.cells + (headSpec ws rm).room.cells ≤ R.cells := by rw [show (headSpec ws rm).room.cells = mc from hrc]; exact hp.1
  have h5 : A.slots + (headSpec ws rm).room.slots ≤ R.slots := by rw [show (headSpec ws rm).room.slots = ms from hrs]; exact hp.2.1
  have hPc : Pc a (A.U.calling g mk a) := hblind _ _ _ _ hp.2.2
  obtain ⟨U, Ls, c0, s0⟩ := A
  dsimp only [Pt.U, Pt.locs, Pt.cells, Pt.slots] at h1 h2 h3 h4 h5 X hn hPc ⊢
  obtain ⟨methY, cY, hmY, hcY, -, hlY, -, -, -, -⟩ := Cond.code_spec hn h2
  obtain ⟨kY, hkY, -⟩ := className_of_methodNamed hn
  have hinitY : kY.init = .initialized := Cond.initialized_spec (findClass_of_methodNamed hn) hkY h3
  have h : At U g.method c below := by rw [hg]; exact X.here
  have hlocals9 : W9 + (maxL + 11) + (headSpec ws rm).room.locals ≤ R.locals := hlocals
  have happ : (headSpec ws rm).appliesLoose y e.platform (U.calling g mk a) = true :=
    Spec.appliesLoose_calling (g := g) h hdg hn hkY hinitY
      (X.room_calling (g := g) (R' := (headSpec ws rm).room) hsize hmY hcY hframes (by rw [hlY]; omega) h4 h5) h1
  obtain ⟨mid, hmid⟩ := h.above
  have hfr : (U.setTop g).frames = (.java g :: mid) ++ below := by rw [State.frames_setTop' g h.top, hmid]; rfl
  obtain ⟨o, s₂, hsteps, -, hend, hq⟩ := Steps.callFree hM p X.admits X.cas X.clock (acts := []) hfr happ hPc trivial
  have hq' : vx_Q Qc XC mc ms free a (U.calling g mk a) o s₂ := hq
  rw [State.frames_setTop' g h.top] at hend
  obtain ⟨g₀, hg0⟩ := Option.isSome_iff_exists.mp h.top
  obtain ⟨r, hr⟩ := State.topJava?_eq_some.mp hg0
  have hr' : (({ U with heap := s₂.heap, slotsUsed := s₂.slotsUsed } : State).setVm s₂.vm).frames = .java g₀ :: r := hr
  rcases hq' with ⟨hqc, L, hfe, hL⟩ | ⟨q, rfl, E, ce, L, hx, hce, hcv, hcl, hW₂, hsm, hL⟩
  · obtain ⟨⟨v, rfl⟩, hW₂, e2, q2, q3, q4, q5, q6⟩ := id hfe
    have e3 : s₂ = ({ (U.calling g mk a).setFrames s₂.frames with heap := s₂.heap, slotsUsed := s₂.slotsUsed } : State).setVm s₂.vm := by
      have : s₂ = ({ s₂ with vm := (U.calling g mk a).vm } : State).setVm s₂.vm := rfl
      rw [e2] at this
      exact this
    obtain ⟨c₂, i₂, len₂, hc₂, hd₂, hf₂⟩ := hend
    have hW' : U.WarmedH s₂.vm := hW₂
    have hcc : c₂ = c := by
      have h1 : s₂.code? g.method = U.code? g.method := by
        rw [State.code?_eq, State.code?_eq, hW'.alike.method?]
      exact Option.some.inj (hc₂.symm.trans (h1.trans h.code))
    subst hcc
    have hlen : len₂ = len := by rw [hdg] at hd₂; cases hd₂; rfl
    subst hlen
    have hs₂ : s₂ = (({ U with heap := s₂.heap, slotsUsed := s₂.slotsUsed } : State).setVm s₂.vm).setTop { g with pc := g.pc + len₂, stack := v.toList ++ g.stack } := by
      refine e3.trans ?_
      rw [hf₂, State.calling_eq h.top, State.setFrames_setFrames, State.setTop_of_frames _ hr', hr]
      rfl
    have hsame : U.sameButNew ({ U with heap := s₂.heap, slotsUsed := s₂.slotsUsed } : State) L mc ms := by
      refine ⟨?_, q2, q3, q4, q5, q6⟩
      obtain ⟨t, ht, -⟩ := State.frames_cons hr
      show ({ U with heap := s₂.heap, slotsUsed := s₂.slotsUsed } : State) = { U.setFrames U.frames with heap := s₂.heap, slotsUsed := s₂.slotsUsed }
      rw [State.setFrames_self ht]
    subst hg
    refine Or.inl ⟨v, ⟨(({ U with heap := s₂.heap, slotsUsed := s₂.slotsUsed } : State).setVm s₂.vm), Ls ++ L, c0 + mc, s0 + ms⟩,
      ⟨X.admits, X.cas, X.clock, X.frames, X.room, X.hears, X.method, X.code, (X.here.setHeapUsed s₂.heap s₂.slotsUsed).setVm hW'.alike, X.tail, State.WarmedH.trans X.warmed hW', X.limits, X.bytes, X.same.trans (hsame.setVm s.vm)⟩,
      ⟨g, mk, s₂, L, rfl, rfl, hqc, rfl, hL, rfl, rfl⟩, ?_⟩
    show Steps p.tables e below _ ((({ U with heap := s₂.heap, slotsUsed := s₂.slotsUsed } : State).setVm s₂.vm).setTop { g with pc := g.pc + len₂, stack := v.toList ++ g.stack })
    rw [← hs₂]
    exact hsteps
  · obtain ⟨e2, q2, q3, q4, q5, q6⟩ := id hsm
    have e3 : s₂ = ({ (U.calling g mk a).setFrames s₂.frames with heap := s₂.heap, slotsUsed := s₂.slotsUsed } : State).setVm s₂.vm := by
      have : s₂ = ({ s₂ with vm := (U.calling g mk a).vm } : State).setVm s₂.vm := rfl
      rw [e2] at this
      exact this
    have hf₂ : s₂.frames = .throwing q :: .java g :: U.frames.tail := hend
    have hW' : U.WarmedH s₂.vm := hW₂
    have hs₂ : s₂ = ((({ U with heap := s₂.heap, slotsUsed := s₂.slotsUsed } : State).setVm s₂.vm).setTop g).pushFrame (.throwing q) := by
      refine e3.trans ?_
      rw [hf₂, State.calling_eq h.top, State.setFrames_setFrames, State.pushFrame, State.frames_setTop _ hr', State.setTop_of_frames _ hr', State.setFrames_setFrames, hr]
      rfl
    have hsame : U.sameButNew ({ U with heap := s₂.heap, slotsUsed := s₂.slotsUsed } : State) L mc ms := by
      refine ⟨?_, q2, q3, q4, q5, q6⟩
      obtain ⟨t, ht, -⟩ := State.frames_cons hr
      show ({ U with heap := s₂.heap, slotsUsed := s₂.slotsUsed } : State) = { U.setFrames U.frames with heap := s₂.heap, slotsUsed := s₂.slotsUsed }
      rw [State.setFrames_self ht]
    subst hg
    refine Or.inr ⟨q, ⟨(({ U with heap := s₂.heap, slotsUsed := s₂.slotsUsed } : State).setVm s₂.vm), Ls ++ L, c0 + mc, s0 + ms⟩,
      ⟨X.admits, X.cas, X.clock, X.frames, X.room, X.hears, X.method, X.code, (X.here.setHeapUsed s₂.heap s₂.slotsUsed).setVm hW'.alike, X.tail, State.WarmedH.trans X.warmed hW', X.limits, X.bytes, X.same.trans (hsame.setVm s.vm)⟩,
      ⟨g, mk, s₂, L, E, ce, rfl, rfl, hx, hce, hcv, hcl, rfl, hL, rfl, rfl⟩, ?_⟩
    show Steps p.tables e below _ (((({ U with heap := s₂.heap, slotsUsed := s₂.slotsUsed } : State).setVm s₂.vm).setTop g).pushFrame (.throwing q))
    rw [← hs₂]
    exact hsteps
end Payer
section Calls
variable {p : Program} {l : Launch} {e : Env} {R : Room} {s : State} {m : MethodId} {args : Array Value} {below : List Frame} {meth : Method} {c : Code} {T : State} {locs : List Loc} {cells slots : Nat}
theorem vx_callV (X : Stand p l e R s m args below meth c T locs cells slots) (hexec : p.tables.exec = Jvm.exec) {own C : String} {index : Nat} {y : MethodName} {bytes : ByteArray} {maxL : Nat} {ret : Option FieldType}
    (hown : s.vm.findClass own = some m.cls) (hlink : (Cond.methodLink own index y).before args s = true) (hinst : (Cond.instanceMethod y).before args s = true) (hsel : (Cond.selects C y y).before args s = true)
    (hcode : (Cond.code y bytes maxL ret).before args s = true) (hy : y.cls ≠ "java/lang/invoke/MethodHandle" ∧ y.cls ≠ "java/lang/invoke/VarHandle")
    {W9 : Nat} {Pre : Pt → Array Value → Prop} {Post : Pt → Array Value → Option Value → Pt → Prop} {PostX : Pt → Array Value → Addr → Pt → Prop} (hK : vx_Back l R p e below s args y 3 W9 Pre Post PostX)
    {b : Addr} {cellB : Cell} (hcell : T.heap[b]? = some cellB) (hobj : cellB.vm.isStatics = false) (hcls : s.vm.findClass C = some cellB.cls)
    {g : JFrame} (hg : g.method = m) (hsize : g.locals.size = c.maxLocals) {argsL rest : List Value} (hlen : ∀ sig, parseMethodDescriptor y.desc = some sig → argsL.length = sig.parameters.length)
    (hstack : g.stack = argsL.reverse ++ .ref b :: rest) (hW : 2 * g.monitorRoom + (rest.map fun v => v.category).sum ≤ W9) (hdg : decode c.code g.pc = .ok (.invokevirtual index, 3))
    (hpre : ∀ vm₁, s.WarmedH vm₁ → Pre ⟨T.setVm vm₁, locs, cells, slots⟩ (Value.ref b :: argsL).toArray) :
    (∃ (v : Option Value) (vm₁ : Vm) (B : Pt), s.WarmedH vm₁ ∧ Stand p l e R s m args below meth c B.U B.locs B.cells B.slots ∧ Post ⟨T.setVm vm₁, locs, cells, slots⟩ (Value.ref b :: argsL).toArray v B ∧
      ∀ target, Steps p.tables e below (B.U.setTop { g with pc := g.pc + 3, stack := v.toList ++ rest }) target → Steps p.tables e below (T.setTop g) target) ∨
    (∃ (q : Addr) (vm₁ : Vm) (B : Pt), s.WarmedH vm₁ ∧ Stand p l e R s m args below meth c B.U B.locs B.cells B.slots ∧ PostX ⟨T.setVm vm₁, locs, cells, slots⟩ (Value.ref b :: argsL).toArray q B ∧
      Steps p.tables e below (T.setTop g) ((B.U.setTop { g with stack := rest }).pushFrame (.throwing q))) := by
  obtain ⟨mk, methM, hnamed, hmethM, hstM, habM⟩ := Cond.instanceMethod_spec hinst
  obtain ⟨methM', cM, hmethM', -, -, -, -, -, -, hsigM⟩ := Cond.code_spec hnamed hcode
  cases hmethM.symm.trans hmethM'
  obtain ⟨c2, r2, m2, q1, q2, q3, q4, kP, hkP, hkPi⟩ := Cond.selects_spec hsel
  cases hcls.symm.trans q1
  cases (State.methodFound?_of_named hnamed hy).symm.trans q2
  cases hnamed.symm.trans q3
  have hselP : selectMethod e.platform s.vm cellB.cls mk = .method mk := by rw [Launch.admits_selectMethod X.admits]; exact q4
  obtain ⟨vm₁, X₁, hstep₁⟩ := X.invokevirtual hexec hown hlink hnamed hmethM hstM hkP hkPi hy (a := b) (cell := cellB) hcell
    (fun z h => by rw [h] at hobj; cases hobj) hselP hmethM habM hkP hkPi (g := g) hg (argsL := argsL) (rest := rest) (hlen _ hsigM) hstack hdg
  rcases hK m meth c ⟨T.setVm vm₁, locs, cells, slots⟩ { g with stack := rest } (.invokevirtual index) mk (Value.ref b :: argsL).toArray X₁ hg hsize hdg hW (X₁.named hnamed) (hpre vm₁ X₁.warmed) with ⟨v, B, X', hpost, hsteps⟩ | ⟨q, B, X', hpost, hsteps⟩
  · exact Or.inl ⟨v, vm₁, B, X₁.warmed, X', hpost, fun target h => hstep₁ _ fun acts => by rw [doInvoke_state]; exact hsteps.trans h⟩
  · exact Or.inr ⟨q, vm₁, B, X₁.warmed, X', hpost, hstep₁ _ fun acts => by rw [doInvoke_state]; exact hsteps⟩
theorem vx_callS (X : Stand p l e R s m args below meth c T locs cells slots) (hexec : p.tables.exec = Jvm.exec) {own : String} {index : Nat} {y : MethodName} {bytes : ByteArray} {maxL : Nat} {ret : Option FieldType}
    (hown : s.vm.findClass own = some m.cls) (hlink : (Cond.methodLink own index y).before args s = true) (hstat : (Cond.static y).before args s = true) (hinit : (Cond.initialized y.cls).before args s = true)
    (hcode : (Cond.code y bytes maxL ret).before args s = true) (hy : y.cls ≠ "java/lang/invoke/MethodHandle" ∧ y.cls ≠ "java/lang/invoke/VarHandle")
    {W9 : Nat} {Pre : Pt → Array Value → Prop} {Post : Pt → Array Value → Option Value → Pt → Prop} {PostX : Pt → Array Value → Addr → Pt → Prop} (hK : vx_Back l R p e below s args y 3 W9 Pre Post PostX)
    {g : JFrame} (hg : g.method = m) (hsize : g.locals.size = c.maxLocals) {argsL rest : List Value} (hlen : ∀ sig, parseMethodDescriptor y.desc = some sig → argsL.length = sig.parameters.length)
    (hstack : g.stack = argsL.reverse ++ rest) (hW : 2 * g.monitorRoom + (rest.map fun v => v.category).sum ≤ W9) (hdg : decode c.code g.pc = .ok (.invokestatic index, 3))
    (hpre : ∀ vm₁, s.WarmedH vm₁ → Pre ⟨T.setVm vm₁, locs, cells, slots⟩ argsL.toArray) :
    (∃ (v : Option Value) (vm₁ : Vm) (B : Pt), s.WarmedH vm₁ ∧ Stand p l e R s m args below meth c B.U B.locs B.cells B.slots ∧ Post ⟨T.setVm vm₁, locs, cells, slots⟩ argsL.toArray v B ∧
      ∀ target, Steps p.tables e below (B.U.setTop { g with pc := g.pc + 3, stack := v.toList ++ rest }) target → Steps p.tables e below (T.setTop g) target) ∨
    (∃ (q : Addr) (vm₁ : Vm) (B : Pt), s.WarmedH vm₁ ∧ Stand p l e R s m args below meth c B.U B.locs B.cells B.slots ∧ PostX ⟨T.setVm vm₁, locs, cells, slots⟩ argsL.toArray q B ∧
      Steps p.tables e below (T.setTop g) ((B.U.setTop { g with stack := rest }).pushFrame (.throwing q))) := by
  obtain ⟨mk, hnamed⟩ := Cond.code_named hcode
  obtain ⟨methM, cM, hmethM, -, -, -, -, -, -, hsigM⟩ := Cond.code_spec hnamed hcode
  have hstatic : methM.isStatic = true := Cond.static_spec hnamed hmethM hstat
  obtain ⟨kP, hkP, -⟩ := className_of_methodNamed hnamed
  have hinitP : kP.init = .initialized := Cond.initialized_spec (findClass_of_methodNamed hnamed) hkP hinit
  obtain ⟨vm₁, X₁, hstep₁⟩ := X.invokestatic hexec hown hlink hnamed hmethM hstatic hkP hinitP hy (g := g) hg (argsL := argsL) (rest := rest) (hlen _ hsigM) hstack hdg
  rcases hK m meth c ⟨T.setVm vm₁, locs, cells, slots⟩ { g with stack := rest } (.invokestatic index) mk argsL.toArray X₁ hg hsize hdg hW (X₁.named hnamed) (hpre vm₁ X₁.warmed) with ⟨v, B, X', hpost, hsteps⟩ | ⟨q, B, X', hpost, hsteps⟩
  · exact Or.inl ⟨v, vm₁, B, X₁.warmed, X', hpost, fun target h => hstep₁ _ fun acts => by rw [doInvoke_state]; exact hsteps.trans h⟩
  · exact Or.inr ⟨q, vm₁, B, X₁.warmed, X', hpost, hstep₁ _ fun acts => by rw [doInvoke_state]; exact hsteps⟩
end Calls
theorem vx_cls {s : State} {T : State} {vm₁ : Vm} {E : String} {k : ClassId} (hW : s.WarmedH vm₁) (h : (T.setVm vm₁).vm.findClass E = some k) : s.vm.findClass E = some k := by
  have h1 : vm₁.findClass E = some k := h
  rw [hW.alike.findClass] at h1
  exact h1
/-- the method's frame g, with q thrown over it -/
def vx_W (p : Program) (l : Launch) (e : Env) (R : Room) (s : State) (m : MethodId) (args : Array Value) (below : List Frame) (meth : Method) (c : Code) (H : Heap) (locs : List Loc) (cells slots : Nat) (Q : State → Prop) (g : JFrame) (q : Addr) : Prop :=
  ∀ T : State, T.heap = H → Stand p l e R s m args below meth c T locs cells slots → ∃ t, Steps p.tables e below ((T.setTop g).pushFrame (.throwing q)) t ∧ Q t
def vx_Run (p : Program) (l : Launch) (e : Env) (R : Room) (s : State) (m : MethodId) (args : Array Value) (below : List Frame) (meth : Method) (c : Code) (H : Heap) (locs : List Loc) (cells slots mc ms : Nat) (g : JFrame) (rest : List Value) (Qa : State → Outcome → State → Prop) (XC : String → State → State → Prop) (free : Addr → Prop) : Prop :=
  ∀ T : State, T.heap = H → Stand p l e R s m args below meth c T locs cells slots →
    (∃ (v : Option Value) (st₀ t T' : State) (L : List Loc), st₀.heap = H ∧ Stand p l e R s m args below meth c T' (locs ++ L) (cells + mc) (slots + ms) ∧ (∀ q ∈ L, free q.base) ∧ T'.heap = t.heap ∧ T'.vm = t.vm ∧ Qa st₀ (.returned v) t ∧
      Goes p e below T g T' { g with pc := g.pc + 3, stack := v.toList ++ rest }) ∨
    (∃ (q : Addr) (st₀ t T' : State) (L : List Loc) (E : String) (ce : Cell), st₀.heap = H ∧ Stand p l e R s m args below meth c T' (locs ++ L) (cells + mc) (slots + ms) ∧ (∀ z ∈ L, free z.base) ∧ T'.heap = t.heap ∧ T'.vm = t.vm ∧ XC E st₀ t ∧ t.heap[q]? = some ce ∧ ce.vm = .none ∧ s.vm.findClass E = some ce.cls ∧
      Steps p.tables e below (T.setTop g) ((T'.setTop { g with stack := rest }).pushFrame (.throwing q)))
def vx_X {S : Type} (px : S → Prop) (B : String → S → State → Prop) (A : Nat → Prop) : String → State → State → Prop := fun E st t => ∃ u : S, px u ∧ B E u t ∧ va_F A st t
section Runs
variable {p : Program} {l : Launch} {e : Env} {R : Room} {s : State} {m : MethodId} {args : Array Value} {below : List Frame} {meth : Method} {c : Code} {H : Heap} {locs : List Loc} {cells slots : Nat}
variable {y : MethodName} {bytes cc : ByteArray} {maxL nL mc ms n index : Nat} {ret : Option FieldType} {ws : List Cond} {rm : Room} {Pc : Array Value → State → Prop} {Qc : Array Value → State → Outcome → State → Prop} {XC : String → State → State → Prop} {free : Addr → Prop} {Ts : List Cond} {own C : String} {b : Addr} {As rest : List Value} {g : JFrame}
theorem vx_callBack (cb : CallB R s args own index y bytes maxL ret ws rm mc ms n) (hM : vx_Met l y ws rm Pc Qc XC mc ms free) (hbl : FrameBlind Pc) : vx_Back l R p e below s args y 3 8 (PreOf R mc ms Pc) (PostOf Qc mc ms free) (vx_Post XC mc ms free) := by
  obtain ⟨hrc, hrs, hfr, hlo, hws, hcw, -, hini, -⟩ := cb
  exact vx_back (bytes := bytes) (maxL := maxL) (ret := ret) hM hbl hrc hrs hfr hlo hws hcw (fun a' U hW => word_at hW (Or.inl (by first | rfl | simp [Cond.onTables, Cond.keeps, Cond.steady])) hini)
theorem vx_runV (S : CallFix p m c cc nL s args Ts own) (hM : vx_Met l y ws rm Pc Qc XC mc ms free) (cw : CallW R s args own C index y bytes maxL ret ws rm mc ms n) (hp : PreV s H C b Pc As)
    (hg : g.method = m) (hn : As.length = n) (hsize : g.locals.size = nL) (hstack : g.stack = As.reverse ++ .ref b :: rest) (hW : 2 * g.monitorRoom + (rest.map fun v => v.category).sum ≤ 8) (hdg : decode cc g.pc = .ok (.invokevirtual index, 3)) (hf : cells + mc ≤ R.cells ∧ slots + ms ≤ R.slots) :
    vx_Run p l e R s m args below meth c H locs cells slots mc ms g rest (Qc (Value.ref b :: As).toArray) XC free := by
  have hK : vx_Back l R p e below s args y 3 8 (PreOf R mc ms Pc) (PostOf Qc mc ms free) (vx_Post XC mc ms free) := vx_callBack cw.1 hM hp.1
  obtain ⟨⟨-, -, -, -, -, -, hcode, -, hy, hlen, hl⟩, hin, hse⟩ := cw
  obtain ⟨hx, hb, hml, ho, -⟩ := S
  obtain ⟨-, ⟨cellB, hcB, hoB, hclB⟩, hPc⟩ := hp
  intro T hT X
  rcases vx_callV X hx (C := C) (bytes := bytes) (maxL := maxL) (ret := ret) ho hl hin hse hcode hy hK (by rw [hT]; exact hcB) hoB hclB hg (hsize.trans hml.symm) (argsL := As) (rest := rest) (fun sig h => hn.trans (hlen sig h)) hstack hW (by rw [hb]; exact hdg)
    (fun vm₁ hW₁ => ⟨hf.1, hf.2, hPc (T.setVm vm₁) hT hW₁⟩) with ⟨v, vm₁, ⟨U', l2, c2, s2⟩, hW₁, X', ⟨g', mk, t, L, e1, e2, hq, h1, hL, h2, h3⟩, st⟩ | ⟨q, vm₁, ⟨U', l2, c2, s2⟩, hW₁, X', ⟨g', mk, t, L, E, ce, e1, e2, hq, hce, hcv, hcl, h1, hL, h2, h3⟩, st⟩
  · dsimp only [Pt.U, Pt.locs, Pt.cells, Pt.slots] at X' e1 e2 h1 h2 h3 st
    subst h1; subst h2; subst h3
    exact Or.inl ⟨v, (T.setVm vm₁).calling g' mk (Value.ref b :: As).toArray, t, U', L, hT, X', hL, e1, e2, hq, st⟩
  · dsimp only [Pt.U, Pt.locs, Pt.cells, Pt.slots] at X' e1 e2 h1 h2 h3 st hcl
    subst h1; subst h2; subst h3
    exact Or.inr ⟨q, (T.setVm vm₁).calling g' mk (Value.ref b :: As).toArray, t, U', L, E, ce, hT, X', hL, e1, e2, hq, hce, hcv, vx_cls hW₁ hcl, st⟩
theorem vx_runS (S : CallFix p m c cc nL s args Ts own) (hM : vx_Met l y ws rm Pc Qc XC mc ms free) (cw : CallB R s args own index y bytes maxL ret ws rm mc ms n ∧ (Cond.static y).before args s = true) (hp : PreS s H Pc As)
    (hg : g.method = m) (hn : As.length = n) (hsize : g.locals.size = nL) (hstack : g.stack = As.reverse ++ rest) (hW : 2 * g.monitorRoom + (rest.map fun v => v.category).sum ≤ 8) (hdg : decode cc g.pc = .ok (.invokestatic index, 3)) (hf : cells + mc ≤ R.cells ∧ slots + ms ≤ R.slots) :
    vx_Run p l e R s m args below meth c H locs cells slots mc ms g rest (Qc As.toArray) XC free := by
  have hK : vx_Back l R p e below s args y 3 8 (PreOf R mc ms Pc) (PostOf Qc mc ms free) (vx_Post XC mc ms free) := vx_callBack cw.1 hM hp.1
  obtain ⟨⟨-, -, -, -, -, -, hcode, hini, hy, hlen, hl⟩, hstt⟩ := cw
  obtain ⟨hx, hb, hml, ho, -⟩ := S
  intro T hT X
  rcases vx_callS X hx (bytes := bytes) (maxL := maxL) (ret := ret) ho hl hstt hini hcode hy hK hg (hsize.trans hml.symm) (argsL := As) (rest := rest) (fun sig h => hn.trans (hlen sig h)) hstack hW (by rw [hb]; exact hdg)
    (fun vm₁ hW₁ => ⟨hf.1, hf.2, hp.2 (T.setVm vm₁) hT hW₁⟩) with ⟨v, vm₁, ⟨U', l2, c2, s2⟩, hW₁, X', ⟨g', mk, t, L, e1, e2, hq, h1, hL, h2, h3⟩, st⟩ | ⟨q, vm₁, ⟨U', l2, c2, s2⟩, hW₁, X', ⟨g', mk, t, L, E, ce, e1, e2, hq, hce, hcv, hcl, h1, hL, h2, h3⟩, st⟩
  · dsimp only [Pt.U, Pt.locs, Pt.cells, Pt.slots] at X' e1 e2 h1 h2 h3 st
    subst h1; subst h2; subst h3
    exact Or.inl ⟨v, (T.setVm vm₁).calling g' mk As.toArray, t, U', L, hT, X', hL, e1, e2, hq, st⟩
  · dsimp only [Pt.U, Pt.locs, Pt.cells, Pt.slots] at X' e1 e2 h1 h2 h3 st hcl
    subst h1; subst h2; subst h3
    exact Or.inr ⟨q, (T.setVm vm₁).calling g' mk As.toArray, t, U', L, E, ce, hT, X', hL, e1, e2, hq, hce, hcv, vx_cls hW₁ hcl, st⟩
end Runs
section Rows
variable {p : Program} {l : Launch} {e : Env} {R : Room} {s : State} {m : MethodId} {args : Array Value} {below : List Frame} {meth : Method} {c : Code} {H : Heap} {locs : List Loc} {cells slots : Nat} {Q : State → Prop}
variable {mc ms : Nat} {free : Addr → Prop} {A0 A1 : Nat → Prop} {H0 : Heap} {a : Array Value} {pc : Nat} {ls : Array Slot} {st0 rest : List Value}
theorem vx_keep {st₀ t T' : State} {L : List Loc} (h0 : st₀.heap = H) (e1 : T'.heap = t.heap) (hS : va_S A0 H0 H locs) (hA : ∀ q, q < H.size → A1 q → A0 q) (hf : ∀ q, free q → A0 q) (hL : ∀ q ∈ L, free q.base) (hF : va_F A1 st₀ t) :
    H.size ≤ T'.heap.size ∧ (∀ q : Nat, q < H.size → ¬ A1 q → T'.heap[q]? = H[q]?) ∧ va_S A0 H0 T'.heap (locs ++ L) := by
  obtain ⟨hz, hk⟩ := hF
  rw [h0] at hz hk
  exact ⟨by rw [e1]; exact hz, fun q h1 h2 => by rw [e1]; exact hk q h1 h2,
    ⟨Nat.le_trans hS.1 (by rw [e1]; exact hz), fun q h1 h2 => by rw [e1, hk q (Nat.lt_of_lt_of_le h1 hS.1) (fun z => h2 (hA q (Nat.lt_of_lt_of_le h1 hS.1) z))]; exact hS.2.1 q h1 h2, fun q hq => by
      rcases List.mem_append.mp hq with h | h
      · exact hS.2.2 q h
      · exact hf _ (hL q h)⟩⟩
theorem vx_calli {S SX : Type} {post : Int32 → S → Prop} {px : SX → Prop} {B : S → State → Prop} {BX : String → SX → State → Prop} {AX : Nat → Prop} (hr : vx_Run p l e R s m args below meth c H locs cells slots mc ms (F0 m pc ls st0) rest (va_Qi post B A1 a) (vx_X px BX AX) free) (hS : va_S A0 H0 H locs) (hA : ∀ q, q < H.size → A1 q → A0 q) (hf : ∀ q, free q → A0 q) (hAX : ∀ q, q < H.size → AX q → A0 q)
    (kx : ∀ (E : String) (ce : Cell) (q9 : Addr) (u : SX) (t : State) (H1 : Heap) (locs1 : List Loc), t.heap = H1 → s.vm.Alike t.vm → px u → BX E u t → H.size ≤ H1.size → (∀ q : Nat, q < H.size → ¬ AX q → H1[q]? = H[q]?) → va_S A0 H0 H1 locs1 → H1[q9]? = some ce → ce.vm = .none → s.vm.findClass E = some ce.cls → vx_W p l e R s m args below meth c H1 locs1 (cells + mc) (slots + ms) Q (F0 m pc ls rest) q9)
    (kk : ∀ (r : Int32) (u : S) (t : State) (H1 : Heap) (locs1 : List Loc), t.heap = H1 → s.vm.Alike t.vm → post r u → B u t → H.size ≤ H1.size → (∀ q : Nat, q < H.size → ¬ A1 q → H1[q]? = H[q]?) → va_S A0 H0 H1 locs1 → W p l e R s m args below meth c H1 locs1 (cells + mc) (slots + ms) Q (F0 m (pc + 3) ls (.int r :: rest))) : W p l e R s m args below meth c H locs cells slots Q (F0 m pc ls st0) := by
  intro T hT X
  rcases hr T hT X with ⟨v, st₀, t, T', L, h0, X', hL, e1, e2, ⟨⟨r, u, hv, hp, hb⟩, hF⟩, st⟩ | ⟨q, st₀, t, T', L, E, ce, h0, X', hL, e1, e2, ⟨u, hp, hb, hF⟩, hce, hcv, hcl, st⟩
  · cases hv
    obtain ⟨k1, k2, k3⟩ := vx_keep h0 e1 hS hA hf hL hF
    obtain ⟨t2, a1, b1⟩ := kk r u t T'.heap (locs ++ L) e1.symm (by rw [← e2]; exact X'.warmed.alike) hp hb k1 k2 k3 T' rfl X'
    exact ⟨t2, st t2 a1, b1⟩
  · obtain ⟨k1, k2, k3⟩ := vx_keep h0 e1 hS hAX hf hL hF
    obtain ⟨t2, a1, b1⟩ := kx E ce q u t T'.heap (locs ++ L) e1.symm (by rw [← e2]; exact X'.warmed.alike) hp hb k1 k2 k3 (by rw [e1]; exact hce) hcv hcl T' rfl X'
    exact ⟨t2, st.trans a1, b1⟩
theorem vx_calll {S SX : Type} {post : Int64 → S → Prop} {px : SX → Prop} {B : S → State → Prop} {BX : String → SX → State → Prop} {AX : Nat → Prop} (hr : vx_Run p l e R s m args below meth c H locs cells slots mc ms (F0 m pc ls st0) rest (va_Ql post B A1 a) (vx_X px BX AX) free) (hS : va_S A0 H0 H locs) (hA : ∀ q, q < H.size → A1 q → A0 q) (hf : ∀ q, free q → A0 q) (hAX : ∀ q, q < H.size → AX q → A0 q)
    (kx : ∀ (E : String) (ce : Cell) (q9 : Addr) (u : SX) (t : State) (H1 : Heap) (locs1 : List Loc), t.heap = H1 → s.vm.Alike t.vm → px u → BX E u t → H.size ≤ H1.size → (∀ q : Nat, q < H.size → ¬ AX q → H1[q]? = H[q]?) → va_S A0 H0 H1 locs1 → H1[q9]? = some ce → ce.vm = .none → s.vm.findClass E = some ce.cls → vx_W p l e R s m args below meth c H1 locs1 (cells + mc) (slots + ms) Q (F0 m pc ls rest) q9)
    (kk : ∀ (r : Int64) (u : S) (t : State) (H1 : Heap) (locs1 : List Loc), t.heap = H1 → s.vm.Alike t.vm → post r u → B u t → H.size ≤ H1.size → (∀ q : Nat, q < H.size → ¬ A1 q → H1[q]? = H[q]?) → va_S A0 H0 H1 locs1 → W p l e R s m args below meth c H1 locs1 (cells + mc) (slots + ms) Q (F0 m (pc + 3) ls (.long r :: rest))) : W p l e R s m args below meth c H locs cells slots Q (F0 m pc ls st0) := by
  intro T hT X
  rcases hr T hT X with ⟨v, st₀, t, T', L, h0, X', hL, e1, e2, ⟨⟨r, u, hv, hp, hb⟩, hF⟩, st⟩ | ⟨q, st₀, t, T', L, E, ce, h0, X', hL, e1, e2, ⟨u, hp, hb, hF⟩, hce, hcv, hcl, st⟩
  · cases hv
    obtain ⟨k1, k2, k3⟩ := vx_keep h0 e1 hS hA hf hL hF
    obtain ⟨t2, a1, b1⟩ := kk r u t T'.heap (locs ++ L) e1.symm (by rw [← e2]; exact X'.warmed.alike) hp hb k1 k2 k3 T' rfl X'
    exact ⟨t2, st t2 a1, b1⟩
  · obtain ⟨k1, k2, k3⟩ := vx_keep h0 e1 hS hAX hf hL hF
    obtain ⟨t2, a1, b1⟩ := kx E ce q u t T'.heap (locs ++ L) e1.symm (by rw [← e2]; exact X'.warmed.alike) hp hb k1 k2 k3 (by rw [e1]; exact hce) hcv hcl T' rfl X'
    exact ⟨t2, st.trans a1, b1⟩
theorem vx_callf {S SX : Type} {post : UInt32 → S → Prop} {px : SX → Prop} {B : S → State → Prop} {BX : String → SX → State → Prop} {AX : Nat → Prop} (hr : vx_Run p l e R s m args below meth c H locs cells slots mc ms (F0 m pc ls st0) rest (va_Qf post B A1 a) (vx_X px BX AX) free) (hS : va_S A0 H0 H locs) (hA : ∀ q, q < H.size → A1 q → A0 q) (hf : ∀ q, free q → A0 q) (hAX : ∀ q, q < H.size → AX q → A0 q)
    (kx : ∀ (E : String) (ce : Cell) (q9 : Addr) (u : SX) (t : State) (H1 : Heap) (locs1 : List Loc), t.heap = H1 → s.vm.Alike t.vm → px u → BX E u t → H.size ≤ H1.size → (∀ q : Nat, q < H.size → ¬ AX q → H1[q]? = H[q]?) → va_S A0 H0 H1 locs1 → H1[q9]? = some ce → ce.vm = .none → s.vm.findClass E = some ce.cls → vx_W p l e R s m args below meth c H1 locs1 (cells + mc) (slots + ms) Q (F0 m pc ls rest) q9)
    (kk : ∀ (r : UInt32) (u : S) (t : State) (H1 : Heap) (locs1 : List Loc), t.heap = H1 → s.vm.Alike t.vm → post r u → B u t → H.size ≤ H1.size → (∀ q : Nat, q < H.size → ¬ A1 q → H1[q]? = H[q]?) → va_S A0 H0 H1 locs1 → W p l e R s m args below meth c H1 locs1 (cells + mc) (slots + ms) Q (F0 m (pc + 3) ls (.float r :: rest))) : W p l e R s m args below meth c H locs cells slots Q (F0 m pc ls st0) := by
  intro T hT X
  rcases hr T hT X with ⟨v, st₀, t, T', L, h0, X', hL, e1, e2, ⟨⟨r, u, hv, hp, hb⟩, hF⟩, st⟩ | ⟨q, st₀, t, T', L, E, ce, h0, X', hL, e1, e2, ⟨u, hp, hb, hF⟩, hce, hcv, hcl, st⟩
  · cases hv
    obtain ⟨k1, k2, k3⟩ := vx_keep h0 e1 hS hA hf hL hF
    obtain ⟨t2, a1, b1⟩ := kk r u t T'.heap (locs ++ L) e1.symm (by rw [← e2]; exact X'.warmed.alike) hp hb k1 k2 k3 T' rfl X'
    exact ⟨t2, st t2 a1, b1⟩
  · obtain ⟨k1, k2, k3⟩ := vx_keep h0 e1 hS hAX hf hL hF
    obtain ⟨t2, a1, b1⟩ := kx E ce q u t T'.heap (locs ++ L) e1.symm (by rw [← e2]; exact X'.warmed.alike) hp hb k1 k2 k3 (by rw [e1]; exact hce) hcv hcl T' rfl X'
    exact ⟨t2, st.trans a1, b1⟩
theorem vx_calld {S SX : Type} {post : UInt64 → S → Prop} {px : SX → Prop} {B : S → State → Prop} {BX : String → SX → State → Prop} {AX : Nat → Prop} (hr : vx_Run p l e R s m args below meth c H locs cells slots mc ms (F0 m pc ls st0) rest (va_Qd post B A1 a) (vx_X px BX AX) free) (hS : va_S A0 H0 H locs) (hA : ∀ q, q < H.size → A1 q → A0 q) (hf : ∀ q, free q → A0 q) (hAX : ∀ q, q < H.size → AX q → A0 q)
    (kx : ∀ (E : String) (ce : Cell) (q9 : Addr) (u : SX) (t : State) (H1 : Heap) (locs1 : List Loc), t.heap = H1 → s.vm.Alike t.vm → px u → BX E u t → H.size ≤ H1.size → (∀ q : Nat, q < H.size → ¬ AX q → H1[q]? = H[q]?) → va_S A0 H0 H1 locs1 → H1[q9]? = some ce → ce.vm = .none → s.vm.findClass E = some ce.cls → vx_W p l e R s m args below meth c H1 locs1 (cells + mc) (slots + ms) Q (F0 m pc ls rest) q9)
    (kk : ∀ (r : UInt64) (u : S) (t : State) (H1 : Heap) (locs1 : List Loc), t.heap = H1 → s.vm.Alike t.vm → post r u → B u t → H.size ≤ H1.size → (∀ q : Nat, q < H.size → ¬ A1 q → H1[q]? = H[q]?) → va_S A0 H0 H1 locs1 → W p l e R s m args below meth c H1 locs1 (cells + mc) (slots + ms) Q (F0 m (pc + 3) ls (.double r :: rest))) : W p l e R s m args below meth c H locs cells slots Q (F0 m pc ls st0) := by
  intro T hT X
  rcases hr T hT X with ⟨v, st₀, t, T', L, h0, X', hL, e1, e2, ⟨⟨r, u, hv, hp, hb⟩, hF⟩, st⟩ | ⟨q, st₀, t, T', L, E, ce, h0, X', hL, e1, e2, ⟨u, hp, hb, hF⟩, hce, hcv, hcl, st⟩
  · cases hv
    obtain ⟨k1, k2, k3⟩ := vx_keep h0 e1 hS hA hf hL hF
    obtain ⟨t2, a1, b1⟩ := kk r u t T'.heap (locs ++ L) e1.symm (by rw [← e2]; exact X'.warmed.alike) hp hb k1 k2 k3 T' rfl X'
    exact ⟨t2, st t2 a1, b1⟩
  · obtain ⟨k1, k2, k3⟩ := vx_keep h0 e1 hS hAX hf hL hF
    obtain ⟨t2, a1, b1⟩ := kx E ce q u t T'.heap (locs ++ L) e1.symm (by rw [← e2]; exact X'.warmed.alike) hp hb k1 k2 k3 (by rw [e1]; exact hce) hcv hcl T' rfl X'
    exact ⟨t2, st.trans a1, b1⟩
theorem vx_callv {S SX : Type} {post : S → Prop} {px : SX → Prop} {B : S → State → Prop} {BX : String → SX → State → Prop} {AX : Nat → Prop} (hr : vx_Run p l e R s m args below meth c H locs cells slots mc ms (F0 m pc ls st0) rest (va_Qv post B A1 a) (vx_X px BX AX) free) (hS : va_S A0 H0 H locs) (hA : ∀ q, q < H.size → A1 q → A0 q) (hf : ∀ q, free q → A0 q) (hAX : ∀ q, q < H.size → AX q → A0 q)
    (kx : ∀ (E : String) (ce : Cell) (q9 : Addr) (u : SX) (t : State) (H1 : Heap) (locs1 : List Loc), t.heap = H1 → s.vm.Alike t.vm → px u → BX E u t → H.size ≤ H1.size → (∀ q : Nat, q < H.size → ¬ AX q → H1[q]? = H[q]?) → va_S A0 H0 H1 locs1 → H1[q9]? = some ce → ce.vm = .none → s.vm.findClass E = some ce.cls → vx_W p l e R s m args below meth c H1 locs1 (cells + mc) (slots + ms) Q (F0 m pc ls rest) q9)
    (kk : ∀ (u : S) (t : State) (H1 : Heap) (locs1 : List Loc), t.heap = H1 → s.vm.Alike t.vm → post u → B u t → H.size ≤ H1.size → (∀ q : Nat, q < H.size → ¬ A1 q → H1[q]? = H[q]?) → va_S A0 H0 H1 locs1 → W p l e R s m args below meth c H1 locs1 (cells + mc) (slots + ms) Q (F0 m (pc + 3) ls (rest))) : W p l e R s m args below meth c H locs cells slots Q (F0 m pc ls st0) := by
  intro T hT X
  rcases hr T hT X with ⟨v, st₀, t, T', L, h0, X', hL, e1, e2, ⟨⟨u, hv, hp, hb⟩, hF⟩, st⟩ | ⟨q, st₀, t, T', L, E, ce, h0, X', hL, e1, e2, ⟨u, hp, hb, hF⟩, hce, hcv, hcl, st⟩
  · cases hv
    obtain ⟨k1, k2, k3⟩ := vx_keep h0 e1 hS hA hf hL hF
    obtain ⟨t2, a1, b1⟩ := kk u t T'.heap (locs ++ L) e1.symm (by rw [← e2]; exact X'.warmed.alike) hp hb k1 k2 k3 T' rfl X'
    exact ⟨t2, st t2 a1, b1⟩
  · obtain ⟨k1, k2, k3⟩ := vx_keep h0 e1 hS hAX hf hL hF
    obtain ⟨t2, a1, b1⟩ := kx E ce q u t T'.heap (locs ++ L) e1.symm (by rw [← e2]; exact X'.warmed.alike) hp hb k1 k2 k3 (by rw [e1]; exact hce) hcv hcl T' rfl X'
    exact ⟨t2, st.trans a1, b1⟩
/-- caught by the row x of this method's table; the rows ahead don't take it -/
theorem vx_catch {own name : String} {E : String} {ce : Cell} {q : Addr} (hown : s.vm.findClass own = some m.cls) (pre : List ExceptionTableEntry) (x : ExceptionTableEntry) (suf : List ExceptionTableEntry) (hsplit : c.exceptionTable.toList = pre ++ x :: suf)
    (hpass : ∀ z ∈ pre, covers z pc = false ∨ (z.catchType ≠ 0 ∧ ∃ nm : String, (Cond.classLink own z.catchType nm).before args s = true ∧ va_Nc E nm s)) (hx : covers x pc = true) (h0 : x.catchType ≠ 0)
    (hlink : (Cond.classLink own x.catchType name).before args s = true) (hcast : (Cond.castable E name).before args s = true) (hcell : H[q]? = some ce) (hv : ce.vm = .none) (hcl : s.vm.findClass E = some ce.cls)
    (kk : W p l e R s m args below meth c H locs cells slots Q (F0 m x.handlerPc ls [.ref q])) : vx_W p l e R s m args below meth c H locs cells slots Q (F0 m pc ls rest) q := by
  intro T hT X
  have hpl : e.platform.magicAccessors = ({} : Platform).magicAccessors := by rw [X.admits.platform]
  obtain ⟨c3, c4, hc3, hc4, hasg⟩ := Cond.castable_spec hcast
  cases Option.some.inj (hc3.symm.trans hcl)
  obtain ⟨c5, hc5, hcl5⟩ := Cond.classLink_spec hown hlink e.platform hpl
  cases Option.some.inj (hc4.symm.trans hc5)
  obtain ⟨vm', X', st⟩ := X.thenCaughtThrough q (g := F0 m pc ls rest) rfl (Steps.refl _) (by rw [hT]; exact hcell) (by rw [hv]; rfl) (by obtain ⟨k9, h9, -⟩ := Vm.findClass_spec hcl; exact ⟨k9, h9⟩) pre x suf hsplit
    (fun z hz => by
      rcases hpass z hz with h | ⟨hz0, nm, hl1, hn1⟩
      · exact Or.inl h
      · obtain ⟨c6, hc6, hcl6⟩ := Cond.classLink_spec hown hl1 e.platform hpl
        obtain ⟨a8, b8, h1, h2, h3⟩ := hn1
        cases Option.some.inj (h1.symm.trans hcl)
        cases Option.some.inj (h2.symm.trans hc6)
        exact Or.inr ⟨hz0, _, hcl6, h3⟩) hx (Or.inr ⟨h0, c4, hcl5, hasg⟩)
  obtain ⟨t, a1, b1⟩ := kk (T.setVm vm') hT X'
  exact ⟨t, st.trans a1, b1⟩
end Rows
section Ends
variable {p : Program} {l : Launch} {e : Env} {R : Room} {s : State} {m : MethodId} {args : Array Value} {below : List Frame} {meth : Method} {c : Code} {H : Heap} {locs : List Loc} {cells slots : Nat} {Q : State → Prop}
variable {mc ms : Nat} {free : Addr → Prop} {A0 A1 : Nat → Prop} {H0 : Heap} {a : Array Value} {ls : Array Slot} {st0 rest : List Value}
variable {Qc : Array Value → State → Outcome → State → Prop} {XC : String → State → State → Prop}
/-- what a body that may throw owes at its end -/
def vx_MQ (below : List Frame) (Qc : Array Value → State → Outcome → State → Prop) (XC : String → State → State → Prop) (a : Array Value) (s : State) (mc ms : Nat) (free : Addr → Prop) : State → Prop := fun t =>
  ∃ o, t.status = .running ∧ Ended t below o ∧ vx_Q Qc XC mc ms free a s o t
theorem vx_ret {g : JFrame} {mc ms : Nat} (k : W p l e R s m args below meth c H locs cells slots (MQ below Qc args s mc ms free) g) : W p l e R s m args below meth c H locs cells slots (vx_MQ below Qc XC args s mc ms free) g := by
  intro T hT X
  obtain ⟨t, a1, o, b1, b2, b3, b4⟩ := k T hT X
  exact ⟨t, a1, o, b1, b2, Or.inl ⟨b3, b4⟩⟩
/-- not caught here: it goes on to the caller -/
theorem vx_widen {g : JFrame} {q : Addr} {k n : Nat} (h1 : cells ≤ k) (h2 : slots ≤ n) (kk : vx_W p l e R s m args below meth c H locs k n Q g q) : vx_W p l e R s m args below meth c H locs cells slots Q g q := fun T hT X => kk T hT (stand_widen X h1 h2)
theorem vx_out {pc : Nat} {E : String} {ce : Cell} {q : Addr} {mc ms : Nat} (hout : ∀ x ∈ c.exceptionTable.toList, covers x pc = false) (hlocks : meth.locks = false) (hcell : H[q]? = some ce) (hv : ce.vm = .none) (hcl : s.vm.findClass E = some ce.cls)
    (hx : ∀ t : State, t.heap = H → s.vm.Alike t.vm → XC E s t) (hf : ∀ z ∈ locs, free z.base) (hc : cells ≤ mc) (hs : slots ≤ ms) :
    vx_W p l e R s m args below meth c H locs cells slots (vx_MQ below Qc XC args s mc ms free) (F0 m pc ls rest) q := by
  intro T hT X
  obtain ⟨st1, hrun, hend, hW, hsm⟩ := X.leaveThrown q (g := F0 m pc ls rest) rfl rfl rfl hout hlocks
  have hcell9 : (T.setFrames (.throwing q :: below)).heap[q]? = some ce := by
    show T.heap[q]? = some ce
    rw [hT]; exact hcell
  exact ⟨_, st1, .threw q, hrun, hend, Or.inr ⟨q, rfl, E, ce, locs, hx _ hT hW.alike, hcell9, hv, hcl, hW, hsm.mono hc hs, hf⟩⟩
theorem vx_frame {U : State} {k n : Nat} (h : s.sameButNew ({ U with vm := s.vm } : State) locs k n) : s.heap.size ≤ U.heap.size ∧ ∀ q : Nat, q < s.heap.size → (∀ z ∈ locs, z.base ≠ q) → U.heap[q]? = s.heap[q]? := by
  obtain ⟨-, h2, -, -, -, h6⟩ := h
  refine ⟨h2, fun q hq hz => ?_⟩
  obtain ⟨c9, e1, e2, e3, e4⟩ := h6 q _ (Array.getElem?_eq_getElem hq)
  have hs : c9.slots = (s.heap[q]).slots := Array.ext_getElem? fun i => e4 i fun hm => hz _ hm rfl
  have h9 : c9 = s.heap[q] := by
    rw [hs] at e2
    exact e2
  have e5 : U.heap[q]? = some c9 := e1
  rw [e5, h9, Array.getElem?_eq_getElem hq]
/-- the words of a throw but the four that speak of the heap -/
def vx_no (w : Cond) : Bool := decide (w ≠ .isRef (.static Bundle.tN "UNASSIGNED_STACK" Bundle.steD)) && decide (w ≠ .isRef (.static Bundle.tN "SUPPRESSED_SENTINEL" Bundle.listD)) && decide (w ≠ .laysStatic Bundle.tN "UNASSIGNED_STACK" Bundle.steD) && decide (w ≠ .laysStatic Bundle.tN "SUPPRESSED_SENTINEL" Bundle.listD)
def vx_at0 (own : String) (ic : Nat) (X : String) (names : List String) : List Cond := (Bundle.ownAtoms0 own ic X names).filter vx_no
def vx_atS (own : String) (ic : Nat) (X : String) (names : List String) : List Cond := (Bundle.ownAtoms own ic X names).filter vx_no
/-- a word that the tables alone decide, or a good one -/
def vx_ot (w : Cond) : Bool := w.onTables || goodWord w
theorem vx_ot_at {args a' : Array Value} {s U : State} {w : Cond} (hW : s.WarmedH U.vm) (hvm : s.vm = U.vm) (hg : vx_ot w = true) (h : w.before args s = true) : w.before a' U = true := by
  simp only [vx_ot, Bool.or_eq_true] at hg
  rcases hg with hg | hg
  · exact va_tabs hg hvm h
  · exact word_at hW (good_of_word hg) h
/-- a list's words: the good ones out of the method's own list, the others by premises of their own -/
theorem vx_hat {args : Array Value} {s : State} {L B : List Cond} (h1 : ∀ w ∈ L.filter goodWord, w.before args s = true) (h2 : ∀ w ∈ L.filter (fun w => !goodWord w), w ∈ B) (h3 : ∀ w ∈ B, w.before args s = true) : ∀ w ∈ L, w.before args s = true := by
  intro w hw
  by_cases g : goodWord w = true
  · exact h1 w (List.mem_filter.mpr ⟨hw, g⟩)
  · refine h3 w (h2 w (List.mem_filter.mpr ⟨hw, ?_⟩))
    show (!goodWord w) = true
    cases hgw : goodWord w
    · rfl
    · exact absurd hgw g
theorem vx_c {args : Array Value} {s : State} {w : Cond} {B : List Cond} (h : w.before args s = true) (t : ∀ w ∈ B, w.before args s = true) : ∀ w' ∈ w :: B, w'.before args s = true := fun w' h' => (List.mem_cons.mp h').elim (fun e => by rw [e]; exact h) (t w')
theorem vx_n {args : Array Value} {s : State} : ∀ w ∈ ([] : List Cond), w.before args s = true := fun _ h => nomatch h
theorem vx_own {args : Array Value} {s : State} {L : List Cond} (h1 : ∀ w ∈ L.filter vx_no, w.before args s = true)
    (hU : (Cond.isRef (.static Bundle.tN "UNASSIGNED_STACK" Bundle.steD)).before args s = true) (hN : (Cond.isRef (.static Bundle.tN "SUPPRESSED_SENTINEL" Bundle.listD)).before args s = true)
    (lU : (Cond.laysStatic Bundle.tN "UNASSIGNED_STACK" Bundle.steD).before args s = true) (lN : (Cond.laysStatic Bundle.tN "SUPPRESSED_SENTINEL" Bundle.listD).before args s = true) : ∀ w ∈ L, w.before args s = true := by
  intro w hw
  by_cases e1 : w = .isRef (.static Bundle.tN "UNASSIGNED_STACK" Bundle.steD)
  · rw [e1]; exact hU
  · by_cases e2 : w = .isRef (.static Bundle.tN "SUPPRESSED_SENTINEL" Bundle.listD)
    · rw [e2]; exact hN
    · by_cases e3 : w = .laysStatic Bundle.tN "UNASSIGNED_STACK" Bundle.steD
      · rw [e3]; exact lU
      · by_cases e4 : w = .laysStatic Bundle.tN "SUPPRESSED_SENTINEL" Bundle.listD
        · rw [e4]; exact lN
        · exact h1 w (List.mem_filter.mpr ⟨hw, by unfold vx_no; rw [decide_eq_true e1, decide_eq_true e2, decide_eq_true e3, decide_eq_true e4]; rfl⟩)
/-- where a static field lies, its class's statics cell in H -/
def vx_L (C n d : String) (A : Nat → Prop) (U : State) (H : Heap) : Prop := ∃ (c : ClassId) (k : Class) (i : Nat) (f : Field) (a : Nat) (cell : Cell), U.vm.findClass C = some c ∧ U.fieldFound? C n d = some (c, k, i, f) ∧ f.isStatic = true ∧ k.statics = some a ∧ H[a]? = some cell ∧ cell.vm.isStatics = true ∧ cell.cls = c ∧ f.slot < cell.slots.size ∧ k.staticTypes[f.slot]? = some f.type ∧ ¬ A a
theorem vx_L.moved {C n d : String} {A : Nat → Prop} {u U : State} {H : Heap} (hvm : u.vm.Alike U.vm) (h : vx_L C n d A u H) : vx_L C n d A U H := by
  obtain ⟨c, k, i, f, a, cell, h1, h2, h3, h4, h5, h6, h7, h8, h9, h10⟩ := h
  obtain ⟨k', hi', he⟩ := State.fieldFound?_setVm hvm h2
  exact ⟨c, k', i, f, a, cell, by rw [hvm.findClass]; exact h1, hi', h3, by rw [he]; exact h4, h5, h6, h7, h8, by rw [he]; exact h9, h10⟩
theorem vx_L.kept {C n d : String} {A : Nat → Prop} {U : State} {H H1 : Heap} (h : vx_L C n d A U H) (hq : ∀ a : Nat, a < H.size → ¬ A a → H1[a]? = H[a]?) : vx_L C n d A U H1 := by
  obtain ⟨c, k, i, f, a, cell, h1, h2, h3, h4, h5, h6, h7, h8, h9, h10⟩ := h
  exact ⟨c, k, i, f, a, cell, h1, h2, h3, h4, by rw [hq a (Array.getElem?_eq_some_iff.mp h5).1 h10]; exact h5, h6, h7, h8, h9, h10⟩
theorem vx_L.narrow {C n d : String} {A B : Nat → Prop} {U : State} {H : Heap} (h : vx_L C n d A U H) (hAB : ∀ q, B q → A q) : vx_L C n d B U H := by
  obtain ⟨c, k, i, f, a, cell, h1, h2, h3, h4, h5, h6, h7, h8, h9, h10⟩ := h
  exact ⟨c, k, i, f, a, cell, h1, h2, h3, h4, h5, h6, h7, h8, h9, fun z => h10 (hAB _ z)⟩
theorem vx_L.word {C n d : String} {A : Nat → Prop} {s : State} {args : Array Value} (h : vx_L C n d A s s.heap) : (Cond.laysStatic C n d).before args s = true := by
  obtain ⟨c, k, i, f, a, cell, h1, h2, h3, h4, h5, h6, h7, h8, h9, -⟩ := h
  show (Cond.laysStatic C n d).holds args s none s [] = true
  exact Cond.laysStatic_of h1 h2 h3 h4 h5 h6 h7 h8 h9
/-- .. and what it holds: null or some reference -/
def vx_Zq (C n d : String) (A : Nat → Prop) (U : State) (H : Heap) : Prop := va_Zq C n d A U H ∧ vx_L C n d A U H
theorem vx_Zq.moved {C n d : String} {A : Nat → Prop} {u U : State} {H : Heap} (hvm : u.vm.Alike U.vm) (h : vx_Zq C n d A u H) : vx_Zq C n d A U H := ⟨va_Zq.moved hvm h.1, vx_L.moved hvm h.2⟩
theorem vx_Zq.kept {C n d : String} {A : Nat → Prop} {U : State} {H H1 : Heap} (h : vx_Zq C n d A U H) (hq : ∀ a : Nat, a < H.size → ¬ A a → H1[a]? = H[a]?) : vx_Zq C n d A U H1 := ⟨va_Zq.kept h.1 hq, vx_L.kept h.2 hq⟩
theorem vx_Zq.narrow {C n d : String} {A B : Nat → Prop} {U : State} {H : Heap} (h : vx_Zq C n d A U H) (hAB : ∀ q, B q → A q) : vx_Zq C n d B U H := ⟨va_Zq.narrow h.1 hAB, vx_L.narrow h.2 hAB⟩
theorem vx_Zqof {args : Array Value} {s : State} {C n d : String} {A : Nat → Prop} (hl : (Cond.laysStatic C n d).before args s = true) (hini : (Cond.initialized C).before args s = true) (h : (Cond.isRef (.static C n d)).before args s = true) (hA : ∀ a : Nat, a < s.heap.size → ¬ A a) : vx_Zq C n d A s s.heap := by
  refine ⟨va_Zqof hl hini h hA, ?_⟩
  obtain ⟨c, k, i, f, a, cell, h1, h2, h3, h4, h5, h6, h7, h8, h9⟩ := Cond.laysStatic_spec hl
  exact ⟨c, k, i, f, a, cell, h1, h2, h3, h4, h5, h6, h7, h8, h9, hA a (Array.getElem?_eq_some_iff.mp h5).1⟩
theorem vx_isRef {C n d : String} {v : Value} {A : Nat → Prop} {s : State} {args : Array Value} (h : va_Z C n d v A s s.heap) (hv : v.isRef = true) : (Cond.isRef (.static C n d)).before args s = true := by
  obtain ⟨cf, kf, fi, f, a, cell, h1, h2, h3, h4, h5, h6, h7, -⟩ := h
  have he : (Term.static C n d).eval args s none [] s = some v := by
    simp [Term.eval, State.fieldNamed?, h1, h2, h4, h5, h6, h7]
  simp only [Cond.before, Cond.holds, Cond.value, he]
  cases v <;> simp_all [Value.isRef]
theorem vx_isRefq {C n d : String} {A : Nat → Prop} {s : State} {args : Array Value} (h : va_Zq C n d A s s.heap) : (Cond.isRef (.static C n d)).before args s = true := by
  rcases h with h | ⟨t, h⟩
  · exact vx_isRef h rfl
  · exact vx_isRef h rfl
/-- the same frame, seen from here: as if the method were called anew in this heap -/
theorem vx_rebase {T : State} (X : Stand p l e R s m args below meth c T locs cells slots) {R' : Room} (hf : R'.frames ≤ R.frames) (hl : R'.locals ≤ R.locals) (hc : cells + R'.cells ≤ R.cells) (hs : slots + R'.slots ≤ R.slots) :
    Stand p l e R' ((T.setVm s.vm).setFrames (.invoking m args :: below)) m args below meth c T [] 0 0 := by
  have htop : (T.setVm s.vm).topJava?.isSome := X.here.top
  have hF : ((T.setVm s.vm).setFrames (.invoking m args :: below)).frames = .invoking m args :: below := State.frames_setFrames _ (State.cur_lt_of_top htop)
  obtain ⟨g₀, hg0⟩ := Option.isSome_iff_exists.mp htop
  obtain ⟨r, hr⟩ := State.topJava?_eq_some.mp hg0
  have hl9 : e.platform.stackLimits (T.setVm s.vm).me = e.platform.stackLimits s.me := X.limits
  have hb9 : (T.setVm s.vm).me.stackBytes = s.me.stackBytes := X.bytes
  refine ⟨X.admits, X.cas, X.clock, hF, ?_, X.hears, X.method, X.code, X.here, X.tail, X.warmed, ?_, ?_, ?_⟩
  · have h := X.room
    have hU : ((T.setVm s.vm).setFrames (.invoking m args :: below)).localsInUse = s.localsInUse := by
      rw [State.localsInUse_invoking hF (meth := meth) (c := c) X.method X.code, State.localsInUse_invoking X.frames X.method X.code]
    simp only [State.hasRoom, Bool.and_eq_true, decide_eq_true_eq] at h ⊢
    obtain ⟨⟨⟨⟨h1, h2, h3, h4, h5, h6⟩, h7⟩, h8⟩, h9⟩ := h
    rw [X.frames, List.length_cons] at h2 h3
    have q1 := X.heapSize
    have q2 := X.used
    simp only [hF, hU, List.length_cons, State.stackLimits_setFrames, State.stackBytes_setFrames, hl9, hb9]
    refine ⟨⟨⟨⟨by omega, by omega, by omega, by omega, by omega, h6⟩, ?_⟩, ?_⟩, X.book⟩
    · show T.heap.size + R'.cells ≤ e.platform.maxCells
      omega
    · show T.slotsUsed + R'.slots ≤ e.platform.maxSlots
      omega
  · rw [State.stackLimits_setFrames]; rfl
  · rw [State.stackBytes_setFrames]; rfl
  · refine ⟨?_, Nat.le_refl _, Nat.le_refl _, ?_, ?_, fun a c9 h9 => ⟨c9, h9, rfl, rfl, fun _ _ => rfl⟩⟩
    · obtain ⟨t, ht, -⟩ := State.frames_cons hr
      show T.setVm s.vm = { ((T.setVm s.vm).setFrames (.invoking m args :: below)).setFrames (T.setVm s.vm).frames with heap := T.heap, slotsUsed := T.slotsUsed }
      rw [State.setFrames_setFrames, State.setFrames_self ht]
      rfl
    · show T.slotsUsed = T.slotsUsed + ((T.heap.toList.drop T.heap.size).map (·.slots.size)).sum
      rw [List.drop_eq_nil_of_le (Nat.le_of_eq Array.length_toList)]
      rfl
    · show ((T.heap.toList.drop T.heap.size).map (·.slots.size)).sum ≤ 0
      rw [List.drop_eq_nil_of_le (Nat.le_of_eq Array.length_toList)]
      exact Nat.le_refl _
/-- 'throw new E()': new; dup; invokespecial; athrow -/
theorem vx_throw0 {cc : ByteArray} {pc : Nat} (hexec : p.tables.exec = Jvm.exec) (hb : c.code = cc) (hl : l.stackTraces = false) {own cls : String} {names : List String} {ik ic mc ms : Nat} {A : Nat → Prop}
    (hown : s.vm.findClass own = some m.cls) (hcls : Bundle.fit cls = true) (hnames : ∀ n ∈ names, Bundle.fit n = true)
    (hk : (Cond.classLink own ik cls).before args s = true) (hini : (Cond.initialized cls).before args s = true) (hat : ∀ w ∈ vx_at0 own ic cls names, w.before args s = true)
    (hgood : ∀ w ∈ Cond.classLink own ik cls :: Cond.initialized cls :: vx_at0 own ic cls names, vx_ot w = true)
    (hU : vx_Zq Bundle.tN "UNASSIGNED_STACK" Bundle.steD A s s.heap) (hN : vx_Zq Bundle.tN "SUPPRESSED_SENTINEL" Bundle.listD A s s.heap) (hS : va_S A s.heap H locs) (hsize : ls.size = c.maxLocals)
    (d0 : decode cc pc = .ok (.new ik, 3)) (d3 : decode cc (pc + 3) = .ok (.dup, 1)) (d4 : decode cc (pc + 4) = .ok (.invokespecial ic, 3)) (d7 : decode cc (pc + 7) = .ok (.athrow, 1))
    (hout : ∀ x ∈ c.exceptionTable.toList, covers x (pc + 7) = false)
    (hRframes : names.length + 3 < R.frames) (hRlocals : (rest.map fun v => v.category).sum + (13 * (names.length + 1) + 42) ≤ R.locals) (hRcells : cells + 1 ≤ R.cells) (hRslots : slots + 6 ≤ R.slots) (hlocks : meth.locks = false)
    (hx : ∀ t : State, s.vm.Alike t.vm → H.size ≤ t.heap.size → (∀ q : Nat, q < H.size → t.heap[q]? = H[q]?) → XC cls s t)
    (hf : ∀ z ∈ locs, free z.base) (hc : cells + 1 ≤ mc) (hs : slots + 6 ≤ ms) :
    W p l e R s m args below meth c H locs cells slots (vx_MQ below Qc XC args s mc ms free) (F0 m pc ls rest) := by
  intro T hT X
  have htr : e.platform.stackTraces = false := (show e.platform.stackTraces = l.stackTraces by rw [X.admits.platform]).trans hl
  have Y := vx_rebase X (R' := { frames := R.frames, locals := R.locals, cells := 1, slots := 6 }) (Nat.le_refl _) (Nat.le_refl _) hRcells hRslots
  obtain ⟨s', hA⟩ : ∃ z, z = (T.setVm s.vm).setFrames (.invoking m args :: below) := ⟨_, rfl⟩
  rw [← hA] at Y
  have hvm : s'.vm = s.vm := by rw [hA]; rfl
  have hhp : s'.heap = H := by rw [hA]; exact hT
  have hW0 : s.WarmedH s'.vm := by rw [hvm]; exact State.WarmedH.refl s
  have hat' : ∀ w ∈ vx_at0 own ic cls names, w.before args s' = true := fun w hw => vx_ot_at hW0 hvm.symm (hgood w (List.mem_cons_of_mem _ (List.mem_cons_of_mem _ hw))) (hat w hw)
  have hk' : (Cond.classLink own ik cls).before args s' = true := vx_ot_at hW0 hvm.symm (hgood _ List.mem_cons_self) hk
  have hini' : (Cond.initialized cls).before args s' = true := vx_ot_at hW0 hvm.symm (hgood _ (List.mem_cons_of_mem _ List.mem_cons_self)) hini
  have hU' : vx_Zq Bundle.tN "UNASSIGNED_STACK" Bundle.steD A s' s'.heap := by rw [hhp]; exact vx_Zq.moved hW0.alike (hU.kept hS.2.1)
  have hN' : vx_Zq Bundle.tN "SUPPRESSED_SENTINEL" Bundle.listD A s' s'.heap := by rw [hhp]; exact vx_Zq.moved hW0.alike (hN.kept hS.2.1)
  have h : ∀ w ∈ Bundle.ownAtoms0 own ic cls names, w.before args s' = true := vx_own hat' (vx_isRefq hU'.1) (vx_isRefq hN'.1) hU'.2.word hN'.2.word
  have hown' : s'.vm.findClass own = some m.cls := by rw [hvm]; exact hown
  have hins : (Cond.instantiable cls 6).before args s' = true := h _ (by simp [Bundle.ownAtoms0])
  obtain ⟨vm₁, cX, kX, hfX, hkX, -, -, X₁, st1⟩ := Y.newCold hexec (own := own) (C := cls) (index := ik) (n := 6) hown' hk' hins hini'
    (g := F0 m pc ls rest) rfl (by rw [hb]; exact d0) (Nat.le_refl _) (Nat.le_refl _)
  generalize hT1 : (T.setVm vm₁).pushCell { cls := cX, slots := kX.instanceTypes.map defaultValue, vm := .none } = T1 at X₁ st1
  have hcat : (Value.ref T.heap.size).category = 1 := rfl
  have hcellA : T1.heap[T.heap.size]? = some (freshCell cX kX) := by rw [← hT1]; exact State.heap_pushCell_size _ _
  have d3' : decode c.code (pc + 3) = .ok (.dup, 1) := by rw [hb]; exact d3
  obtain ⟨U, hsteps, hrun, hend, hW, hsame, ce, hce, hO⟩ := X₁.ctorThrow0 hexec htr (own := own) (cls := cls) (names := names) (ic := ic) hown' hcls hnames h (fun x hx => nomatch hx) hfX hkX hcellA (by rw [hhp, hT]; exact Nat.le_refl _)
    (g := { method := m, pc := pc + 4, locals := ls, stack := .ref T.heap.size :: .ref T.heap.size :: rest, locked := none }) rfl hsize rfl rfl (rest := rest) rfl
    (by rw [hb]; exact d4) (by rw [hb]; exact d7) hout hRframes (by simp only [List.map_cons, List.sum_cons, hcat]; omega) hlocks
  obtain ⟨f1, f2⟩ := vx_frame hsame
  rw [hhp] at f1 f2
  have hWs : s.WarmedH U.vm := State.WarmedH.trans hW0 hW
  have hcl : s.vm.findClass cls = some ce.cls := by
    have h9 := hO.cls
    rw [hvm] at h9
    exact h9
  have hall : s.sameButNew ({ U with vm := s.vm } : State) locs mc ms := by
    subst hA
    obtain ⟨e1, e2⟩ := hsame
    rw [State.setFrames_setFrames] at e1
    have h2 : (T.setVm s.vm).sameButNew ({ U with vm := s.vm } : State) [] (0 + 1) (0 + 6) := ⟨e1, e2⟩
    have h3 := X.same.trans h2
    rw [List.append_nil] at h3
    exact h3.mono hc hs
  refine ⟨U, ?_, .threw T.heap.size, hrun, hend, Or.inr ⟨T.heap.size, rfl, cls, ce, locs, hx U hWs.alike f1 (fun q hq => f2 q hq (fun z hz => nomatch hz)), hce, hO.vm, hcl, hWs, hall, hf⟩⟩
  refine st1 _ ?_
  show Steps p.tables e below (T1.setTop { method := m, pc := pc + 3, locals := ls, stack := .ref T.heap.size :: rest, locked := none }) _
  jvm_step X₁.here [X₁.here.top, hexec, d3', Value.category]
  exact hsteps
/-- 'throw new E("text")': new; dup; ldc; invokespecial; athrow -/
theorem vx_throwS {cc : ByteArray} {pc : Nat} (hexec : p.tables.exec = Jvm.exec) (hb : c.code = cc) (hl : l.stackTraces = false) {own cls text : String} {names : List String} {ik is ic mc ms sa : Nat} {A : Nat → Prop}
    (hown : s.vm.findClass own = some m.cls) (hcls : Bundle.fit cls = true) (hnames : ∀ n ∈ names, Bundle.fit n = true)
    (hk : (Cond.classLink own ik cls).before args s = true) (hini : (Cond.initialized cls).before args s = true) (hstr : vk_R own is text sa s) (hat : ∀ w ∈ vx_atS own ic cls names, w.before args s = true)
    (hgood : ∀ w ∈ Cond.classLink own ik cls :: Cond.initialized cls :: vx_atS own ic cls names, vx_ot w = true)
    (hU : vx_Zq Bundle.tN "UNASSIGNED_STACK" Bundle.steD A s s.heap) (hN : vx_Zq Bundle.tN "SUPPRESSED_SENTINEL" Bundle.listD A s s.heap) (hS : va_S A s.heap H locs) (hsize : ls.size = c.maxLocals)
    (d0 : decode cc pc = .ok (.new ik, 3)) (d3 : decode cc (pc + 3) = .ok (.dup, 1)) (d4 : decode cc (pc + 4) = .ok (.ldc is, 2)) (d6 : decode cc (pc + 6) = .ok (.invokespecial ic, 3)) (d9 : decode cc (pc + 9) = .ok (.athrow, 1))
    (hout : ∀ x ∈ c.exceptionTable.toList, covers x (pc + 9) = false)
    (hRframes : names.length + 3 < R.frames) (hRlocals : (rest.map fun v => v.category).sum + (13 * (names.length + 1) + 43) ≤ R.locals) (hRcells : cells + 1 ≤ R.cells) (hRslots : slots + 6 ≤ R.slots) (hlocks : meth.locks = false)
    (hx : ∀ t : State, s.vm.Alike t.vm → H.size ≤ t.heap.size → (∀ q : Nat, q < H.size → t.heap[q]? = H[q]?) → XC cls s t)
    (hf : ∀ z ∈ locs, free z.base) (hc : cells + 1 ≤ mc) (hs : slots + 6 ≤ ms) :
    W p l e R s m args below meth c H locs cells slots (vx_MQ below Qc XC args s mc ms free) (F0 m pc ls rest) := by
  intro T hT X
  have htr : e.platform.stackTraces = false := (show e.platform.stackTraces = l.stackTraces by rw [X.admits.platform]).trans hl
  have Y := vx_rebase X (R' := { frames := R.frames, locals := R.locals, cells := 1, slots := 6 }) (Nat.le_refl _) (Nat.le_refl _) hRcells hRslots
  obtain ⟨s', hA⟩ : ∃ z, z = (T.setVm s.vm).setFrames (.invoking m args :: below) := ⟨_, rfl⟩
  rw [← hA] at Y
  have hvm : s'.vm = s.vm := by rw [hA]; rfl
  have hhp : s'.heap = H := by rw [hA]; exact hT
  have hW0 : s.WarmedH s'.vm := by rw [hvm]; exact State.WarmedH.refl s
  have hat' : ∀ w ∈ vx_atS own ic cls names, w.before args s' = true := fun w hw => vx_ot_at hW0 hvm.symm (hgood w (List.mem_cons_of_mem _ (List.mem_cons_of_mem _ hw))) (hat w hw)
  have hk' : (Cond.classLink own ik cls).before args s' = true := vx_ot_at hW0 hvm.symm (hgood _ List.mem_cons_self) hk
  have hini' : (Cond.initialized cls).before args s' = true := vx_ot_at hW0 hvm.symm (hgood _ (List.mem_cons_of_mem _ List.mem_cons_self)) hini
  have hU' : vx_Zq Bundle.tN "UNASSIGNED_STACK" Bundle.steD A s' s'.heap := by rw [hhp]; exact vx_Zq.moved hW0.alike (hU.kept hS.2.1)
  have hN' : vx_Zq Bundle.tN "SUPPRESSED_SENTINEL" Bundle.listD A s' s'.heap := by rw [hhp]; exact vx_Zq.moved hW0.alike (hN.kept hS.2.1)
  have h : ∀ w ∈ Bundle.ownAtoms own ic cls names, w.before args s' = true := vx_own hat' (vx_isRefq hU'.1) (vx_isRefq hN'.1) hU'.2.word hN'.2.word
  have hown' : s'.vm.findClass own = some m.cls := by rw [hvm]; exact hown
  have hins : (Cond.instantiable cls 6).before args s' = true := h _ (by simp [Bundle.ownAtoms])
  obtain ⟨vm₁, cX, kX, hfX, hkX, -, -, X₁, st1⟩ := Y.newCold hexec (own := own) (C := cls) (index := ik) (n := 6) hown' hk' hins hini'
    (g := F0 m pc ls rest) rfl (by rw [hb]; exact d0) (Nat.le_refl _) (Nat.le_refl _)
  generalize hT1 : (T.setVm vm₁).pushCell { cls := cX, slots := kX.instanceTypes.map defaultValue, vm := .none } = T1 at X₁ st1
  have hcat : (Value.ref T.heap.size).category = 1 := rfl
  have hcellA : T1.heap[T.heap.size]? = some (freshCell cX kX) := by rw [← hT1]; exact State.heap_pushCell_size _ _
  have d3' : decode c.code (pc + 3) = .ok (.dup, 1) := by rw [hb]; exact d3
  have d4' : decode c.code (pc + 4) = .ok (.ldc is, 2) := by rw [hb]; exact d4
  have hstr' : vk_R own is text sa s' := vk_R.warm hW0 hstr
  obtain ⟨U, hsteps, hrun, hend, hW, hsame, ce, hce, hO⟩ := X₁.ctorThrowS hexec htr (own := own) (cls := cls) (names := names) (ic := ic) hown' hcls hnames h (fun x hx => nomatch hx) hfX hkX hcellA (by rw [hhp, hT]; exact Nat.le_refl _) (msg := .ref sa) rfl
    (g := { method := m, pc := pc + 6, locals := ls, stack := .ref sa :: .ref T.heap.size :: .ref T.heap.size :: rest, locked := none }) rfl hsize rfl rfl (rest := rest) rfl
    (by rw [hb]; exact d6) (by rw [hb]; exact d9) hout hRframes (by simp only [List.map_cons, List.sum_cons, hcat]; omega) hlocks
  obtain ⟨f1, f2⟩ := vx_frame hsame
  rw [hhp] at f1 f2
  have hWs : s.WarmedH U.vm := State.WarmedH.trans hW0 hW
  have hcl : s.vm.findClass cls = some ce.cls := by
    have h9 := hO.cls
    rw [hvm] at h9
    exact h9
  have hall : s.sameButNew ({ U with vm := s.vm } : State) locs mc ms := by
    subst hA
    obtain ⟨e1, e2⟩ := hsame
    rw [State.setFrames_setFrames] at e1
    have h2 : (T.setVm s.vm).sameButNew ({ U with vm := s.vm } : State) [] (0 + 1) (0 + 6) := ⟨e1, e2⟩
    have h3 := X.same.trans h2
    rw [List.append_nil] at h3
    exact h3.mono hc hs
  refine ⟨U, ?_, .threw T.heap.size, hrun, hend, Or.inr ⟨T.heap.size, rfl, cls, ce, locs, hx U hWs.alike f1 (fun q hq => f2 q hq (fun z hz => nomatch hz)), hce, hO.vm, hcl, hWs, hall, hf⟩⟩
  refine st1 _ ?_
  show Steps p.tables e below (T1.setTop { method := m, pc := pc + 3, locals := ls, stack := .ref T.heap.size :: rest, locked := none }) _
  jvm_step X₁.here [X₁.here.top, hexec, d3', Value.category]
  exact X₁.ldcString hexec (own := own) (text := text) (index := is) (a := sa) hown' hstr'.1 hstr'.2
    (g := { method := m, pc := pc + 4, locals := ls, stack := .ref T.heap.size :: .ref T.heap.size :: rest, locked := none }) rfl d4' _ hsteps
/-- 'throw new E("text")', the text by a wide index -/
theorem vx_throwSW {cc : ByteArray} {pc : Nat} (hexec : p.tables.exec = Jvm.exec) (hb : c.code = cc) (hl : l.stackTraces = false) {own cls text : String} {names : List String} {ik is ic mc ms sa : Nat} {A : Nat → Prop}
    (hown : s.vm.findClass own = some m.cls) (hcls : Bundle.fit cls = true) (hnames : ∀ n ∈ names, Bundle.fit n = true)
    (hk : (Cond.classLink own ik cls).before args s = true) (hini : (Cond.initialized cls).before args s = true) (hstr : vk_R own is text sa s) (hat : ∀ w ∈ vx_atS own ic cls names, w.before args s = true)
    (hgood : ∀ w ∈ Cond.classLink own ik cls :: Cond.initialized cls :: vx_atS own ic cls names, vx_ot w = true)
    (hU : vx_Zq Bundle.tN "UNASSIGNED_STACK" Bundle.steD A s s.heap) (hN : vx_Zq Bundle.tN "SUPPRESSED_SENTINEL" Bundle.listD A s s.heap) (hS : va_S A s.heap H locs) (hsize : ls.size = c.maxLocals)
    (d0 : decode cc pc = .ok (.new ik, 3)) (d3 : decode cc (pc + 3) = .ok (.dup, 1)) (d4 : decode cc (pc + 4) = .ok (.ldc_w is, 3)) (d7 : decode cc (pc + 7) = .ok (.invokespecial ic, 3)) (d10 : decode cc (pc + 10) = .ok (.athrow, 1))
    (hout : ∀ x ∈ c.exceptionTable.toList, covers x (pc + 10) = false)
    (hRframes : names.length + 3 < R.frames) (hRlocals : (rest.map fun v => v.category).sum + (13 * (names.length + 1) + 43) ≤ R.locals) (hRcells : cells + 1 ≤ R.cells) (hRslots : slots + 6 ≤ R.slots) (hlocks : meth.locks = false)
    (hx : ∀ t : State, s.vm.Alike t.vm → H.size ≤ t.heap.size → (∀ q : Nat, q < H.size → t.heap[q]? = H[q]?) → XC cls s t)
    (hf : ∀ z ∈ locs, free z.base) (hc : cells + 1 ≤ mc) (hs : slots + 6 ≤ ms) :
    W p l e R s m args below meth c H locs cells slots (vx_MQ below Qc XC args s mc ms free) (F0 m pc ls rest) := by
  intro T hT X
  have htr : e.platform.stackTraces = false := (show e.platform.stackTraces = l.stackTraces by rw [X.admits.platform]).trans hl
  have Y := vx_rebase X (R' := { frames := R.frames, locals := R.locals, cells := 1, slots := 6 }) (Nat.le_refl _) (Nat.le_refl _) hRcells hRslots
  obtain ⟨s', hA⟩ : ∃ z, z = (T.setVm s.vm).setFrames (.invoking m args :: below) := ⟨_, rfl⟩
  rw [← hA] at Y
  have hvm : s'.vm = s.vm := by rw [hA]; rfl
  have hhp : s'.heap = H := by rw [hA]; exact hT
  have hW0 : s.WarmedH s'.vm := by rw [hvm]; exact State.WarmedH.refl s
  have hat' : ∀ w ∈ vx_atS own ic cls names, w.before args s' = true := fun w hw => vx_ot_at hW0 hvm.symm (hgood w (List.mem_cons_of_mem _ (List.mem_cons_of_mem _ hw))) (hat w hw)
  have hk' : (Cond.classLink own ik cls).before args s' = true := vx_ot_at hW0 hvm.symm (hgood _ List.mem_cons_self) hk
  have hini' : (Cond.initialized cls).before args s' = true := vx_ot_at hW0 hvm.symm (hgood _ (List.mem_cons_of_mem _ List.mem_cons_self)) hini
  have hU' : vx_Zq Bundle.tN "UNASSIGNED_STACK" Bundle.steD A s' s'.heap := by rw [hhp]; exact vx_Zq.moved hW0.alike (hU.kept hS.2.1)
  have hN' : vx_Zq Bundle.tN "SUPPRESSED_SENTINEL" Bundle.listD A s' s'.heap := by rw [hhp]; exact vx_Zq.moved hW0.alike (hN.kept hS.2.1)
  have h : ∀ w ∈ Bundle.ownAtoms own ic cls names, w.before args s' = true := vx_own hat' (vx_isRefq hU'.1) (vx_isRefq hN'.1) hU'.2.word hN'.2.word
  have hown' : s'.vm.findClass own = some m.cls := by rw [hvm]; exact hown
  have hins : (Cond.instantiable cls 6).before args s' = true := h _ (by simp [Bundle.ownAtoms])
  obtain ⟨vm₁, cX, kX, hfX, hkX, -, -, X₁, st1⟩ := Y.newCold hexec (own := own) (C := cls) (index := ik) (n := 6) hown' hk' hins hini'
    (g := F0 m pc ls rest) rfl (by rw [hb]; exact d0) (Nat.le_refl _) (Nat.le_refl _)
  generalize hT1 : (T.setVm vm₁).pushCell { cls := cX, slots := kX.instanceTypes.map defaultValue, vm := .none } = T1 at X₁ st1
  have hcat : (Value.ref T.heap.size).category = 1 := rfl
  have hcellA : T1.heap[T.heap.size]? = some (freshCell cX kX) := by rw [← hT1]; exact State.heap_pushCell_size _ _
  have d3' : decode c.code (pc + 3) = .ok (.dup, 1) := by rw [hb]; exact d3
  have d4' : decode c.code (pc + 4) = .ok (.ldc_w is, 3) := by rw [hb]; exact d4
  have hstr' : vk_R own is text sa s' := vk_R.warm hW0 hstr
  obtain ⟨U, hsteps, hrun, hend, hW, hsame, ce, hce, hO⟩ := X₁.ctorThrowS hexec htr (own := own) (cls := cls) (names := names) (ic := ic) hown' hcls hnames h (fun x hx => nomatch hx) hfX hkX hcellA (by rw [hhp, hT]; exact Nat.le_refl _) (msg := .ref sa) rfl
    (g := { method := m, pc := pc + 7, locals := ls, stack := .ref sa :: .ref T.heap.size :: .ref T.heap.size :: rest, locked := none }) rfl hsize rfl rfl (rest := rest) rfl
    (by rw [hb]; exact d7) (by rw [hb]; exact d10) hout hRframes (by simp only [List.map_cons, List.sum_cons, hcat]; omega) hlocks
  obtain ⟨f1, f2⟩ := vx_frame hsame
  rw [hhp] at f1 f2
  have hWs : s.WarmedH U.vm := State.WarmedH.trans hW0 hW
  have hcl : s.vm.findClass cls = some ce.cls := by
    have h9 := hO.cls
    rw [hvm] at h9
    exact h9
  have hall : s.sameButNew ({ U with vm := s.vm } : State) locs mc ms := by
    subst hA
    obtain ⟨e1, e2⟩ := hsame
    rw [State.setFrames_setFrames] at e1
    have h2 : (T.setVm s.vm).sameButNew ({ U with vm := s.vm } : State) [] (0 + 1) (0 + 6) := ⟨e1, e2⟩
    have h3 := X.same.trans h2
    rw [List.append_nil] at h3
    exact h3.mono hc hs
  refine ⟨U, ?_, .threw T.heap.size, hrun, hend, Or.inr ⟨T.heap.size, rfl, cls, ce, locs, hx U hWs.alike f1 (fun q hq => f2 q hq (fun z hz => nomatch hz)), hce, hO.vm, hcl, hWs, hall, hf⟩⟩
  refine st1 _ ?_
  show Steps p.tables e below (T1.setTop { method := m, pc := pc + 3, locals := ls, stack := .ref T.heap.size :: rest, locked := none }) _
  jvm_step X₁.here [X₁.here.top, hexec, d3', Value.category]
  exact X₁.ldcStringW hexec (own := own) (text := text) (index := is) (a := sa) hown' hstr'.1 hstr'.2
    (g := { method := m, pc := pc + 4, locals := ls, stack := .ref T.heap.size :: .ref T.heap.size :: rest, locked := none }) rfl d4' _ hsteps
end Ends
section Bodies
variable {l : Launch}
theorem vx_ofW {y : MethodName} {ws ws' : List Cond} {rm : Room} {Pc : Array Value → State → Prop} {Qc : Array Value → State → Outcome → State → Prop} {XC : String → State → State → Prop} {mc ms : Nat} {free : Addr → Prop} {cc : ByteArray} {maxL : Nat} {ret : Option FieldType}
    (hy : plainName y.cls = true) (hw : ws = Cond.code y cc maxL ret :: ws')
    (body : ∀ p e s m args below meth c s₁, BodyLoose p l y (headSpec ws rm) cc maxL ret e s m args below meth c s₁ → c.maxLocals = maxL → (∀ x ∈ c.exceptionTable.toList, False) → Pc args s →
      W p l e (headSpec ws rm).room s m args below meth c s.heap [] 0 0 (vx_MQ below Qc XC args s mc ms free) (entryFrame m args maxL)) : vx_Met l y ws rm Pc Qc XC mc ms free := by
  refine MetFree.of_bodyS (code := cc) (maxLocals := maxL) (ret := ret) hy ?_ ?_
  · intro args s m h hn
    obtain ⟨meth, c, h1, h2, h3, h4, h5, h6, -, -⟩ := Cond.code_spec hn (atoms_spec (ws := ws) h _ (by rw [hw]; exact List.mem_cons_self))
    exact ⟨meth, c, h1, h2, h3, h4, h5, h6⟩
  · intro p e s m args below meth c s₁ B hml hP _
    have hh0 : s₁.heap = s.heap := by rw [B.state]; rfl
    have ht : ∀ x ∈ c.exceptionTable.toList, False := by
      obtain ⟨meth9, c9, h1, h2, -, -, -, -, h7, -⟩ := Cond.code_spec B.named (atoms_spec (ws := ws) B.pre _ (by rw [hw]; exact List.mem_cons_self))
      cases Option.some.inj (h1.symm.trans B.method)
      cases Option.some.inj (h2.symm.trans (Stand.of_body B).code)
      intro x hx
      rw [Array.isEmpty_iff.mp h7] at hx
      cases hx
    obtain ⟨t, a1, o, b1, b2, b3⟩ := body p e s m args below meth c s₁ B hml ht hP s₁ hh0 (Stand.of_body B)
    exact ⟨t, o, a1, b1, b2, b3⟩
/-- the table of a body with handlers -/
theorem vx_table {p : Program} {x y : MethodName} {S : Spec} {cc bytes : ByteArray} {maxL maxL' : Nat} {ret ret' : Option FieldType} {e : Env} {s s₁ : State} {m : MethodId} {args : Array Value} {below : List Frame} {meth : Method} {c : Code} {hh : List (Nat × Nat × Nat × Nat)}
    (B : BodyLoose p l y S cc maxL ret e s m args below meth c s₁) (h : (Cond.codeWith y bytes maxL' ret' hh).before args s = true) : c.exceptionTable.toList = tableOf hh := by
  obtain ⟨m9, meth9, c9, hn9, h1, h2, -, -, h6, -⟩ := Cond.codeWith_spec h
  cases Option.some.inj (hn9.symm.trans B.named)
  cases Option.some.inj (h1.symm.trans B.method)
  cases Option.some.inj (h2.symm.trans (Stand.of_body B).code)
  rw [← h6, table_eq]
end Bodies
end VXA
/-! ===== END ===== -/
/-! ===== BEGIN a static call of a method with an exception table ===== -/
section VXS
variable {p : Program} {l : Launch} {e : Env} {R : Room} {s : State} {m : MethodId} {args : Array Value} {below : List Frame} {meth : Method} {c : Code} {T : State} {H : Heap} {locs : List Loc} {cells slots : Nat}
abbrev vx_CSW (R : Room) (s : State) (args : Array Value) (own : String) (index : Nat) (y : MethodName) (bytes : ByteArray) (maxL : Nat) (ret : Option FieldType) (hh : List (Nat × Nat × Nat × Nat)) (ws : List Cond) (rm : Room) (mc ms n : Nat) : Prop :=
  (rm.cells = mc ∧ rm.slots = ms ∧ rm.frames + 1 ≤ R.frames ∧ 8 + (maxL + 11) + rm.locals ≤ R.locals ∧ (∀ w ∈ ws, ∀ (a' : Array Value) (U : State), s.WarmedH U.vm → w.before a' U = true) ∧ Cond.codeWith y bytes maxL ret hh ∈ ws) ∧
  (Cond.codeWith y bytes maxL ret hh).before args s = true ∧ (Cond.initialized y.cls).before args s = true ∧ (y.cls ≠ "java/lang/invoke/MethodHandle" ∧ y.cls ≠ "java/lang/invoke/VarHandle") ∧
  (∀ sig, parseMethodDescriptor y.desc = some sig → n = sig.parameters.length) ∧ (Cond.methodLink own index y).before args s = true ∧ (Cond.static y).before args s = true
theorem vx_cwSW {own : String} {index maxL mc ms : Nat} {y : MethodName} {bytes : ByteArray} {ret : Option FieldType} {hh : List (Nat × Nat × Nat × Nat)} {Ts ws ws' : List Cond} {rm : Room} (n : Nat) (ht : ∀ w ∈ Ts, w.before args s = true) (hT : GoodIn Ts (va_wsS own index y ws)) (hw : ws = Cond.codeWith y bytes maxL ret hh :: ws') (hrc : rm.cells = mc) (hrs : rm.slots = ms)
    (hd : y.cls ≠ "java/lang/invoke/MethodHandle" ∧ y.cls ≠ "java/lang/invoke/VarHandle" ∧ (parseMethodDescriptor y.desc).map (fun d => d.parameters.length) = some n) (hR : rm.frames + 1 ≤ R.frames ∧ 8 + (maxL + 11) + rm.locals ≤ R.locals) :
    vx_CSW R s args own index y bytes maxL ret hh ws rm mc ms n := by
  have ok : ∀ w ∈ va_wsS own index y ws, w.before args s = true := fun w h => ht w (hT w h).1
  have hG : GoodIn Ts ws := fun w h => hT w (by unfold va_wsS; exact List.mem_append_right _ h)
  have hc : Cond.codeWith y bytes maxL ret hh ∈ ws := by rw [hw]; exact List.mem_cons_self
  refine ⟨⟨hrc, hrs, hR.1, hR.2, pay_in ht hG, hc⟩, ht _ (hG _ hc).1, ok _ (by simp [va_wsS]), ⟨hd.1, hd.2.1⟩, fun sig h => ?_, ok _ (by simp [va_wsS]), ok _ (by simp [va_wsS])⟩
  have h2 := hd.2.2
  rw [h] at h2
  exact (Option.some.inj h2).symm
theorem vx_callSW (X : Stand p l e R s m args below meth c T locs cells slots) (hexec : p.tables.exec = Jvm.exec) {own : String} {index : Nat} {y : MethodName} {bytes : ByteArray} {maxL : Nat} {ret : Option FieldType} {hh : List (Nat × Nat × Nat × Nat)}
    (hown : s.vm.findClass own = some m.cls) (hlink : (Cond.methodLink own index y).before args s = true) (hstat : (Cond.static y).before args s = true) (hinit : (Cond.initialized y.cls).before args s = true)
    (hcode : (Cond.codeWith y bytes maxL ret hh).before args s = true) (hy : y.cls ≠ "java/lang/invoke/MethodHandle" ∧ y.cls ≠ "java/lang/invoke/VarHandle")
    {W9 : Nat} {Pre : Pt → Array Value → Prop} {Post : Pt → Array Value → Option Value → Pt → Prop} (hK : Back l R p e below s args y 3 W9 Pre Post)
    {g : JFrame} (hg : g.method = m) (hsize : g.locals.size = c.maxLocals) {argsL rest : List Value} (hlen : ∀ sig, parseMethodDescriptor y.desc = some sig → argsL.length = sig.parameters.length)
    (hstack : g.stack = argsL.reverse ++ rest) (hW : 2 * g.monitorRoom + (rest.map fun v => v.category).sum ≤ W9) (hdg : decode c.code g.pc = .ok (.invokestatic index, 3))
    (hpre : ∀ vm₁, s.WarmedH vm₁ → Pre ⟨T.setVm vm₁, locs, cells, slots⟩ argsL.toArray) :
    ∃ (v : Option Value) (vm₁ : Vm) (B : Pt), s.WarmedH vm₁ ∧ Stand p l e R s m args below meth c B.U B.locs B.cells B.slots ∧ Post ⟨T.setVm vm₁, locs, cells, slots⟩ argsL.toArray v B ∧
      ∀ target, Steps p.tables e below (B.U.setTop { g with pc := g.pc + 3, stack := v.toList ++ rest }) target → Steps p.tables e below (T.setTop g) target := by
  obtain ⟨mk, methM, cM, hnamed, hmethM, -, -, -, -, -, -, hsigM⟩ := Cond.codeWith_spec hcode
  have hstatic : methM.isStatic = true := Cond.static_spec hnamed hmethM hstat
  obtain ⟨kP, hkP, -⟩ := className_of_methodNamed hnamed
  have hinitP : kP.init = .initialized := Cond.initialized_spec (findClass_of_methodNamed hnamed) hkP hinit
  obtain ⟨vm₁, X₁, hstep₁⟩ := X.invokestatic hexec hown hlink hnamed hmethM hstatic hkP hinitP hy (g := g) hg (argsL := argsL) (rest := rest) (hlen _ hsigM) hstack hdg
  obtain ⟨v, B, X', hpost, hsteps⟩ := hK m meth c ⟨T.setVm vm₁, locs, cells, slots⟩ { g with stack := rest } (.invokestatic index) mk argsL.toArray X₁ hg hsize hdg hW (X₁.named hnamed) (hpre vm₁ X₁.warmed)
  exact ⟨v, vm₁, B, X₁.warmed, X', hpost, fun target h => hstep₁ _ fun acts => by rw [doInvoke_state]; exact hsteps.trans h⟩
theorem vx_runSW {y : MethodName} {bytes cc : ByteArray} {maxL nL mc ms n index : Nat} {ret : Option FieldType} {hh : List (Nat × Nat × Nat × Nat)} {ws : List Cond} {rm : Room} {Pc : Array Value → State → Prop} {Qc : Array Value → State → Outcome → State → Prop} {free : Addr → Prop} {Ts : List Cond} {own : String} {As rest : List Value} {g : JFrame}
    (S : CallFix p m c cc nL s args Ts own) (hM : Met l y ws rm Pc Qc mc ms free) (cw : vx_CSW R s args own index y bytes maxL ret hh ws rm mc ms n) (hp : PreS s H Pc As)
    (hg : g.method = m) (hn : As.length = n) (hsize : g.locals.size = nL) (hstack : g.stack = As.reverse ++ rest) (hW : 2 * g.monitorRoom + (rest.map fun v => v.category).sum ≤ 8) (hdg : decode cc g.pc = .ok (.invokestatic index, 3)) (hf : cells + mc ≤ R.cells ∧ slots + ms ≤ R.slots) :
    va_Run p l e R s m args below meth c H locs cells slots mc ms g rest (Qc As.toArray) (free) := by
  obtain ⟨⟨hrc, hrs, hfr, hlo, hws, hcw⟩, hcode, hini, hy, hlen, hl, hstt⟩ := cw
  have hK : Back l R p e below s args y 3 8 (PreOf R mc ms Pc) (PostOf Qc mc ms free) := va_backW (hh := hh) (bytes := bytes) (maxL := maxL) (ret := ret) hM hp.1 hrc hrs hfr hlo hws hcw (fun a' U hW => word_at hW (Or.inl (by first | rfl | simp [Cond.onTables, Cond.keeps, Cond.steady])) hini)
  obtain ⟨hx, hb, hml, ho, -⟩ := S
  intro T hT X
  obtain ⟨v, vm₁, ⟨U', l2, c2, s2⟩, hW₁, X', ⟨g', mk, t, L, e1, e2, hq, h1, hL, h2, h3⟩, st⟩ := vx_callSW X hx (hh := hh) (bytes := bytes) (maxL := maxL) (ret := ret) ho hl hstt hini hcode hy hK hg (hsize.trans hml.symm) (argsL := As) (rest := rest) (fun sig h => hn.trans (hlen sig h)) hstack hW (by rw [hb]; exact hdg)
    (fun vm₁ hW₁ => ⟨hf.1, hf.2, hp.2 (T.setVm vm₁) hT hW₁⟩)
  dsimp only [Pt.U, Pt.locs, Pt.cells, Pt.slots] at X' e1 e2 h1 h2 h3 st
  subst h1; subst h2; subst h3
  exact ⟨v, (T.setVm vm₁).calling g' mk As.toArray, t, U', L, hT, X', hL, e1, e2, hq, st⟩
/-- not caught here, past rows that name other classes: it goes on to the caller -/
theorem vx_outP {p : Program} {l : Launch} {e : Env} {R : Room} {s : State} {m : MethodId} {args : Array Value} {below : List Frame} {meth : Method} {c : Code} {H : Heap} {locs : List Loc} {cells slots : Nat} {free : Addr → Prop} {ls : Array Slot} {rest : List Value} {Qc : Array Value → State → Outcome → State → Prop} {XC : String → State → State → Prop}
    {pc : Nat} {own E : String} {ce : Cell} {q : Addr} {mc ms : Nat} (hown : s.vm.findClass own = some m.cls) (hlocks : meth.locks = false)
    (hpass : ∀ z ∈ c.exceptionTable.toList, covers z pc = false ∨ (z.catchType ≠ 0 ∧ ∃ nm : String, (Cond.classLink own z.catchType nm).before args s = true ∧ va_Nc E nm s)) (hcell : H[q]? = some ce) (hv : ce.vm = .none) (hcl : s.vm.findClass E = some ce.cls)
    (hx : ∀ t : State, t.heap = H → s.vm.Alike t.vm → XC E s t) (hf : ∀ z ∈ locs, free z.base) (hc : cells ≤ mc) (hs : slots ≤ ms) :
    vx_W p l e R s m args below meth c H locs cells slots (vx_MQ below Qc XC args s mc ms free) (F0 m pc ls rest) q := by
  intro T hT X
  have hpl : e.platform.magicAccessors = ({} : Platform).magicAccessors := by rw [X.admits.platform]
  obtain ⟨vm', hW', X', st⟩ := X.outThrough hlocks q (g := F0 m pc ls rest) rfl rfl rfl (cell := ce) (by rw [hT]; exact hcell) (by rw [hv]; rfl)
    (by obtain ⟨k9, h9, -⟩ := Vm.findClass_spec hcl; exact ⟨k9, h9⟩) (fun z hz => by
      rcases hpass z hz with h | ⟨hz0, nm, hl1, hn1⟩
      · exact Or.inl h
      · obtain ⟨c6, hc6, hcl6⟩ := Cond.classLink_spec hown hl1 e.platform hpl
        obtain ⟨a8, b8, h1, h2, h3⟩ := hn1
        cases Option.some.inj (h1.symm.trans hcl)
        cases Option.some.inj (h2.symm.trans hc6)
        exact Or.inr ⟨hz0, _, hcl6, h3⟩)
  obtain ⟨g₀, hfr⟩ := X'.frames_eq
  have hcell9 : ((T.setVm vm').setFrames (.throwing q :: below)).heap[q]? = some ce := by
    show T.heap[q]? = some ce
    rw [hT]; exact hcell
  have hend : Ended ((T.setVm vm').setFrames (.throwing q :: below)) below (.threw q) := State.frames_setFrames _ (State.cur_lt_of_frames hfr)
  refine ⟨(T.setVm vm').setFrames (.throwing q :: below), ?_, .threw q, X'.here.running, hend, Or.inr ⟨q, rfl, E, ce, locs, hx _ hT (X'.ends _).1.alike, hcell9, hv, hcl, (X'.ends _).1, (X'.ends _).2.mono hc hs, hf⟩⟩
  rw [X.pushThrowing_eq]
  exact st
/-- a thing of a world lies in the heap -/
theorem vx_lt {D : va_G} {cl : List vw_C} {ws : va_W} {H1 : Heap} (h : va_P D cl ws H1) {k : Nat} {q : Nat × va_E} (hk : ws[k]? = some q) : q.1 < H1.size := (h k q hk).lt
end VXS
/-! ===== END ===== -/
/-! ===== BEGIN methods with a table of their own: called by a name, returning or throwing ===== -/
section VXH
/-! vx_backW, vx_callVX, vx_callSX, vx_callVW, vx_runVW, vx_runVX, vx_runSX, vx_ofWH follow the same proofs as their sisters above (Free/Laws.lean, Shelf42/LK1.lean); vx_outP calls Shelf42/NT130.lean (outThrough). -/
section
variable {l : Launch} {R : Room} {p : Program} {e : Env} {below : List Frame} {s : State} {sargs : Array Value} {y : MethodName} {len W9 : Nat}
theorem vx_backW {ws : List Cond} {rm : Room} {Pc : Array Value → State → Prop} {Qc : Array Value → State → Outcome → State → Prop} {XC : String → State → State → Prop} {mc ms : Nat} {free : Addr → Prop} {bytes : ByteArray} {maxL : Nat} {ret : Option FieldType} {hh : List (Nat × Nat × Nat × Nat)}
    (hM : vx_Met l y ws rm Pc Qc XC mc ms free) (hblind : FrameBlind Pc) (hrc : rm.cells = mc) (hrs : rm.slots = ms)
    (hframes : rm.frames + 1 ≤ R.frames) (hlocals : W9 + (maxL + 11) + rm.locals ≤ R.locals)
    (hws : ∀ w ∈ ws, ∀ a' U, s.WarmedH U.vm → w.before a' U = true) (hcode : Cond.codeWith y bytes maxL ret hh ∈ ws) (hinit : ∀ a' U, s.WarmedH U.vm → (Cond.initialized y.cls).before a' U = true) :
    vx_Back l R p e below s sargs y len W9 (PreOf R mc ms Pc) (PostOf Qc mc ms free) (vx_Post XC mc ms free) := by
  intro m meth c A g ig mk a X hg hsize hdg hW hn hp
  have h1 : (headSpec ws rm).pre.before a A.U = true := atoms_intro fun w hw => hws w hw _ _ X.warmed
  have h2 : (Cond.codeWith y bytes maxL ret hh).before a A.U = true := hws _ hcode _ _ X.warmed
  have h3 : (Cond.initialized y.cls).before a A.U = true := hinit _ _ X.warmed
  have h4 : A.cells + (headSpec ws rm).room.cells ≤ R.cells := by rw [show (headSpec ws rm).room.cells = mc from hrc]; exact hp.1
  have h5 : A.slots + (headSpec ws rm).room.slots ≤ R.slots := by rw [show (headSpec ws rm).room.slots = ms from hrs]; exact hp.2.1
  have hPc : Pc a (A.U.calling g mk a) := hblind _ _ _ _ hp.2.2
  obtain ⟨U, Ls, c0, s0⟩ := A
  dsimp only [Pt.U, Pt.locs, Pt.cells, Pt.slots] at h1 h2 h3 h4 h5 X hn hPc ⊢
  obtain ⟨m9, methY, cY, hn9, hmY, hcY, -, hlY, -⟩ := Cond.codeWith_spec h2
  cases Option.some.inj (hn9.symm.trans hn)
  obtain ⟨kY, hkY, -⟩ := className_of_methodNamed hn
  have hinitY : kY.init = .initialized := Cond.initialized_spec (findClass_of_methodNamed hn) hkY h3
  have h : At U g.method c below := by rw [hg]; exact X.here
  have hlocals9 : W9 + (maxL + 11) + (headSpec ws rm).room.locals ≤ R.locals := hlocals
  have happ : (headSpec ws rm).appliesLoose y e.platform (U.calling g mk a) = true :=
    Spec.appliesLoose_calling (g := g) h hdg hn hkY hinitY
      (X.room_calling (g := g) (R' := (headSpec ws rm).room) hsize hmY hcY hframes (by rw [hlY]; omega) h4 h5) h1
  obtain ⟨mid, hmid⟩ := h.above
  have hfr : (U.setTop g).frames = (.java g :: mid) ++ below := by rw [State.frames_setTop' g h.top, hmid]; rfl
  obtain ⟨o, s₂, hsteps, -, hend, hq⟩ := Steps.callFree hM p X.admits X.cas X.clock (acts := []) hfr happ hPc trivial
  have hq' : vx_Q Qc XC mc ms free a (U.calling g mk a) o s₂ := hq
  rw [State.frames_setTop' g h.top] at hend
  obtain ⟨g₀, hg0⟩ := Option.isSome_iff_exists.mp h.top
  obtain ⟨r, hr⟩ := State.topJava?_eq_some.mp hg0
  have hr' : (({ U with heap := s₂.heap, slotsUsed := s₂.slotsUsed } : State).setVm s₂.vm).frames = .java g₀ :: r := hr
  rcases hq' with ⟨hqc, L, hfe, hL⟩ | ⟨q, rfl, E, ce, L, hx, hce, hcv, hcl, hW₂, hsm, hL⟩
  · obtain ⟨⟨v, rfl⟩, hW₂, e2, q2, q3, q4, q5, q6⟩ := id hfe
    have e3 : s₂ = ({ (U.calling g mk a).setFrames s₂.frames with heap := s₂.heap, slotsUsed := s₂.slotsUsed } : State).setVm s₂.vm := by
      have : s₂ = ({ s₂ with vm := (U.calling g mk a).vm } : State).setVm s₂.vm := rfl
      rw [e2] at this
      exact this
    obtain ⟨c₂, i₂, len₂, hc₂, hd₂, hf₂⟩ := hend
    have hW' : U.WarmedH s₂.vm := hW₂
    have hcc : c₂ = c := by
      have h1 : s₂.code? g.method = U.code? g.method := by
        rw [State.code?_eq, State.code?_eq, hW'.alike.method?]
      exact Option.some.inj (hc₂.symm.trans (h1.trans h.code))
    subst hcc
    have hlen : len₂ = len := by rw [hdg] at hd₂; cases hd₂; rfl
    subst hlen
    have hs₂ : s₂ = (({ U with heap := s₂.heap, slotsUsed := s₂.slotsUsed } : State).setVm s₂.vm).setTop { g with pc := g.pc + len₂, stack := v.toList ++ g.stack } := by
      refine e3.trans ?_
      rw [hf₂, State.calling_eq h.top, State.setFrames_setFrames, State.setTop_of_frames _ hr', hr]
      rfl
    have hsame : U.sameButNew ({ U with heap := s₂.heap, slotsUsed := s₂.slotsUsed } : State) L mc ms := by
      refine ⟨?_, q2, q3, q4, q5, q6⟩
      obtain ⟨t, ht, -⟩ := State.frames_cons hr
      show ({ U with heap := s₂.heap, slotsUsed := s₂.slotsUsed } : State) = { U.setFrames U.frames with heap := s₂.heap, slotsUsed := s₂.slotsUsed }
      rw [State.setFrames_self ht]
    subst hg
    refine Or.inl ⟨v, ⟨(({ U with heap := s₂.heap, slotsUsed := s₂.slotsUsed } : State).setVm s₂.vm), Ls ++ L, c0 + mc, s0 + ms⟩,
      ⟨X.admits, X.cas, X.clock, X.frames, X.room, X.hears, X.method, X.code, (X.here.setHeapUsed s₂.heap s₂.slotsUsed).setVm hW'.alike, X.tail, State.WarmedH.trans X.warmed hW', X.limits, X.bytes, X.same.trans (hsame.setVm s.vm)⟩,
      ⟨g, mk, s₂, L, rfl, rfl, hqc, rfl, hL, rfl, rfl⟩, ?_⟩
    show Steps p.tables e below _ ((({ U with heap := s₂.heap, slotsUsed := s₂.slotsUsed } : State).setVm s₂.vm).setTop { g with pc := g.pc + len₂, stack := v.toList ++ g.stack })
    rw [← hs₂]
    exact hsteps
  · obtain ⟨e2, q2, q3, q4, q5, q6⟩ := id hsm
    have e3 : s₂ = ({ (U.calling g mk a).setFrames s₂.frames with heap := s₂.heap, slotsUsed := s₂.slotsUsed } : State).setVm s₂.vm := by
      have : s₂ = ({ s₂ with vm := (U.calling g mk a).vm } : State).setVm s₂.vm := rfl
      rw [e2] at this
      exact this
    have hf₂ : s₂.frames = .throwing q :: .java g :: U.frames.tail := hend
    have hW' : U.WarmedH s₂.vm := hW₂
    have hs₂ : s₂ = ((({ U with heap := s₂.heap, slotsUsed := s₂.slotsUsed } : State).setVm s₂.vm).setTop g).pushFrame (.throwing q) := by
      refine e3.trans ?_
      rw [hf₂, State.calling_eq h.top, State.setFrames_setFrames, State.pushFrame, State.frames_setTop _ hr', State.setTop_of_frames _ hr', State.setFrames_setFrames, hr]
      rfl
    have hsame : U.sameButNew ({ U with heap := s₂.heap, slotsUsed := s₂.slotsUsed } : State) L mc ms := by
      refine ⟨?_, q2, q3, q4, q5, q6⟩
      obtain ⟨t, ht, -⟩ := State.frames_cons hr
      show ({ U with heap := s₂.heap, slotsUsed := s₂.slotsUsed } : State) = { U.setFrames U.frames with heap := s₂.heap, slotsUsed := s₂.slotsUsed }
      rw [State.setFrames_self ht]
    subst hg
    refine Or.inr ⟨q, ⟨(({ U with heap := s₂.heap, slotsUsed := s₂.slotsUsed } : State).setVm s₂.vm), Ls ++ L, c0 + mc, s0 + ms⟩,
      ⟨X.admits, X.cas, X.clock, X.frames, X.room, X.hears, X.method, X.code, (X.here.setHeapUsed s₂.heap s₂.slotsUsed).setVm hW'.alike, X.tail, State.WarmedH.trans X.warmed hW', X.limits, X.bytes, X.same.trans (hsame.setVm s.vm)⟩,
      ⟨g, mk, s₂, L, E, ce, rfl, rfl, hx, hce, hcv, hcl, rfl, hL, rfl, rfl⟩, ?_⟩
    show Steps p.tables e below _ (((({ U with heap := s₂.heap, slotsUsed := s₂.slotsUsed } : State).setVm s₂.vm).setTop g).pushFrame (.throwing q))
    rw [← hs₂]
    exact hsteps
end
variable {p : Program} {l : Launch} {e : Env} {R : Room} {s : State} {m : MethodId} {args : Array Value} {below : List Frame} {meth : Method} {c : Code} {T : State} {H : Heap} {locs : List Loc} {cells slots : Nat}
theorem vx_callVX (X : Stand p l e R s m args below meth c T locs cells slots) (hexec : p.tables.exec = Jvm.exec) {own C : String} {index : Nat} {y : MethodName} {bytes : ByteArray} {maxL : Nat} {ret : Option FieldType} {hh : List (Nat × Nat × Nat × Nat)}
    (hown : s.vm.findClass own = some m.cls) (hlink : (Cond.methodLink own index y).before args s = true) (hinst : (Cond.instanceMethod y).before args s = true) (hsel : (Cond.selects C y y).before args s = true)
    (hcode : (Cond.codeWith y bytes maxL ret hh).before args s = true) (hy : y.cls ≠ "java/lang/invoke/MethodHandle" ∧ y.cls ≠ "java/lang/invoke/VarHandle")
    {W9 : Nat} {Pre : Pt → Array Value → Prop} {Post : Pt → Array Value → Option Value → Pt → Prop} {PostX : Pt → Array Value → Addr → Pt → Prop} (hK : vx_Back l R p e below s args y 3 W9 Pre Post PostX)
    {b : Addr} {cellB : Cell} (hcell : T.heap[b]? = some cellB) (hobj : cellB.vm.isStatics = false) (hcls : s.vm.findClass C = some cellB.cls)
    {g : JFrame} (hg : g.method = m) (hsize : g.locals.size = c.maxLocals) {argsL rest : List Value} (hlen : ∀ sig, parseMethodDescriptor y.desc = some sig → argsL.length = sig.parameters.length)
    (hstack : g.stack = argsL.reverse ++ .ref b :: rest) (hW : 2 * g.monitorRoom + (rest.map fun v => v.category).sum ≤ W9) (hdg : decode c.code g.pc = .ok (.invokevirtual index, 3))
    (hpre : ∀ vm₁, s.WarmedH vm₁ → Pre ⟨T.setVm vm₁, locs, cells, slots⟩ (Value.ref b :: argsL).toArray) :
    (∃ (v : Option Value) (vm₁ : Vm) (B : Pt), s.WarmedH vm₁ ∧ Stand p l e R s m args below meth c B.U B.locs B.cells B.slots ∧ Post ⟨T.setVm vm₁, locs, cells, slots⟩ (Value.ref b :: argsL).toArray v B ∧
      ∀ target, Steps p.tables e below (B.U.setTop { g with pc := g.pc + 3, stack := v.toList ++ rest }) target → Steps p.tables e below (T.setTop g) target) ∨
    (∃ (q : Addr) (vm₁ : Vm) (B : Pt), s.WarmedH vm₁ ∧ Stand p l e R s m args below meth c B.U B.locs B.cells B.slots ∧ PostX ⟨T.setVm vm₁, locs, cells, slots⟩ (Value.ref b :: argsL).toArray q B ∧
      Steps p.tables e below (T.setTop g) ((B.U.setTop { g with stack := rest }).pushFrame (.throwing q))) := by
  obtain ⟨mk, methM, hnamed, hmethM, hstM, habM⟩ := Cond.instanceMethod_spec hinst
  obtain ⟨m8, methM', cM, hn8, hmethM', -, -, -, -, -, -, hsigM⟩ := Cond.codeWith_spec hcode
  cases Option.some.inj (hn8.symm.trans hnamed)
  cases hmethM.symm.trans hmethM'
  obtain ⟨c2, r2, m2, q1, q2, q3, q4, kP, hkP, hkPi⟩ := Cond.selects_spec hsel
  cases hcls.symm.trans q1
  cases (State.methodFound?_of_named hnamed hy).symm.trans q2
  cases hnamed.symm.trans q3
  have hselP : selectMethod e.platform s.vm cellB.cls mk = .method mk := by rw [Launch.admits_selectMethod X.admits]; exact q4
  obtain ⟨vm₁, X₁, hstep₁⟩ := X.invokevirtual hexec hown hlink hnamed hmethM hstM hkP hkPi hy (a := b) (cell := cellB) hcell
    (fun z h => by rw [h] at hobj; cases hobj) hselP hmethM habM hkP hkPi (g := g) hg (argsL := argsL) (rest := rest) (hlen _ hsigM) hstack hdg
  rcases hK m meth c ⟨T.setVm vm₁, locs, cells, slots⟩ { g with stack := rest } (.invokevirtual index) mk (Value.ref b :: argsL).toArray X₁ hg hsize hdg hW (X₁.named hnamed) (hpre vm₁ X₁.warmed) with ⟨v, B, X', hpost, hsteps⟩ | ⟨q, B, X', hpost, hsteps⟩
  · exact Or.inl ⟨v, vm₁, B, X₁.warmed, X', hpost, fun target h => hstep₁ _ fun acts => by rw [doInvoke_state]; exact hsteps.trans h⟩
  · exact Or.inr ⟨q, vm₁, B, X₁.warmed, X', hpost, hstep₁ _ fun acts => by rw [doInvoke_state]; exact hsteps⟩
theorem vx_callSX (X : Stand p l e R s m args below meth c T locs cells slots) (hexec : p.tables.exec = Jvm.exec) {own : String} {index : Nat} {y : MethodName} {bytes : ByteArray} {maxL : Nat} {ret : Option FieldType} {hh : List (Nat × Nat × Nat × Nat)}
    (hown : s.vm.findClass own = some m.cls) (hlink : (Cond.methodLink own index y).before args s = true) (hstat : (Cond.static y).before args s = true) (hinit : (Cond.initialized y.cls).before args s = true)
    (hcode : (Cond.codeWith y bytes maxL ret hh).before args s = true) (hy : y.cls ≠ "java/lang/invoke/MethodHandle" ∧ y.cls ≠ "java/lang/invoke/VarHandle")
    {W9 : Nat} {Pre : Pt → Array Value → Prop} {Post : Pt → Array Value → Option Value → Pt → Prop} {PostX : Pt → Array Value → Addr → Pt → Prop} (hK : vx_Back l R p e below s args y 3 W9 Pre Post PostX)
    {g : JFrame} (hg : g.method = m) (hsize : g.locals.size = c.maxLocals) {argsL rest : List Value} (hlen : ∀ sig, parseMethodDescriptor y.desc = some sig → argsL.length = sig.parameters.length)
    (hstack : g.stack = argsL.reverse ++ rest) (hW : 2 * g.monitorRoom + (rest.map fun v => v.category).sum ≤ W9) (hdg : decode c.code g.pc = .ok (.invokestatic index, 3))
    (hpre : ∀ vm₁, s.WarmedH vm₁ → Pre ⟨T.setVm vm₁, locs, cells, slots⟩ argsL.toArray) :
    (∃ (v : Option Value) (vm₁ : Vm) (B : Pt), s.WarmedH vm₁ ∧ Stand p l e R s m args below meth c B.U B.locs B.cells B.slots ∧ Post ⟨T.setVm vm₁, locs, cells, slots⟩ argsL.toArray v B ∧
      ∀ target, Steps p.tables e below (B.U.setTop { g with pc := g.pc + 3, stack := v.toList ++ rest }) target → Steps p.tables e below (T.setTop g) target) ∨
    (∃ (q : Addr) (vm₁ : Vm) (B : Pt), s.WarmedH vm₁ ∧ Stand p l e R s m args below meth c B.U B.locs B.cells B.slots ∧ PostX ⟨T.setVm vm₁, locs, cells, slots⟩ argsL.toArray q B ∧
      Steps p.tables e below (T.setTop g) ((B.U.setTop { g with stack := rest }).pushFrame (.throwing q))) := by
  obtain ⟨mk, methM, cM, hnamed, hmethM, -, -, -, -, -, -, hsigM⟩ := Cond.codeWith_spec hcode
  have hstatic : methM.isStatic = true := Cond.static_spec hnamed hmethM hstat
  obtain ⟨kP, hkP, -⟩ := className_of_methodNamed hnamed
  have hinitP : kP.init = .initialized := Cond.initialized_spec (findClass_of_methodNamed hnamed) hkP hinit
  obtain ⟨vm₁, X₁, hstep₁⟩ := X.invokestatic hexec hown hlink hnamed hmethM hstatic hkP hinitP hy (g := g) hg (argsL := argsL) (rest := rest) (hlen _ hsigM) hstack hdg
  rcases hK m meth c ⟨T.setVm vm₁, locs, cells, slots⟩ { g with stack := rest } (.invokestatic index) mk argsL.toArray X₁ hg hsize hdg hW (X₁.named hnamed) (hpre vm₁ X₁.warmed) with ⟨v, B, X', hpost, hsteps⟩ | ⟨q, B, X', hpost, hsteps⟩
  · exact Or.inl ⟨v, vm₁, B, X₁.warmed, X', hpost, fun target h => hstep₁ _ fun acts => by rw [doInvoke_state]; exact hsteps.trans h⟩
  · exact Or.inr ⟨q, vm₁, B, X₁.warmed, X', hpost, hstep₁ _ fun acts => by rw [doInvoke_state]; exact hsteps⟩
theorem vx_callVW (X : Stand p l e R s m args below meth c T locs cells slots) (hexec : p.tables.exec = Jvm.exec) {own C : String} {index : Nat} {y : MethodName} {bytes : ByteArray} {maxL : Nat} {ret : Option FieldType} {hh : List (Nat × Nat × Nat × Nat)}
    (hown : s.vm.findClass own = some m.cls) (hlink : (Cond.methodLink own index y).before args s = true) (hinst : (Cond.instanceMethod y).before args s = true) (hsel : (Cond.selects C y y).before args s = true)
    (hcode : (Cond.codeWith y bytes maxL ret hh).before args s = true) (hy : y.cls ≠ "java/lang/invoke/MethodHandle" ∧ y.cls ≠ "java/lang/invoke/VarHandle")
    {W9 : Nat} {Pre : Pt → Array Value → Prop} {Post : Pt → Array Value → Option Value → Pt → Prop} (hK : Back l R p e below s args y 3 W9 Pre Post)
    {b : Addr} {cellB : Cell} (hcell : T.heap[b]? = some cellB) (hobj : cellB.vm.isStatics = false) (hcls : s.vm.findClass C = some cellB.cls)
    {g : JFrame} (hg : g.method = m) (hsize : g.locals.size = c.maxLocals) {argsL rest : List Value} (hlen : ∀ sig, parseMethodDescriptor y.desc = some sig → argsL.length = sig.parameters.length)
    (hstack : g.stack = argsL.reverse ++ .ref b :: rest) (hW : 2 * g.monitorRoom + (rest.map fun v => v.category).sum ≤ W9) (hdg : decode c.code g.pc = .ok (.invokevirtual index, 3))
    (hpre : ∀ vm₁, s.WarmedH vm₁ → Pre ⟨T.setVm vm₁, locs, cells, slots⟩ (Value.ref b :: argsL).toArray) :
    ∃ (v : Option Value) (vm₁ : Vm) (B : Pt), s.WarmedH vm₁ ∧ Stand p l e R s m args below meth c B.U B.locs B.cells B.slots ∧ Post ⟨T.setVm vm₁, locs, cells, slots⟩ (Value.ref b :: argsL).toArray v B ∧
      ∀ target, Steps p.tables e below (B.U.setTop { g with pc := g.pc + 3, stack := v.toList ++ rest }) target → Steps p.tables e below (T.setTop g) target := by
  obtain ⟨mk, methM, hnamed, hmethM, hstM, habM⟩ := Cond.instanceMethod_spec hinst
  obtain ⟨m8, methM', cM, hn8, hmethM', -, -, -, -, -, -, hsigM⟩ := Cond.codeWith_spec hcode
  cases Option.some.inj (hn8.symm.trans hnamed)
  cases hmethM.symm.trans hmethM'
  obtain ⟨c2, r2, m2, q1, q2, q3, q4, kP, hkP, hkPi⟩ := Cond.selects_spec hsel
  cases hcls.symm.trans q1
  cases (State.methodFound?_of_named hnamed hy).symm.trans q2
  cases hnamed.symm.trans q3
  have hselP : selectMethod e.platform s.vm cellB.cls mk = .method mk := by rw [Launch.admits_selectMethod X.admits]; exact q4
  obtain ⟨vm₁, X₁, hstep₁⟩ := X.invokevirtual hexec hown hlink hnamed hmethM hstM hkP hkPi hy (a := b) (cell := cellB) hcell
    (fun z h => by rw [h] at hobj; cases hobj) hselP hmethM habM hkP hkPi (g := g) hg (argsL := argsL) (rest := rest) (hlen _ hsigM) hstack hdg
  obtain ⟨v, B, X', hpost, hsteps⟩ := hK m meth c ⟨T.setVm vm₁, locs, cells, slots⟩ { g with stack := rest } (.invokevirtual index) mk (Value.ref b :: argsL).toArray X₁ hg hsize hdg hW (X₁.named hnamed) (hpre vm₁ X₁.warmed)
  exact ⟨v, vm₁, B, X₁.warmed, X', hpost, fun target h => hstep₁ _ fun acts => by rw [doInvoke_state]; exact hsteps.trans h⟩
abbrev vx_CVW (R : Room) (s : State) (args : Array Value) (own C : String) (index : Nat) (y : MethodName) (bytes : ByteArray) (maxL : Nat) (ret : Option FieldType) (hh : List (Nat × Nat × Nat × Nat)) (ws : List Cond) (rm : Room) (mc ms n : Nat) : Prop :=
  (rm.cells = mc ∧ rm.slots = ms ∧ rm.frames + 1 ≤ R.frames ∧ 8 + (maxL + 11) + rm.locals ≤ R.locals ∧ (∀ w ∈ ws, ∀ (a' : Array Value) (U : State), s.WarmedH U.vm → w.before a' U = true) ∧ Cond.codeWith y bytes maxL ret hh ∈ ws) ∧
  (Cond.codeWith y bytes maxL ret hh).before args s = true ∧ (Cond.initialized y.cls).before args s = true ∧ (y.cls ≠ "java/lang/invoke/MethodHandle" ∧ y.cls ≠ "java/lang/invoke/VarHandle") ∧
  (∀ sig, parseMethodDescriptor y.desc = some sig → n = sig.parameters.length) ∧ (Cond.methodLink own index y).before args s = true ∧ (Cond.instanceMethod y).before args s = true ∧ (Cond.selects C y y).before args s = true
theorem vx_cwVW {own C : String} {index maxL mc ms : Nat} {y : MethodName} {bytes : ByteArray} {ret : Option FieldType} {hh : List (Nat × Nat × Nat × Nat)} {Ts ws ws' : List Cond} {rm : Room} (n : Nat) (ht : ∀ w ∈ Ts, w.before args s = true) (hT : GoodIn Ts (wsV own index C y ws)) (hw : ws = Cond.codeWith y bytes maxL ret hh :: ws') (hrc : rm.cells = mc) (hrs : rm.slots = ms)
    (hd : y.cls = C ∧ y.cls ≠ "java/lang/invoke/MethodHandle" ∧ y.cls ≠ "java/lang/invoke/VarHandle" ∧ (parseMethodDescriptor y.desc).map (fun d => d.parameters.length) = some n) (hR : rm.frames + 1 ≤ R.frames ∧ 8 + (maxL + 11) + rm.locals ≤ R.locals) :
    vx_CVW R s args own C index y bytes maxL ret hh ws rm mc ms n := by
  obtain ⟨hC, hd⟩ := hd
  subst hC
  have ok : ∀ w ∈ wsV own index y.cls y ws, w.before args s = true := fun w h => ht w (hT w h).1
  have hG : GoodIn Ts ws := fun w h => hT w (by unfold wsV; exact List.mem_append_right _ h)
  have hc : Cond.codeWith y bytes maxL ret hh ∈ ws := by rw [hw]; exact List.mem_cons_self
  refine ⟨⟨hrc, hrs, hR.1, hR.2, pay_in ht hG, hc⟩, ht _ (hG _ hc).1, ok _ (by simp [wsV]), ⟨hd.1, hd.2.1⟩, fun sig h => ?_, ok _ (by simp [wsV]), ok _ (by simp [wsV]), ok _ (by simp [wsV])⟩
  have h2 := hd.2.2
  rw [h] at h2
  exact (Option.some.inj h2).symm
theorem vx_runVW {y : MethodName} {bytes cc : ByteArray} {maxL nL mc ms n index : Nat} {ret : Option FieldType} {hh : List (Nat × Nat × Nat × Nat)} {ws : List Cond} {rm : Room} {Pc : Array Value → State → Prop} {Qc : Array Value → State → Outcome → State → Prop} {free : Addr → Prop} {Ts : List Cond} {own C : String} {b : Addr} {As rest : List Value} {g : JFrame}
    (S : CallFix p m c cc nL s args Ts own) (hM : Met l y ws rm Pc Qc mc ms free) (cw : vx_CVW R s args own C index y bytes maxL ret hh ws rm mc ms n) (hp : PreV s H C b Pc As)
    (hg : g.method = m) (hn : As.length = n) (hsize : g.locals.size = nL) (hstack : g.stack = As.reverse ++ .ref b :: rest) (hW : 2 * g.monitorRoom + (rest.map fun v => v.category).sum ≤ 8) (hdg : decode cc g.pc = .ok (.invokevirtual index, 3)) (hf : cells + mc ≤ R.cells ∧ slots + ms ≤ R.slots) :
    va_Run p l e R s m args below meth c H locs cells slots mc ms g rest (Qc (Value.ref b :: As).toArray) free := by
  obtain ⟨⟨hrc, hrs, hfr, hlo, hws, hcw⟩, hcode, hini, hy, hlen, hl, hin, hse⟩ := cw
  have hK : Back l R p e below s args y 3 8 (PreOf R mc ms Pc) (PostOf Qc mc ms free) := va_backW (hh := hh) (bytes := bytes) (maxL := maxL) (ret := ret) hM hp.1 hrc hrs hfr hlo hws hcw (fun a' U hW => word_at hW (Or.inl (by first | rfl | simp [Cond.onTables, Cond.keeps, Cond.steady])) hini)
  obtain ⟨hx, hb, hml, ho, -⟩ := S
  obtain ⟨-, ⟨cellB, hcB, hoB, hclB⟩, hPc⟩ := hp
  intro T hT X
  obtain ⟨v, vm₁, ⟨U', l2, c2, s2⟩, hW₁, X', ⟨g', mk, t, L, e1, e2, hq, h1, hL, h2, h3⟩, st⟩ := vx_callVW X hx (C := C) (hh := hh) (bytes := bytes) (maxL := maxL) (ret := ret) ho hl hin hse hcode hy hK (by rw [hT]; exact hcB) hoB hclB hg (hsize.trans hml.symm) (argsL := As) (rest := rest) (fun sig h => hn.trans (hlen sig h)) hstack hW (by rw [hb]; exact hdg)
    (fun vm₁ hW₁ => ⟨hf.1, hf.2, hPc (T.setVm vm₁) hT hW₁⟩)
  dsimp only [Pt.U, Pt.locs, Pt.cells, Pt.slots] at X' e1 e2 h1 h2 h3 st
  subst h1; subst h2; subst h3
  exact ⟨v, (T.setVm vm₁).calling g' mk (Value.ref b :: As).toArray, t, U', L, hT, X', hL, e1, e2, hq, st⟩
section
variable {y : MethodName} {bytes cc : ByteArray} {maxL nL mc ms n index : Nat} {ret : Option FieldType} {ws : List Cond} {rm : Room} {Pc : Array Value → State → Prop} {Qc : Array Value → State → Outcome → State → Prop} {XC : String → State → State → Prop} {free : Addr → Prop} {Ts : List Cond} {own C : String} {b : Addr} {As rest : List Value} {g : JFrame}
theorem vx_runVX {hh : List (Nat × Nat × Nat × Nat)} (S : CallFix p m c cc nL s args Ts own) (hM : vx_Met l y ws rm Pc Qc XC mc ms free) (cw : vx_CVW R s args own C index y bytes maxL ret hh ws rm mc ms n) (hp : PreV s H C b Pc As)
    (hg : g.method = m) (hn : As.length = n) (hsize : g.locals.size = nL) (hstack : g.stack = As.reverse ++ .ref b :: rest) (hW : 2 * g.monitorRoom + (rest.map fun v => v.category).sum ≤ 8) (hdg : decode cc g.pc = .ok (.invokevirtual index, 3)) (hf : cells + mc ≤ R.cells ∧ slots + ms ≤ R.slots) :
    vx_Run p l e R s m args below meth c H locs cells slots mc ms g rest (Qc (Value.ref b :: As).toArray) XC free := by
  obtain ⟨⟨hrc, hrs, hfr, hlo, hws, hcw⟩, hcode, hini, hy, hlen, hl, hin, hse⟩ := cw
  have hK : vx_Back l R p e below s args y 3 8 (PreOf R mc ms Pc) (PostOf Qc mc ms free) (vx_Post XC mc ms free) := vx_backW (hh := hh) (bytes := bytes) (maxL := maxL) (ret := ret) hM hp.1 hrc hrs hfr hlo hws hcw (fun a' U hW => word_at hW (Or.inl (by first | rfl | simp [Cond.onTables, Cond.keeps, Cond.steady])) hini)
  obtain ⟨hx, hb, hml, ho, -⟩ := S
  obtain ⟨-, ⟨cellB, hcB, hoB, hclB⟩, hPc⟩ := hp
  intro T hT X
  rcases vx_callVX X hx (C := C) (hh := hh) (bytes := bytes) (maxL := maxL) (ret := ret) ho hl hin hse hcode hy hK (by rw [hT]; exact hcB) hoB hclB hg (hsize.trans hml.symm) (argsL := As) (rest := rest) (fun sig h => hn.trans (hlen sig h)) hstack hW (by rw [hb]; exact hdg)
    (fun vm₁ hW₁ => ⟨hf.1, hf.2, hPc (T.setVm vm₁) hT hW₁⟩) with ⟨v, vm₁, ⟨U', l2, c2, s2⟩, hW₁, X', ⟨g', mk, t, L, e1, e2, hq, h1, hL, h2, h3⟩, st⟩ | ⟨q, vm₁, ⟨U', l2, c2, s2⟩, hW₁, X', ⟨g', mk, t, L, E, ce, e1, e2, hq, hce, hcv, hcl, h1, hL, h2, h3⟩, st⟩
  · dsimp only [Pt.U, Pt.locs, Pt.cells, Pt.slots] at X' e1 e2 h1 h2 h3 st
    subst h1; subst h2; subst h3
    exact Or.inl ⟨v, (T.setVm vm₁).calling g' mk (Value.ref b :: As).toArray, t, U', L, hT, X', hL, e1, e2, hq, st⟩
  · dsimp only [Pt.U, Pt.locs, Pt.cells, Pt.slots] at X' e1 e2 h1 h2 h3 st hcl
    subst h1; subst h2; subst h3
    exact Or.inr ⟨q, (T.setVm vm₁).calling g' mk (Value.ref b :: As).toArray, t, U', L, E, ce, hT, X', hL, e1, e2, hq, hce, hcv, vx_cls hW₁ hcl, st⟩
theorem vx_runSX {hh : List (Nat × Nat × Nat × Nat)} (S : CallFix p m c cc nL s args Ts own) (hM : vx_Met l y ws rm Pc Qc XC mc ms free) (cw : vx_CSW R s args own index y bytes maxL ret hh ws rm mc ms n) (hp : PreS s H Pc As)
    (hg : g.method = m) (hn : As.length = n) (hsize : g.locals.size = nL) (hstack : g.stack = As.reverse ++ rest) (hW : 2 * g.monitorRoom + (rest.map fun v => v.category).sum ≤ 8) (hdg : decode cc g.pc = .ok (.invokestatic index, 3)) (hf : cells + mc ≤ R.cells ∧ slots + ms ≤ R.slots) :
    vx_Run p l e R s m args below meth c H locs cells slots mc ms g rest (Qc As.toArray) XC free := by
  obtain ⟨⟨hrc, hrs, hfr, hlo, hws, hcw⟩, hcode, hini, hy, hlen, hl, hstt⟩ := cw
  have hK : vx_Back l R p e below s args y 3 8 (PreOf R mc ms Pc) (PostOf Qc mc ms free) (vx_Post XC mc ms free) := vx_backW (hh := hh) (bytes := bytes) (maxL := maxL) (ret := ret) hM hp.1 hrc hrs hfr hlo hws hcw (fun a' U hW => word_at hW (Or.inl (by first | rfl | simp [Cond.onTables, Cond.keeps, Cond.steady])) hini)
  obtain ⟨hx, hb, hml, ho, -⟩ := S
  intro T hT X
  rcases vx_callSX X hx (hh := hh) (bytes := bytes) (maxL := maxL) (ret := ret) ho hl hstt hini hcode hy hK hg (hsize.trans hml.symm) (argsL := As) (rest := rest) (fun sig h => hn.trans (hlen sig h)) hstack hW (by rw [hb]; exact hdg)
    (fun vm₁ hW₁ => ⟨hf.1, hf.2, hp.2 (T.setVm vm₁) hT hW₁⟩) with ⟨v, vm₁, ⟨U', l2, c2, s2⟩, hW₁, X', ⟨g', mk, t, L, e1, e2, hq, h1, hL, h2, h3⟩, st⟩ | ⟨q, vm₁, ⟨U', l2, c2, s2⟩, hW₁, X', ⟨g', mk, t, L, E, ce, e1, e2, hq, hce, hcv, hcl, h1, hL, h2, h3⟩, st⟩
  · dsimp only [Pt.U, Pt.locs, Pt.cells, Pt.slots] at X' e1 e2 h1 h2 h3 st
    subst h1; subst h2; subst h3
    exact Or.inl ⟨v, (T.setVm vm₁).calling g' mk As.toArray, t, U', L, hT, X', hL, e1, e2, hq, st⟩
  · dsimp only [Pt.U, Pt.locs, Pt.cells, Pt.slots] at X' e1 e2 h1 h2 h3 st hcl
    subst h1; subst h2; subst h3
    exact Or.inr ⟨q, (T.setVm vm₁).calling g' mk As.toArray, t, U', L, E, ce, hT, X', hL, e1, e2, hq, hce, hcv, vx_cls hW₁ hcl, st⟩
end
end VXH
theorem vx_ofWH {l : Launch} {y : MethodName} {ws ws' : List Cond} {rm : Room} {Pc : Array Value → State → Prop} {Qc : Array Value → State → Outcome → State → Prop} {XC : String → State → State → Prop} {mc ms : Nat} {free : Addr → Prop} {cc : ByteArray} {maxL : Nat} {ret : Option FieldType} {hh : List (Nat × Nat × Nat × Nat)}
    (hy : plainName y.cls = true) (hw : ws = Cond.codeWith y cc maxL ret hh :: ws')
    (body : ∀ p e s m args below meth c s₁, BodyLoose p l y (headSpec ws rm) cc maxL ret e s m args below meth c s₁ → c.maxLocals = maxL → Pc args s →
      W p l e (headSpec ws rm).room s m args below meth c s.heap [] 0 0 (vx_MQ below Qc XC args s mc ms free) (entryFrame m args maxL)) : vx_Met l y ws rm Pc Qc XC mc ms free := by
  refine MetFree.of_bodyS (code := cc) (maxLocals := maxL) (ret := ret) hy ?_ ?_
  · intro args s m h hn
    obtain ⟨m9, meth, c, hn9, h1, h2, h3, h4, -, h5, h6, -⟩ := Cond.codeWith_spec (atoms_spec (ws := ws) h _ (by rw [hw]; exact List.mem_cons_self))
    cases hn.symm.trans hn9
    exact ⟨meth, c, h1, h2, h3, h4, h5, h6⟩
  · intro p e s m args below meth c s₁ B hml hP _
    have hh0 : s₁.heap = s.heap := by rw [B.state]; rfl
    obtain ⟨t, a1, o, b1, b2, b3⟩ := body p e s m args below meth c s₁ B hml hP s₁ hh0 (Stand.of_body B)
    exact ⟨t, o, a1, b1, b2, b3⟩
/-! ===== END ===== -/
end
section
/-! THE PURE MACHINE, I: values, locals, and what touches neither heap nor calls. A pure reference is a number; ad tells the address (none: null). -/
def z_cv (ad : Nat → Option Nat) (v : Value) : Value := match v with
  | .ref k => va_rf (ad k)
  | v => v
theorem z_cv_cat (ad : Nat → Option Nat) (v : Value) : (z_cv ad v).category = v.category := by
  cases v with
  | ref k => show (va_rf (ad k)).category = 1; cases ad k <;> rfl
  | _ => rfl
def z_lvm (ad : Nat → Option Nat) (lv : List (Nat × Value)) : List (Nat × Value) := lv.map (fun q => (q.1, z_cv ad q.2))
def z_get : List (Nat × Value) → Nat → Option Value
  | [], _ => none
  | q :: l, i => cond (Nat.beq q.1 i) (some q.2) (z_get l i)
def z_st1 (i : Nat) (v : Value) (lv : List (Nat × Value)) : List (Nat × Value) := (i, v) :: lv.filter (fun q => !(q.1 == i) && !(q.1 + 1 == i && q.2.category == 2))
def z_st2 (i : Nat) (v : Value) (lv : List (Nat × Value)) : List (Nat × Value) := (i, v) :: lv.filter (fun q => !(q.1 == i) && (!(q.1 == i + 1) && !(q.1 + 1 == i && q.2.category == 2)))
theorem z_get_in {lv : List (Nat × Value)} {i : Nat} {v : Value} (h : z_get lv i = some v) : (i, v) ∈ lv := by
  induction lv with
  | nil => cases h
  | cons q l ih =>
    rw [z_get] at h
    cases e : Nat.beq q.1 i with
    | true =>
      rw [e] at h
      obtain ⟨a, b⟩ := q
      have e1 : a = i := Nat.eq_of_beq_eq_true e
      cases h
      subst e1
      exact List.mem_cons_self
    | false =>
      rw [e] at h
      exact List.mem_cons_of_mem _ (ih h)
theorem z_get_at {ad : Nat → Option Nat} {lv : List (Nat × Value)} {ls : Array Slot} {nL i : Nat} {v : Value} (hl : lv_has ls nL (z_lvm ad lv)) (h : z_get lv i = some v) : ls[i]? = some (.val (z_cv ad v)) :=
  hl.2.2 (i, z_cv ad v) (List.mem_map.mpr ⟨(i, v), z_get_in h, rfl⟩)
theorem z_st1_m (ad : Nat → Option Nat) (i : Nat) (v : Value) (lv : List (Nat × Value)) : (i, z_cv ad v) :: (z_lvm ad lv).filter (fun q => !(q.1 == i) && !(q.1 + 1 == i && q.2.category == 2)) = z_lvm ad (z_st1 i v lv) := by
  unfold z_st1 z_lvm
  rw [List.map_cons, List.filter_map]
  congr 2
  refine List.filter_congr fun q _ => ?_
  simp [Function.comp, z_cv_cat]
theorem z_st2_m (ad : Nat → Option Nat) (i : Nat) (v : Value) (lv : List (Nat × Value)) : (i, z_cv ad v) :: (z_lvm ad lv).filter (fun q => !(q.1 == i) && (!(q.1 == i + 1) && !(q.1 + 1 == i && q.2.category == 2))) = z_lvm ad (z_st2 i v lv) := by
  unfold z_st2 z_lvm
  rw [List.map_cons, List.filter_map]
  congr 2
  refine List.filter_congr fun q _ => ?_
  simp [Function.comp, z_cv_cat]
theorem z_st1_in {i : Nat} {v : Value} {lv : List (Nat × Value)} {P : Value → Prop} (hv : P v) (h : ∀ q ∈ lv, P q.2) : ∀ q ∈ z_st1 i v lv, P q.2 := by
  intro q hq
  rcases List.mem_cons.mp hq with rfl | hq
  · exact hv
  · exact h q (List.mem_filter.mp hq).1
theorem z_st2_in {i : Nat} {v : Value} {lv : List (Nat × Value)} {P : Value → Prop} (hv : P v) (h : ∀ q ∈ lv, P q.2) : ∀ q ∈ z_st2 i v lv, P q.2 := by
  intro q hq
  rcases List.mem_cons.mp hq with rfl | hq
  · exact hv
  · exact h q (List.mem_filter.mp hq).1
def z_cmp (c : Jvm.ClassFile.Cond) (x y : Int32) : Bool := match c with
  | .eq => decide (x = y)
  | .ne => !decide (x = y)
  | .lt => decide (x < y)
  | .ge => decide (y ≤ x)
  | .gt => decide (y < x)
  | .le => decide (x ≤ y)
def z_tg (pc : Nat) (off : Int) : Option Nat := if 0 ≤ (pc : Int) + off then some ((pc : Int) + off).toNat else none
theorem z_tg_ok {pc t : Nat} {off : Int} (h : z_tg pc off = some t) : (pc : Int) + off = (t : Int) := by
  unfold z_tg at h
  split at h
  · rename_i h0
    cases h
    exact (Int.toNat_of_nonneg h0).symm
  · cases h
abbrev zR : Type := Nat × List (Nat × Value) × List Value

/-- the lengths of the instructions that z_loc takes -/
def z_len (i : Instr) (len : Nat) : Prop := match i with
  | .iconst _ => len = 1
  | .bipush _ => len = 2
  | .sipush _ => len = 3
  | .lconst _ => len = 1
  | .fconst _ => len = 1
  | .dconst _ => len = 1
  | .aconst_null => len = 1
  | .iload _ => len = 2
  | .iload_n _ => len = 1
  | .lload _ => len = 2
  | .lload_n _ => len = 1
  | .fload _ => len = 2
  | .fload_n _ => len = 1
  | .dload _ => len = 2
  | .dload_n _ => len = 1
  | .aload _ => len = 2
  | .aload_n _ => len = 1
  | .istore _ => len = 2
  | .istore_n _ => len = 1
  | .lstore _ => len = 2
  | .lstore_n _ => len = 1
  | .fstore _ => len = 2
  | .fstore_n _ => len = 1
  | .dstore _ => len = 2
  | .dstore_n _ => len = 1
  | .astore _ => len = 2
  | .astore_n _ => len = 1
  | .iinc _ _ => len = 3
  | .iadd => len = 1
  | .isub => len = 1
  | .imul => len = 1
  | .iand => len = 1
  | .ior => len = 1
  | .ishl => len = 1
  | .ishr => len = 1
  | .idiv => len = 1
  | .irem => len = 1
  | .ladd => len = 1
  | .lsub => len = 1
  | .lmul => len = 1
  | .ldiv => len = 1
  | .lcmp => len = 1
  | .fcmp _ => len = 1
  | .dcmp _ => len = 1
  | .i2l => len = 1
  | .i2b => len = 1
  | .i2c => len = 1
  | .i2d => len = 1
  | .l2f => len = 1
  | .f2d => len = 1
  | .fdiv => len = 1
  | .ddiv => len = 1
  | .dup => len = 1
  | .dup2 => len = 1
  | .pop => len = 1
  | .goto _ => len = 3
  | .if_icmp _ _ => len = 3
  | .ifCond _ _ => len = 3
  | _ => True
/-- the targets of branches are the table's -/
def z_tgt (i : Instr) (pc a : Nat) : Prop := match i with
  | .goto off => (pc : Int) + off = (a : Int)
  | .if_icmp _ off => (pc : Int) + off = (a : Int)
  | .ifCond _ off => (pc : Int) + off = (a : Int)
  | _ => True
/-- one local instruction: where it goes, the locals, the stack -/
def z_loc (i : Instr) (pc a nL : Nat) (lv : List (Nat × Value)) (st : List Value) : Option zR := match i with
  | .iconst n => some (pc + 1, lv, .int (Int32.ofInt n) :: st)
  | .bipush n => some (pc + 2, lv, .int (Int8.ofInt n).toInt32 :: st)
  | .sipush n => some (pc + 3, lv, .int (Int16.ofInt n).toInt32 :: st)
  | .lconst n => some (pc + 1, lv, .long (Int64.ofNat (n : Nat)) :: st)
  | .fconst n => match n with | 0 => some (pc + 1, lv, .float FP.fconst0 :: st) | _ => none
  | .dconst n => match n with | 0 => some (pc + 1, lv, .double FP.dconst0 :: st) | _ => none
  | .aconst_null => some (pc + 1, lv, .null :: st)
  | .iload i => match z_get lv i with | some (.int x) => some (pc + 2, lv, .int x :: st) | _ => none
  | .iload_n i => match z_get lv i with | some (.int x) => some (pc + 1, lv, .int x :: st) | _ => none
  | .lload i => match z_get lv i with | some (.long x) => some (pc + 2, lv, .long x :: st) | _ => none
  | .lload_n i => match z_get lv i with | some (.long x) => some (pc + 1, lv, .long x :: st) | _ => none
  | .fload i => match z_get lv i with | some (.float x) => some (pc + 2, lv, .float x :: st) | _ => none
  | .fload_n i => match z_get lv i with | some (.float x) => some (pc + 1, lv, .float x :: st) | _ => none
  | .dload i => match z_get lv i with | some (.double x) => some (pc + 2, lv, .double x :: st) | _ => none
  | .dload_n i => match z_get lv i with | some (.double x) => some (pc + 1, lv, .double x :: st) | _ => none
  | .aload i => match z_get lv i with | some (.ref x) => some (pc + 2, lv, .ref x :: st) | some .null => some (pc + 2, lv, .null :: st) | _ => none
  | .aload_n i => match z_get lv i with | some (.ref x) => some (pc + 1, lv, .ref x :: st) | some .null => some (pc + 1, lv, .null :: st) | _ => none
  | .istore i => match st with | .int x :: r => if i < nL then some (pc + 2, z_st1 i (.int x) lv, r) else none | _ => none
  | .istore_n i => match st with | .int x :: r => if (i : Nat) < nL then some (pc + 1, z_st1 i (.int x) lv, r) else none | _ => none
  | .lstore i => match st with | .long x :: r => if i + 1 < nL then some (pc + 2, z_st2 i (.long x) lv, r) else none | _ => none
  | .lstore_n i => match st with | .long x :: r => if (i : Nat) + 1 < nL then some (pc + 1, z_st2 i (.long x) lv, r) else none | _ => none
  | .fstore i => match st with | .float x :: r => if i < nL then some (pc + 2, z_st1 i (.float x) lv, r) else none | _ => none
  | .fstore_n i => match st with | .float x :: r => if (i : Nat) < nL then some (pc + 1, z_st1 i (.float x) lv, r) else none | _ => none
  | .dstore i => match st with | .double x :: r => if i + 1 < nL then some (pc + 2, z_st2 i (.double x) lv, r) else none | _ => none
  | .dstore_n i => match st with | .double x :: r => if (i : Nat) + 1 < nL then some (pc + 1, z_st2 i (.double x) lv, r) else none | _ => none
  | .astore i => match st with | .ref x :: r => if (i : Nat) < nL then some (pc + 2, z_st1 i (.ref x) lv, r) else none | .null :: r => if (i : Nat) < nL then some (pc + 2, z_st1 i .null lv, r) else none | _ => none
  | .astore_n i => match st with | .ref x :: r => if (i : Nat) < nL then some (pc + 1, z_st1 i (.ref x) lv, r) else none | .null :: r => if (i : Nat) < nL then some (pc + 1, z_st1 i .null lv, r) else none | _ => none
  | .iinc i n => match z_get lv i with | some (.int x) => if i < nL then some (pc + 3, z_st1 i (.int (x + Int32.ofInt n)) lv, st) else none | _ => none
  | .iadd => match st with | .int y :: .int x :: r => some (pc + 1, lv, .int (x + y) :: r) | _ => none
  | .isub => match st with | .int y :: .int x :: r => some (pc + 1, lv, .int (x - y) :: r) | _ => none
  | .imul => match st with | .int y :: .int x :: r => some (pc + 1, lv, .int (x * y) :: r) | _ => none
  | .iand => match st with | .int y :: .int x :: r => some (pc + 1, lv, .int (x &&& y) :: r) | _ => none
  | .ior => match st with | .int y :: .int x :: r => some (pc + 1, lv, .int (x ||| y) :: r) | _ => none
  | .ishl => match st with | .int y :: .int x :: r => some (pc + 1, lv, .int (x <<< (y &&& 31)) :: r) | _ => none
  | .ishr => match st with | .int y :: .int x :: r => some (pc + 1, lv, .int (x >>> (y &&& 31)) :: r) | _ => none
  | .idiv => match st with | .int y :: .int x :: r => if y = 0 then none else some (pc + 1, lv, .int (x / y) :: r) | _ => none
  | .irem => match st with | .int y :: .int x :: r => if y = 0 then none else some (pc + 1, lv, .int (x - x / y * y) :: r) | _ => none
  | .ladd => match st with | .long y :: .long x :: r => some (pc + 1, lv, .long (x + y) :: r) | _ => none
  | .lsub => match st with | .long y :: .long x :: r => some (pc + 1, lv, .long (x - y) :: r) | _ => none
  | .lmul => match st with | .long y :: .long x :: r => some (pc + 1, lv, .long (x * y) :: r) | _ => none
  | .ldiv => match st with | .long y :: .long x :: r => if y = 0 then none else some (pc + 1, lv, .long (x / y) :: r) | _ => none
  | .lcmp => match st with | .long y :: .long x :: r => some (pc + 1, lv, .int (lg_cmp x y) :: r) | _ => none
  | .fcmp op => match st with | .float y :: .float x :: r => some (pc + 1, lv, .int (Op.cmpValue (FP.fcmp x y) op) :: r) | _ => none
  | .dcmp op => match st with | .double y :: .double x :: r => some (pc + 1, lv, .int (Op.cmpValue (FP.dcmp x y) op) :: r) | _ => none
  | .i2l => match st with | .int x :: r => some (pc + 1, lv, .long x.toInt64 :: r) | _ => none
  | .i2b => match st with | .int x :: r => some (pc + 1, lv, .int x.toInt8.toInt32 :: r) | _ => none
  | .i2c => match st with | .int x :: r => some (pc + 1, lv, .int (x.toUInt32 % 65536).toInt32 :: r) | _ => none
  | .i2d => match st with | .int x :: r => some (pc + 1, lv, .double (FP.i2d x) :: r) | _ => none
  | .l2f => match st with | .long x :: r => some (pc + 1, lv, .float (FP.l2f x) :: r) | _ => none
  | .f2d => match st with | .float x :: r => if FP.f2d x &&& 0x7fffffffffffffff ≤ 0x7ff0000000000000 then some (pc + 1, lv, .double (FP.f2d x) :: r) else none | _ => none
  | .fdiv => match st with | .float y :: .float x :: r => if FP.fdiv x y &&& 0x7fffffff ≤ 0x7f800000 then some (pc + 1, lv, .float (FP.fdiv x y) :: r) else none | _ => none
  | .ddiv => match st with | .double y :: .double x :: r => if FP.ddiv x y &&& 0x7fffffffffffffff ≤ 0x7ff0000000000000 then some (pc + 1, lv, .double (FP.ddiv x y) :: r) else none | _ => none
  | .dup => match st with | v :: r => if v.category = 1 then some (pc + 1, lv, v :: v :: r) else none | _ => none
  | .dup2 => match st with | v :: r => if v.category = 2 then some (pc + 1, lv, v :: v :: r) else (match r with | u :: r2 => if v.category = 1 ∧ u.category = 1 then some (pc + 1, lv, v :: u :: v :: u :: r2) else none | _ => none) | _ => none
  | .pop => match st with | v :: r => if v.category = 1 then some (pc + 1, lv, r) else none | _ => none
  | .goto off => some (a, lv, st)
  | .if_icmp c0 off => match st with | .int y :: .int x :: r => (match z_cmp c0 x y with | true => some (a, lv, r) | false => some (pc + 3, lv, r)) | _ => none
  | .ifCond c0 off => match st with | .int x :: r => (match z_cmp c0 x 0 with | true => some (a, lv, r) | false => some (pc + 3, lv, r)) | _ => none
  | .tableswitch dflt lo hi offs => match st with | .int x :: r => if x.toInt < lo ∨ hi < x.toInt then (match z_tg pc dflt with | some t => some (t, lv, r) | none => none) else (match offs[(x.toInt - lo).toNat]? with | some off => (match z_tg pc off with | some t => some (t, lv, r) | none => none) | none => none) | _ => none
  | .lookupswitch dflt ps => match st with | .int x :: r => if (ps.toList.zip (ps.toList.drop 1)).all (fun (a, next) => a.1 < next.1) = true then (match z_tg pc (Op.lookupswitch.offset ps.toList dflt x.toInt) with | some t => some (t, lv, r) | none => none) else none | _ => none
  | _ => none
section ZL
variable {p : Program} {l : Launch} {e : Env} {R : Room} {s : State} {m : MethodId} {args : Array Value} {below : List Frame} {meth : Method} {c : Code} {H : Heap} {locs : List Loc} {cells slots : Nat} {Q : State → Prop}
variable {cc : ByteArray} {pc : Nat} {ls : Array Slot}
set_option maxHeartbeats 4000000 in
theorem z_loc_ok {i : Instr} {len a nL pc2 : Nat} {ad : Nat → Option Nat} {lv lv2 : List (Nat × Value)} {st st2 : List Value} (h : z_loc i pc a nL lv st = some (pc2, lv2, st2)) (hd : decode cc pc = .ok (i, len)) (hn : z_len i len) (ht : z_tgt i pc a) (hx : p.tables.exec = Jvm.exec) (hb : c.code = cc) (hl : lv_has ls nL (z_lvm ad lv))
    (k : ∀ ls2 : Array Slot, lv_has ls2 nL (z_lvm ad lv2) → W p l e R s m args below meth c H locs cells slots Q (F0 m pc2 ls2 (st2.map (z_cv ad)))) : W p l e R s m args below meth c H locs cells slots Q (F0 m pc ls (st.map (z_cv ad))) := by
  cases i
  case iconst n =>
    simp only [z_len] at hn
    subst hn
    simp only [z_loc] at h
    cases h
    exact lv_iconst hx hb hd rfl (k _ hl)
  case bipush n =>
    simp only [z_len] at hn
    subst hn
    simp only [z_loc] at h
    cases h
    exact lv_bipush hx hb hd rfl (k _ hl)
  case sipush n =>
    simp only [z_len] at hn
    subst hn
    simp only [z_loc] at h
    cases h
    exact lv_sipush hx hb hd rfl (k _ hl)
  case lconst n =>
    simp only [z_len] at hn
    subst hn
    simp only [z_loc] at h
    cases h
    exact lv_lconst hx hb hd rfl (k _ hl)
  case fconst n =>
    simp only [z_len] at hn
    subst hn
    simp only [z_loc] at h
    split at h
    · cases h
      exact lv_fconst0 hx hb hd (k _ hl)
    · cases h
  case dconst n =>
    simp only [z_len] at hn
    subst hn
    simp only [z_loc] at h
    split at h
    · cases h
      exact lv_dconst0 hx hb hd (k _ hl)
    · cases h
  case aconst_null =>
    simp only [z_len] at hn
    subst hn
    simp only [z_loc] at h
    cases h
    exact lv_null hx hb hd (k _ hl)
  case iload i =>
    simp only [z_len] at hn
    subst hn
    simp only [z_loc] at h
    split at h
    · rename_i e
      cases h
      exact lv_iload hx hb hd (z_get_at hl e) (k _ hl)
    · cases h
  case iload_n i =>
    simp only [z_len] at hn
    subst hn
    simp only [z_loc] at h
    split at h
    · rename_i e
      cases h
      exact lv_iload_n hx hb hd rfl (z_get_at hl e) (k _ hl)
    · cases h
  case lload i =>
    simp only [z_len] at hn
    subst hn
    simp only [z_loc] at h
    split at h
    · rename_i e
      cases h
      exact lv_lload hx hb hd (z_get_at hl e) (k _ hl)
    · cases h
  case lload_n i =>
    simp only [z_len] at hn
    subst hn
    simp only [z_loc] at h
    split at h
    · rename_i e
      cases h
      exact lv_lload_n hx hb hd rfl (z_get_at hl e) (k _ hl)
    · cases h
  case fload i =>
    simp only [z_len] at hn
    subst hn
    simp only [z_loc] at h
    split at h
    · rename_i e
      cases h
      exact lv_fload hx hb hd (z_get_at hl e) (k _ hl)
    · cases h
  case fload_n i =>
    simp only [z_len] at hn
    subst hn
    simp only [z_loc] at h
    split at h
    · rename_i e
      cases h
      exact lv_fload_n hx hb hd rfl (z_get_at hl e) (k _ hl)
    · cases h
  case dload i =>
    simp only [z_len] at hn
    subst hn
    simp only [z_loc] at h
    split at h
    · rename_i e
      cases h
      exact lv_dload hx hb hd (z_get_at hl e) (k _ hl)
    · cases h
  case dload_n i =>
    simp only [z_len] at hn
    subst hn
    simp only [z_loc] at h
    split at h
    · rename_i e
      cases h
      exact lv_dload_n hx hb hd rfl (z_get_at hl e) (k _ hl)
    · cases h
  case aload i =>
    simp only [z_len] at hn
    subst hn
    simp only [z_loc] at h
    split at h
    · rename_i x eq0
      cases h
      have e1 := z_get_at hl eq0
      have k1 := k _ hl
      change ls[_]? = some (Slot.val (va_rf (ad x))) at e1
      change W p l e R s m args below meth c H locs cells slots Q (F0 m _ ls (va_rf (ad x) :: _)) at k1
      cases hx2 : ad x with
      | none => rw [hx2] at e1 k1; exact lv_aloadN hx hb hd e1 k1
      | some a => rw [hx2] at e1 k1; exact lv_aload hx hb hd e1 k1
    · rename_i e
      cases h
      exact lv_aloadN hx hb hd (z_get_at hl e) (k _ hl)
    · cases h
  case aload_n i =>
    simp only [z_len] at hn
    subst hn
    simp only [z_loc] at h
    split at h
    · rename_i x eq0
      cases h
      have e1 := z_get_at hl eq0
      have k1 := k _ hl
      change ls[_]? = some (Slot.val (va_rf (ad x))) at e1
      change W p l e R s m args below meth c H locs cells slots Q (F0 m _ ls (va_rf (ad x) :: _)) at k1
      cases hx2 : ad x with
      | none => rw [hx2] at e1 k1; exact lv_aload_nN hx hb hd rfl e1 k1
      | some a => rw [hx2] at e1 k1; exact lv_aload_n hx hb hd rfl e1 k1
    · rename_i e
      cases h
      exact lv_aload_nN hx hb hd rfl (z_get_at hl e) (k _ hl)
    · cases h
  case istore i =>
    simp only [z_len] at hn
    subst hn
    simp only [z_loc] at h
    split at h
    · rename_i x r
      split at h
      · rename_i hi
        cases h
        exact lv_istore hx hb hd hl hi (z_st1_m ad i (.int x) lv) (fun ls hl => k ls hl)
      · cases h
    · cases h
  case istore_n i =>
    simp only [z_len] at hn
    subst hn
    simp only [z_loc] at h
    split at h
    · rename_i x r
      split at h
      · rename_i hi
        cases h
        exact lv_istore_n hx hb hd rfl hl hi (z_st1_m ad i (.int x) lv) (fun ls hl => k ls hl)
      · cases h
    · cases h
  case lstore i =>
    simp only [z_len] at hn
    subst hn
    simp only [z_loc] at h
    split at h
    · rename_i x r
      split at h
      · rename_i hi
        cases h
        exact lv_lstore hx hb hd hl hi (z_st2_m ad i (.long x) lv) (fun ls hl => k ls hl)
      · cases h
    · cases h
  case lstore_n i =>
    simp only [z_len] at hn
    subst hn
    simp only [z_loc] at h
    split at h
    · rename_i x r
      split at h
      · rename_i hi
        cases h
        exact lv_lstore_n hx hb hd rfl hl hi (z_st2_m ad i (.long x) lv) (fun ls hl => k ls hl)
      · cases h
    · cases h
  case fstore i =>
    simp only [z_len] at hn
    subst hn
    simp only [z_loc] at h
    split at h
    · rename_i x r
      split at h
      · rename_i hi
        cases h
        exact lv_fstore hx hb hd hl hi (z_st1_m ad i (.float x) lv) (fun ls hl => k ls hl)
      · cases h
    · cases h
  case fstore_n i =>
    simp only [z_len] at hn
    subst hn
    simp only [z_loc] at h
    split at h
    · rename_i x r
      split at h
      · rename_i hi
        cases h
        exact lv_fstore_n hx hb hd rfl hl hi (z_st1_m ad i (.float x) lv) (fun ls hl => k ls hl)
      · cases h
    · cases h
  case dstore i =>
    simp only [z_len] at hn
    subst hn
    simp only [z_loc] at h
    split at h
    · rename_i x r
      split at h
      · rename_i hi
        cases h
        exact lv_dstore hx hb hd hl hi (z_st2_m ad i (.double x) lv) (fun ls hl => k ls hl)
      · cases h
    · cases h
  case dstore_n i =>
    simp only [z_len] at hn
    subst hn
    simp only [z_loc] at h
    split at h
    · rename_i x r
      split at h
      · rename_i hi
        cases h
        exact lv_dstore_n hx hb hd rfl hl hi (z_st2_m ad i (.double x) lv) (fun ls hl => k ls hl)
      · cases h
    · cases h
  case astore i =>
    simp only [z_len] at hn
    subst hn
    simp only [z_loc] at h
    split at h
    · rename_i x r
      split at h
      · rename_i hi
        cases h
        have e2 := z_st1_m ad i (.ref x) lv
        change (_, va_rf (ad x)) :: _ = _ at e2
        change W p l e R s m args below meth c H locs cells slots Q (F0 m pc ls (va_rf (ad x) :: _))
        cases hx2 : ad x with
        | none => rw [hx2] at e2; exact lv_astoreN hx hb hd hl hi e2 (fun ls hl => k ls hl)
        | some a => rw [hx2] at e2; exact lv_astore hx hb hd hl hi e2 (fun ls hl => k ls hl)
      · cases h
    · split at h
      · rename_i hi
        cases h
        exact lv_astoreN hx hb hd hl hi (z_st1_m ad _ .null lv) (fun ls hl => k ls hl)
      · cases h
    · cases h
  case astore_n i =>
    simp only [z_len] at hn
    subst hn
    simp only [z_loc] at h
    split at h
    · rename_i x r
      split at h
      · rename_i hi
        cases h
        have e2 := z_st1_m ad i (.ref x) lv
        change (_, va_rf (ad x)) :: _ = _ at e2
        change W p l e R s m args below meth c H locs cells slots Q (F0 m pc ls (va_rf (ad x) :: _))
        cases hx2 : ad x with
        | none => rw [hx2] at e2; exact lv_astore_nN hx hb hd rfl hl hi e2 (fun ls hl => k ls hl)
        | some a => rw [hx2] at e2; exact lv_astore_n hx hb hd rfl hl hi e2 (fun ls hl => k ls hl)
      · cases h
    · split at h
      · rename_i hi
        cases h
        exact lv_astore_nN hx hb hd rfl hl hi (z_st1_m ad _ .null lv) (fun ls hl => k ls hl)
      · cases h
    · cases h
  case iinc i n =>
    simp only [z_len] at hn
    subst hn
    simp only [z_loc] at h
    split at h
    · rename_i x e
      split at h
      · rename_i hi
        cases h
        obtain ⟨k0, hk0⟩ := List.getElem?_of_mem (List.mem_map.mpr ⟨(i, Value.int x), z_get_in e, rfl⟩ : (i, z_cv ad (.int x)) ∈ z_lvm ad lv)
        exact lv_iinc hx hb hd hl hk0 rfl hi (z_st1_m ad i (.int (x + Int32.ofInt n)) lv) (fun ls hl => k ls hl)
      · cases h
    · cases h
  case iadd =>
    simp only [z_len] at hn
    subst hn
    simp only [z_loc] at h
    split at h
    · cases h
      exact lv_iadd hx hb hd (k _ hl)
    · cases h
  case isub =>
    simp only [z_len] at hn
    subst hn
    simp only [z_loc] at h
    split at h
    · cases h
      exact lv_isub hx hb hd (k _ hl)
    · cases h
  case imul =>
    simp only [z_len] at hn
    subst hn
    simp only [z_loc] at h
    split at h
    · cases h
      exact lv_imul hx hb hd (k _ hl)
    · cases h
  case iand =>
    simp only [z_len] at hn
    subst hn
    simp only [z_loc] at h
    split at h
    · cases h
      exact lv_iand hx hb hd (k _ hl)
    · cases h
  case ior =>
    simp only [z_len] at hn
    subst hn
    simp only [z_loc] at h
    split at h
    · cases h
      exact lv_ior hx hb hd (k _ hl)
    · cases h
  case ishl =>
    simp only [z_len] at hn
    subst hn
    simp only [z_loc] at h
    split at h
    · cases h
      exact lv_ishl hx hb hd (k _ hl)
    · cases h
  case ishr =>
    simp only [z_len] at hn
    subst hn
    simp only [z_loc] at h
    split at h
    · cases h
      exact lv_ishr hx hb hd (k _ hl)
    · cases h
  case idiv =>
    simp only [z_len] at hn
    subst hn
    simp only [z_loc] at h
    split at h
    · split at h
      · cases h
      · rename_i hy
        cases h
        exact lv_idiv hx hb hd hy (k _ hl)
    · cases h
  case irem =>
    simp only [z_len] at hn
    subst hn
    simp only [z_loc] at h
    split at h
    · split at h
      · cases h
      · rename_i hy
        cases h
        exact lv_irem hx hb hd hy (k _ hl)
    · cases h
  case ladd =>
    simp only [z_len] at hn
    subst hn
    simp only [z_loc] at h
    split at h
    · cases h
      exact lv_ladd hx hb hd (k _ hl)
    · cases h
  case lsub =>
    simp only [z_len] at hn
    subst hn
    simp only [z_loc] at h
    split at h
    · cases h
      exact lv_lsub hx hb hd (k _ hl)
    · cases h
  case lmul =>
    simp only [z_len] at hn
    subst hn
    simp only [z_loc] at h
    split at h
    · cases h
      exact lv_lmul hx hb hd (k _ hl)
    · cases h
  case ldiv =>
    simp only [z_len] at hn
    subst hn
    simp only [z_loc] at h
    split at h
    · split at h
      · cases h
      · rename_i hy
        cases h
        exact lv_ldiv hx hb hd hy (k _ hl)
    · cases h
  case lcmp =>
    simp only [z_len] at hn
    subst hn
    simp only [z_loc] at h
    split at h
    · cases h
      exact W.lcmp hx hb hd (k _ hl)
    · cases h
  case fcmp op =>
    simp only [z_len] at hn
    subst hn
    simp only [z_loc] at h
    split at h
    · cases h
      exact lv_fcmp hx hb hd (k _ hl)
    · cases h
  case dcmp op =>
    simp only [z_len] at hn
    subst hn
    simp only [z_loc] at h
    split at h
    · cases h
      exact lv_dcmp hx hb hd (k _ hl)
    · cases h
  case i2l =>
    simp only [z_len] at hn
    subst hn
    simp only [z_loc] at h
    split at h
    · cases h
      exact lv_i2l hx hb hd rfl (k _ hl)
    · cases h
  case i2b =>
    simp only [z_len] at hn
    subst hn
    simp only [z_loc] at h
    split at h
    · cases h
      exact lv_i2b hx hb hd rfl (k _ hl)
    · cases h
  case i2c =>
    simp only [z_len] at hn
    subst hn
    simp only [z_loc] at h
    split at h
    · cases h
      exact lv_i2c hx hb hd rfl (k _ hl)
    · cases h
  case i2d =>
    simp only [z_len] at hn
    subst hn
    simp only [z_loc] at h
    split at h
    · cases h
      exact lv_i2d hx hb hd (k _ hl)
    · cases h
  case l2f =>
    simp only [z_len] at hn
    subst hn
    simp only [z_loc] at h
    split at h
    · cases h
      exact lv_l2f hx hb hd (k _ hl)
    · cases h
  case f2d =>
    simp only [z_len] at hn
    subst hn
    simp only [z_loc] at h
    split at h
    · split at h
      · rename_i hn
        cases h
        exact lv_f2d hx hb hd hn (k _ hl)
      · cases h
    · cases h
  case fdiv =>
    simp only [z_len] at hn
    subst hn
    simp only [z_loc] at h
    split at h
    · split at h
      · rename_i hn
        cases h
        exact lv_fdiv hx hb hd hn (k _ hl)
      · cases h
    · cases h
  case ddiv =>
    simp only [z_len] at hn
    subst hn
    simp only [z_loc] at h
    split at h
    · split at h
      · rename_i hn
        cases h
        exact lv_ddiv hx hb hd hn (k _ hl)
      · cases h
    · cases h
  case dup =>
    simp only [z_len] at hn
    subst hn
    simp only [z_loc] at h
    split at h
    · split at h
      · rename_i hc
        cases h
        exact lv_dup hx hb hd ((z_cv_cat ad _).trans hc) (k _ hl)
      · cases h
    · cases h
  case dup2 =>
    simp only [z_len] at hn
    subst hn
    simp only [z_loc] at h
    split at h
    · split at h
      · rename_i hc
        cases h
        exact lv_dup2_2 hx hb hd ((z_cv_cat ad _).trans hc) (k _ hl)
      · split at h
        · split at h
          · rename_i hc
            cases h
            exact lv_dup2_11 hx hb hd ((z_cv_cat ad _).trans hc.1) ((z_cv_cat ad _).trans hc.2) (k _ hl)
          · cases h
        · cases h
    · cases h
  case pop =>
    simp only [z_len] at hn
    subst hn
    simp only [z_loc] at h
    split at h
    · split at h
      · rename_i hc
        cases h
        exact lv_pop hx hb hd ((z_cv_cat ad _).trans hc) (k _ hl)
      · cases h
    · cases h
  case goto off =>
    simp only [z_len] at hn
    subst hn
    simp only [z_tgt] at ht
    simp only [z_loc] at h
    cases h
    exact lv_goto hx hb hd ht (k _ hl)
  case if_icmp c0 off =>
    simp only [z_len] at hn
    subst hn
    simp only [z_tgt] at ht
    simp only [z_loc] at h
    split at h
    · rename_i y x r
      cases c0 with
      | eq =>
        refine lv_icmp_eq hx hb hd ht (fun q => ?_) (fun q => ?_)
        · rw [show z_cmp .eq x y = true from decide_eq_true q] at h; cases h; exact k _ hl
        · rw [show z_cmp .eq x y = false from decide_eq_false q] at h; cases h; exact k _ hl
      | ne =>
        refine lv_icmp_ne hx hb hd ht (fun q => ?_) (fun q => ?_)
        · rw [show z_cmp .ne x y = true by simp [z_cmp, q]] at h; cases h; exact k _ hl
        · rw [show z_cmp .ne x y = false by simp [z_cmp, q]] at h; cases h; exact k _ hl
      | lt =>
        refine lv_icmp_lt hx hb hd ht (fun q => ?_) (fun q => ?_)
        · rw [show z_cmp .lt x y = true from decide_eq_true q] at h; cases h; exact k _ hl
        · rw [show z_cmp .lt x y = false from decide_eq_false q] at h; cases h; exact k _ hl
      | ge =>
        refine lv_icmp_ge hx hb hd ht (fun q => ?_) (fun q => ?_)
        · rw [show z_cmp .ge x y = true from decide_eq_true q] at h; cases h; exact k _ hl
        · rw [show z_cmp .ge x y = false from decide_eq_false q] at h; cases h; exact k _ hl
      | gt =>
        refine lv_icmp_gt hx hb hd ht (fun q => ?_) (fun q => ?_)
        · rw [show z_cmp .gt x y = true from decide_eq_true q] at h; cases h; exact k _ hl
        · rw [show z_cmp .gt x y = false from decide_eq_false q] at h; cases h; exact k _ hl
      | le =>
        refine lv_icmp_le hx hb hd ht (fun q => ?_) (fun q => ?_)
        · rw [show z_cmp .le x y = true from decide_eq_true q] at h; cases h; exact k _ hl
        · rw [show z_cmp .le x y = false from decide_eq_false q] at h; cases h; exact k _ hl
    · cases h
  case ifCond c0 off =>
    simp only [z_len] at hn
    subst hn
    simp only [z_tgt] at ht
    simp only [z_loc] at h
    split at h
    · rename_i x r
      cases c0 with
      | eq =>
        refine lv_if_eq hx hb hd ht (fun q => ?_) (fun q => ?_)
        · rw [show z_cmp .eq x 0 = true from decide_eq_true q] at h; cases h; exact k _ hl
        · rw [show z_cmp .eq x 0 = false from decide_eq_false q] at h; cases h; exact k _ hl
      | ne =>
        refine lv_if_ne hx hb hd ht (fun q => ?_) (fun q => ?_)
        · rw [show z_cmp .ne x 0 = true by simp [z_cmp, q]] at h; cases h; exact k _ hl
        · rw [show z_cmp .ne x 0 = false by simp [z_cmp, q]] at h; cases h; exact k _ hl
      | lt =>
        refine lv_if_lt hx hb hd ht (fun q => ?_) (fun q => ?_)
        · rw [show z_cmp .lt x 0 = true from decide_eq_true q] at h; cases h; exact k _ hl
        · rw [show z_cmp .lt x 0 = false from decide_eq_false q] at h; cases h; exact k _ hl
      | ge =>
        refine lv_if_ge hx hb hd ht (fun q => ?_) (fun q => ?_)
        · rw [show z_cmp .ge x 0 = true from decide_eq_true q] at h; cases h; exact k _ hl
        · rw [show z_cmp .ge x 0 = false from decide_eq_false q] at h; cases h; exact k _ hl
      | gt =>
        refine lv_if_gt hx hb hd ht (fun q => ?_) (fun q => ?_)
        · rw [show z_cmp .gt x 0 = true from decide_eq_true q] at h; cases h; exact k _ hl
        · rw [show z_cmp .gt x 0 = false from decide_eq_false q] at h; cases h; exact k _ hl
      | le =>
        refine lv_if_le hx hb hd ht (fun q => ?_) (fun q => ?_)
        · rw [show z_cmp .le x 0 = true from decide_eq_true q] at h; cases h; exact k _ hl
        · rw [show z_cmp .le x 0 = false from decide_eq_false q] at h; cases h; exact k _ hl
    · cases h
  case tableswitch dflt lo hi offs =>
    simp only [z_loc] at h
    split at h
    · split at h
      · rename_i hq
        split at h
        · rename_i e2
          cases h
          exact lv_tableOut hx hb hd hq (z_tg_ok e2) (k _ hl)
        · cases h
      · rename_i hq
        split at h
        · rename_i e3
          split at h
          · rename_i e2
            cases h
            exact lv_tableIn hx hb hd (fun z => hq (Or.inl z)) (fun z => hq (Or.inr z)) e3 (z_tg_ok e2) (k _ hl)
          · cases h
        · cases h
    · cases h
  case lookupswitch dflt ps =>
    simp only [z_loc] at h
    split at h
    · split at h
      · rename_i hq
        split at h
        · rename_i e2
          cases h
          exact lv_lookup hx hb hd hq rfl (z_tg_ok e2) (k _ hl)
        · cases h
      · cases h
    · cases h
  all_goals (simp [z_loc] at h)
end ZL
end
section
/-! THE PURE MACHINE, II: its heap is a list of (tag, values); tag < 50: an object of that class of cl; 50 and more: an object of scl that nobody writes; 100 + t: an array of the type tf[t]. References from 1000000 on are cells of S, that nobody writes. -/
abbrev zC : Type := Nat × List Value
abbrev zH : Type := List zC
def z_vk (n : Nat) (v : Value) : Prop := match v with
  | .ref k => k < n ∨ 1000000 ≤ k
  | _ => True
def z_hv (h : zH) : Prop := ∀ c ∈ h, ∀ v ∈ c.2, z_vk h.length v
def z_ext (ad ad2 : Nat → Option Nat) (n : Nat) : Prop := ∀ k : Nat, (k < n ∨ 1000000 ≤ k) → ad2 k = ad k
theorem z_ext.rf {ad : Nat → Option Nat} {n : Nat} : z_ext ad ad n := fun _ _ => rfl
theorem z_ext.tr {a b c : Nat → Option Nat} {n k : Nat} (h1 : z_ext a b n) (h2 : z_ext b c k) (hn : n ≤ k) : z_ext a c n := fun q hq => (h2 q (hq.imp (fun z => Nat.lt_of_lt_of_le z hn) id)).trans (h1 q hq)
theorem z_ext.le {a b : Nat → Option Nat} {n k : Nat} (h : z_ext a b n) (hk : k ≤ n) : z_ext a b k := fun q hq => h q (hq.imp (fun z => Nat.lt_of_lt_of_le z hk) id)
theorem z_vk.le {n k : Nat} {v : Value} (h : z_vk n v) (hk : n ≤ k) : z_vk k v := by
  cases v with
  | ref a => exact h.imp (fun z => Nat.lt_of_lt_of_le z hk) id
  | _ => trivial
theorem z_cv_ext {ad ad2 : Nat → Option Nat} {n : Nat} {v : Value} (h : z_ext ad ad2 n) (hv : z_vk n v) : z_cv ad2 v = z_cv ad v := by
  cases v with
  | ref k => exact congrArg va_rf (h k hv)
  | _ => rfl
theorem z_lvm_ext {ad ad2 : Nat → Option Nat} {n : Nat} {lv : List (Nat × Value)} (h : z_ext ad ad2 n) (hv : ∀ q ∈ lv, z_vk n q.2) : z_lvm ad2 lv = z_lvm ad lv :=
  List.map_congr_left fun q hq => by rw [z_cv_ext h (hv q hq)]
theorem z_map_ext {ad ad2 : Nat → Option Nat} {n : Nat} {st : List Value} (h : z_ext ad ad2 n) (hv : ∀ v ∈ st, z_vk n v) : st.map (z_cv ad2) = st.map (z_cv ad) :=
  List.map_congr_left fun v hq => z_cv_ext h (hv v hq)
def z_rI (vs : List Value) (x : vp_A) : Prop := ∃ l : List Int32, vs = l.map Value.int ∧ x = (l.length, .inl (fun j => l.getD j 0))
/-- an array's contents -/
def z_ra (ad : Nat → Option Nat) (ty : FieldType) (vs : List Value) (x : vp_A) : Prop := match ty with
  | .int => z_rI vs x
  | .byte => z_rI vs x
  | .char => z_rI vs x
  | .long => ∃ l : List Int64, vs = l.map Value.long ∧ x = (l.length, .inr (.inl (fun j => l.getD j 0)))
  | .object _ => ∃ l : List (Option Nat), vs = l.map va_rf ∧ x = (l.length, .inr (.inr (.inr (.inr (fun j => (l.getD j none).bind ad)))))
  | _ => False
def z_re (tys : List (ClassId × FieldType)) (ad : Nat → Option Nat) (c : zC) (e : va_E) : Prop :=
  (c.1 < 50 ∧ e = .inr (c.1, c.2.map (z_cv ad))) ∨ (100 ≤ c.1 ∧ ∃ (cA : ClassId) (ty : FieldType) (x : vp_A), tys[c.1 - 100]? = some (cA, ty) ∧ e = .inl (cA, x) ∧ z_ra ad ty c.2 x)
def z_rp (tys : List (ClassId × FieldType)) (ad : Nat → Option Nat) (h : zH) (ws : va_W) : Prop := ws.length = h.length ∧ ∀ (k : Nat) (c : zC), h[k]? = some c → ∃ (q : Nat) (e : va_E), ad k = some q ∧ ws[k]? = some (q, e) ∧ z_re tys ad c e
def z_wd (D : va_G) (cl : List vw_C) (tys : List (ClassId × FieldType)) (A : Nat → Prop) (ad : Nat → Option Nat) (h : zH) (H : Heap) : Prop := ∃ ws : va_W, va_P D cl ws H ∧ va_D A ws ∧ z_rp tys ad h ws
theorem z_bind_ext {ad ad2 : Nat → Option Nat} {n : Nat} (h : z_ext ad ad2 n) {l : List (Option Nat)} (hv : ∀ v ∈ l.map va_rf, z_vk n v) : (fun j => (l.getD j none).bind ad2) = (fun j => (l.getD j none).bind ad) := by
  funext j
  cases e : l[j]? with
  | none => simp [List.getD_eq_getElem?_getD, e]
  | some o =>
    cases o with
    | none => simp [List.getD_eq_getElem?_getD, e]
    | some k =>
      have h1 : z_vk n (va_rf (some k)) := hv _ (List.mem_map.mpr ⟨some k, List.mem_of_getElem? e, rfl⟩)
      simp only [List.getD_eq_getElem?_getD, e, Option.getD_some, Option.bind_some]
      exact h k h1
theorem z_ra_ext {ad ad2 : Nat → Option Nat} {n : Nat} {ty : FieldType} {vs : List Value} {x : vp_A} (h : z_ext ad ad2 n) (hv : ∀ v ∈ vs, z_vk n v) (hr : z_ra ad ty vs x) : z_ra ad2 ty vs x := by
  cases ty with
  | object C =>
    obtain ⟨l, h1, h2⟩ := hr
    refine ⟨l, h1, ?_⟩
    rw [h2, z_bind_ext h (by rw [← h1]; exact hv)]
  | _ => exact hr
theorem z_re_ext {tys : List (ClassId × FieldType)} {ad ad2 : Nat → Option Nat} {n : Nat} {c : zC} {e : va_E} (h : z_ext ad ad2 n) (hv : ∀ v ∈ c.2, z_vk n v) (hr : z_re tys ad c e) : z_re tys ad2 c e := by
  rcases hr with ⟨h1, h2⟩ | ⟨h1, cA, ty, x, h2, h3, h4⟩
  · exact Or.inl ⟨h1, by rw [h2, z_map_ext h hv]⟩
  · exact Or.inr ⟨h1, cA, ty, x, h2, h3, z_ra_ext h hv h4⟩
theorem z_rp_set {tys : List (ClassId × FieldType)} {ad : Nat → Option Nat} {h : zH} {ws : va_W} {k q : Nat} {c : zC} {e : va_E} (hr : z_rp tys ad h ws) (hk : k < h.length) (hq : ad k = some q) (he : z_re tys ad c e) : z_rp tys ad (h.set k c) (ws.set k (q, e)) := by
  refine ⟨by simp [hr.1], fun j d hj => ?_⟩
  rw [List.getElem?_set] at hj
  rw [List.getElem?_set]
  by_cases hjk : k = j
  · subst hjk
    rw [if_pos rfl, if_pos hk] at hj
    rw [if_pos rfl, if_pos (by rw [hr.1]; exact hk)]
    cases hj
    exact ⟨q, e, hq, rfl, he⟩
  · rw [if_neg hjk] at hj
    rw [if_neg hjk]
    exact hr.2 j d hj
def z_ad1 (ad : Nat → Option Nat) (n q : Nat) : Nat → Option Nat := fun k => if k = n then some q else ad k
theorem z_ad1_ext {ad : Nat → Option Nat} {n q : Nat} (hn : n < 1000000) : z_ext ad (z_ad1 ad n q) n := fun k hk => if_neg (by omega)
theorem z_rp_push {tys : List (ClassId × FieldType)} {ad : Nat → Option Nat} {h : zH} {ws : va_W} {q : Nat} {c : zC} {e : va_E} (hr : z_rp tys ad h ws) (hn : h.length < 1000000) (hv : z_hv h) (he : z_re tys (z_ad1 ad h.length q) c e) : z_rp tys (z_ad1 ad h.length q) (h ++ [c]) (ws ++ [(q, e)]) := by
  refine ⟨by simp [hr.1], fun j d hj => ?_⟩
  rcases Nat.lt_trichotomy j h.length with hl | hl | hl
  · rw [List.getElem?_append_left hl] at hj
    rw [List.getElem?_append_left (by rw [hr.1]; exact hl)]
    obtain ⟨q', e', h1, h2, h3⟩ := hr.2 j d hj
    exact ⟨q', e', ((z_ad1_ext hn) j (Or.inl hl)).trans h1, h2, z_re_ext (z_ad1_ext hn) (hv d (List.mem_of_getElem? hj)) h3⟩
  · subst hl
    rw [List.getElem?_append_right (Nat.le_refl _)] at hj
    rw [List.getElem?_append_right (by rw [hr.1]; exact Nat.le_refl _)]
    simp only [Nat.sub_self] at hj
    rw [hr.1, Nat.sub_self]
    cases hj
    exact ⟨q, e, if_pos rfl, rfl, he⟩
  · rw [List.getElem?_eq_none (by simp; omega)] at hj
    cases hj
theorem z_hv_set {h : zH} {k t : Nat} {vs : List Value} (hv : z_hv h) (hx : ∀ v ∈ vs, z_vk h.length v) : z_hv (h.set k (t, vs)) := by
  intro c hc v hvv
  rw [List.length_set]
  rcases List.mem_or_eq_of_mem_set hc with h1 | rfl
  · exact hv c h1 v hvv
  · exact hx v hvv
theorem z_hv_push {h : zH} {c : zC} (hv : z_hv h) (hx : ∀ v ∈ c.2, z_vk h.length v) : z_hv (h ++ [c]) := by
  intro d hd v hvv
  rw [List.length_append]
  rcases List.mem_append.mp hd with h1 | h1
  · exact (hv d h1 v hvv).le (by simp)
  · rw [List.mem_singleton.mp h1] at hvv
    exact (hx v hvv).le (by simp)
theorem z_hv_at {h : zH} {k t : Nat} {vs : List Value} (hv : z_hv h) (hk : h[k]? = some (t, vs)) : ∀ v ∈ vs, z_vk h.length v := hv _ (List.mem_of_getElem? hk)
theorem z_sameA {s : State} {cA cB : ClassId} {ty : FieldType} (h1 : va_RA s cA ty) (h2 : va_RA s cB ty) : cA = cB := by
  cases ty with
  | object C =>
    obtain ⟨_, _, -, -, -, e1⟩ := h1
    obtain ⟨_, _, -, -, -, e2⟩ := h2
    exact Option.some.inj (e1.symm.trans e2)
  | _ => exact Option.some.inj (Eq.trans (Eq.symm (show s.vm.findClass _ = some cA from h1)) (show s.vm.findClass _ = some cB from h2))
/-- an int array's row behind a store -/
theorem z_updI {l : List Int32} {i : Nat} {x : Int32} (hi : i < l.length) : upd (fun j => l.getD j 0) i x = fun j => (l.set i x).getD j 0 := by
  funext j
  unfold upd
  by_cases hj : j = i
  · subst hj
    rw [if_pos rfl]
    simp [List.getD_eq_getElem?_getD, List.getElem?_set, hi]
  · rw [if_neg hj]
    have : ¬ i = j := fun q => hj q.symm
    simp [List.getD_eq_getElem?_getD, List.getElem?_set, this]
theorem z_updL {l : List Int64} {i : Nat} {x : Int64} (hi : i < l.length) : vp_updL (fun j => l.getD j 0) i x = fun j => (l.set i x).getD j 0 := by
  funext j
  unfold vp_updL
  by_cases hj : j = i
  · subst hj
    rw [if_pos rfl]
    simp [List.getD_eq_getElem?_getD, List.getElem?_set, hi]
  · rw [if_neg hj]
    have : ¬ i = j := fun q => hj q.symm
    simp [List.getD_eq_getElem?_getD, List.getElem?_set, this]
theorem z_updQ {ad : Nat → Option Nat} {l : List (Option Nat)} {i : Nat} {x : Option Nat} (hi : i < l.length) : va_up (fun j => (l.getD j none).bind ad) i (x.bind ad) = fun j => ((l.set i x).getD j none).bind ad := by
  funext j
  unfold va_up
  by_cases hj : j = i
  · subst hj
    rw [if_pos rfl]
    simp [List.getD_eq_getElem?_getD, List.getElem?_set, hi]
  · rw [if_neg hj]
    have : ¬ i = j := fun q => hj q.symm
    simp [List.getD_eq_getElem?_getD, List.getElem?_set, this]
/-- what a list of ints holds at a place -/
theorem z_getI {l : List Int32} {i : Nat} {v : Value} (h : (l.map Value.int)[i]? = some v) : i < l.length ∧ v = .int (l.getD i 0) := by
  rw [List.getElem?_map] at h
  cases e : l[i]? with
  | none => rw [e] at h; cases h
  | some x => rw [e] at h; cases h; exact ⟨(List.getElem?_eq_some_iff.mp e).1, by simp [List.getD_eq_getElem?_getD, e]⟩
theorem z_getL {l : List Int64} {i : Nat} {v : Value} (h : (l.map Value.long)[i]? = some v) : i < l.length ∧ v = .long (l.getD i 0) := by
  rw [List.getElem?_map] at h
  cases e : l[i]? with
  | none => rw [e] at h; cases h
  | some x => rw [e] at h; cases h; exact ⟨(List.getElem?_eq_some_iff.mp e).1, by simp [List.getD_eq_getElem?_getD, e]⟩
theorem z_getQ {ad : Nat → Option Nat} {l : List (Option Nat)} {i : Nat} {v : Value} (h : (l.map va_rf)[i]? = some v) : i < l.length ∧ z_cv ad v = va_rf ((l.getD i none).bind ad) := by
  rw [List.getElem?_map] at h
  cases e : l[i]? with
  | none => rw [e] at h; cases h
  | some x =>
    rw [e] at h; cases h
    refine ⟨(List.getElem?_eq_some_iff.mp e).1, ?_⟩
    cases x <;> simp [List.getD_eq_getElem?_getD, e, va_rf, z_cv]
theorem z_in {i : Int32} {n : Nat} (h0 : ¬ i < 0) (h : i.toNatClampNeg < n) : vp_in i n := by
  unfold vp_in
  intro q
  rcases q with q | q
  · exact h0 q
  · omega
end
section
/-! THE PURE MACHINE, III: what reads and writes the heap. -/
def z_hg (S : List zC) (h : zH) (k : Nat) : Option zC := cond (Nat.blt k 1000000) h[k]? S[k - 1000000]?
theorem z_hg_cases {S : List zC} {h : zH} {k : Nat} {c : zC} (e : z_hg S h k = some c) : (k < 1000000 ∧ h[k]? = some c) ∨ (1000000 ≤ k ∧ S[k - 1000000]? = some c) := by
  unfold z_hg at e
  cases hb : Nat.blt k 1000000 with
  | true =>
    rw [hb] at e
    exact Or.inl ⟨by simpa [Nat.blt_eq] using hb, e⟩
  | false =>
    rw [hb] at e
    exact Or.inr ⟨by
      rcases Nat.lt_or_ge k 1000000 with q | q
      · rw [Nat.blt_eq.mpr q] at hb; cases hb
      · exact q, e⟩
/-- the arrays' types: ints, bytes, chars, longs, then references -/
def z_tf (tf : List FieldType) : Prop := tf[0]? = some .int ∧ tf[1]? = some .byte ∧ tf[2]? = some .char ∧ tf[3]? = some .long ∧ ∀ (t : Nat) (ty : FieldType), 4 ≤ t → tf[t]? = some ty → ∃ C : String, ty = .object C
abbrev zF : Type := String × String × String × Value
abbrev zS : Type := String × Nat × String × Nat
/-- what holds of the cells and tables that nobody changes -/
def z_stat (scl : List vw_C) (tf : List FieldType) (S : List zC) (sf : List zF) (ss : List zS) (nw : List Cond) (A : Nat → Prop) (ad : Nat → Option Nat) (s : State) : Prop :=
  (∀ (j : Nat) (c : zC), S[j]? = some c → (∀ v ∈ c.2, z_vk 0 v) ∧ ∃ t : Nat, ad (1000000 + j) = some t ∧ ((100 ≤ c.1 ∧ ∃ ty : FieldType, tf[c.1 - 100]? = some ty ∧ va_T ty t c.2.length (fun i => z_cv ad (c.2.getD i .null)) A s s.heap) ∨ (c.1 < 100 ∧ ∃ r : vw_C, scl[c.1 - 50]? = some r ∧ 50 ≤ c.1 ∧ va_O r.1 t A s s.heap ∧ ∀ (k : Nat) (v : Value), c.2[k]? = some v → va_OF (r.2.1 k).1 (r.2.1 k).2.1 (r.2.1 k).2.2.1 (z_cv ad v) t A s s.heap))) ∧
  (∀ (j : Nat) (q : zF), sf[j]? = some q → z_vk 0 q.2.2.2 ∧ va_Z q.1 q.2.1 q.2.2.1 (z_cv ad q.2.2.2) A s s.heap) ∧
  (∀ (j : Nat) (q : zS), ss[j]? = some q → 1000000 ≤ q.2.2.2 ∧ ∃ t : Nat, ad q.2.2.2 = some t ∧ vk_R q.1 q.2.1 q.2.2.1 t s) ∧
  (∀ x y : Nat, 1000000 ≤ x → x < 1000012 → 1000000 ≤ y → y < 1000012 → ad x = ad y → x = y) ∧
  (vx_Zq Bundle.tN "UNASSIGNED_STACK" Bundle.steD A s s.heap ∧ vx_Zq Bundle.tN "SUPPRESSED_SENTINEL" Bundle.listD A s s.heap) ∧
  (∀ w ∈ nw, va_Nw w s)
section ZH
variable {p : Program} {l : Launch} {e : Env} {R : Room} {s : State} {m : MethodId} {args : Array Value} {below : List Frame} {meth : Method} {c : Code} {H H0 : Heap} {locs : List Loc} {cells slots : Nat} {Q : State → Prop}
variable {cc : ByteArray} {pc : Nat} {ls : Array Slot} {rest : List Value}
variable {D : va_G} {cl scl : List vw_C} {tys : List (ClassId × FieldType)} {tf : List FieldType} {S : List zC} {sf : List zF} {ss : List zS} {nw : List Cond} {A : Nat → Prop} {ad ad0 : Nat → Option Nat} {h : zH}
theorem z_dyn {k : Nat} {c : zC} {ws : va_W} (hr : z_rp tys ad h ws) (e : h[k]? = some c) (h100 : 100 ≤ c.1) (hty : ∀ (t : Nat) (x : ClassId × FieldType), tys[t]? = some x → tf[t]? = some x.2) :
    ∃ (q : Nat) (cA : ClassId) (ty : FieldType) (x : vp_A), ad k = some q ∧ ws[k]? = some (q, .inl (cA, x)) ∧ tys[c.1 - 100]? = some (cA, ty) ∧ tf[c.1 - 100]? = some ty ∧ z_ra ad ty c.2 x := by
  obtain ⟨q, e1, h1, h2, h3⟩ := hr.2 k c e
  rcases h3 with ⟨h4, -⟩ | ⟨-, cA, ty, x, h5, h6, h7⟩
  · omega
  · subst h6
    exact ⟨q, cA, ty, x, h1, h2, h5, hty _ _ h5, h7⟩
theorem z_sta {k : Nat} {c : zC} (hst : z_stat scl tf S sf ss nw A ad0 s) (hx0 : z_ext ad0 ad 0) (hk : 1000000 ≤ k) (e : S[k - 1000000]? = some c) (h100 : 100 ≤ c.1) :
    (∀ v ∈ c.2, z_vk 0 v) ∧ ∃ (t : Nat) (ty : FieldType), ad k = some t ∧ tf[c.1 - 100]? = some ty ∧ va_T ty t c.2.length (fun i => z_cv ad0 (c.2.getD i .null)) A s s.heap := by
  obtain ⟨h1, t, h2, h3⟩ := hst.1 _ _ e
  rw [show 1000000 + (k - 1000000) = k by omega] at h2
  rcases h3 with ⟨-, ty, h4, h5⟩ | ⟨h6, -⟩
  · exact ⟨h1, t, ty, (hx0 k (Or.inr hk)).trans h2, h4, h5⟩
  · omega
theorem z_stav {vs : List Value} {i : Nat} {v : Value} (hx0 : z_ext ad0 ad 0) (hv : ∀ v ∈ vs, z_vk 0 v) (e : vs[i]? = some v) : i < vs.length ∧ z_cv ad0 (vs.getD i .null) = z_cv ad v := by
  refine ⟨(List.getElem?_eq_some_iff.mp e).1, ?_⟩
  rw [List.getD_eq_getElem?_getD, e]
  exact (z_cv_ext hx0 (hv v (List.mem_of_getElem? e))).symm

theorem z_iaload (htf : z_tf tf) (hty : ∀ (t : Nat) (x : ClassId × FieldType), tys[t]? = some x → tf[t]? = some x.2) (hx : p.tables.exec = Jvm.exec) (hb : c.code = cc) (hK : va_K D cl tys s) (hst : z_stat scl tf S sf ss nw A ad0 s) (hx0 : z_ext ad0 ad 0) (hw : z_wd D cl tys A ad h H) (hS : va_S A s.heap H locs) {q : Nat} {vs : List Value} {i : Int32} {v : Value} (h1 : z_hg S h q = some (100, vs)) (h2 : ¬ i < 0) (h3 : vs[i.toNatClampNeg]? = some v) (hd : decode cc pc = .ok (.iaload, 1))
    (k : W p l e R s m args below meth c H locs cells slots Q (F0 m (pc + 1) ls (z_cv ad v :: rest))) : W p l e R s m args below meth c H locs cells slots Q (F0 m pc ls (.int i :: va_rf (ad q) :: rest)) := by
  rcases z_hg_cases h1 with ⟨hq, e1⟩ | ⟨hq, e1⟩
  · obtain ⟨ws, hP, hD, hr⟩ := hw
    obtain ⟨q', cA, ty, x, g1, g2, g3, g4, g5⟩ := z_dyn hr e1 (Nat.le_of_ble_eq_true rfl) hty
    have e2 : ty = .int := Option.some.inj (g4.symm.trans htf.1)
    subst e2
    obtain ⟨l0, g6, g7⟩ := g5
    dsimp only at g6
    subst g7
    rw [g6] at h3
    obtain ⟨g8, g9⟩ := z_getI h3
    rw [g1]
    rw [g9] at k
    exact va_iald hx hb hK hP q 0 g2 g3 (z_in h2 g8) hd k
  · obtain ⟨hv, t, ty, g1, g2, g3⟩ := z_sta hst hx0 hq e1 (Nat.le_of_ble_eq_true rfl)
    have e2 : ty = .int := Option.some.inj (g2.symm.trans htf.1)
    subst e2
    obtain ⟨g4, g5⟩ := z_stav hx0 hv h3
    rw [g1]
    exact va_ti hx hb g3 hS (z_in h2 g4) g5 hd k
theorem z_baload (htf : z_tf tf) (hty : ∀ (t : Nat) (x : ClassId × FieldType), tys[t]? = some x → tf[t]? = some x.2) (hx : p.tables.exec = Jvm.exec) (hb : c.code = cc) (hK : va_K D cl tys s) (hst : z_stat scl tf S sf ss nw A ad0 s) (hx0 : z_ext ad0 ad 0) (hw : z_wd D cl tys A ad h H) (hS : va_S A s.heap H locs) {q : Nat} {vs : List Value} {i : Int32} {v : Value} (h1 : z_hg S h q = some (101, vs)) (h2 : ¬ i < 0) (h3 : vs[i.toNatClampNeg]? = some v) (hd : decode cc pc = .ok (.baload, 1))
    (k : W p l e R s m args below meth c H locs cells slots Q (F0 m (pc + 1) ls (z_cv ad v :: rest))) : W p l e R s m args below meth c H locs cells slots Q (F0 m pc ls (.int i :: va_rf (ad q) :: rest)) := by
  rcases z_hg_cases h1 with ⟨hq, e1⟩ | ⟨hq, e1⟩
  · obtain ⟨ws, hP, hD, hr⟩ := hw
    obtain ⟨q', cA, ty, x, g1, g2, g3, g4, g5⟩ := z_dyn hr e1 (Nat.le_of_ble_eq_true rfl) hty
    have e2 : ty = .byte := Option.some.inj (g4.symm.trans htf.2.1)
    subst e2
    obtain ⟨l0, g6, g7⟩ := g5
    dsimp only at g6
    subst g7
    rw [g6] at h3
    obtain ⟨g8, g9⟩ := z_getI h3
    rw [g1]
    rw [g9] at k
    exact va_bald hx hb hK hP q 1 g2 g3 (z_in h2 g8) hd k
  · obtain ⟨hv, t, ty, g1, g2, g3⟩ := z_sta hst hx0 hq e1 (Nat.le_of_ble_eq_true rfl)
    have e2 : ty = .byte := Option.some.inj (g2.symm.trans htf.2.1)
    subst e2
    obtain ⟨g4, g5⟩ := z_stav hx0 hv h3
    rw [g1]
    exact va_tb hx hb g3 hS (z_in h2 g4) g5 hd k
theorem z_caload (htf : z_tf tf) (hty : ∀ (t : Nat) (x : ClassId × FieldType), tys[t]? = some x → tf[t]? = some x.2) (hx : p.tables.exec = Jvm.exec) (hb : c.code = cc) (hK : va_K D cl tys s) (hst : z_stat scl tf S sf ss nw A ad0 s) (hx0 : z_ext ad0 ad 0) (hw : z_wd D cl tys A ad h H) (hS : va_S A s.heap H locs) {q : Nat} {vs : List Value} {i : Int32} {v : Value} (h1 : z_hg S h q = some (102, vs)) (h2 : ¬ i < 0) (h3 : vs[i.toNatClampNeg]? = some v) (hd : decode cc pc = .ok (.caload, 1))
    (k : W p l e R s m args below meth c H locs cells slots Q (F0 m (pc + 1) ls (z_cv ad v :: rest))) : W p l e R s m args below meth c H locs cells slots Q (F0 m pc ls (.int i :: va_rf (ad q) :: rest)) := by
  rcases z_hg_cases h1 with ⟨hq, e1⟩ | ⟨hq, e1⟩
  · obtain ⟨ws, hP, hD, hr⟩ := hw
    obtain ⟨q', cA, ty, x, g1, g2, g3, g4, g5⟩ := z_dyn hr e1 (Nat.le_of_ble_eq_true rfl) hty
    have e2 : ty = .char := Option.some.inj (g4.symm.trans htf.2.2.1)
    subst e2
    obtain ⟨l0, g6, g7⟩ := g5
    dsimp only at g6
    subst g7
    rw [g6] at h3
    obtain ⟨g8, g9⟩ := z_getI h3
    rw [g1]
    rw [g9] at k
    exact va_cald hx hb hK hP q 2 g2 g3 (z_in h2 g8) hd k
  · obtain ⟨hv, t, ty, g1, g2, g3⟩ := z_sta hst hx0 hq e1 (Nat.le_of_ble_eq_true rfl)
    have e2 : ty = .char := Option.some.inj (g2.symm.trans htf.2.2.1)
    subst e2
    obtain ⟨g4, g5⟩ := z_stav hx0 hv h3
    rw [g1]
    exact va_tc hx hb g3 hS (z_in h2 g4) g5 hd k
theorem z_laload (htf : z_tf tf) (hty : ∀ (t : Nat) (x : ClassId × FieldType), tys[t]? = some x → tf[t]? = some x.2) (hx : p.tables.exec = Jvm.exec) (hb : c.code = cc) (hK : va_K D cl tys s) (hst : z_stat scl tf S sf ss nw A ad0 s) (hx0 : z_ext ad0 ad 0) (hw : z_wd D cl tys A ad h H) (hS : va_S A s.heap H locs) {q : Nat} {vs : List Value} {i : Int32} {v : Value} (h1 : z_hg S h q = some (103, vs)) (h2 : ¬ i < 0) (h3 : vs[i.toNatClampNeg]? = some v) (hd : decode cc pc = .ok (.laload, 1))
    (k : W p l e R s m args below meth c H locs cells slots Q (F0 m (pc + 1) ls (z_cv ad v :: rest))) : W p l e R s m args below meth c H locs cells slots Q (F0 m pc ls (.int i :: va_rf (ad q) :: rest)) := by
  rcases z_hg_cases h1 with ⟨hq, e1⟩ | ⟨hq, e1⟩
  · obtain ⟨ws, hP, hD, hr⟩ := hw
    obtain ⟨q', cA, ty, x, g1, g2, g3, g4, g5⟩ := z_dyn hr e1 (Nat.le_of_ble_eq_true rfl) hty
    have e2 : ty = .long := Option.some.inj (g4.symm.trans htf.2.2.2.1)
    subst e2
    obtain ⟨l0, g6, g7⟩ := g5
    dsimp only at g6
    subst g7
    rw [g6] at h3
    obtain ⟨g8, g9⟩ := z_getL h3
    rw [g1]
    rw [g9] at k
    exact va_lald hx hb hK hP q 3 g2 g3 (z_in h2 g8) hd k
  · obtain ⟨hv, t, ty, g1, g2, g3⟩ := z_sta hst hx0 hq e1 (Nat.le_of_ble_eq_true rfl)
    have e2 : ty = .long := Option.some.inj (g2.symm.trans htf.2.2.2.1)
    subst e2
    obtain ⟨g4, g5⟩ := z_stav hx0 hv h3
    rw [g1]
    exact va_tl hx hb g3 hS (z_in h2 g4) g5 hd k
theorem z_aaload (htf : z_tf tf) (hty : ∀ (t : Nat) (x : ClassId × FieldType), tys[t]? = some x → tf[t]? = some x.2) (hx : p.tables.exec = Jvm.exec) (hb : c.code = cc) (hK : va_K D cl tys s) (hst : z_stat scl tf S sf ss nw A ad0 s) (hx0 : z_ext ad0 ad 0) (hw : z_wd D cl tys A ad h H) (hS : va_S A s.heap H locs) {q t0 : Nat} {vs : List Value} {i : Int32} {v : Value} (h1 : z_hg S h q = some (t0, vs)) (h0 : 104 ≤ t0) (h2 : ¬ i < 0) (h3 : vs[i.toNatClampNeg]? = some v) (hd : decode cc pc = .ok (.aaload, 1))
    (k : W p l e R s m args below meth c H locs cells slots Q (F0 m (pc + 1) ls (z_cv ad v :: rest))) : W p l e R s m args below meth c H locs cells slots Q (F0 m pc ls (.int i :: va_rf (ad q) :: rest)) := by
  rcases z_hg_cases h1 with ⟨hq, e1⟩ | ⟨hq, e1⟩
  · obtain ⟨ws, hP, hD, hr⟩ := hw
    obtain ⟨q', cA, ty, x, g1, g2, g3, g4, g5⟩ := z_dyn hr e1 (show 100 ≤ t0 by omega) hty
    obtain ⟨C, e2⟩ := htf.2.2.2.2 _ _ (show 4 ≤ t0 - 100 by omega) g4
    subst e2
    obtain ⟨l0, g6, g7⟩ := g5
    dsimp only at g6
    subst g7
    rw [g6] at h3
    obtain ⟨g8, g9⟩ := z_getQ (ad := ad) h3
    rw [g1]
    rw [g9] at k
    exact va_aldq hx hb hK hP q (t0 - 100) g2 g3 (z_in h2 g8) hd k
  · obtain ⟨hv, t, ty, g1, g2, g3⟩ := z_sta hst hx0 hq e1 (show 100 ≤ t0 by omega)
    obtain ⟨C, e2⟩ := htf.2.2.2.2 _ _ (show 4 ≤ t0 - 100 by omega) g2
    subst e2
    obtain ⟨g4, g5⟩ := z_stav hx0 hv h3
    rw [g1]
    exact vb_tq hx hb g3 hS (z_in h2 g4) g5 hd k
theorem z_alen (hty : ∀ (t : Nat) (x : ClassId × FieldType), tys[t]? = some x → tf[t]? = some x.2) (hx : p.tables.exec = Jvm.exec) (hb : c.code = cc) (hK : va_K D cl tys s) (hst : z_stat scl tf S sf ss nw A ad0 s) (hx0 : z_ext ad0 ad 0) (hw : z_wd D cl tys A ad h H) (hS : va_S A s.heap H locs) {q t0 : Nat} {vs : List Value} (h1 : z_hg S h q = some (t0, vs)) (h0 : 100 ≤ t0) (hd : decode cc pc = .ok (.arraylength, 1))
    (k : W p l e R s m args below meth c H locs cells slots Q (F0 m (pc + 1) ls (.int (Int32.ofNat vs.length) :: rest))) : W p l e R s m args below meth c H locs cells slots Q (F0 m pc ls (va_rf (ad q) :: rest)) := by
  rcases z_hg_cases h1 with ⟨hq, e1⟩ | ⟨hq, e1⟩
  · obtain ⟨ws, hP, hD, hr⟩ := hw
    obtain ⟨q', cA, ty, x, g1, g2, g3, g4, g5⟩ := z_dyn hr e1 h0 hty
    have e2 : x.1 = vs.length := by
      cases ty with
      | int => obtain ⟨l0, g6, g7⟩ := g5; dsimp only at g6; rw [g7, g6, List.length_map]
      | byte => obtain ⟨l0, g6, g7⟩ := g5; dsimp only at g6; rw [g7, g6, List.length_map]
      | char => obtain ⟨l0, g6, g7⟩ := g5; dsimp only at g6; rw [g7, g6, List.length_map]
      | long => obtain ⟨l0, g6, g7⟩ := g5; dsimp only at g6; rw [g7, g6, List.length_map]
      | object C => obtain ⟨l0, g6, g7⟩ := g5; dsimp only at g6; rw [g7, g6, List.length_map]
      | _ => exact g5.elim
    rw [g1]
    exact va_alen hx hb hK hP q (t0 - 100) g2 g3 (by rw [e2]) hd k
  · obtain ⟨hv, t, ty, g1, g2, g3⟩ := z_sta hst hx0 hq e1 h0
    rw [g1]
    exact va_tlen hx hb g3 hS rfl hd k
theorem z_getf {own : String} {Ts : List Cond} (hts : ∀ w ∈ Ts, w.before args s = true) (hown : s.vm.findClass own = some m.cls) (hx : p.tables.exec = Jvm.exec) (hb : c.code = cc) (hK : va_K D cl tys s) (hst : z_stat scl tf S sf ss nw A ad0 s) (hx0 : z_ext ad0 ad 0) (hw : z_wd D cl tys A ad h H) (hS : va_S A s.heap H locs) {q a b idx : Nat} {vs : List Value} {v : Value} {C : String} {T : u_T} {N : Nat} (h1 : z_hg S h q = some (a, vs)) (h100 : a < 100) (h3 : vs[b]? = some v) (hc : (a < 50 ∧ cl[a]? = some (C, T, N)) ∨ (50 ≤ a ∧ scl[a - 50]? = some (C, T, N))) (hin : a < 50 → ∀ w ∈ u_ws C T N, w ∈ Ts) (hbN : b < N) (hl : Cond.fieldLink own idx (T b).1 (T b).2.1 (T b).2.2.1 ∈ Ts) (hd : decode cc pc = .ok (.getfield idx, 3))
    (k : W p l e R s m args below meth c H locs cells slots Q (F0 m (pc + 3) ls (z_cv ad v :: rest))) : W p l e R s m args below meth c H locs cells slots Q (F0 m pc ls (va_rf (ad q) :: rest)) := by
  rcases z_hg_cases h1 with ⟨hq, e1⟩ | ⟨hq, e1⟩
  · obtain ⟨ws, hP, hD, hr⟩ := hw
    obtain ⟨q', e2, g1, g2, g3⟩ := hr.2 q _ e1
    rcases g3 with ⟨g4, g5⟩ | ⟨g4, -⟩
    · dsimp only at g4 g5
      subst g5
      rcases hc with ⟨-, hc⟩ | ⟨hc, -⟩
      · rw [g1]
        exact va_get hx hb hts (hin g4) hown hK hP q g2 hc b hbN (hts _ hl) (fun _ z => z) (by rw [List.getElem?_map, h3]; rfl) hd k
      · omega
    · dsimp only at g4; omega
  · obtain ⟨hv, t, g1, g2⟩ := hst.1 _ _ e1
    rw [show 1000000 + (q - 1000000) = q by omega] at g1
    rcases g2 with ⟨g3, -⟩ | ⟨-, r, g4, g5, g6, g7⟩
    · dsimp only at g3; omega
    · dsimp only at g4 g5 g7
      rcases hc with ⟨hc, -⟩ | ⟨-, hc⟩
      · omega
      · have e2 : r = (C, T, N) := Option.some.inj (g4.symm.trans hc)
        subst e2
        rw [(hx0 q (Or.inr hq)).trans g1]
        have g8 := g7 b v h3
        rw [← z_cv_ext hx0 (hv v (List.mem_of_getElem? h3))] at g8
        exact vk_getf hx hb g8 hS hown (hts _ hl) (fun _ z => z) hd k
def z_fit (ty : FieldType) (v : Value) : Bool := match ty, v with
  | .int, .int _ => true
  | .boolean, .int x => decide (x = 0) || decide (x = 1)
  | .object _, .ref _ => true
  | .object _, .null => true
  | .array _, .ref _ => true
  | .array _, .null => true
  | _, _ => false
theorem z_fit_ok {ty : FieldType} {v : Value} {ad : Nat → Option Nat} (hf : z_fit ty v = true) : narrow ty (z_cv ad v) = z_cv ad v ∧ fits ty (z_cv ad v) = true := by
  unfold z_fit at hf
  split at hf
  · exact ⟨rfl, rfl⟩
  · rename_i x
    simp only [Bool.or_eq_true, decide_eq_true_eq] at hf
    rcases hf with rfl | rfl
    · exact ⟨(by decide : (Value.int ((0 : Int32) &&& 1)) = .int 0), rfl⟩
    · exact ⟨(by decide : (Value.int ((1 : Int32) &&& 1)) = .int 1), rfl⟩
  · rename_i n k
    cases hk : ad k <;> simp [z_cv, hk, va_rf, narrow, fits]
  · exact ⟨rfl, rfl⟩
  · rename_i n k
    cases hk : ad k <;> simp [z_cv, hk, va_rf, narrow, fits]
  · exact ⟨rfl, rfl⟩
  · cases hf
theorem z_putf {own : String} {Ts : List Cond} (hts : ∀ w ∈ Ts, w.before args s = true) (hown : s.vm.findClass own = some m.cls) (hx : p.tables.exec = Jvm.exec) (hb : c.code = cc) (hK : va_K D cl tys s) (hw : z_wd D cl tys A ad h H) (hS : va_S A H0 H locs) {q a b idx : Nat} {vs : List Value} {v : Value} {C : String} {T : u_T} {N : Nat} {ty0 : Nat → FieldType} (h1 : h[q]? = some (a, vs)) (h50 : a < 50) (h3 : b < vs.length) (hc : cl[a]? = some (C, T, N)) (hin : ∀ w ∈ u_ws C T N, w ∈ Ts) (hty : ∀ k, k < N → parseFieldDescriptor (T k).2.2.1 = some (ty0 k)) (hnm : ∀ a, a < N → ∀ b, b < N → a ≠ b → (T a).2.1 ≠ (T b).2.1) (hbN : b < N) (hl : Cond.fieldLink own idx (T b).1 (T b).2.1 (T b).2.2.1 ∈ Ts) (hfin : (T b).2.2.2 = false ∨ ((T b).2.2.2 = true ∧ meth.name = "<init>" ∧ (T b).1 = own)) (hf : z_fit (ty0 b) v = true) (hd : decode cc pc = .ok (.putfield idx, 3))
    (k : ∀ (H1 : Heap) (locs1 : List Loc), z_wd D cl tys A ad (h.set q (a, vs.set b v)) H1 → va_S A H0 H1 locs1 → W p l e R s m args below meth c H1 locs1 cells slots Q (F0 m (pc + 3) ls rest)) : W p l e R s m args below meth c H locs cells slots Q (F0 m pc ls (z_cv ad v :: va_rf (ad q) :: rest)) := by
  obtain ⟨ws, hP, hD, hr⟩ := hw
  obtain ⟨q', e2, g1, g2, g3⟩ := hr.2 q _ h1
  have hql : q < h.length := (List.getElem?_eq_some_iff.mp h1).1
  rcases g3 with ⟨g4, g5⟩ | ⟨g4, -⟩
  · dsimp only at g4 g5
    subst g5
    rw [g1]
    have hfit := z_fit_ok (ad := ad) hf
    have key : ∀ (H1 : Heap) (locs1 : List Loc), va_P D cl (ws.set q (q', .inr (a, (vs.map (z_cv ad)).set b (z_cv ad v)))) H1 → va_D A (ws.set q (q', .inr (a, (vs.map (z_cv ad)).set b (z_cv ad v)))) → va_S A H0 H1 locs1 → W p l e R s m args below meth c H1 locs1 cells slots Q (F0 m (pc + 3) ls rest) := fun H1 locs1 hP1 hD1 hS1 =>
      k H1 locs1 ⟨_, hP1, hD1, z_rp_set hr hql g1 (Or.inl ⟨h50, by rw [List.map_set]⟩)⟩ hS1
    rcases hfin with hfin | ⟨hfin, hin2, hdecl⟩
    · exact va_put hx hb hts hin ty0 hty hnm hown hK hP hD hS q g2 hc b hbN (hts _ hl) (fun _ z => z) hfin (hty b hbN) hfit.1 hfit.2 (by rw [List.length_map]; exact h3) hd key
    · exact va_putF hx hb hts hin ty0 hty hnm hown hK hP hD hS q g2 hc b hbN (hts _ hl) (fun _ z => z) hfin hin2 hdecl (hty b hbN) hfit.1 hfit.2 (by rw [List.length_map]; exact h3) hd key
  · dsimp only at g4; omega
theorem z_iastore (htf : z_tf tf) (hty : ∀ (t : Nat) (x : ClassId × FieldType), tys[t]? = some x → tf[t]? = some x.2) (hx : p.tables.exec = Jvm.exec) (hb : c.code = cc) (hK : va_K D cl tys s) (hw : z_wd D cl tys A ad h H) (hS : va_S A H0 H locs) {q : Nat} {vs : List Value} {i : Int32} {x : Int32} (h1 : h[q]? = some (100, vs)) (h2 : ¬ i < 0) (h3 : i.toNatClampNeg < vs.length) (hd : decode cc pc = .ok (.iastore, 1))
    (k : ∀ (H1 : Heap) (locs1 : List Loc), z_wd D cl tys A ad (h.set q (100, vs.set i.toNatClampNeg (.int x))) H1 → va_S A H0 H1 locs1 → W p l e R s m args below meth c H1 locs1 cells slots Q (F0 m (pc + 1) ls rest)) : W p l e R s m args below meth c H locs cells slots Q (F0 m pc ls (.int x :: .int i :: va_rf (ad q) :: rest)) := by
  obtain ⟨ws, hP, hD, hr⟩ := hw
  have hql : q < h.length := (List.getElem?_eq_some_iff.mp h1).1
  obtain ⟨q', cA, ty, x9, g1, g2, g3, g4, g5⟩ := z_dyn hr h1 (Nat.le_of_ble_eq_true rfl) hty
  have e2 : ty = .int := Option.some.inj (g4.symm.trans htf.1)
  subst e2
  obtain ⟨l0, g6, g7⟩ := g5
  dsimp only at g6 g3
  subst g7
  have g8 : i.toNatClampNeg < l0.length := by rw [g6, List.length_map] at h3; exact h3
  rw [g1]
  refine va_iast hx hb hK hP hD hS q 0 g2 g3 (z_in h2 g8) hd (fun H1 locs1 hP1 hD1 hS1 => ?_)
  refine k H1 locs1 ⟨_, hP1, hD1, z_rp_set hr hql g1 (Or.inr ⟨Nat.le_of_ble_eq_true rfl, cA, .int, _, g3, rfl, ?_⟩)⟩ hS1
  refine ⟨l0.set i.toNatClampNeg (x), ?_, ?_⟩
  · dsimp only; rw [g6, List.map_set]
  · rw [List.length_set, z_updI g8]
theorem z_bastore (htf : z_tf tf) (hty : ∀ (t : Nat) (x : ClassId × FieldType), tys[t]? = some x → tf[t]? = some x.2) (hx : p.tables.exec = Jvm.exec) (hb : c.code = cc) (hK : va_K D cl tys s) (hw : z_wd D cl tys A ad h H) (hS : va_S A H0 H locs) {q : Nat} {vs : List Value} {i : Int32} {x : Int32} (h1 : h[q]? = some (101, vs)) (h2 : ¬ i < 0) (h3 : i.toNatClampNeg < vs.length) (hd : decode cc pc = .ok (.bastore, 1))
    (k : ∀ (H1 : Heap) (locs1 : List Loc), z_wd D cl tys A ad (h.set q (101, vs.set i.toNatClampNeg (.int (vp_nar .byte x)))) H1 → va_S A H0 H1 locs1 → W p l e R s m args below meth c H1 locs1 cells slots Q (F0 m (pc + 1) ls rest)) : W p l e R s m args below meth c H locs cells slots Q (F0 m pc ls (.int x :: .int i :: va_rf (ad q) :: rest)) := by
  obtain ⟨ws, hP, hD, hr⟩ := hw
  have hql : q < h.length := (List.getElem?_eq_some_iff.mp h1).1
  obtain ⟨q', cA, ty, x9, g1, g2, g3, g4, g5⟩ := z_dyn hr h1 (Nat.le_of_ble_eq_true rfl) hty
  have e2 : ty = .byte := Option.some.inj (g4.symm.trans htf.2.1)
  subst e2
  obtain ⟨l0, g6, g7⟩ := g5
  dsimp only at g6 g3
  subst g7
  have g8 : i.toNatClampNeg < l0.length := by rw [g6, List.length_map] at h3; exact h3
  rw [g1]
  refine va_bast hx hb hK hP hD hS q 1 g2 g3 (z_in h2 g8) hd (fun H1 locs1 hP1 hD1 hS1 => ?_)
  refine k H1 locs1 ⟨_, hP1, hD1, z_rp_set hr hql g1 (Or.inr ⟨Nat.le_of_ble_eq_true rfl, cA, .byte, _, g3, rfl, ?_⟩)⟩ hS1
  refine ⟨l0.set i.toNatClampNeg (vp_nar .byte x), ?_, ?_⟩
  · dsimp only; rw [g6, List.map_set]
  · rw [List.length_set, z_updI g8]
theorem z_castore (htf : z_tf tf) (hty : ∀ (t : Nat) (x : ClassId × FieldType), tys[t]? = some x → tf[t]? = some x.2) (hx : p.tables.exec = Jvm.exec) (hb : c.code = cc) (hK : va_K D cl tys s) (hw : z_wd D cl tys A ad h H) (hS : va_S A H0 H locs) {q : Nat} {vs : List Value} {i : Int32} {x : Int32} (h1 : h[q]? = some (102, vs)) (h2 : ¬ i < 0) (h3 : i.toNatClampNeg < vs.length) (hd : decode cc pc = .ok (.castore, 1))
    (k : ∀ (H1 : Heap) (locs1 : List Loc), z_wd D cl tys A ad (h.set q (102, vs.set i.toNatClampNeg (.int (vp_nar .char x)))) H1 → va_S A H0 H1 locs1 → W p l e R s m args below meth c H1 locs1 cells slots Q (F0 m (pc + 1) ls rest)) : W p l e R s m args below meth c H locs cells slots Q (F0 m pc ls (.int x :: .int i :: va_rf (ad q) :: rest)) := by
  obtain ⟨ws, hP, hD, hr⟩ := hw
  have hql : q < h.length := (List.getElem?_eq_some_iff.mp h1).1
  obtain ⟨q', cA, ty, x9, g1, g2, g3, g4, g5⟩ := z_dyn hr h1 (Nat.le_of_ble_eq_true rfl) hty
  have e2 : ty = .char := Option.some.inj (g4.symm.trans htf.2.2.1)
  subst e2
  obtain ⟨l0, g6, g7⟩ := g5
  dsimp only at g6 g3
  subst g7
  have g8 : i.toNatClampNeg < l0.length := by rw [g6, List.length_map] at h3; exact h3
  rw [g1]
  refine va_cast hx hb hK hP hD hS q 2 g2 g3 (z_in h2 g8) hd (fun H1 locs1 hP1 hD1 hS1 => ?_)
  refine k H1 locs1 ⟨_, hP1, hD1, z_rp_set hr hql g1 (Or.inr ⟨Nat.le_of_ble_eq_true rfl, cA, .char, _, g3, rfl, ?_⟩)⟩ hS1
  refine ⟨l0.set i.toNatClampNeg (vp_nar .char x), ?_, ?_⟩
  · dsimp only; rw [g6, List.map_set]
  · rw [List.length_set, z_updI g8]
theorem z_lastore (htf : z_tf tf) (hty : ∀ (t : Nat) (x : ClassId × FieldType), tys[t]? = some x → tf[t]? = some x.2) (hx : p.tables.exec = Jvm.exec) (hb : c.code = cc) (hK : va_K D cl tys s) (hw : z_wd D cl tys A ad h H) (hS : va_S A H0 H locs) {q : Nat} {vs : List Value} {i : Int32} {x : Int64} (h1 : h[q]? = some (103, vs)) (h2 : ¬ i < 0) (h3 : i.toNatClampNeg < vs.length) (hd : decode cc pc = .ok (.lastore, 1))
    (k : ∀ (H1 : Heap) (locs1 : List Loc), z_wd D cl tys A ad (h.set q (103, vs.set i.toNatClampNeg (.long x))) H1 → va_S A H0 H1 locs1 → W p l e R s m args below meth c H1 locs1 cells slots Q (F0 m (pc + 1) ls rest)) : W p l e R s m args below meth c H locs cells slots Q (F0 m pc ls (.long x :: .int i :: va_rf (ad q) :: rest)) := by
  obtain ⟨ws, hP, hD, hr⟩ := hw
  have hql : q < h.length := (List.getElem?_eq_some_iff.mp h1).1
  obtain ⟨q', cA, ty, x9, g1, g2, g3, g4, g5⟩ := z_dyn hr h1 (Nat.le_of_ble_eq_true rfl) hty
  have e2 : ty = .long := Option.some.inj (g4.symm.trans htf.2.2.2.1)
  subst e2
  obtain ⟨l0, g6, g7⟩ := g5
  dsimp only at g6 g3
  subst g7
  have g8 : i.toNatClampNeg < l0.length := by rw [g6, List.length_map] at h3; exact h3
  rw [g1]
  refine va_last hx hb hK hP hD hS q 3 g2 g3 (z_in h2 g8) hd (fun H1 locs1 hP1 hD1 hS1 => ?_)
  refine k H1 locs1 ⟨_, hP1, hD1, z_rp_set hr hql g1 (Or.inr ⟨Nat.le_of_ble_eq_true rfl, cA, .long, _, g3, rfl, ?_⟩)⟩ hS1
  refine ⟨l0.set i.toNatClampNeg (x), ?_, ?_⟩
  · dsimp only; rw [g6, List.map_set]
  · rw [List.length_set, z_updL g8]
theorem z_aastoreN (htf : z_tf tf) (hty : ∀ (t : Nat) (x : ClassId × FieldType), tys[t]? = some x → tf[t]? = some x.2) (hx : p.tables.exec = Jvm.exec) (hb : c.code = cc) (hK : va_K D cl tys s) (hw : z_wd D cl tys A ad h H) (hS : va_S A H0 H locs) {q t0 : Nat} {vs : List Value} {i : Int32} (h1 : h[q]? = some (t0, vs)) (h0 : 104 ≤ t0) (h2 : ¬ i < 0) (h3 : i.toNatClampNeg < vs.length) (hd : decode cc pc = .ok (.aastore, 1))
    (k : ∀ (H1 : Heap) (locs1 : List Loc), z_wd D cl tys A ad (h.set q (t0, vs.set i.toNatClampNeg .null)) H1 → va_S A H0 H1 locs1 → W p l e R s m args below meth c H1 locs1 cells slots Q (F0 m (pc + 1) ls rest)) : W p l e R s m args below meth c H locs cells slots Q (F0 m pc ls (.null :: .int i :: va_rf (ad q) :: rest)) := by
  obtain ⟨ws, hP, hD, hr⟩ := hw
  have hql : q < h.length := (List.getElem?_eq_some_iff.mp h1).1
  obtain ⟨q', cA, ty, x9, g1, g2, g3, g4, g5⟩ := z_dyn hr h1 (show 100 ≤ t0 by omega) hty
  obtain ⟨C, e2⟩ := htf.2.2.2.2 _ _ (show 4 ≤ t0 - 100 by omega) g4
  subst e2
  obtain ⟨l0, g6, g7⟩ := g5
  dsimp only at g6 g3
  subst g7
  have g8 : i.toNatClampNeg < l0.length := by rw [g6, List.length_map] at h3; exact h3
  rw [g1]
  refine va_astqN hx hb hK hP hD hS q (t0 - 100) g2 g3 (z_in h2 g8) hd (fun H1 locs1 hP1 hD1 hS1 => ?_)
  refine k H1 locs1 ⟨_, hP1, hD1, z_rp_set hr hql g1 (Or.inr ⟨by dsimp only; omega, cA, .object C, _, g3, rfl, ?_⟩)⟩ hS1
  refine ⟨l0.set i.toNatClampNeg none, ?_, ?_⟩
  · dsimp only; rw [g6, List.map_set]; rfl
  · rw [List.length_set]
    have := z_updQ (ad := ad) (x := none) g8
    rw [← this]; rfl
theorem z_aastore (htf : z_tf tf) (hty : ∀ (t : Nat) (x : ClassId × FieldType), tys[t]? = some x → tf[t]? = some x.2) (hx : p.tables.exec = Jvm.exec) (hb : c.code = cc) (hK : va_K D cl tys s) (hw : z_wd D cl tys A ad h H) (hS : va_S A H0 H locs) {q t0 w0 tw : Nat} {vs vw : List Value} {i : Int32} {r : vw_C} (h1 : h[q]? = some (t0, vs)) (h0 : 104 ≤ t0) (h2 : ¬ i < 0) (h3 : i.toNatClampNeg < vs.length) (h4 : h[w0]? = some (tw, vw)) (h5 : tw < 50) (hc : cl[tw]? = some r) (ht : tf[t0 - 100]? = some (.object r.1)) (hd : decode cc pc = .ok (.aastore, 1))
    (k : ∀ (H1 : Heap) (locs1 : List Loc), z_wd D cl tys A ad (h.set q (t0, vs.set i.toNatClampNeg (.ref w0))) H1 → va_S A H0 H1 locs1 → W p l e R s m args below meth c H1 locs1 cells slots Q (F0 m (pc + 1) ls rest)) : W p l e R s m args below meth c H locs cells slots Q (F0 m pc ls (va_rf (ad w0) :: .int i :: va_rf (ad q) :: rest)) := by
  obtain ⟨ws, hP, hD, hr⟩ := hw
  have hql : q < h.length := (List.getElem?_eq_some_iff.mp h1).1
  obtain ⟨q', cA, ty, x9, g1, g2, g3, g4, g5⟩ := z_dyn hr h1 (show 100 ≤ t0 by omega) hty
  obtain ⟨v', e3, f1, f2, f3⟩ := hr.2 w0 _ h4
  rcases f3 with ⟨-, f4⟩ | ⟨f4, -⟩
  · dsimp only at f4
    subst f4
    have e2 : ty = .object r.1 := Option.some.inj (g4.symm.trans ht)
    subst e2
    obtain ⟨l0, g6, g7⟩ := g5
    dsimp only at g6 g3
    subst g7
    have g8 : i.toNatClampNeg < l0.length := by rw [g6, List.length_map] at h3; exact h3
    rw [g1, f1]
    refine va_astq hx hb hK hP hD hS q (t0 - 100) w0 tw g2 g3 f2 hc (z_in h2 g8) hd (fun H1 locs1 hP1 hD1 hS1 => ?_)
    refine k H1 locs1 ⟨_, hP1, hD1, z_rp_set hr hql g1 (Or.inr ⟨by dsimp only; omega, cA, .object r.1, _, g3, rfl, ?_⟩)⟩ hS1
    refine ⟨l0.set i.toNatClampNeg (some w0), ?_, ?_⟩
    · dsimp only; rw [g6, List.map_set]; rfl
    · rw [List.length_set]
      have := z_updQ (ad := ad) (x := some w0) g8
      rw [← this, Option.bind_some, f1]
  · dsimp only at f4; omega
end ZH
end
section
/-! THE PURE MACHINE, IV: what makes cells, constants, tests of references; the whole of what one instruction does to the heap. -/
section ZN
variable {p : Program} {l : Launch} {e : Env} {R : Room} {s : State} {m : MethodId} {args : Array Value} {below : List Frame} {meth : Method} {c : Code} {H H0 : Heap} {locs : List Loc} {cells slots : Nat} {Q : State → Prop}
variable {cc : ByteArray} {pc : Nat} {ls : Array Slot} {rest : List Value}
variable {D : va_G} {cl scl : List vw_C} {tys : List (ClassId × FieldType)} {tf : List FieldType} {S : List zC} {sf : List zF} {ss : List zS} {nw : List Cond} {A : Nat → Prop} {ad ad0 : Nat → Option Nat} {h : zH}
theorem z_new {own : String} {Ts : List Cond} (hts : ∀ w ∈ Ts, w.before args s = true) (hown : s.vm.findClass own = some m.cls) (hx : p.tables.exec = Jvm.exec) (hb : c.code = cc) (hK : va_K D cl tys s) (hw : z_wd D cl tys A ad h H) (hS : va_S A H0 H locs) (hA : ∀ q, H0.size ≤ q → A q) (hv : z_hv h) {a N idx : Nat} {C : String} {T : u_T} {ty0 : Nat → FieldType} {fs : List Value} (h50 : a < 50) (hc : cl[a]? = some (C, T, N)) (hin : ∀ w ∈ u_ws C T N, w ∈ Ts) (hty : ∀ k, k < N → parseFieldDescriptor (T k).2.2.1 = some (ty0 k)) (hfs : ∀ j, j < N → defaultValue (ty0 j) = vp_V fs j) (hnr : ∀ v ∈ fs, ∀ f, z_cv f v = v) (h1 : Cond.classLink own idx C ∈ Ts) (h2 : Cond.instantiable C N ∈ Ts) (h3 : Cond.initialized C ∈ Ts) (hn : h.length < 1000000) (hcells : cells + 1 ≤ R.cells) (hslots : slots + N ≤ R.slots) (hd : decode cc pc = .ok (.new idx, 3))
    (k : ∀ (ad2 : Nat → Option Nat) (H1 : Heap), z_ext ad ad2 h.length → z_wd D cl tys A ad2 (h ++ [(a, fs)]) H1 → va_S A H0 H1 locs → W p l e R s m args below meth c H1 locs (cells + 1) (slots + N) Q (F0 m (pc + 3) ls (va_rf (ad2 h.length) :: rest))) : W p l e R s m args below meth c H locs cells slots Q (F0 m pc ls rest) := by
  obtain ⟨ws, hP, hD, hr⟩ := hw
  refine va_new hx hb hts hin ty0 hty hown (hts _ h1) (hts _ h2) (hts _ h3) hK hP hD hS hA hc hfs hcells hslots hd (fun q H1 hP1 hD1 hS1 => ?_)
  have e1 : va_rf (z_ad1 ad h.length q h.length) = .ref q := by unfold z_ad1; rw [if_pos rfl]; rfl
  have k1 := k (z_ad1 ad h.length q) H1 (z_ad1_ext hn) ⟨_, hP1, hD1, z_rp_push hr hn hv (Or.inl ⟨h50, by
    dsimp only
    rw [show fs.map (z_cv (z_ad1 ad h.length q)) = fs from (List.map_congr_left (fun v hv' => hnr v hv' _)).trans (List.map_id fs)]⟩)⟩ hS1
  rw [e1] at k1
  exact k1
theorem z_K2 {x : ClassId × FieldType} (hK : va_K D cl (tys ++ [x]) s) : va_RA s x.1 x.2 := (hK.2 tys.length x (by simp)).2

theorem z_newa_int {Ts : List Cond} (hts : ∀ w ∈ Ts, w.before args s = true) (hx : p.tables.exec = Jvm.exec) (hb : c.code = cc) (hK : va_K D cl tys s) (hw : z_wd D cl tys A ad h H) (hS : va_S A H0 H locs) (hA : ∀ q, H0.size ≤ q → A q) (hv : z_hv h) {n : Int32} (h1 : Cond.arrayClass .int ∈ Ts) {x : ClassId} (hx2 : tys[0]? = some (x, .int)) (h0 : ¬ n < 0) (hbytes : n.toNatClampNeg * 8 ≤ 536870912) (hn : h.length < 1000000) (hcells : cells + 1 ≤ R.cells) (hslots : slots + n.toNatClampNeg ≤ R.slots) (hd : decode cc pc = .ok (.newarray .int, 2))
    (k : ∀ (ad2 : Nat → Option Nat) (H1 : Heap), z_ext ad ad2 h.length → z_wd D cl tys A ad2 (h ++ [(100, List.replicate n.toNatClampNeg (.int 0))]) H1 → va_S A H0 H1 locs → W p l e R s m args below meth c H1 locs (cells + 1) (slots + n.toNatClampNeg) Q (F0 m (pc + 2) ls (va_rf (ad2 h.length) :: rest))) : W p l e R s m args below meth c H locs cells slots Q (F0 m pc ls (.int n :: rest)) := by
  obtain ⟨ws, hP, hD, hr⟩ := hw
  refine va_newa (atype := .int) (ty := .int) (a0 := (n.toNatClampNeg, .inl (fun _ => 0))) hx hb (hts _ h1) rfl hK hP hD hS hA (fun _ => rfl) h0 rfl (by show n.toNatClampNeg * 4 ≤ 536870912; omega) hcells hslots hd (fun q cA H1 hK1 hP1 hD1 hS1 => ?_)
  have e1 : va_rf (z_ad1 ad h.length q h.length) = .ref q := by unfold z_ad1; rw [if_pos rfl]; rfl
  have e2 : cA = x := z_sameA (z_K2 hK1) (hK.2 0 _ hx2).2
  subst e2
  have k1 := k (z_ad1 ad h.length q) H1 (z_ad1_ext hn) ⟨_, hP1, hD1, z_rp_push hr hn hv (Or.inr ⟨Nat.le_of_ble_eq_true rfl, cA, .int, _, hx2, rfl, List.replicate n.toNatClampNeg (0 : Int32), by dsimp only; rw [List.map_replicate], by
    rw [List.length_replicate]
    have e9 : (fun j => (List.replicate n.toNatClampNeg (0 : Int32)).getD j 0) = fun _ => 0 := by
      funext j
      by_cases hj : j < n.toNatClampNeg <;> simp [List.getD_eq_getElem?_getD, List.getElem?_replicate, hj]
    rw [e9]⟩)⟩ hS1
  rw [e1] at k1
  exact k1
theorem z_newa_byte {Ts : List Cond} (hts : ∀ w ∈ Ts, w.before args s = true) (hx : p.tables.exec = Jvm.exec) (hb : c.code = cc) (hK : va_K D cl tys s) (hw : z_wd D cl tys A ad h H) (hS : va_S A H0 H locs) (hA : ∀ q, H0.size ≤ q → A q) (hv : z_hv h) {n : Int32} (h1 : Cond.arrayClass .byte ∈ Ts) {x : ClassId} (hx2 : tys[1]? = some (x, .byte)) (h0 : ¬ n < 0) (hbytes : n.toNatClampNeg * 8 ≤ 536870912) (hn : h.length < 1000000) (hcells : cells + 1 ≤ R.cells) (hslots : slots + n.toNatClampNeg ≤ R.slots) (hd : decode cc pc = .ok (.newarray .byte, 2))
    (k : ∀ (ad2 : Nat → Option Nat) (H1 : Heap), z_ext ad ad2 h.length → z_wd D cl tys A ad2 (h ++ [(101, List.replicate n.toNatClampNeg (.int 0))]) H1 → va_S A H0 H1 locs → W p l e R s m args below meth c H1 locs (cells + 1) (slots + n.toNatClampNeg) Q (F0 m (pc + 2) ls (va_rf (ad2 h.length) :: rest))) : W p l e R s m args below meth c H locs cells slots Q (F0 m pc ls (.int n :: rest)) := by
  obtain ⟨ws, hP, hD, hr⟩ := hw
  refine va_newa (atype := .byte) (ty := .byte) (a0 := (n.toNatClampNeg, .inl (fun _ => 0))) hx hb (hts _ h1) rfl hK hP hD hS hA (fun _ => rfl) h0 rfl (by show n.toNatClampNeg * 1 ≤ 536870912; omega) hcells hslots hd (fun q cA H1 hK1 hP1 hD1 hS1 => ?_)
  have e1 : va_rf (z_ad1 ad h.length q h.length) = .ref q := by unfold z_ad1; rw [if_pos rfl]; rfl
  have e2 : cA = x := z_sameA (z_K2 hK1) (hK.2 1 _ hx2).2
  subst e2
  have k1 := k (z_ad1 ad h.length q) H1 (z_ad1_ext hn) ⟨_, hP1, hD1, z_rp_push hr hn hv (Or.inr ⟨Nat.le_of_ble_eq_true rfl, cA, .byte, _, hx2, rfl, List.replicate n.toNatClampNeg (0 : Int32), by dsimp only; rw [List.map_replicate], by
    rw [List.length_replicate]
    have e9 : (fun j => (List.replicate n.toNatClampNeg (0 : Int32)).getD j 0) = fun _ => 0 := by
      funext j
      by_cases hj : j < n.toNatClampNeg <;> simp [List.getD_eq_getElem?_getD, List.getElem?_replicate, hj]
    rw [e9]⟩)⟩ hS1
  rw [e1] at k1
  exact k1
theorem z_newa_char {Ts : List Cond} (hts : ∀ w ∈ Ts, w.before args s = true) (hx : p.tables.exec = Jvm.exec) (hb : c.code = cc) (hK : va_K D cl tys s) (hw : z_wd D cl tys A ad h H) (hS : va_S A H0 H locs) (hA : ∀ q, H0.size ≤ q → A q) (hv : z_hv h) {n : Int32} (h1 : Cond.arrayClass .char ∈ Ts) {x : ClassId} (hx2 : tys[2]? = some (x, .char)) (h0 : ¬ n < 0) (hbytes : n.toNatClampNeg * 8 ≤ 536870912) (hn : h.length < 1000000) (hcells : cells + 1 ≤ R.cells) (hslots : slots + n.toNatClampNeg ≤ R.slots) (hd : decode cc pc = .ok (.newarray .char, 2))
    (k : ∀ (ad2 : Nat → Option Nat) (H1 : Heap), z_ext ad ad2 h.length → z_wd D cl tys A ad2 (h ++ [(102, List.replicate n.toNatClampNeg (.int 0))]) H1 → va_S A H0 H1 locs → W p l e R s m args below meth c H1 locs (cells + 1) (slots + n.toNatClampNeg) Q (F0 m (pc + 2) ls (va_rf (ad2 h.length) :: rest))) : W p l e R s m args below meth c H locs cells slots Q (F0 m pc ls (.int n :: rest)) := by
  obtain ⟨ws, hP, hD, hr⟩ := hw
  refine va_newa (atype := .char) (ty := .char) (a0 := (n.toNatClampNeg, .inl (fun _ => 0))) hx hb (hts _ h1) rfl hK hP hD hS hA (fun _ => rfl) h0 rfl (by show n.toNatClampNeg * 2 ≤ 536870912; omega) hcells hslots hd (fun q cA H1 hK1 hP1 hD1 hS1 => ?_)
  have e1 : va_rf (z_ad1 ad h.length q h.length) = .ref q := by unfold z_ad1; rw [if_pos rfl]; rfl
  have e2 : cA = x := z_sameA (z_K2 hK1) (hK.2 2 _ hx2).2
  subst e2
  have k1 := k (z_ad1 ad h.length q) H1 (z_ad1_ext hn) ⟨_, hP1, hD1, z_rp_push hr hn hv (Or.inr ⟨Nat.le_of_ble_eq_true rfl, cA, .char, _, hx2, rfl, List.replicate n.toNatClampNeg (0 : Int32), by dsimp only; rw [List.map_replicate], by
    rw [List.length_replicate]
    have e9 : (fun j => (List.replicate n.toNatClampNeg (0 : Int32)).getD j 0) = fun _ => 0 := by
      funext j
      by_cases hj : j < n.toNatClampNeg <;> simp [List.getD_eq_getElem?_getD, List.getElem?_replicate, hj]
    rw [e9]⟩)⟩ hS1
  rw [e1] at k1
  exact k1
theorem z_newa_long {Ts : List Cond} (hts : ∀ w ∈ Ts, w.before args s = true) (hx : p.tables.exec = Jvm.exec) (hb : c.code = cc) (hK : va_K D cl tys s) (hw : z_wd D cl tys A ad h H) (hS : va_S A H0 H locs) (hA : ∀ q, H0.size ≤ q → A q) (hv : z_hv h) {n : Int32} (h1 : Cond.arrayClass .long ∈ Ts) {x : ClassId} (hx2 : tys[3]? = some (x, .long)) (h0 : ¬ n < 0) (hbytes : n.toNatClampNeg * 8 ≤ 536870912) (hn : h.length < 1000000) (hcells : cells + 1 ≤ R.cells) (hslots : slots + n.toNatClampNeg ≤ R.slots) (hd : decode cc pc = .ok (.newarray .long, 2))
    (k : ∀ (ad2 : Nat → Option Nat) (H1 : Heap), z_ext ad ad2 h.length → z_wd D cl tys A ad2 (h ++ [(103, List.replicate n.toNatClampNeg (.long 0))]) H1 → va_S A H0 H1 locs → W p l e R s m args below meth c H1 locs (cells + 1) (slots + n.toNatClampNeg) Q (F0 m (pc + 2) ls (va_rf (ad2 h.length) :: rest))) : W p l e R s m args below meth c H locs cells slots Q (F0 m pc ls (.int n :: rest)) := by
  obtain ⟨ws, hP, hD, hr⟩ := hw
  refine va_newa (atype := .long) (ty := .long) (a0 := (n.toNatClampNeg, .inr (.inl (fun _ => 0)))) hx hb (hts _ h1) rfl hK hP hD hS hA (fun _ => rfl) h0 rfl (by show n.toNatClampNeg * 8 ≤ 536870912; omega) hcells hslots hd (fun q cA H1 hK1 hP1 hD1 hS1 => ?_)
  have e1 : va_rf (z_ad1 ad h.length q h.length) = .ref q := by unfold z_ad1; rw [if_pos rfl]; rfl
  have e2 : cA = x := z_sameA (z_K2 hK1) (hK.2 3 _ hx2).2
  subst e2
  have k1 := k (z_ad1 ad h.length q) H1 (z_ad1_ext hn) ⟨_, hP1, hD1, z_rp_push hr hn hv (Or.inr ⟨Nat.le_of_ble_eq_true rfl, cA, .long, _, hx2, rfl, List.replicate n.toNatClampNeg (0 : Int64), by dsimp only; rw [List.map_replicate], by
    rw [List.length_replicate]
    have e9 : (fun j => (List.replicate n.toNatClampNeg (0 : Int64)).getD j 0) = fun _ => 0 := by
      funext j
      by_cases hj : j < n.toNatClampNeg <;> simp [List.getD_eq_getElem?_getD, List.getElem?_replicate, hj]
    rw [e9]⟩)⟩ hS1
  rw [e1] at k1
  exact k1
theorem z_newq {own : String} {Ts : List Cond} (hts : ∀ w ∈ Ts, w.before args s = true) (hown : s.vm.findClass own = some m.cls) (hx : p.tables.exec = Jvm.exec) (hb : c.code = cc) (hK : va_K D cl tys s) (hw : z_wd D cl tys A ad h H) (hS : va_S A H0 H locs) (hA : ∀ q, H0.size ≤ q → A q) (hv : z_hv h) {n : Int32} {C : String} {idx a : Nat} (h1 : Cond.classLink own idx C ∈ Ts) (hAO : va_AO C s) {x : ClassId} (ha : 100 ≤ a) (hx2 : tys[a - 100]? = some (x, .object C)) (h0 : ¬ n < 0) (hbytes : n.toNatClampNeg * 8 ≤ 536870912) (hn : h.length < 1000000) (hcells : cells + 1 ≤ R.cells) (hslots : slots + n.toNatClampNeg ≤ R.slots) (hd : decode cc pc = .ok (.anewarray idx, 3))
    (k : ∀ (ad2 : Nat → Option Nat) (H1 : Heap), z_ext ad ad2 h.length → z_wd D cl tys A ad2 (h ++ [(a, List.replicate n.toNatClampNeg .null)]) H1 → va_S A H0 H1 locs → W p l e R s m args below meth c H1 locs (cells + 1) (slots + n.toNatClampNeg) Q (F0 m (pc + 3) ls (va_rf (ad2 h.length) :: rest))) : W p l e R s m args below meth c H locs cells slots Q (F0 m pc ls (.int n :: rest)) := by
  obtain ⟨ws, hP, hD, hr⟩ := hw
  refine va_newq hx hb hown (hts _ h1) hAO hK hP hD hS hA h0 rfl (by omega) hcells hslots hd (fun q cA H1 hK1 hP1 hD1 hS1 => ?_)
  have e1 : va_rf (z_ad1 ad h.length q h.length) = .ref q := by unfold z_ad1; rw [if_pos rfl]; rfl
  have e2 : cA = x := z_sameA (z_K2 hK1) (hK.2 _ _ hx2).2
  subst e2
  have k1 := k (z_ad1 ad h.length q) H1 (z_ad1_ext hn) ⟨_, hP1, hD1, z_rp_push hr hn hv (Or.inr ⟨ha, cA, .object C, _, hx2, rfl, List.replicate n.toNatClampNeg none, by dsimp only; rw [List.map_replicate]; rfl, by
    rw [List.length_replicate]
    have e9 : (fun j => ((List.replicate n.toNatClampNeg (none : Option Nat)).getD j none).bind (z_ad1 ad h.length q)) = fun _ => none := by
      funext j
      by_cases hj : j < n.toNatClampNeg <;> simp [List.getD_eq_getElem?_getD, List.getElem?_replicate, hj]
    rw [e9]⟩)⟩ hS1
  rw [e1] at k1
  exact k1
/-- a known cell has an address -/
theorem z_hg_ad (hst : z_stat scl tf S sf ss nw A ad0 s) (hx0 : z_ext ad0 ad 0) (hw : z_wd D cl tys A ad h H) {q : Nat} {c : zC} (e : z_hg S h q = some c) : ∃ a : Nat, ad q = some a := by
  rcases z_hg_cases e with ⟨hq, e1⟩ | ⟨hq, e1⟩
  · obtain ⟨ws, hP, hD, hr⟩ := hw
    obtain ⟨a, _, h1, -⟩ := hr.2 q _ e1
    exact ⟨a, h1⟩
  · obtain ⟨-, t, h1, -⟩ := hst.1 _ _ e1
    rw [show 1000000 + (q - 1000000) = q by omega] at h1
    exact ⟨t, (hx0 q (Or.inr hq)).trans h1⟩
/-- an object that a method is called of -/
theorem z_recv (hK : va_K D cl tys s) (hst : z_stat scl tf S sf ss nw A ad0 s) (hx0 : z_ext ad0 ad 0) (hw : z_wd D cl tys A ad h H) (hS : va_S A s.heap H locs) {q a : Nat} {vs : List Value} {r : vw_C} (e : z_hg S h q = some (a, vs)) (h100 : a < 100) (hc : (a < 50 ∧ cl[a]? = some r) ∨ (50 ≤ a ∧ scl[a - 50]? = some r)) : ∃ b : Nat, ad q = some b ∧ ∃ cell : Cell, H[b]? = some cell ∧ cell.vm.isStatics = false ∧ s.vm.findClass r.1 = some cell.cls := by
  rcases z_hg_cases e with ⟨hq, e1⟩ | ⟨hq, e1⟩
  · obtain ⟨ws, hP, hD, hr⟩ := hw
    obtain ⟨b, e2, h1, h2, h3⟩ := hr.2 q _ e1
    rcases h3 with ⟨h4, h5⟩ | ⟨h4, -⟩
    · dsimp only at h4 h5
      subst h5
      rcases hc with ⟨-, hc⟩ | ⟨hc, -⟩
      · exact ⟨b, h1, va_recv hK hP hc h2⟩
      · omega
    · dsimp only at h4; omega
  · obtain ⟨-, t, h1, h2⟩ := hst.1 _ _ e1
    rw [show 1000000 + (q - 1000000) = q by omega] at h1
    rcases h2 with ⟨h3, -⟩ | ⟨-, r', h4, h5, h6, -⟩
    · dsimp only at h3; omega
    · dsimp only at h4 h5
      rcases hc with ⟨hc, -⟩ | ⟨-, hc⟩
      · omega
      · have e3 : r' = r := Option.some.inj (h4.symm.trans hc)
        subst e3
        obtain ⟨cell, g1, g2, g3, -⟩ := h6.kept hS.2.1
        exact ⟨t, (hx0 q (Or.inr hq)).trans h1, cell, g1, g2, g3⟩
theorem z_ldcSW {own tx : String} {index q : Nat} (hx : p.tables.exec = Jvm.exec) (hb : c.code = cc) (hown : s.vm.findClass own = some m.cls) (hZ : vk_R own index tx q s) (hdg : decode cc pc = .ok (.ldc_w index, 3))
    (k : W p l e R s m args below meth c H locs cells slots Q (F0 m (pc + 3) ls (.ref q :: rest))) : W p l e R s m args below meth c H locs cells slots Q (F0 m pc ls rest) := by
  intro T hT X
  obtain ⟨t, a1, b1⟩ := k T hT X
  exact ⟨t, X.ldcStringW hx hown (text := tx) (a := q) hZ.1 hZ.2 (g := F0 m pc ls rest) rfl (by rw [hb]; exact hdg) t a1, b1⟩
end ZN
abbrev zHR : Type := Nat × List Value × zH × Nat × Nat
/-- the tables that the pure machine reads: cells that nobody writes, static fields, string constants, number constants, the fields' types, a new object's fields, the class that an array's elements have -/
abbrev zT : Type := List zC × List zF × List zS × List Value × (Nat → Nat → FieldType) × (Nat → List Value) × (Nat → Nat)
def z_ald (T : zT) (t0 pc : Nat) (st : List Value) (h : zH) : Option zHR := match st with
  | .int i :: .ref q :: r => (match z_hg T.1 h q with
    | some (t, vs) => if t = t0 ∧ ¬ i < 0 then (match vs[i.toNatClampNeg]? with | some v => some (pc + 1, v :: r, h, 0, 0) | none => none) else none
    | none => none)
  | _ => none
def z_mk (pc a N : Nat) (fs : List Value) (r : List Value) (h : zH) : Option zHR := if h.length < 1000000 then some (pc, .ref h.length :: r, h ++ [(a, fs)], 1, N) else none
def z_cs (st : List Value) : Nat := (st.map fun v => v.category).sum
def z_hp (T : zT) (i : Instr) (pc a b : Nat) (st : List Value) (h : zH) : Option zHR := match i with
  | .getfield _ => (match st with
    | .ref q :: r => (match z_hg T.1 h q with | some (t, vs) => if t = a then (match vs[b]? with | some v => some (pc + 3, v :: r, h, 0, 0) | none => none) else none | none => none)
    | _ => none)
  | .putfield _ => (match st with
    | v :: .ref q :: r => (match h[q]? with | some (t, vs) => if t = a ∧ b < vs.length ∧ z_fit (T.2.2.2.2.1 a b) v = true then some (pc + 3, r, h.set q (t, vs.set b v), 0, 0) else none | none => none)
    | _ => none)
  | .getstatic _ => (match T.2.1[b]? with | some f => some (pc + 3, f.2.2.2 :: st, h, 0, 0) | none => none)
  | .ldc _ => (match a with
    | 0 => (match T.2.2.2.1[b]? with | some v => some (pc + 2, v :: st, h, 0, 0) | none => none)
    | _ => (match T.2.2.1[b]? with | some f => some (pc + 2, .ref f.2.2.2 :: st, h, 0, 0) | none => none))
  | .ldc_w _ => (match T.2.2.1[b]? with | some f => some (pc + 3, .ref f.2.2.2 :: st, h, 0, 0) | none => none)
  | .ldc2_w _ => (match T.2.2.2.1[b]? with | some v => some (pc + 3, v :: st, h, 0, 0) | none => none)
  | .arraylength => (match st with
    | .ref q :: r => (match z_hg T.1 h q with | some (t, vs) => if 100 ≤ t then some (pc + 1, .int (Int32.ofNat vs.length) :: r, h, 0, 0) else none | none => none)
    | _ => none)
  | .iaload => z_ald T 100 pc st h
  | .baload => z_ald T 101 pc st h
  | .caload => z_ald T 102 pc st h
  | .laload => z_ald T 103 pc st h
  | .aaload => (match st with
    | .int i :: .ref q :: r => (match z_hg T.1 h q with
      | some (t, vs) => if 104 ≤ t ∧ ¬ i < 0 then (match vs[i.toNatClampNeg]? with | some v => some (pc + 1, v :: r, h, 0, 0) | none => none) else none
      | none => none)
    | _ => none)
  | .iastore => (match st with
    | .int x :: .int i :: .ref q :: r => (match h[q]? with | some (t, vs) => if t = 100 ∧ ¬ i < 0 ∧ i.toNatClampNeg < vs.length then some (pc + 1, r, h.set q (t, vs.set i.toNatClampNeg (.int x)), 0, 0) else none | none => none)
    | _ => none)
  | .bastore => (match st with
    | .int x :: .int i :: .ref q :: r => (match h[q]? with | some (t, vs) => if t = 101 ∧ ¬ i < 0 ∧ i.toNatClampNeg < vs.length then some (pc + 1, r, h.set q (t, vs.set i.toNatClampNeg (.int (vp_nar .byte x))), 0, 0) else none | none => none)
    | _ => none)
  | .castore => (match st with
    | .int x :: .int i :: .ref q :: r => (match h[q]? with | some (t, vs) => if t = 102 ∧ ¬ i < 0 ∧ i.toNatClampNeg < vs.length then some (pc + 1, r, h.set q (t, vs.set i.toNatClampNeg (.int (vp_nar .char x))), 0, 0) else none | none => none)
    | _ => none)
  | .lastore => (match st with
    | .long x :: .int i :: .ref q :: r => (match h[q]? with | some (t, vs) => if t = 103 ∧ ¬ i < 0 ∧ i.toNatClampNeg < vs.length then some (pc + 1, r, h.set q (t, vs.set i.toNatClampNeg (.long x)), 0, 0) else none | none => none)
    | _ => none)
  | .aastore => (match st with
    | .null :: .int i :: .ref q :: r => (match h[q]? with | some (t, vs) => if 104 ≤ t ∧ ¬ i < 0 ∧ i.toNatClampNeg < vs.length then some (pc + 1, r, h.set q (t, vs.set i.toNatClampNeg .null), 0, 0) else none | none => none)
    | .ref w :: .int i :: .ref q :: r => (match h[q]?, h[w]? with | some (t, vs), some (tw, _) => if (104 ≤ t ∧ t < 106) ∧ ¬ i < 0 ∧ i.toNatClampNeg < vs.length ∧ tw = T.2.2.2.2.2.2 t then some (pc + 1, r, h.set q (t, vs.set i.toNatClampNeg (.ref w)), 0, 0) else none | _, _ => none)
    | _ => none)
  | .new _ => z_mk (pc + 3) a b (T.2.2.2.2.2.1 a) st h
  | .newarray t => (match st with
    | .int n :: r => if ¬ n < 0 ∧ n.toNatClampNeg * 8 ≤ 536870912 then (match t with
      | .int => z_mk (pc + 2) 100 n.toNatClampNeg (List.replicate n.toNatClampNeg (.int 0)) r h
      | .byte => z_mk (pc + 2) 101 n.toNatClampNeg (List.replicate n.toNatClampNeg (.int 0)) r h
      | .char => z_mk (pc + 2) 102 n.toNatClampNeg (List.replicate n.toNatClampNeg (.int 0)) r h
      | .long => z_mk (pc + 2) 103 n.toNatClampNeg (List.replicate n.toNatClampNeg (.long 0)) r h
      | _ => none) else none
    | _ => none)
  | .anewarray _ => (match st with
    | .int n :: r => if ¬ n < 0 ∧ n.toNatClampNeg * 8 ≤ 536870912 then z_mk (pc + 3) a n.toNatClampNeg (List.replicate n.toNatClampNeg .null) r h else none
    | _ => none)
  | .invokespecial _ => (match st with
    | .ref q :: r => (match z_hg T.1 h q with | some _ => if z_cs r ≤ 8 then some (pc + 3, r, h, 0, 0) else none | none => none)
    | _ => none)
  | .invokestatic _ => (match st with
    | .int y :: .int x :: r => if z_cs r ≤ 7 then some (pc + 3, .int (if x < y then y else x) :: r, h, 0, 0) else none
    | _ => none)
  | .ifnull _ => (match st with
    | .null :: r => some (a, r, h, 0, 0)
    | .ref q :: r => (match z_hg T.1 h q with | some _ => some (pc + 3, r, h, 0, 0) | none => none)
    | _ => none)
  | .ifnonnull _ => (match st with
    | .null :: r => some (pc + 3, r, h, 0, 0)
    | .ref q :: r => (match z_hg T.1 h q with | some _ => some (a, r, h, 0, 0) | none => none)
    | _ => none)
  | .if_acmp c0 _ => (match c0 with
    | .ne => (match st with
      | .ref y :: .ref x :: r => if 1000000 ≤ x ∧ x < 1000012 ∧ 1000000 ≤ y ∧ y < 1000012 then (if x = y then some (pc + 3, r, h, 0, 0) else some (a, r, h, 0, 0)) else none
      | _ => none)
    | _ => none)
  | _ => none
/-- what the tables must say of an instruction -/
def z_okh (cl scl : List vw_C) (tf : List FieldType) (nw : List Cond) (T : zT) (own nm : String) (Ts : List Cond) (i : Instr) (len pc a b : Nat) : Prop := match i with
  | .getfield idx => len = 3 ∧ a < 100 ∧ ∃ (C : String) (F : u_T) (N : Nat), ((a < 50 ∧ cl[a]? = some (C, F, N)) ∨ (50 ≤ a ∧ scl[a - 50]? = some (C, F, N))) ∧ b < N ∧ Cond.fieldLink own idx (F b).1 (F b).2.1 (F b).2.2.1 ∈ Ts
  | .putfield idx => len = 3 ∧ a < 50 ∧ ∃ (C : String) (F : u_T) (N : Nat), cl[a]? = some (C, F, N) ∧ b < N ∧ Cond.fieldLink own idx (F b).1 (F b).2.1 (F b).2.2.1 ∈ Ts ∧ ((F b).2.2.2 = false ∨ ((F b).2.2.2 = true ∧ nm = "<init>" ∧ (F b).1 = own))
  | .getstatic idx => len = 3 ∧ ∃ f : zF, T.2.1[b]? = some f ∧ Cond.fieldLink own idx f.1 f.2.1 f.2.2.1 ∈ Ts
  | .ldc idx => len = 2 ∧ ((a = 0 ∧ ∃ x : Int32, T.2.2.2.1[b]? = some (.int x) ∧ Jvm.Cond.constant own idx x ∈ Ts) ∨ (a = 1 ∧ ∃ f : zS, T.2.2.1[b]? = some f ∧ f.1 = own ∧ f.2.1 = idx))
  | .ldc_w idx => len = 3 ∧ ∃ f : zS, T.2.2.1[b]? = some f ∧ f.1 = own ∧ f.2.1 = idx
  | .ldc2_w idx => len = 3 ∧ ∃ x : Int64, T.2.2.2.1[b]? = some (.long x) ∧ Jvm.Cond.constantLong own idx x ∈ Ts
  | .arraylength => len = 1
  | .iaload => len = 1
  | .baload => len = 1
  | .caload => len = 1
  | .laload => len = 1
  | .aaload => len = 1
  | .iastore => len = 1
  | .bastore => len = 1
  | .castore => len = 1
  | .lastore => len = 1
  | .aastore => len = 1
  | .new idx => len = 3 ∧ a < 50 ∧ ∃ (C : String) (F : u_T), cl[a]? = some (C, F, b) ∧ (∀ j, j < b → defaultValue (T.2.2.2.2.1 a j) = vp_V (T.2.2.2.2.2.1 a) j) ∧ (∀ v ∈ T.2.2.2.2.2.1 a, v = .null ∨ v = .int 0) ∧ Cond.classLink own idx C ∈ Ts ∧ Cond.instantiable C b ∈ Ts ∧ Cond.initialized C ∈ Ts
  | .newarray t => len = 2 ∧ Cond.arrayClass (newarray.typeOf t) ∈ Ts
  | .anewarray idx => len = 3 ∧ (104 ≤ a ∧ a < 106) ∧ ∃ C : String, tf[a - 100]? = some (.object C) ∧ Cond.classLink own idx C ∈ Ts ∧ Cond.arrayOver (.object C) ∈ nw
  | .invokespecial idx => len = 3 ∧ Cond.methodLink own idx objectInit ∈ Ts ∧ Cond.instanceMethod objectInit ∈ Ts ∧ Cond.code objectInit ⟨#[0xb1]⟩ 1 none ∈ Ts
  | .invokestatic idx => len = 3 ∧ Cond.methodLink own idx Lib.Math.max.name ∈ Ts ∧ Cond.static Lib.Math.max.name ∈ Ts ∧ Cond.initialized "java/lang/Math" ∈ Ts ∧ Cond.code Lib.Math.max.name Lib.Math.max.code 2 (some .int) ∈ Ts
  | .ifnull off => len = 3 ∧ (pc : Int) + off = (a : Int)
  | .ifnonnull off => len = 3 ∧ (pc : Int) + off = (a : Int)
  | .if_acmp _ off => len = 3 ∧ (pc : Int) + off = (a : Int)
  | _ => False
/-- what the tables must say of the classes -/
def z_okc (cl : List vw_C) (tf : List FieldType) (T : zT) (Ts : List Cond) : Prop :=
  (∀ (ci : Nat) (r : vw_C), cl[ci]? = some r → (∀ w ∈ u_ws r.1 r.2.1 r.2.2, w ∈ Ts) ∧ (∀ k, k < r.2.2 → parseFieldDescriptor (r.2.1 k).2.2.1 = some (T.2.2.2.2.1 ci k)) ∧ (∀ a, a < r.2.2 → ∀ b, b < r.2.2 → a ≠ b → (r.2.1 a).2.1 ≠ (r.2.1 b).2.1)) ∧
  (∀ t : Nat, 104 ≤ t → t < 106 → ∀ ty : FieldType, tf[t - 100]? = some ty → T.2.2.2.2.2.2 t < 50 ∧ ∃ r : vw_C, cl[T.2.2.2.2.2.2 t]? = some r ∧ ty = .object r.1)
section ZP
variable {p : Program} {l : Launch} {e : Env} {R : Room} {s : State} {m : MethodId} {args : Array Value} {below : List Frame} {meth : Method} {c : Code} {H : Heap} {locs : List Loc} {cells slots : Nat} {Q : State → Prop}
variable {cc : ByteArray} {pc : Nat} {ls : Array Slot}
variable {D : va_G} {cl scl : List vw_C} {tys : List (ClassId × FieldType)} {tf : List FieldType} {nw : List Cond} {A : Nat → Prop} {ad ad0 : Nat → Option Nat} {h : zH}

end ZP
end
section
/-! THE PURE MACHINE, V: one instruction of the heap is what the machine does. -/
theorem z_ald_inv {T : zT} {t0 pc pc2 dc ds : Nat} {st st2 : List Value} {h h2 : zH} (e : z_ald T t0 pc st h = some (pc2, st2, h2, dc, ds)) : ∃ (i : Int32) (q : Nat) (r vs : List Value) (v : Value), st = .int i :: .ref q :: r ∧ z_hg T.1 h q = some (t0, vs) ∧ ¬ i < 0 ∧ vs[i.toNatClampNeg]? = some v ∧ (pc + 1, v :: r, h, 0, 0) = (pc2, st2, h2, dc, ds) := by
  unfold z_ald at e
  split at e
  · rename_i i q r
    split at e
    · rename_i t vs e1
      split at e
      · rename_i e2
        split at e
        · rename_i v e3
          obtain ⟨e4, e5⟩ := e2
          subst e4
          exact ⟨i, q, r, vs, v, rfl, e1, e5, e3, Option.some.inj e⟩
        · cases e
      · cases e
    · cases e
  · cases e
theorem z_mk_inv {pc a N pc2 dc ds : Nat} {fs r st2 : List Value} {h h2 : zH} (e : z_mk pc a N fs r h = some (pc2, st2, h2, dc, ds)) : h.length < 1000000 ∧ (pc, Value.ref h.length :: r, h ++ [(a, fs)], 1, N) = (pc2, st2, h2, dc, ds) := by
  unfold z_mk at e
  split at e
  · rename_i e1
    exact ⟨e1, Option.some.inj e⟩
  · cases e
theorem z_cs_map (ad : Nat → Option Nat) (st : List Value) : ((st.map (z_cv ad)).map fun v => v.category).sum = z_cs st := by
  unfold z_cs
  rw [List.map_map]
  congr 1
  exact List.map_congr_left fun v _ => z_cv_cat ad v
section ZQ
variable {p : Program} {l : Launch} {e : Env} {R : Room} {s : State} {m : MethodId} {args : Array Value} {below : List Frame} {meth : Method} {c : Code} {H : Heap} {locs : List Loc} {cells slots : Nat} {Q : State → Prop}
variable {cc : ByteArray} {pc : Nat} {ls : Array Slot}
variable {D : va_G} {cl scl : List vw_C} {tys : List (ClassId × FieldType)} {tf : List FieldType} {nw : List Cond} {A : Nat → Prop} {ad ad0 : Nat → Option Nat} {h : zH}
theorem z_hgv {S : List zC} {sf : List zF} {ss : List zS} (hst : z_stat scl tf S sf ss nw A ad0 s) (hv : z_hv h) {q t : Nat} {vs : List Value} (e1 : z_hg S h q = some (t, vs)) : ∀ v ∈ vs, z_vk h.length v := by
  rcases z_hg_cases e1 with ⟨-, g⟩ | ⟨-, g⟩
  · exact z_hv_at hv g
  · exact fun v hv' => ((hst.1 _ _ g).1 v hv').le (Nat.zero_le _)
theorem z_setv {q t : Nat} {vs : List Value} {b : Nat} {v : Value} (hv : z_hv h) (e1 : h[q]? = some (t, vs)) (hx : z_vk h.length v) : z_hv (h.set q (t, vs.set b v)) :=
  z_hv_set hv fun u hu => by
    rcases List.mem_or_eq_of_mem_set hu with h1 | rfl
    · exact z_hv_at hv e1 u h1
    · exact hx
set_option maxHeartbeats 8000000 in
theorem z_hp_ok {T : zT} {own nm : String} {Ts : List Cond} {i : Instr} {len a b pc2 dc ds nL : Nat} {st st2 : List Value} {h2 : zH} (hh : z_hp T i pc a b st h = some (pc2, st2, h2, dc, ds)) (ho : z_okh cl scl tf nw T own nm Ts i len pc a b) (hc : z_okc cl tf T Ts) (htf : z_tf tf) (hty : ∀ (t : Nat) (x : ClassId × FieldType), tys[t]? = some x → tf[t]? = some x.2) (hty4 : ∀ t : Nat, t < 6 → ∀ ty : FieldType, tf[t]? = some ty → ∃ x : ClassId, tys[t]? = some (x, ty)) (hts : ∀ w ∈ Ts, w.before args s = true) (hown : s.vm.findClass own = some m.cls) (hx : p.tables.exec = Jvm.exec) (hb : c.code = cc) (hml : c.maxLocals = nL) (hlz : ls.size = nL) (hnm : nm = "<init>" → meth.name = "<init>") (hK : va_K D cl tys s) (hst : z_stat scl tf T.1 T.2.1 T.2.2.1 nw A ad0 s) (hx0 : z_ext ad0 ad 0) (hw : z_wd D cl tys A ad h H) (hS : va_S A s.heap H locs) (hA : ∀ q, s.heap.size ≤ q → A q) (hv : z_hv h) (hsv : ∀ v ∈ st, z_vk h.length v) (hR : 1 ≤ R.frames ∧ 20 ≤ R.locals) (hroom : cells + dc ≤ R.cells ∧ slots + ds ≤ R.slots) (hd : decode cc pc = .ok (i, len))
    (k : ∀ (ad2 : Nat → Option Nat) (H2 : Heap) (locs2 : List Loc), z_ext ad ad2 h.length → z_wd D cl tys A ad2 h2 H2 → va_S A s.heap H2 locs2 → z_hv h2 → h.length ≤ h2.length → (∀ v ∈ st2, z_vk h2.length v) → W p l e R s m args below meth c H2 locs2 (cells + dc) (slots + ds) Q (F0 m pc2 ls (st2.map (z_cv ad2)))) : W p l e R s m args below meth c H locs cells slots Q (F0 m pc ls (st.map (z_cv ad))) := by
  have hcons : ∀ {v : Value} {r : List Value}, z_vk h.length v → (∀ u ∈ r, z_vk h.length u) → ∀ u ∈ v :: r, z_vk h.length u := fun h1 h2 u hu => by
    rcases List.mem_cons.mp hu with rfl | hu
    · exact h1
    · exact h2 u hu
  cases i
  case getfield idx =>
    simp only [z_hp] at hh
    simp only [z_okh] at ho
    obtain ⟨rfl, h100, C, F, N, hcl, hbN, hlk⟩ := ho
    split at hh
    · rename_i q r
      split at hh
      · rename_i t vs e1
        split at hh
        · rename_i e2
          subst e2
          split at hh
          · rename_i v e3
            cases hh
            refine z_getf hts hown hx hb hK hst hx0 hw hS e1 h100 e3 hcl (fun h5 => ?_) hbN hlk hd (k ad H locs z_ext.rf hw hS hv (Nat.le_refl _) (hcons (z_hgv hst hv e1 v (List.mem_of_getElem? e3)) (fun u hu => hsv u (List.mem_cons_of_mem _ hu))))
            rcases hcl with ⟨-, hcl⟩ | ⟨h6, -⟩
            · exact (hc.1 _ _ hcl).1
            · omega
          · cases hh
        · cases hh
      · cases hh
    · cases hh
  case putfield idx =>
    simp only [z_hp] at hh
    simp only [z_okh] at ho
    obtain ⟨rfl, h50, C, F, N, hcl, hbN, hlk, hfin⟩ := ho
    split at hh
    · rename_i v q r
      split at hh
      · rename_i t vs e1
        split at hh
        · rename_i e2
          obtain ⟨e2, e3, e4⟩ := e2
          subst e2
          cases hh
          have hc1 := hc.1 _ _ hcl
          refine z_putf hts hown hx hb hK hw hS e1 h50 e3 hcl hc1.1 hc1.2.1 hc1.2.2 hbN hlk (hfin.imp id (fun z => ⟨z.1, hnm z.2.1, z.2.2⟩)) e4 hd (fun H1 locs1 hw1 hS1 => ?_)
          exact k ad H1 locs1 z_ext.rf hw1 hS1 (z_setv hv e1 (hsv v List.mem_cons_self)) (by rw [List.length_set]; exact Nat.le_refl _) (fun u hu => by rw [List.length_set]; exact hsv u (List.mem_cons_of_mem _ (List.mem_cons_of_mem _ hu)))
        · cases hh
      · cases hh
    · cases hh
  case getstatic idx =>
    simp only [z_hp] at hh
    simp only [z_okh] at ho
    obtain ⟨rfl, f, e1, hlk⟩ := ho
    rw [e1] at hh
    cases hh
    obtain ⟨g1, g2⟩ := hst.2.1 _ _ e1
    refine va_gets hx hb g2 hS hown (hts _ hlk) (fun _ z => z) hd ?_
    rw [← z_cv_ext hx0 g1]
    exact k ad H locs z_ext.rf hw hS hv (Nat.le_refl _) (hcons (g1.le (Nat.zero_le _)) hsv)
  case ldc idx =>
    simp only [z_okh] at ho
    obtain ⟨rfl, ho⟩ := ho
    rcases ho with ⟨rfl, x, e1, hlk⟩ | ⟨rfl, f, e1, e2, e3⟩
    · simp only [z_hp, e1] at hh
      cases hh
      exact lv_ldc hx hb hown (hts _ hlk) hd (k ad H locs z_ext.rf hw hS hv (Nat.le_refl _) (hcons trivial hsv))
    · simp only [z_hp, e1] at hh
      cases hh
      obtain ⟨g1, t, g2, g3⟩ := hst.2.2.1 _ _ e1
      rw [e2, e3] at g3
      have k1 := k ad H locs z_ext.rf hw hS hv (Nat.le_refl _) (hcons (Or.inr g1) hsv)
      change W p l e R s m args below meth c H locs cells slots Q (F0 m (pc + 2) ls (va_rf (ad f.2.2.2) :: _)) at k1
      rw [hx0 _ (Or.inr g1), g2] at k1
      exact va_ldcS hx hb hown g3 hd k1
  case ldc_w idx =>
    simp only [z_okh] at ho
    obtain ⟨rfl, f, e1, e2, e3⟩ := ho
    simp only [z_hp, e1] at hh
    cases hh
    obtain ⟨g1, t, g2, g3⟩ := hst.2.2.1 _ _ e1
    rw [e2, e3] at g3
    have k1 := k ad H locs z_ext.rf hw hS hv (Nat.le_refl _) (hcons (Or.inr g1) hsv)
    change W p l e R s m args below meth c H locs cells slots Q (F0 m (pc + 3) ls (va_rf (ad f.2.2.2) :: _)) at k1
    rw [hx0 _ (Or.inr g1), g2] at k1
    exact z_ldcSW hx hb hown g3 hd k1
  case ldc2_w idx =>
    simp only [z_okh] at ho
    obtain ⟨rfl, x, e1, hlk⟩ := ho
    simp only [z_hp, e1] at hh
    cases hh
    exact lv_ldc2 hx hb hown (hts _ hlk) hd (k ad H locs z_ext.rf hw hS hv (Nat.le_refl _) (hcons trivial hsv))
  case arraylength =>
    simp only [z_hp] at hh
    simp only [z_okh] at ho
    subst ho
    split at hh
    · rename_i q r
      split at hh
      · rename_i t vs e1
        split at hh
        · rename_i e2
          cases hh
          exact z_alen hty hx hb hK hst hx0 hw hS e1 e2 hd (k ad H locs z_ext.rf hw hS hv (Nat.le_refl _) (hcons trivial (fun u hu => hsv u (List.mem_cons_of_mem _ hu))))
        · cases hh
      · cases hh
    · cases hh
  case iaload =>
    simp only [z_hp] at hh
    simp only [z_okh] at ho
    subst ho
    obtain ⟨i, q, r, vs, v, rfl, e1, e2, e3, e4⟩ := z_ald_inv hh
    cases e4
    exact z_iaload htf hty hx hb hK hst hx0 hw hS e1 e2 e3 hd (k ad H locs z_ext.rf hw hS hv (Nat.le_refl _) (hcons (z_hgv hst hv e1 v (List.mem_of_getElem? e3)) (fun u hu => hsv u (List.mem_cons_of_mem _ (List.mem_cons_of_mem _ hu)))))
  case baload =>
    simp only [z_hp] at hh
    simp only [z_okh] at ho
    subst ho
    obtain ⟨i, q, r, vs, v, rfl, e1, e2, e3, e4⟩ := z_ald_inv hh
    cases e4
    exact z_baload htf hty hx hb hK hst hx0 hw hS e1 e2 e3 hd (k ad H locs z_ext.rf hw hS hv (Nat.le_refl _) (hcons (z_hgv hst hv e1 v (List.mem_of_getElem? e3)) (fun u hu => hsv u (List.mem_cons_of_mem _ (List.mem_cons_of_mem _ hu)))))
  case caload =>
    simp only [z_hp] at hh
    simp only [z_okh] at ho
    subst ho
    obtain ⟨i, q, r, vs, v, rfl, e1, e2, e3, e4⟩ := z_ald_inv hh
    cases e4
    exact z_caload htf hty hx hb hK hst hx0 hw hS e1 e2 e3 hd (k ad H locs z_ext.rf hw hS hv (Nat.le_refl _) (hcons (z_hgv hst hv e1 v (List.mem_of_getElem? e3)) (fun u hu => hsv u (List.mem_cons_of_mem _ (List.mem_cons_of_mem _ hu)))))
  case laload =>
    simp only [z_hp] at hh
    simp only [z_okh] at ho
    subst ho
    obtain ⟨i, q, r, vs, v, rfl, e1, e2, e3, e4⟩ := z_ald_inv hh
    cases e4
    exact z_laload htf hty hx hb hK hst hx0 hw hS e1 e2 e3 hd (k ad H locs z_ext.rf hw hS hv (Nat.le_refl _) (hcons (z_hgv hst hv e1 v (List.mem_of_getElem? e3)) (fun u hu => hsv u (List.mem_cons_of_mem _ (List.mem_cons_of_mem _ hu)))))
  case aaload =>
    simp only [z_hp] at hh
    simp only [z_okh] at ho
    subst ho
    split at hh
    · rename_i i q r
      split at hh
      · rename_i t vs e1
        split at hh
        · rename_i e2
          split at hh
          · rename_i v e3
            cases hh
            exact z_aaload htf hty hx hb hK hst hx0 hw hS e1 e2.1 e2.2 e3 hd (k ad H locs z_ext.rf hw hS hv (Nat.le_refl _) (hcons (z_hgv hst hv e1 v (List.mem_of_getElem? e3)) (fun u hu => hsv u (List.mem_cons_of_mem _ (List.mem_cons_of_mem _ hu)))))
          · cases hh
        · cases hh
      · cases hh
    · cases hh
  case iastore =>
    simp only [z_hp] at hh
    simp only [z_okh] at ho
    subst ho
    split at hh
    · rename_i x i q r
      split at hh
      · rename_i t vs e1
        split at hh
        · rename_i e2
          obtain ⟨e2, e3, e4⟩ := e2
          subst e2
          cases hh
          refine z_iastore htf hty hx hb hK hw hS e1 e3 e4 hd (fun H1 locs1 hw1 hS1 => ?_)
          exact k ad H1 locs1 z_ext.rf hw1 hS1 (z_setv hv e1 trivial) (by rw [List.length_set]; exact Nat.le_refl _) (fun u hu => by rw [List.length_set]; exact hsv u (List.mem_cons_of_mem _ (List.mem_cons_of_mem _ (List.mem_cons_of_mem _ hu))))
        · cases hh
      · cases hh
    · cases hh
  case bastore =>
    simp only [z_hp] at hh
    simp only [z_okh] at ho
    subst ho
    split at hh
    · rename_i x i q r
      split at hh
      · rename_i t vs e1
        split at hh
        · rename_i e2
          obtain ⟨e2, e3, e4⟩ := e2
          subst e2
          cases hh
          refine z_bastore htf hty hx hb hK hw hS e1 e3 e4 hd (fun H1 locs1 hw1 hS1 => ?_)
          exact k ad H1 locs1 z_ext.rf hw1 hS1 (z_setv hv e1 trivial) (by rw [List.length_set]; exact Nat.le_refl _) (fun u hu => by rw [List.length_set]; exact hsv u (List.mem_cons_of_mem _ (List.mem_cons_of_mem _ (List.mem_cons_of_mem _ hu))))
        · cases hh
      · cases hh
    · cases hh
  case castore =>
    simp only [z_hp] at hh
    simp only [z_okh] at ho
    subst ho
    split at hh
    · rename_i x i q r
      split at hh
      · rename_i t vs e1
        split at hh
        · rename_i e2
          obtain ⟨e2, e3, e4⟩ := e2
          subst e2
          cases hh
          refine z_castore htf hty hx hb hK hw hS e1 e3 e4 hd (fun H1 locs1 hw1 hS1 => ?_)
          exact k ad H1 locs1 z_ext.rf hw1 hS1 (z_setv hv e1 trivial) (by rw [List.length_set]; exact Nat.le_refl _) (fun u hu => by rw [List.length_set]; exact hsv u (List.mem_cons_of_mem _ (List.mem_cons_of_mem _ (List.mem_cons_of_mem _ hu))))
        · cases hh
      · cases hh
    · cases hh
  case lastore =>
    simp only [z_hp] at hh
    simp only [z_okh] at ho
    subst ho
    split at hh
    · rename_i x i q r
      split at hh
      · rename_i t vs e1
        split at hh
        · rename_i e2
          obtain ⟨e2, e3, e4⟩ := e2
          subst e2
          cases hh
          refine z_lastore htf hty hx hb hK hw hS e1 e3 e4 hd (fun H1 locs1 hw1 hS1 => ?_)
          exact k ad H1 locs1 z_ext.rf hw1 hS1 (z_setv hv e1 trivial) (by rw [List.length_set]; exact Nat.le_refl _) (fun u hu => by rw [List.length_set]; exact hsv u (List.mem_cons_of_mem _ (List.mem_cons_of_mem _ (List.mem_cons_of_mem _ hu))))
        · cases hh
      · cases hh
    · cases hh
  case aastore =>
    simp only [z_hp] at hh
    simp only [z_okh] at ho
    subst ho
    split at hh
    · rename_i i q r
      split at hh
      · rename_i t vs e1
        split at hh
        · rename_i e2
          cases hh
          refine z_aastoreN htf hty hx hb hK hw hS e1 e2.1 e2.2.1 e2.2.2 hd (fun H1 locs1 hw1 hS1 => ?_)
          exact k ad H1 locs1 z_ext.rf hw1 hS1 (z_setv hv e1 trivial) (by rw [List.length_set]; exact Nat.le_refl _) (fun u hu => by rw [List.length_set]; exact hsv u (List.mem_cons_of_mem _ (List.mem_cons_of_mem _ (List.mem_cons_of_mem _ hu))))
        · cases hh
      · cases hh
    · rename_i w0 i q r
      split at hh
      · rename_i t vs tw vw e1 e5
        split at hh
        · rename_i e2
          obtain ⟨⟨e2, e2'⟩, e3, e4, e6⟩ := e2
          cases hh
          obtain ⟨ws9, -, -, hr9⟩ := id hw
          obtain ⟨q9, cA9, ty9, x9, g1, g2, g3, g4, g5⟩ := z_dyn hr9 e1 (show 100 ≤ t by omega) hty
          dsimp only at g3 g4
          obtain ⟨h50, r9, g6, g7⟩ := hc.2 t e2 e2' ty9 g4
          rw [← e6] at h50 g6
          subst g7
          refine z_aastore htf hty hx hb hK hw hS e1 e2 e3 e4 e5 h50 g6 g4 hd (fun H1 locs1 hw1 hS1 => ?_)
          exact k ad H1 locs1 z_ext.rf hw1 hS1 (z_setv hv e1 (hsv _ List.mem_cons_self)) (by rw [List.length_set]; exact Nat.le_refl _) (fun u hu => by rw [List.length_set]; exact hsv u (List.mem_cons_of_mem _ (List.mem_cons_of_mem _ (List.mem_cons_of_mem _ hu))))
        · cases hh
      · cases hh
    · cases hh
  case new idx =>
    simp only [z_hp] at hh
    simp only [z_okh] at ho
    obtain ⟨rfl, h50, C, F, hcl, hdf, hnr, h1, h2', h3⟩ := ho
    obtain ⟨hn, e1⟩ := z_mk_inv hh
    cases e1
    have hc1 := hc.1 _ _ hcl
    refine z_new hts hown hx hb hK hw hS hA hv h50 hcl hc1.1 hc1.2.1 hdf (fun v hv' f => by rcases hnr v hv' with rfl | rfl <;> rfl) h1 h2' h3 hn hroom.1 hroom.2 hd (fun ad2 H1 hx1 hw1 hS1 => ?_)
    have k1 := k ad2 H1 locs hx1 hw1 hS1 (z_hv_push hv (fun v hv' => by rcases hnr v hv' with rfl | rfl <;> trivial)) (by simp) (fun u hu => by
      rcases List.mem_cons.mp hu with rfl | hu
      · exact Or.inl (by simp)
      · exact (hsv u hu).le (by simp))
    rw [List.map_cons, z_map_ext hx1 hsv] at k1
    exact k1
  case newarray t =>
    simp only [z_hp] at hh
    simp only [z_okh] at ho
    obtain ⟨rfl, h1⟩ := ho
    split at hh
    · rename_i n r
      split at hh
      · rename_i e1
        have hr : ∀ v ∈ r, z_vk h.length v := fun u hu => hsv u (List.mem_cons_of_mem _ hu)
        split at hh
        · obtain ⟨hn, e2⟩ := z_mk_inv hh
          cases e2
          obtain ⟨x, hx2⟩ := hty4 0 (by decide) .int htf.1
          refine z_newa_int hts hx hb hK hw hS hA hv h1 hx2 e1.1 e1.2 hn hroom.1 hroom.2 hd (fun ad2 H1 hx1 hw1 hS1 => ?_)
          have k1 := k ad2 H1 locs hx1 hw1 hS1 (z_hv_push hv (fun v hv' => by rw [List.eq_of_mem_replicate hv']; trivial)) (by simp) (fun u hu => by
            rcases List.mem_cons.mp hu with rfl | hu
            · exact Or.inl (by simp)
            · exact (hr u hu).le (by simp))
          rw [List.map_cons, z_map_ext hx1 hr] at k1
          exact k1
        · obtain ⟨hn, e2⟩ := z_mk_inv hh
          cases e2
          obtain ⟨x, hx2⟩ := hty4 1 (by decide) .byte htf.2.1
          refine z_newa_byte hts hx hb hK hw hS hA hv h1 hx2 e1.1 e1.2 hn hroom.1 hroom.2 hd (fun ad2 H1 hx1 hw1 hS1 => ?_)
          have k1 := k ad2 H1 locs hx1 hw1 hS1 (z_hv_push hv (fun v hv' => by rw [List.eq_of_mem_replicate hv']; trivial)) (by simp) (fun u hu => by
            rcases List.mem_cons.mp hu with rfl | hu
            · exact Or.inl (by simp)
            · exact (hr u hu).le (by simp))
          rw [List.map_cons, z_map_ext hx1 hr] at k1
          exact k1
        · obtain ⟨hn, e2⟩ := z_mk_inv hh
          cases e2
          obtain ⟨x, hx2⟩ := hty4 2 (by decide) .char htf.2.2.1
          refine z_newa_char hts hx hb hK hw hS hA hv h1 hx2 e1.1 e1.2 hn hroom.1 hroom.2 hd (fun ad2 H1 hx1 hw1 hS1 => ?_)
          have k1 := k ad2 H1 locs hx1 hw1 hS1 (z_hv_push hv (fun v hv' => by rw [List.eq_of_mem_replicate hv']; trivial)) (by simp) (fun u hu => by
            rcases List.mem_cons.mp hu with rfl | hu
            · exact Or.inl (by simp)
            · exact (hr u hu).le (by simp))
          rw [List.map_cons, z_map_ext hx1 hr] at k1
          exact k1
        · obtain ⟨hn, e2⟩ := z_mk_inv hh
          cases e2
          obtain ⟨x, hx2⟩ := hty4 3 (by decide) .long htf.2.2.2.1
          refine z_newa_long hts hx hb hK hw hS hA hv h1 hx2 e1.1 e1.2 hn hroom.1 hroom.2 hd (fun ad2 H1 hx1 hw1 hS1 => ?_)
          have k1 := k ad2 H1 locs hx1 hw1 hS1 (z_hv_push hv (fun v hv' => by rw [List.eq_of_mem_replicate hv']; trivial)) (by simp) (fun u hu => by
            rcases List.mem_cons.mp hu with rfl | hu
            · exact Or.inl (by simp)
            · exact (hr u hu).le (by simp))
          rw [List.map_cons, z_map_ext hx1 hr] at k1
          exact k1
        · cases hh
      · cases hh
    · cases hh
  case anewarray idx =>
    simp only [z_hp] at hh
    simp only [z_okh] at ho
    obtain ⟨rfl, ⟨h104, h106⟩, C, htC, h1, hAO⟩ := ho
    split at hh
    · rename_i n r
      split at hh
      · rename_i e1
        have hr : ∀ v ∈ r, z_vk h.length v := fun u hu => hsv u (List.mem_cons_of_mem _ hu)
        obtain ⟨hn, e2⟩ := z_mk_inv hh
        cases e2
        obtain ⟨x, hx2⟩ := hty4 (a - 100) (by omega) _ htC
        refine z_newq hts hown hx hb hK hw hS hA hv h1 (hst.2.2.2.2.2 _ hAO) (by omega) hx2 e1.1 e1.2 hn hroom.1 hroom.2 hd (fun ad2 H1 hx1 hw1 hS1 => ?_)
        have k1 := k ad2 H1 locs hx1 hw1 hS1 (z_hv_push hv (fun v hv' => by rw [List.eq_of_mem_replicate hv']; trivial)) (by simp) (fun u hu => by
          rcases List.mem_cons.mp hu with rfl | hu
          · exact Or.inl (by simp)
          · exact (hr u hu).le (by simp))
        rw [List.map_cons, z_map_ext hx1 hr] at k1
        exact k1
      · cases hh
    · cases hh
  case invokespecial idx =>
    simp only [z_hp] at hh
    simp only [z_okh] at ho
    obtain ⟨rfl, h1, h2', h3⟩ := ho
    split at hh
    · rename_i q r
      split at hh
      · rename_i c9 e1
        split at hh
        · rename_i e2
          have e3 := z_cs_map ad r
          cases hh
          obtain ⟨a9, g1⟩ := z_hg_ad hst hx0 hw e1
          have k1 := k ad H locs z_ext.rf hw hS hv (Nat.le_refl _) (fun u hu => hsv u (List.mem_cons_of_mem _ hu))
          rw [List.map_cons, show z_cv ad (.ref q) = .ref a9 from congrArg va_rf g1]
          refine W.objInit hx hb hown (hts _ h1) (hts _ h2') (hts _ h3) rfl (by rw [hml]; exact hlz) rfl hd hR.1 ?_ k1
          show 2 * 0 + _ + 12 ≤ _
          omega
        · cases hh
      · cases hh
    · cases hh
  case invokestatic idx =>
    simp only [z_hp] at hh
    simp only [z_okh] at ho
    obtain ⟨rfl, h1, h2', h3, h4⟩ := ho
    split at hh
    · rename_i y x r
      split at hh
      · rename_i e2
        have e3 := z_cs_map ad r
        cases hh
        have k1 := k ad H locs z_ext.rf hw hS hv (Nat.le_refl _) (fun u hu => by
          rcases List.mem_cons.mp hu with rfl | hu
          · trivial
          · exact hsv u (List.mem_cons_of_mem _ (List.mem_cons_of_mem _ hu)))
        exact va_mmax hx hb (hml.trans hlz.symm) hown (hts _ h1) (hts _ h2') (hts _ h3) (hts _ h4) hR.1 (by rw [e3]; omega) (by omega) (by omega) hd k1
      · cases hh
    · cases hh
  case ifnull off =>
    simp only [z_hp] at hh
    simp only [z_okh] at ho
    obtain ⟨rfl, h1⟩ := ho
    split at hh
    · cases hh
      exact lv_ifnullN hx hb hd h1 (k ad H locs z_ext.rf hw hS hv (Nat.le_refl _) (fun u hu => hsv u (List.mem_cons_of_mem _ hu)))
    · rename_i q r
      split at hh
      · rename_i c9 e1
        cases hh
        obtain ⟨a9, g1⟩ := z_hg_ad hst hx0 hw e1
        rw [List.map_cons, show z_cv ad (.ref q) = .ref a9 from congrArg va_rf g1]
        exact lv_ifnull hx hb hd (k ad H locs z_ext.rf hw hS hv (Nat.le_refl _) (fun u hu => hsv u (List.mem_cons_of_mem _ hu)))
      · cases hh
    · cases hh
  case ifnonnull off =>
    simp only [z_hp] at hh
    simp only [z_okh] at ho
    obtain ⟨rfl, h1⟩ := ho
    split at hh
    · cases hh
      exact lv_ifnonnullN hx hb hd (k ad H locs z_ext.rf hw hS hv (Nat.le_refl _) (fun u hu => hsv u (List.mem_cons_of_mem _ hu)))
    · rename_i q r
      split at hh
      · rename_i c9 e1
        cases hh
        obtain ⟨a9, g1⟩ := z_hg_ad hst hx0 hw e1
        rw [List.map_cons, show z_cv ad (.ref q) = .ref a9 from congrArg va_rf g1]
        exact lv_ifnonnull hx hb hd h1 (k ad H locs z_ext.rf hw hS hv (Nat.le_refl _) (fun u hu => hsv u (List.mem_cons_of_mem _ hu)))
      · cases hh
    · cases hh
  case if_acmp c0 off =>
    simp only [z_hp] at hh
    simp only [z_okh] at ho
    obtain ⟨rfl, h1⟩ := ho
    split at hh
    · split at hh
      · rename_i y x r
        have hr : ∀ v ∈ r, z_vk h.length v := fun u hu => hsv u (List.mem_cons_of_mem _ (List.mem_cons_of_mem _ hu))
        split at hh
        · rename_i e1
          obtain ⟨e1, e2, e3, e4⟩ := e1
          refine lv_acmp_ne (rx := ad x) (ry := ad y) hx hb hd h1 (fun z => ?_) (fun z => ?_)
          · split at hh
            · rename_i e5
              exact absurd (by rw [e5]) z
            · cases hh
              exact k ad H locs z_ext.rf hw hS hv (Nat.le_refl _) hr
          · split at hh
            · cases hh
              exact k ad H locs z_ext.rf hw hS hv (Nat.le_refl _) hr
            · rename_i e5
              rw [hx0 _ (Or.inr e1), hx0 _ (Or.inr e3)] at z
              exact absurd (hst.2.2.2.1 x y e1 e2 e3 e4 z) e5
        · cases hh
      · cases hh
    · cases hh
  all_goals (simp [z_hp] at hh)
end ZQ
end
section
/-! THE PURE MACHINE, VI: methods, calls, throws. f: fuel; d: how deep calls may go; y: the method; cs, ss: cells and slots made so far by this call. -/
abbrev zE : Type := Nat × Instr × Nat × Nat × Nat
abbrev zX : Type := (Nat × Nat × Nat × Nat) × Nat × Int32
/-- the methods: code, locals, handlers (row, exception, the handler's answer), the receiver's tag, what is returned; which exceptions pass which handlers -/
abbrev zP : Type := (Nat → List zE) × (Nat → Nat) × (Nat → List zX) × (Nat → Nat) × (Nat → Option FieldType) × List (Nat × Nat)
abbrev zO : Type := (Option Value ⊕ Nat) × zH × Nat × Nat
def z_at : List zE → Nat → Option (Instr × Nat × Nat × Nat)
  | [], _ => none
  | q :: l, pc => cond (Nat.beq q.1 pc) (some q.2) (z_at l pc)
theorem z_at_in {l : List zE} {pc : Nat} {r : Instr × Nat × Nat × Nat} (h : z_at l pc = some r) : (pc, r) ∈ l := by
  induction l with
  | nil => cases h
  | cons q l ih =>
    rw [z_at] at h
    cases e : Nat.beq q.1 pc with
    | true =>
      rw [e] at h
      obtain ⟨a, b⟩ := q
      have e1 : a = pc := Nat.eq_of_beq_eq_true e
      cases h
      subst e1
      exact List.mem_cons_self
    | false =>
      rw [e] at h
      exact List.mem_cons_of_mem _ (ih h)
/-- 0: local; 1: the heap; 2: a call with a receiver; 3: a static call; 4: an answer; 5: return; 6: new E(text), thrown; 7: a constructor, or an inherited method (b is 1000 and more): no throw comes out of it -/
def z_kind (i : Instr) (a b : Nat) : Nat := match i with
  | .invokevirtual _ => cond (Nat.ble 1000 b) 7 2
  | .invokestatic _ => cond (Nat.beq a 9998) 1 3
  | .invokespecial _ => cond (Nat.beq a 9999) 1 7
  | .ireturn => 4
  | .lreturn => 4
  | .freturn => 4
  | .dreturn => 4
  | .areturn => 4
  | .return_ => 5
  | .new _ => cond (Nat.ble 1000 b) 6 1
  | .getfield _ => 1
  | .putfield _ => 1
  | .getstatic _ => 1
  | .ldc _ => 1
  | .ldc_w _ => 1
  | .ldc2_w _ => 1
  | .arraylength => 1
  | .iaload => 1
  | .baload => 1
  | .caload => 1
  | .laload => 1
  | .aaload => 1
  | .iastore => 1
  | .bastore => 1
  | .castore => 1
  | .lastore => 1
  | .aastore => 1
  | .newarray _ => 1
  | .anewarray _ => 1
  | .ifnull _ => 1
  | .ifnonnull _ => 1
  | .if_acmp _ _ => 1
  | _ => 0
/-- how many values a call takes off the stack -/
def z_nn (k b : Nat) : Nat := b % 1000 + cond (Nat.beq k 3) 0 1
def z_rcv (T : zT) (h : zH) (st : List Value) (t : Nat) : Bool := match st with
  | .ref q :: _ => (match z_hg T.1 h q with | some c => Nat.beq c.1 t | none => false)
  | _ => false
def z_rok (i : Instr) (rt : Option FieldType) (v : Value) : Bool := match i, rt, v with
  | .ireturn, some .int, .int _ => true
  | .ireturn, some .boolean, .int x => decide (x = 0) || decide (x = 1)
  | .ireturn, some .byte, .int x => decide (x.toInt8.toInt32 = x)
  | .ireturn, some .char, .int x => decide (x.toUInt32.toUInt16.toUInt32.toInt32 = x)
  | .lreturn, some .long, .long _ => true
  | .freturn, some .float, .float _ => true
  | .dreturn, some .double, .double _ => true
  | .areturn, some (.object _), .ref _ => true
  | .areturn, some (.object _), .null => true
  | _, _, _ => false
def z_catch (nc : List (Nat × Nat)) : List zX → Nat → Nat → Option zX
  | [], _, _ => none
  | x :: l, pc, e => if x.1.1 ≤ pc ∧ pc < x.1.2.1 then (if x.2.1 = e then some x else if (e, x.2.1) ∈ nc then z_catch nc l pc e else none) else z_catch nc l pc e
def z_run (T : zT) (P : zP) : Nat → Nat → Nat → Nat → List (Nat × Value) → List Value → zH → Nat → Nat → Option zO
  | 0, _, _, _, _, _, _, _, _ => none
  | f + 1, d, y, pc, lv, st, h, cs, ss =>
    match z_at (P.1 y) pc with
    | none => none
    | some (i, _, a, b) =>
      match z_kind i a b with
      | 0 => (match z_loc i pc a (P.2.1 y) lv st with
        | some (pc2, lv2, st2) => z_run T P f d y pc2 lv2 st2 h cs ss
        | none => none)
      | 1 => (match z_hp T i pc a b st h with
        | some (pc2, st2, h2, dc, ds) => z_run T P f d y pc2 lv st2 h2 (cs + dc) (ss + ds)
        | none => none)
      | 4 => (match st with
        | v :: r => if r = [] ∧ z_rok i (P.2.2.2.2.1 y) v = true then some (.inl (some v), h, cs, ss) else none
        | _ => none)
      | 5 => if st = [] ∧ P.2.2.2.2.1 y = none then some (.inl none, h, cs, ss) else none
      | 6 => if z_cs st ≤ 8 ∧ P.2.2.1 y = [] then some (.inr a, h, cs + 1, ss + 6) else none
      | k => (match d with
        | 0 => none
        | d + 1 =>
          if z_nn k b ≤ st.length ∧ z_cs (st.drop (z_nn k b)) ≤ 8 ∧ z_cs (st.take (z_nn k b)) ≤ P.2.1 a ∧ (k ≠ 3 → z_rcv T h (st.take (z_nn k b)).reverse (P.2.2.2.1 a) = true) then
            (match z_run T P f d a 0 (lv_args 0 (st.take (z_nn k b)).reverse) [] h 0 0 with
            | none => none
            | some (.inl o, h2, dc, ds) => z_run T P f (d + 1) y (pc + 3) lv (o.toList ++ st.drop (z_nn k b)) h2 (cs + dc) (ss + ds)
            | some (.inr e, h2, dc, ds) => if k = 7 then none else (match P.2.2.1 y with
              | [] => some (.inr e, h2, cs + dc, ss + ds)
              | x :: l => (match z_catch P.2.2.2.2.2 (x :: l) pc e with
                | some w => some (.inl (some (.int w.2.2)), h2, cs + dc, ss + ds)
                | none => none)))
          else none)
/-- what has been made is never less -/
theorem z_run_mono (T : zT) (P : zP) : ∀ (f d y pc : Nat) (lv : List (Nat × Value)) (st : List Value) (h : zH) (cs ss : Nat) (o : Option Value ⊕ Nat) (h2 : zH) (c2 s2 : Nat), z_run T P f d y pc lv st h cs ss = some (o, h2, c2, s2) → cs ≤ c2 ∧ ss ≤ s2 := by
  intro f
  induction f with
  | zero => intro d y pc lv st h cs ss o h2 c2 s2 e; cases e
  | succ f ih =>
    intro d y pc lv st h cs ss o h2 c2 s2 e
    rw [z_run] at e
    split at e
    · cases e
    · rename_i i len a b e1
      split at e
      · split at e
        · exact ih _ _ _ _ _ _ _ _ _ _ _ _ e
        · cases e
      · split at e
        · have := ih _ _ _ _ _ _ _ _ _ _ _ _ e
          exact ⟨by omega, by omega⟩
        · cases e
      · split at e
        · split at e
          · cases e; exact ⟨Nat.le_refl _, Nat.le_refl _⟩
          · cases e
        · cases e
      · split at e
        · cases e; exact ⟨Nat.le_refl _, Nat.le_refl _⟩
        · cases e
      · split at e
        · cases e; exact ⟨by omega, by omega⟩
        · cases e
      · split at e
        · cases e
        · split at e
          · split at e
            · cases e
            · have := ih _ _ _ _ _ _ _ _ _ _ _ _ e
              exact ⟨by omega, by omega⟩
            · split at e
              · cases e
              · split at e
                · cases e; exact ⟨by omega, by omega⟩
                · split at e
                  · cases e; exact ⟨by omega, by omega⟩
                  · cases e
          · cases e
end
section
/-! THE PURE MACHINE, VII: references stay valid; what nobody changes holds for every later state; the frame of a method. -/
theorem z_c {n : Nat} {v : Value} {r : List Value} (h1 : z_vk n v) (h2 : ∀ u ∈ r, z_vk n u) : ∀ u ∈ v :: r, z_vk n u := fun u hu => by
  rcases List.mem_cons.mp hu with rfl | hu
  · exact h1
  · exact h2 u hu
theorem z_t {n : Nat} {v : Value} {r : List Value} (h : ∀ u ∈ v :: r, z_vk n u) : ∀ u ∈ r, z_vk n u := fun u hu => h u (List.mem_cons_of_mem _ hu)
theorem z_hd {n : Nat} {v : Value} {r : List Value} (h : ∀ u ∈ v :: r, z_vk n u) : z_vk n v := h v List.mem_cons_self
set_option maxHeartbeats 4000000 in
theorem z_loc_v {i : Instr} {pc a nL pc2 n : Nat} {lv lv2 : List (Nat × Value)} {st st2 : List Value} (h : z_loc i pc a nL lv st = some (pc2, lv2, st2)) (hl : ∀ q ∈ lv, z_vk n q.2) (hs : ∀ v ∈ st, z_vk n v) : (∀ q ∈ lv2, z_vk n q.2) ∧ ∀ v ∈ st2, z_vk n v := by
  cases i <;> simp only [z_loc] at h <;> (repeat' split at h) <;> first
    | (exfalso; cases h; done)
    | (cases h; first
      | exact ⟨hl, hs⟩
      | exact ⟨hl, z_c trivial hs⟩
      | exact ⟨hl, z_t hs⟩
      | exact ⟨hl, z_t (z_t hs)⟩
      | exact ⟨hl, z_c trivial (z_t hs)⟩
      | exact ⟨hl, z_c trivial (z_t (z_t hs))⟩
      | exact ⟨hl, z_c (hl _ (z_get_in (by assumption))) hs⟩
      | exact ⟨z_st1_in trivial hl, hs⟩
      | exact ⟨z_st1_in (z_hd hs) hl, z_t hs⟩
      | exact ⟨z_st2_in (z_hd hs) hl, z_t hs⟩
      | exact ⟨hl, z_c (z_hd hs) hs⟩
      | exact ⟨hl, z_c (z_hd hs) (z_c (z_hd (z_t hs)) hs)⟩)
/-- the words that hold at every later state, though they are not of the good ones -/
def z_nwk (w : Cond) : Prop := match w with
  | .methodLinkNest _ _ _ _ => True
  | .arrayOver (.object _) => True
  | .castable _ _ => True
  | .declares _ => True
  | _ => False
theorem z_nw_moved {w : Cond} (hk : z_nwk w) {u U : State} (hW : u.WarmedH U.vm) (h : va_Nw w u) : va_Nw w U := by
  unfold z_nwk at hk
  split at hk
  · exact va_Nw.warmM hW h
  · exact va_AO.moved hW.alike h
  · exact va_Nw.warmC hW h
  · rename_i x
    have h1 : (Cond.declares x).before #[] (u.setVm U.vm) = true := Cond.before_shiftedFace (State.Shifted.of_warmed hW) _ rfl h
    exact va_tabs (c := Cond.declares x) rfl (u := u.setVm U.vm) (U := U) rfl h1
  · exact hk.elim
theorem z_stat_moved {scl : List vw_C} {tf : List FieldType} {S : List zC} {sf : List zF} {ss : List zS} {nw : List Cond} {A : Nat → Prop} {ad : Nat → Option Nat} {u U : State} (hnw : ∀ w ∈ nw, z_nwk w) (hW : u.WarmedH U.vm) (hq : ∀ a : Nat, a < u.heap.size → ¬ A a → U.heap[a]? = u.heap[a]?) (h : z_stat scl tf S sf ss nw A ad u) : z_stat scl tf S sf ss nw A ad U := by
  obtain ⟨h1, h2, h3, h4, h5, h6⟩ := h
  refine ⟨fun j c e => ?_, fun j q e => ?_, fun j q e => ?_, h4, ⟨vx_Zq.moved hW.alike (vx_Zq.kept h5.1 hq), vx_Zq.moved hW.alike (vx_Zq.kept h5.2 hq)⟩, fun w hw => z_nw_moved (hnw w hw) hW (h6 w hw)⟩
  · obtain ⟨g1, t, g2, g3⟩ := h1 j c e
    refine ⟨g1, t, g2, ?_⟩
    rcases g3 with ⟨g4, ty, g5, g6⟩ | ⟨g4, r, g5, g6, g7, g8⟩
    · exact Or.inl ⟨g4, ty, g5, va_T.moved hW.alike (va_T.kept g6 hq)⟩
    · exact Or.inr ⟨g4, r, g5, g6, va_O.moved hW.alike (va_O.kept g7 hq), fun k v hv => va_OF.moved hW.alike (va_OF.kept (g8 k v hv) hq)⟩
  · obtain ⟨g1, g2⟩ := h2 j q e
    exact ⟨g1, va_Z.moved hW.alike (va_Z.kept g2 hq)⟩
  · obtain ⟨g1, t, g2, g3⟩ := h3 j q e
    exact ⟨g1, t, g2, vk_R.warm hW g3⟩
/-- the names behind the numbers: methods, their bytes, exceptions; the words; classes of objects, of objects that nobody writes; the arrays' types -/
abbrev zM : Type := (Nat → MethodName) × (Nat → ByteArray) × (Nat → String) × List Cond × List Cond × List vw_C × List vw_C × List FieldType
def z_head (P : zP) (M : zM) (y : Nat) : Cond := match P.2.2.1 y with
  | [] => .code (M.1 y) (M.2.1 y) (P.2.1 y) (P.2.2.2.2.1 y)
  | x :: l => .codeWith (M.1 y) (M.2.1 y) (P.2.1 y) (P.2.2.2.2.1 y) ((x :: l).map (·.1))
/-- what holds at every state of a run -/
def z_fx (T : zT) (P : zP) (M : zM) (D : va_G) (tys : List (ClassId × FieldType)) (A : Nat → Prop) (ad0 : Nat → Option Nat) (s : State) : Prop :=
  (∀ q : Nat, s.heap.size ≤ q → A q) ∧ va_K D M.2.2.2.2.2.1 tys s ∧ z_stat M.2.2.2.2.2.2.1 M.2.2.2.2.2.2.2 T.1 T.2.1 T.2.2.1 M.2.2.2.2.1 A ad0 s ∧ ∀ q ∈ P.2.2.2.2.2, va_Nc (M.2.2.1 q.1) (M.2.2.1 q.2) s
theorem z_fx_moved {T : zT} {P : zP} {M : zM} {D : va_G} {tys : List (ClassId × FieldType)} {A : Nat → Prop} {ad0 : Nat → Option Nat} {u U : State} (hnw : ∀ w ∈ M.2.2.2.2.1, z_nwk w) (hW : u.WarmedH U.vm) (hz : u.heap.size ≤ U.heap.size) (hq : ∀ a : Nat, a < u.heap.size → ¬ A a → U.heap[a]? = u.heap[a]?) (h : z_fx T P M D tys A ad0 u) : z_fx T P M D tys A ad0 U :=
  ⟨fun q hq' => h.1 q (Nat.le_trans hz hq'), va_K.moved hW.alike h.2.1, z_stat_moved hnw hW hq h.2.2.1, fun q hq' => va_Nc.moved hW.alike (h.2.2.2 q hq')⟩
def z_Q (M : zM) (D : va_G) (tys : List (ClassId × FieldType)) (A : Nat → Prop) (ad : Nat → Option Nat) (n0 : Nat) (o : Option Value ⊕ Nat) (h2 : zH) : Array Value → State → Outcome → State → Prop := fun _ st oc t =>
  (∃ (v : Option Value) (ad2 : Nat → Option Nat), o = .inl v ∧ oc = .returned (v.map (z_cv ad2)) ∧ z_ext ad ad2 n0 ∧ z_wd D M.2.2.2.2.2.1 tys A ad2 h2 t.heap ∧ z_hv h2 ∧ n0 ≤ h2.length ∧ ∀ w : Value, v = some w → z_vk h2.length w) ∧ va_F A st t
def z_X (M : zM) (D : va_G) (tys : List (ClassId × FieldType)) (A : Nat → Prop) (ad : Nat → Option Nat) (n0 : Nat) (o : Option Value ⊕ Nat) (h2 : zH) : String → State → State → Prop := fun E st t =>
  ∃ (e : Nat) (ad2 : Nat → Option Nat), o = .inr e ∧ E = M.2.2.1 e ∧ z_ext ad ad2 n0 ∧ z_wd D M.2.2.2.2.2.1 tys A ad2 h2 t.heap ∧ z_hv h2 ∧ n0 ≤ h2.length ∧ va_F A st t
def z_rm (d mc ms : Nat) : Room := { frames := d + 10, cells := mc, slots := ms, locals := 60 * d + 300 }
section ZA
variable {p : Program} {l : Launch} {e : Env} {R : Room} {s : State} {m : MethodId} {args : Array Value} {below : List Frame} {meth : Method} {c : Code} {H H0 : Heap} {locs : List Loc} {cells slots mc ms : Nat} {Q : State → Prop}
variable {pc : Nat} {ls : Array Slot} {st0 rest : List Value} {A : Nat → Prop}
/-- behind a call -/
theorem z_after {Qa : State → Outcome → State → Prop} {XC : String → State → State → Prop} (hr : vx_Run p l e R s m args below meth c H locs cells slots mc ms (F0 m pc ls st0) rest Qa XC A) (hS : va_S A H0 H locs)
    (kk : ∀ (v : Option Value) (st t : State) (locs1 : List Loc), st.heap = H → s.vm.Alike t.vm → Qa st (.returned v) t → (va_F A st t → va_S A H0 t.heap locs1) → W p l e R s m args below meth c t.heap locs1 (cells + mc) (slots + ms) Q (F0 m (pc + 3) ls (v.toList ++ rest)))
    (kx : ∀ (E : String) (q : Addr) (ce : Cell) (st t : State) (locs1 : List Loc), st.heap = H → s.vm.Alike t.vm → XC E st t → (va_F A st t → va_S A H0 t.heap locs1) → t.heap[q]? = some ce → ce.vm = .none → s.vm.findClass E = some ce.cls → vx_W p l e R s m args below meth c t.heap locs1 (cells + mc) (slots + ms) Q (F0 m pc ls rest) q) : W p l e R s m args below meth c H locs cells slots Q (F0 m pc ls st0) := by
  intro T hT X
  rcases hr T hT X with ⟨v, st₀, t, T', L, h0, X', hL, e1, e2, hq, st⟩ | ⟨q, st₀, t, T', L, E, ce, h0, X', hL, e1, e2, hq, hce, hcv, hcl, st⟩
  · obtain ⟨t2, a1, b1⟩ := kk v st₀ t (locs ++ L) h0 (by rw [← e2]; exact X'.warmed.alike) hq (fun hF => by
      have := (vx_keep (T' := T') h0 e1 hS (fun _ _ z => z) (fun _ z => z) hL hF).2.2
      rw [e1] at this
      exact this) T' e1 X'
    exact ⟨t2, st t2 a1, b1⟩
  · obtain ⟨t2, a1, b1⟩ := kx E q ce st₀ t (locs ++ L) h0 (by rw [← e2]; exact X'.warmed.alike) hq (fun hF => by
      have := (vx_keep (T' := T') h0 e1 hS (fun _ _ z => z) (fun _ z => z) hL hF).2.2
      rw [e1] at this
      exact this) hce hcv hcl T' e1 X'
    exact ⟨t2, st.trans a1, b1⟩
end ZA
theorem z_args_m (ad : Nat → Option Nat) : ∀ (vs : List Value) (k : Nat), lv_args k (vs.map (z_cv ad)) = z_lvm ad (lv_args k vs) := by
  intro vs
  induction vs with
  | nil => intro k; rfl
  | cons v vs ih =>
    intro k
    rw [List.map_cons, lv_args, lv_args, z_cv_cat, ih]
    rfl
theorem z_args_in : ∀ (vs : List Value) (k : Nat) (q : Nat × Value), q ∈ lv_args k vs → q.2 ∈ vs := by
  intro vs
  induction vs with
  | nil => intro k q h; cases h
  | cons v vs ih =>
    intro k q h
    rw [lv_args] at h
    rcases List.mem_cons.mp h with rfl | h
    · exact List.mem_cons_self
    · exact List.mem_cons_of_mem _ (ih _ q h)
theorem z_sl_len (vs : List Value) : (lg_sl vs).length = z_cs vs := by
  induction vs with
  | nil => rfl
  | cons v vs ih =>
    have e1 : lg_sl (v :: vs) = (if v.category = 2 then [Slot.val v, .second] else [.val v]) ++ lg_sl vs := by simp [lg_sl]
    rw [e1, List.length_append, ih]
    unfold z_cs
    rw [List.map_cons, List.sum_cons]
    rcases lv_cat v with h1 | h1 <;> simp [h1]
theorem z_cs_m (ad : Nat → Option Nat) (vs : List Value) : z_cs (vs.map (z_cv ad)) = z_cs vs := z_cs_map ad vs
theorem z_cs_rev (vs : List Value) : z_cs vs.reverse = z_cs vs := by
  unfold z_cs
  rw [List.map_reverse, List.sum_reverse]
end
section
/-! A throw of an exception whose constructor hands on to its superclass's by an entry of its own (NoSuchElementException): the library's Stand.ctorThrowS (JvmDerived/BundleOwnThrow.lean) with one link more ahead of the chain; its proof follows that one. -/
def zq_at (own : String) (ic : Nat) (X sup : String) (names : List String) (idx : Nat) (bytes : ByteArray) : List Cond :=
  Bundle.throwableAtoms ++ (Bundle.throwableSAtoms ++ (Bundle.passSAtoms X sup idx bytes ++ (Bundle.chainSAtoms sup names ++
  [.methodLink own ic (Bundle.initS X), .instantiable X 6, .castable X X, .selects X Bundle.tFill0 Bundle.tFill0, .selects X Bundle.tFill Bundle.tFill, .lays X Bundle.tN "cause" "Ljava/lang/Throwable;", .lays X Bundle.tN "stackTrace" Bundle.steD, .lays X Bundle.tN "suppressedExceptions" Bundle.listD, .lays X Bundle.tN "detailMessage" "Ljava/lang/String;",
   .isRef (.static Bundle.tN "UNASSIGNED_STACK" Bundle.steD), .isRef (.static Bundle.tN "SUPPRESSED_SENTINEL" Bundle.listD), .fieldLink Bundle.tN 198 Bundle.tN "backtrace" "Ljava/lang/Object;", .lays Bundle.tN Bundle.tN "backtrace" "Ljava/lang/Object;", .lays X Bundle.tN "backtrace" "Ljava/lang/Object;"])))
def zq_atS (own : String) (ic : Nat) (X sup : String) (names : List String) (idx : Nat) (bytes : ByteArray) : List Cond := (zq_at own ic X sup names idx bytes).filter vx_no
section ZQT
variable {p : Program} {l : Launch} {e : Env} {R : Room} {s : State} {m₀ : MethodId} {args : Array Value} {below : List Frame} {meth : Method} {c : Code} {W : State} {locs : List Loc} {cells slots : Nat}
set_option maxHeartbeats 1000000 in
theorem zq_ctor (X : Stand p l e R s m₀ args below meth c W locs cells slots) (hexec : p.tables.exec = Jvm.exec) (htr : e.platform.stackTraces = false) {own cls sup : String} {names : List String} {ic idx : Nat} {bytes : ByteArray}
    (hown : s.vm.findClass own = some m₀.cls) (hcls : Bundle.fit cls = true) (hsup : Bundle.fit sup = true) (q0 : decode bytes 0 = .ok (.aload_n 0, 1)) (q1 : decode bytes 1 = .ok (.aload_n 1, 1)) (q2 : decode bytes 2 = .ok (.invokespecial idx, 3)) (q5 : decode bytes 5 = .ok (.return_, 1)) (hnames : ∀ n ∈ names, Bundle.fit n = true)
    (h : ∀ a ∈ zq_at own ic cls sup names idx bytes, a.before args s = true)
    (hlocs : ∀ x ∈ locs, ∀ cell, s.heap[x.base]? = some cell → cell.vm.isStatics = false)
    {a : Addr} {cX : ClassId} {kX : Class} (hfoundX : s.vm.findClass cls = some cX) (hkX : s.vm.classes[cX]? = some kX) (hcell : W.heap[a]? = some (freshCell cX kX)) (hnew : s.heap.size ≤ a)
    {msg : Value} (hmsg : msg.isRef = true)
    {g : JFrame} (hg : g.method = m₀) (hsize : g.locals.size = c.maxLocals) (hlocked : g.locked = none) (hentered : g.entered = []) {rest : List Value} (hstack : g.stack = msg :: .ref a :: .ref a :: rest)
    (hd6 : decode c.code g.pc = .ok (.invokespecial ic, 3)) (hd9 : decode c.code (g.pc + 3) = .ok (.athrow, 1)) (hout : ∀ x ∈ c.exceptionTable.toList, covers x (g.pc + 3) = false)
    (hRframes : names.length + 4 < R.frames) (hRlocals : 2 * g.monitorRoom + ((Value.ref a :: rest).map fun v => v.category).sum + (13 * (names.length + 2) + 42) ≤ R.locals) (hlocks : meth.locks = false) :
    ∃ U : State, Steps p.tables e below (W.setTop g) U ∧ U.status = .running ∧ Ended U below (.threw a) ∧ s.WarmedH U.vm ∧ s.sameButNew ({ U with vm := s.vm } : State) locs cells slots ∧
      ∃ ce, U.heap[a]? = some ce ∧ ce.vm = .none ∧ s.vm.findClass cls = some ce.cls := by
  have howns : e.platform.frameOwnsMonitors = true := by rw [X.admits.platform]
  have hfin : e.platform.finalization = false := by rw [X.admits.platform]
  have hpl : e.platform.magicAccessors = ({} : Platform).magicAccessors := by rw [X.admits.platform]
  have a' : ∀ x, x ∈ zq_at own ic cls sup names idx bytes → x.holds args s none s [] = true := fun x hx => h x hx
  obtain ⟨T, Z0, L, -, Y⟩ := ThrowableC.of_atoms (args := args) howns hfin hpl (fun x hx => h x (by simp [zq_at, hx]))
  obtain ⟨Z, M, LZ, LM, hnZ⟩ := Init0T.ofS_atoms (args := args) hpl L Y (fun x hx => h x (by simp [zq_at, hx]))
  obtain ⟨P2, Ps2, hlen2, L2, hL2, hP2m, hlinkA, hlinkB⟩ := Bundle.chainS (args := args) hpl hnZ names sup hsup hnames (fun x hx => h x (by simp [zq_at, hx]))
  obtain ⟨P1, L1, hP1m, hs1⟩ := PassC.ofS_atoms (args := args) (s := s) hpl (X := cls) (Y := sup) (Bundle.fit_spec hcls).1 (Bundle.fit_spec hsup).2 q0 q1 q2 q5 (fun x hx => h x (by simp [zq_at, hx]))
  obtain ⟨Ps, hPs⟩ : ∃ z, z = P2 :: Ps2 := ⟨_, rfl⟩
  have hlen : Ps.length = names.length + 1 := by rw [hPs, List.length_cons, hlen2]
  have hL : ∀ P, P ∈ Ps → P.LinksS e.platform s := fun P hP => by
    rw [hPs] at hP
    rcases List.mem_cons.mp hP with rfl | hP
    · exact L2
    · exact hL2 P hP
  have hlink1 : P1.sup = firstOf (Z.m T.toThrowableT) (Ps.map (·.toPassT)) := by
    rw [hPs]
    exact Option.some.inj (hs1.symm.trans hP2m)
  have hlink : PassesOn (Z.m T.toThrowableT) (Ps.map (·.toPassT)) := by
    rw [hPs]
    exact ⟨hlinkA, hlinkB⟩
  have hfound : s.vm.findClass cls = some P1.m.cls := findClass_of_methodNamed hP1m
  cases Option.some.inj (hfoundX.symm.trans hfound)
  obtain ⟨c1, kX', hc1, hk, hord, -, -, hn6⟩ := Cond.instantiable_spec (a' (.instantiable cls 6) (by simp [zq_at]))
  cases Option.some.inj (hc1.symm.trans hfound)
  cases Option.some.inj (hkX.symm.trans hk)
  have hsel0 : selectMethod e.platform s.vm P1.m.cls T.fill0 = .method T.fill0 := by
    obtain ⟨c2, r2, m2, q1, q2, q3, q4, -⟩ := Cond.selects_spec (a' (.selects cls Bundle.tFill0 Bundle.tFill0) (by simp [zq_at]))
    cases Option.some.inj (q1.symm.trans hfound)
    cases Option.some.inj (q2.symm.trans (State.methodFound?_of_named Y.fill0 (by decide)))
    cases Option.some.inj (q3.symm.trans Y.fill0)
    rw [Launch.admits_selectMethod X.admits]; exact q4
  have hselF : selectMethod e.platform s.vm P1.m.cls T.fill = .method T.fill := by
    obtain ⟨c2, r2, m2, q1, q2, q3, q4, -⟩ := Cond.selects_spec (a' (.selects cls Bundle.tFill Bundle.tFill) (by simp [zq_at]))
    cases Option.some.inj (q1.symm.trans hfound)
    cases Option.some.inj (q2.symm.trans (State.methodFound?_of_named Y.fill (by decide)))
    cases Option.some.inj (q3.symm.trans Y.fill)
    rw [Launch.admits_selectMethod X.admits]; exact q4
  obtain ⟨cellS0, hcS0, hiss⟩ := Y.statics
  obtain ⟨u0, hu0⟩ := Cond.staticRefV Y.unassigned L.unassignedStatic L.statics hcS0 hiss (a' (.isRef (.static Bundle.tN "UNASSIGNED_STACK" Bundle.steD)) (by simp [zq_at]))
  obtain ⟨sen, hsen⟩ := Cond.staticRefV Y.sentinel L.sentinelStatic L.statics hcS0 hiss (a' (.isRef (.static Bundle.tN "SUPPRESSED_SENTINEL" Bundle.listD)) (by simp [zq_at]))
  obtain ⟨ci198, i198, fB, hk198, hg198, ha198, hsB, -, hnB, htB, hffB⟩ := Cond.ownField (t := .object "java/lang/Object") Y.found L.cls (by decide +kernel) (a' (.fieldLink Bundle.tN 198 Bundle.tN "backtrace" "Ljava/lang/Object;") (by simp [zq_at])) (a' (.lays Bundle.tN Bundle.tN "backtrace" "Ljava/lang/Object;") (by simp [zq_at])) e.platform hpl
  obtain ⟨cellS, hcS', heS, -, hkeep⟩ := X.same.2.2.2.2.2 T.aS cellS0 hcS0
  have hcellS : W.heap[T.aS]? = some cellS := hcS'
  have hout' : ∀ i, (⟨T.aS, i⟩ : Loc) ∉ locs := fun i hmem => by
    have := hlocs _ hmem cellS0 hcS0
    rw [hiss] at this; cases this
  have hknownS : cellS.vm ≠ .unknown := by
    rw [heS]; intro hu
    rw [show cellS0.vm = .unknown from hu] at hiss
    cases hiss
  have hneS : T.aS ≠ a := Nat.ne_of_lt (Nat.lt_of_lt_of_le (Array.getElem?_eq_some_iff.mp hcS0).1 hnew)
  obtain ⟨iM, hffM⟩ := Y.msg
  obtain ⟨tyC, dC, hdC, hdnC⟩ := Cond.laysAt hfound hk Y.cause (a' (.lays cls Bundle.tN "cause" "Ljava/lang/Throwable;") (by simp [zq_at]))
  obtain ⟨tyS, dS, hdS, hdnS⟩ := Cond.laysAt hfound hk Y.stack (a' (.lays cls Bundle.tN "stackTrace" Bundle.steD) (by simp [zq_at]))
  obtain ⟨tyP, dP, hdP, hdnP⟩ := Cond.laysAt hfound hk Y.supp (a' (.lays cls Bundle.tN "suppressedExceptions" Bundle.listD) (by simp [zq_at]))
  obtain ⟨tyM, dM, hdM, hdnM⟩ := Cond.laysAt hfound hk hffM (a' (.lays cls Bundle.tN "detailMessage" "Ljava/lang/String;") (by simp [zq_at]))
  obtain ⟨tyB, dB, hdB, hdnB⟩ := Cond.laysAt hfound hk hffB (a' (.lays cls Bundle.tN "backtrace" "Ljava/lang/Object;") (by simp [zq_at]))
  have bC := Cond.laysApart hdB hdC hdnB hdnC (by rw [hnB, Y.causeName]; decide)
  have bS := Cond.laysApart hdB hdS hdnB hdnS (by rw [hnB, Y.stackName]; decide)
  have bP := Cond.laysApart hdB hdP hdnB hdnP (by rw [hnB, Y.suppName]; decide)
  have hskip : SkipFacts T e.platform s (fun u => u) u0 ((preparedCellV T.toThrowableT (freshCell P1.m.cls kX) a u0 sen).withEntry W.cur) :=
    ⟨{ ci198 := ci198, i198 := i198, fBack := fB }, ⟨hk198, hg198, ha198, hsB⟩, by
      have := fresh_default (c := P1.m.cls) tyB
      rw [htB] at this
      simpa [preparedCellV, Cell.setSlot, Cell.withEntry, Array.getElem?_setIfInBounds, bC, bS, bP, bC.symm, bS.symm, bP.symm, defaultValue] using this, fun _ _ => rfl⟩
  obtain ⟨tm, methC, cdC, kC, vm₁, hnC, -, -, -, -, -, -, -, hW₁, st1⟩ := Steps.initColdS (tb := p.tables) (e := e) (below := below) (s := s) (U := W) X.here hexec X.warmed hpl hown (t := Bundle.initS cls) rfl rfl (Bundle.fit_spec hcls).2
    (a' (.methodLink own ic (Bundle.initS cls)) (by simp [zq_at])) (h (.instanceMethod (Bundle.initS cls)) (by simp [zq_at, Bundle.passSAtoms])) (bytes := bytes) (maxL := 2) (h (.code (Bundle.initS cls) bytes 2 none) (by simp [zq_at, Bundle.passSAtoms]))
    (f := g) hg (a := a) (msg := msg) (rest := .ref a :: rest) hstack hd6
  cases Option.some.inj (hnC.symm.trans hP1m)
  have X₁ := X.noted hW₁
  obtain ⟨vm₂, X₂, st2⟩ := X₁.ctorMessageOffV hexec (g := { g with stack := .ref a :: rest }) hg hsize T L Z LZ M LM (P1 :: Ps)
    (fun P hP => by rcases List.mem_cons.mp hP with rfl | hP; exact L1; exact hL P hP) ⟨hlink1, hlink⟩ (u0 := u0) (sen := sen) (self := a) hmsg (cell := freshCell P1.m.cls kX) (cellS := cellS)
    hcell (fun _ => by simp) (by simp) rfl rfl hsel0 hselF hcellS hneS hknownS (by rw [hkeep _ (hout' _)]; exact hu0) (by rw [hkeep _ (hout' _)]; exact hsen)
    (Takes.of_laid hk hord tyC (by rw [Y.causeType]; rfl)) (Takes.of_laid hk hord tyS (by rw [Y.stackType]; exact fits_refV_array _ u0)) (Takes.of_laid hk hord tyP (by rw [Y.suppType]; exact fits_refV_object _ sen))
    (Takes.of_laid hk hord tyM (by rw [Y.msgType]; exact fits_refV_object _ ⟨msg, hmsg⟩)) Y.objLocals hskip htr [] hd6
    (by simp only [List.length_cons, hlen]; omega) (by simp only [List.length_cons, hlen]; exact hRlocals)
  obtain ⟨hwalk, hrun, hended, hWU, hsame⟩ := X₂.athrowLeaves hexec (g := { g with stack := .ref a :: rest, pc := g.pc + 3 }) hg hlocked hentered hout (a := a) (rest := rest) rfl hd9
  obtain ⟨c3, c4, hc3, hc4, hasg⟩ := Cond.castable_spec (a' (.castable cls cls) (by simp [zq_at]))
  cases Option.some.inj (hc3.symm.trans hfound)
  cases Option.some.inj (hc4.symm.trans hfound)
  have hlt : a < ((W.setVm vm₁).setVm vm₂).heap.size := (Array.getElem?_eq_some_iff.mp hcell).1
  have hU := heapAt_setCell_self (s := (W.setVm vm₁).setVm vm₂) (plainBareV T.toThrowableT (freshCell P1.m.cls kX) a u0 sen msg) hlt
  have hnM : T.fMsg.name = "detailMessage" := (State.fieldFound?_type hffM (t := .object "java/lang/String") (by decide +kernel)).1
  refine ⟨_, st1 _ (fun acts => ?_), hrun, hended, hWU, hsame.weaken (fun y hy hlt' => ?_) (Nat.le_refl _) (Nat.le_refl _), _, hU, ?_⟩
  · rw [doInvoke_state]
    exact st2 _ hwalk
  · rcases List.mem_append.mp hy with h1 | h1
    · exact h1
    · exfalso
      have hb : y.base = a := by
        simp only [List.mem_cons, List.not_mem_nil, or_false] at h1
        rcases h1 with rfl | rfl | rfl | rfl | rfl <;> rfl
      rw [hb] at hlt'
      exact Nat.not_lt.mpr hnew hlt'
  · exact ⟨rfl, hfound⟩
end ZQT
section ZQS
variable {p : Program} {l : Launch} {e : Env} {R : Room} {s : State} {m : MethodId} {args : Array Value} {below : List Frame} {meth : Method} {c : Code} {H : Heap} {locs : List Loc} {cells slots : Nat} {Q : State → Prop}
variable {mc ms : Nat} {free : Addr → Prop} {A0 A1 : Nat → Prop} {H0 : Heap} {a : Array Value} {ls : Array Slot} {st0 rest : List Value}
variable {Qc : Array Value → State → Outcome → State → Prop} {XC : String → State → State → Prop}
theorem zq_throwS {cc : ByteArray} {pc : Nat} (hexec : p.tables.exec = Jvm.exec) (hb : c.code = cc) (hl : l.stackTraces = false) {own cls sup text : String} {names : List String} {ik is ic idx mc ms sa : Nat} {bytes : ByteArray} {A : Nat → Prop}
    (hown : s.vm.findClass own = some m.cls) (hcls : Bundle.fit cls = true) (hsup : Bundle.fit sup = true) (q0 : decode bytes 0 = .ok (.aload_n 0, 1)) (q1 : decode bytes 1 = .ok (.aload_n 1, 1)) (q2 : decode bytes 2 = .ok (.invokespecial idx, 3)) (q5 : decode bytes 5 = .ok (.return_, 1)) (hnames : ∀ n ∈ names, Bundle.fit n = true)
    (hk : (Cond.classLink own ik cls).before args s = true) (hini : (Cond.initialized cls).before args s = true) (hstr : vk_R own is text sa s) (hat : ∀ w ∈ zq_atS own ic cls sup names idx bytes, w.before args s = true)
    (hgood : ∀ w ∈ Cond.classLink own ik cls :: Cond.initialized cls :: zq_atS own ic cls sup names idx bytes, vx_ot w = true)
    (hU : vx_Zq Bundle.tN "UNASSIGNED_STACK" Bundle.steD A s s.heap) (hN : vx_Zq Bundle.tN "SUPPRESSED_SENTINEL" Bundle.listD A s s.heap) (hS : va_S A s.heap H locs) (hsize : ls.size = c.maxLocals)
    (d0 : decode cc pc = .ok (.new ik, 3)) (d3 : decode cc (pc + 3) = .ok (.dup, 1)) (d4 : decode cc (pc + 4) = .ok (.ldc is, 2)) (d6 : decode cc (pc + 6) = .ok (.invokespecial ic, 3)) (d9 : decode cc (pc + 9) = .ok (.athrow, 1))
    (hout : ∀ x ∈ c.exceptionTable.toList, covers x (pc + 9) = false)
    (hRframes : names.length + 4 < R.frames) (hRlocals : (rest.map fun v => v.category).sum + (13 * (names.length + 2) + 43) ≤ R.locals) (hRcells : cells + 1 ≤ R.cells) (hRslots : slots + 6 ≤ R.slots) (hlocks : meth.locks = false)
    (hx : ∀ t : State, s.vm.Alike t.vm → H.size ≤ t.heap.size → (∀ q : Nat, q < H.size → t.heap[q]? = H[q]?) → XC cls s t)
    (hf : ∀ z ∈ locs, free z.base) (hc : cells + 1 ≤ mc) (hs : slots + 6 ≤ ms) :
    W p l e R s m args below meth c H locs cells slots (vx_MQ below Qc XC args s mc ms free) (F0 m pc ls rest) := by
  intro T hT X
  have htr : e.platform.stackTraces = false := (show e.platform.stackTraces = l.stackTraces by rw [X.admits.platform]).trans hl
  have Y := vx_rebase X (R' := { frames := R.frames, locals := R.locals, cells := 1, slots := 6 }) (Nat.le_refl _) (Nat.le_refl _) hRcells hRslots
  obtain ⟨s', hA⟩ : ∃ z, z = (T.setVm s.vm).setFrames (.invoking m args :: below) := ⟨_, rfl⟩
  rw [← hA] at Y
  have hvm : s'.vm = s.vm := by rw [hA]; rfl
  have hhp : s'.heap = H := by rw [hA]; exact hT
  have hW0 : s.WarmedH s'.vm := by rw [hvm]; exact State.WarmedH.refl s
  have hat' : ∀ w ∈ zq_atS own ic cls sup names idx bytes, w.before args s' = true := fun w hw => vx_ot_at hW0 hvm.symm (hgood w (List.mem_cons_of_mem _ (List.mem_cons_of_mem _ hw))) (hat w hw)
  have hk' : (Cond.classLink own ik cls).before args s' = true := vx_ot_at hW0 hvm.symm (hgood _ List.mem_cons_self) hk
  have hini' : (Cond.initialized cls).before args s' = true := vx_ot_at hW0 hvm.symm (hgood _ (List.mem_cons_of_mem _ List.mem_cons_self)) hini
  have hU' : vx_Zq Bundle.tN "UNASSIGNED_STACK" Bundle.steD A s' s'.heap := by rw [hhp]; exact vx_Zq.moved hW0.alike (hU.kept hS.2.1)
  have hN' : vx_Zq Bundle.tN "SUPPRESSED_SENTINEL" Bundle.listD A s' s'.heap := by rw [hhp]; exact vx_Zq.moved hW0.alike (hN.kept hS.2.1)
  have h : ∀ w ∈ zq_at own ic cls sup names idx bytes, w.before args s' = true := vx_own hat' (vx_isRefq hU'.1) (vx_isRefq hN'.1) hU'.2.word hN'.2.word
  have hown' : s'.vm.findClass own = some m.cls := by rw [hvm]; exact hown
  have hins : (Cond.instantiable cls 6).before args s' = true := h _ (by simp [zq_at])
  obtain ⟨vm₁, cX, kX, hfX, hkX, -, -, X₁, st1⟩ := Y.newCold hexec (own := own) (C := cls) (index := ik) (n := 6) hown' hk' hins hini'
    (g := F0 m pc ls rest) rfl (by rw [hb]; exact d0) (Nat.le_refl _) (Nat.le_refl _)
  generalize hT1 : (T.setVm vm₁).pushCell { cls := cX, slots := kX.instanceTypes.map defaultValue, vm := .none } = T1 at X₁ st1
  have hcat : (Value.ref T.heap.size).category = 1 := rfl
  have hcellA : T1.heap[T.heap.size]? = some (freshCell cX kX) := by rw [← hT1]; exact State.heap_pushCell_size _ _
  have d3' : decode c.code (pc + 3) = .ok (.dup, 1) := by rw [hb]; exact d3
  have d4' : decode c.code (pc + 4) = .ok (.ldc is, 2) := by rw [hb]; exact d4
  have hstr' : vk_R own is text sa s' := vk_R.warm hW0 hstr
  obtain ⟨U, hsteps, hrun, hend, hW, hsame, ce, hce, hOv, hOc⟩ := zq_ctor X₁ hexec htr (own := own) (cls := cls) (sup := sup) (names := names) (ic := ic) (idx := idx) (bytes := bytes) hown' hcls hsup q0 q1 q2 q5 hnames h (fun x hx => nomatch hx) hfX hkX hcellA (by rw [hhp, hT]; exact Nat.le_refl _) (msg := .ref sa) rfl
    (g := { method := m, pc := pc + 6, locals := ls, stack := .ref sa :: .ref T.heap.size :: .ref T.heap.size :: rest, locked := none }) rfl hsize rfl rfl (rest := rest) rfl
    (by rw [hb]; exact d6) (by rw [hb]; exact d9) hout hRframes (by simp only [List.map_cons, List.sum_cons, hcat]; omega) hlocks
  obtain ⟨f1, f2⟩ := vx_frame hsame
  rw [hhp] at f1 f2
  have hWs : s.WarmedH U.vm := State.WarmedH.trans hW0 hW
  have hcl : s.vm.findClass cls = some ce.cls := by
    have h9 := hOc
    rw [hvm] at h9
    exact h9
  have hall : s.sameButNew ({ U with vm := s.vm } : State) locs mc ms := by
    subst hA
    obtain ⟨e1, e2⟩ := hsame
    rw [State.setFrames_setFrames] at e1
    have h2 : (T.setVm s.vm).sameButNew ({ U with vm := s.vm } : State) [] (0 + 1) (0 + 6) := ⟨e1, e2⟩
    have h3 := X.same.trans h2
    rw [List.append_nil] at h3
    exact h3.mono hc hs
  refine ⟨U, ?_, .threw T.heap.size, hrun, hend, Or.inr ⟨T.heap.size, rfl, cls, ce, locs, hx U hWs.alike f1 (fun q hq => f2 q hq (fun z hz => nomatch hz)), hce, hOv, hcl, hWs, hall, hf⟩⟩
  refine st1 _ ?_
  show Steps p.tables e below (T1.setTop { method := m, pc := pc + 3, locals := ls, stack := .ref T.heap.size :: rest, locked := none }) _
  jvm_step X₁.here [X₁.here.top, hexec, d3', Value.category]
  exact X₁.ldcString hexec (own := own) (text := text) (index := is) (a := sa) hown' hstr'.1 hstr'.2
    (g := { method := m, pc := pc + 4, locals := ls, stack := .ref T.heap.size :: .ref T.heap.size :: rest, locked := none }) rfl d4' _ hsteps
end ZQS
end
section
/-! THE PURE MACHINE, VIII: what the tables must say of a method; the contract of a method out of its pure run. -/
/-- of a callee -/
def z_okd (P : zP) (M : zM) (a b : Nat) : Prop := ((M.1 a).cls ≠ "java/lang/invoke/MethodHandle" ∧ (M.1 a).cls ≠ "java/lang/invoke/VarHandle" ∧ (parseMethodDescriptor (M.1 a).desc).map (fun d => d.parameters.length) = some b) ∧ z_head P M a ∈ M.2.2.2.1 ∧ Cond.initialized (M.1 a).cls ∈ M.2.2.2.1 ∧ P.2.1 a ≤ 40
/-- of a call with a receiver, of its own class -/
def z_okv (P : zP) (M : zM) (own : String) (i : Instr) (a b : Nat) : Prop := match i with
  | .invokevirtual idx => P.2.2.1 a = [] ∧ z_okd P M a (b % 1000) ∧ Cond.instanceMethod (M.1 a) ∈ M.2.2.2.1 ∧ P.2.2.2.1 a < 100 ∧ (∃ r : vw_C, ((P.2.2.2.1 a < 50 ∧ M.2.2.2.2.2.1[P.2.2.2.1 a]? = some r) ∨ (50 ≤ P.2.2.2.1 a ∧ M.2.2.2.2.2.2.1[P.2.2.2.1 a - 50]? = some r)) ∧ r.1 = (M.1 a).cls) ∧ Cond.methodLink own idx (M.1 a) ∈ M.2.2.2.1 ∧ Cond.selects (M.1 a).cls (M.1 a) (M.1 a) ∈ M.2.2.2.1
  | _ => False
/-- of a constructor, of an inherited method -/
def z_okn (P : zP) (M : zM) (own : String) (i : Instr) (a b : Nat) : Prop := match i with
  | .invokevirtual idx => P.2.2.1 a = [] ∧ z_okd P M a (b % 1000) ∧ Cond.instanceMethod (M.1 a) ∈ M.2.2.2.1 ∧ P.2.2.2.1 a < 100 ∧ ∃ r : vw_C, ((P.2.2.2.1 a < 50 ∧ M.2.2.2.2.2.1[P.2.2.2.1 a]? = some r) ∨ (50 ≤ P.2.2.2.1 a ∧ M.2.2.2.2.2.2.1[P.2.2.2.1 a - 50]? = some r)) ∧ ∃ x : MethodName, M.1 a = ⟨(M.1 a).cls, x.name, x.desc⟩ ∧ Cond.methodLink own idx x ∈ M.2.2.2.1 ∧ Cond.sameMethod x.cls (M.1 a).cls x.name x.desc ∈ M.2.2.2.1 ∧ Cond.selects r.1 x (M.1 a) ∈ M.2.2.2.1
  | .invokespecial idx => P.2.2.1 a = [] ∧ z_okd P M a (b % 1000) ∧ (M.1 a).name = "<init>" ∧ P.2.2.2.2.1 a = none ∧ Cond.instanceMethod (M.1 a) ∈ M.2.2.2.1 ∧ (Cond.methodLink own idx (M.1 a) ∈ M.2.2.2.1 ∨ ∃ host : String, Cond.methodLinkNest own idx (M.1 a) host ∈ M.2.2.2.2.1)
  | _ => False
def z_oks (P : zP) (M : zM) (own : String) (i : Instr) (a b : Nat) : Prop := match i with
  | .invokestatic idx => z_okd P M a (b % 1000) ∧ Cond.methodLink own idx (M.1 a) ∈ M.2.2.2.1 ∧ Cond.static (M.1 a) ∈ M.2.2.2.1
  | _ => False
/-- the words of a throw; fst: the superclass, entry and bytes of a constructor that hands on by an entry of its own -/
def zq_sel (fst : Option (String × Nat × ByteArray)) (own : String) (ic : Nat) (E : String) (names : List String) : List Cond := match fst with
  | none => vx_atS own ic E names
  | some (sup, idx, bytes) => zq_atS own ic E sup names idx bytes
def zq_fit (fst : Option (String × Nat × ByteArray)) : Prop := match fst with
  | none => True
  | some (sup, idx, bytes) => Bundle.fit sup = true ∧ decode bytes 0 = .ok (.aload_n 0, 1) ∧ decode bytes 1 = .ok (.aload_n 1, 1) ∧ decode bytes 2 = .ok (.invokespecial idx, 3) ∧ decode bytes 5 = .ok (.return_, 1)
/-- of 'throw new E(text)' -/
def z_okt (T : zT) (M : zM) (own : String) (cc : ByteArray) (i : Instr) (pc a : Nat) : Prop := match i with
  | .new ik => ∃ (names : List String) (sx ic j : Nat) (f : zS) (fst : Option (String × Nat × ByteArray)), Bundle.fit (M.2.2.1 a) = true ∧ (∀ n ∈ names, Bundle.fit n = true) ∧ names.length ≤ 5 ∧ Cond.classLink own ik (M.2.2.1 a) ∈ M.2.2.2.1 ∧ Cond.initialized (M.2.2.1 a) ∈ M.2.2.2.1 ∧ T.2.2.1[j]? = some f ∧ f.1 = own ∧ f.2.1 = sx ∧
      (∀ w ∈ (zq_sel fst own ic (M.2.2.1 a) names).filter goodWord, w ∈ M.2.2.2.1) ∧ (∀ w ∈ (zq_sel fst own ic (M.2.2.1 a) names).filter (fun w => !goodWord w), w ∈ M.2.2.2.2.1 ∧ w.onTables = true) ∧ (∀ w ∈ Cond.classLink own ik (M.2.2.1 a) :: Cond.initialized (M.2.2.1 a) :: zq_sel fst own ic (M.2.2.1 a) names, vx_ot w = true) ∧ zq_fit fst ∧
      decode cc pc = .ok (.new ik, 3) ∧ decode cc (pc + 3) = .ok (.dup, 1) ∧
      ((decode cc (pc + 4) = .ok (.ldc sx, 2) ∧ decode cc (pc + 6) = .ok (.invokespecial ic, 3) ∧ decode cc (pc + 9) = .ok (.athrow, 1)) ∨ (fst = none ∧ decode cc (pc + 4) = .ok (.ldc_w sx, 3) ∧ decode cc (pc + 7) = .ok (.invokespecial ic, 3) ∧ decode cc (pc + 10) = .ok (.athrow, 1)))
  | _ => False
/-- of a handler: it answers a constant -/
def z_okx (P : zP) (M : zM) (y : Nat) (x : zX) : Prop := x.1.2.2.2 ≠ 0 ∧ Cond.classLink (M.1 y).cls x.1.2.2.2 (M.2.2.1 x.2.1) ∈ M.2.2.2.1 ∧ Cond.castable (M.2.2.1 x.2.1) (M.2.2.1 x.2.1) ∈ M.2.2.2.2.1 ∧ P.2.2.2.2.1 y = some .int ∧
  ∃ len : Nat, ((∃ kk : Fin 4, decode (M.2.1 y) x.1.2.2.1 = .ok (.astore_n kk, 1) ∧ (kk : Nat) < P.2.1 y ∧ len = 1) ∨ (∃ k : Nat, decode (M.2.1 y) x.1.2.2.1 = .ok (.astore k, 2) ∧ k < P.2.1 y ∧ len = 2)) ∧ ∃ n : Int, decode (M.2.1 y) (x.1.2.2.1 + len) = .ok (.iconst n, 1) ∧ Int32.ofInt n = x.2.2 ∧ decode (M.2.1 y) (x.1.2.2.1 + len + 1) = .ok (.ireturn, 1)
def z_oke (T : zT) (P : zP) (M : zM) (y : Nat) (q : zE) : Prop := match q with
  | (pc, i, len, a, b) => decode (M.2.1 y) pc = .ok (i, len) ∧ (match z_kind i a b with
    | 0 => z_len i len ∧ z_tgt i pc a
    | 1 => z_okh M.2.2.2.2.2.1 M.2.2.2.2.2.2.1 M.2.2.2.2.2.2.2 M.2.2.2.2.1 T (M.1 y).cls (M.1 y).name M.2.2.2.1 i len pc a b
    | 2 => len = 3 ∧ z_okv P M (M.1 y).cls i a b
    | 7 => len = 3 ∧ z_okn P M (M.1 y).cls i a b
    | 3 => len = 3 ∧ z_oks P M (M.1 y).cls i a b
    | 4 => len = 1
    | 5 => i = .return_ ∧ len = 1
    | _ => z_okt T M (M.1 y).cls (M.2.1 y) i pc a)
def z_okm (T : zT) (P : zP) (M : zM) (y : Nat) : Prop := (∀ q ∈ P.1 y, z_oke T P M y q) ∧ ∀ x ∈ P.2.2.1 y, z_okx P M y x
/-- of the whole: the classes, the arrays, the words; a method's name is a plain one where it has code -/
def z_okS (T : zT) (P : zP) (M : zM) (tys : List (ClassId × FieldType)) : Prop :=
  z_okc M.2.2.2.2.2.1 M.2.2.2.2.2.2.2 T M.2.2.2.1 ∧ z_tf M.2.2.2.2.2.2.2 ∧ (∀ (t : Nat) (x : ClassId × FieldType), tys[t]? = some x → M.2.2.2.2.2.2.2[t]? = some x.2) ∧ (∀ t : Nat, t < 6 → ∀ ty : FieldType, M.2.2.2.2.2.2.2[t]? = some ty → ∃ x : ClassId, tys[t]? = some (x, ty)) ∧
  (∀ w ∈ M.2.2.2.2.1, z_nwk w) ∧ (∀ w ∈ M.2.2.2.1, (w.onTables && w.keeps) = true ∨ ∃ ty, w = .arrayClass ty) ∧ ∀ y : Nat, plainName (M.1 y).cls = true ∧ z_okm T P M y
theorem z_catch_ok {nc : List (Nat × Nat)} {pc e : Nat} {w : zX} : ∀ {l : List zX}, z_catch nc l pc e = some w → ∃ pre suf : List zX, l = pre ++ w :: suf ∧ (∀ z ∈ pre, ¬ (z.1.1 ≤ pc ∧ pc < z.1.2.1) ∨ (e, z.2.1) ∈ nc) ∧ (w.1.1 ≤ pc ∧ pc < w.1.2.1) ∧ w.2.1 = e := by
  intro l
  induction l with
  | nil => intro h; cases h
  | cons x l ih =>
    intro h
    rw [z_catch] at h
    split at h
    · rename_i h1
      split at h
      · rename_i h2
        cases h
        exact ⟨[], l, rfl, fun z hz => (by cases hz), h1, h2⟩
      · split at h
        · rename_i h3
          obtain ⟨pre, suf, e1, e2, e3, e4⟩ := ih h
          exact ⟨x :: pre, suf, by rw [e1]; rfl, fun z hz => by
            rcases List.mem_cons.mp hz with rfl | hz
            · exact Or.inr h3
            · exact e2 z hz, e3, e4⟩
        · cases h
    · rename_i h1
      obtain ⟨pre, suf, e1, e2, e3, e4⟩ := ih h
      exact ⟨x :: pre, suf, by rw [e1]; rfl, fun z hz => by
        rcases List.mem_cons.mp hz with rfl | hz
        · exact Or.inl h1
        · exact e2 z hz, e3, e4⟩
/-- a pure run of f steps is a run of the machine -/
def z_S (T : zT) (P : zP) (M : zM) (D : va_G) (tys : List (ClassId × FieldType)) (A : Nat → Prop) (ad0 : Nat → Option Nat) (l : Launch) (f : Nat) : Prop :=
  ∀ (d y pc : Nat) (lv : List (Nat × Value)) (st : List Value) (h : zH) (cs ss : Nat) (o : Option Value ⊕ Nat) (h2 : zH) (c2 s2 : Nat), z_run T P f d y pc lv st h cs ss = some (o, h2, c2, s2) →
  ∀ (p : Program) (e : Env) (R : Room) (s : State) (m : MethodId) (args : Array Value) (below : List Frame) (meth : Method) (c : Code) (H : Heap) (locs : List Loc) (ls : Array Slot) (ad ad1 : Nat → Option Nat) (n0 : Nat) (Q : State → Prop),
  p.tables.exec = Jvm.exec → c.code = M.2.1 y → c.maxLocals = P.2.1 y → s.vm.findClass (M.1 y).cls = some m.cls → (∀ w ∈ M.2.2.2.1, w.before args s = true) → ((M.1 y).name = "<init>" → meth.name = "<init>") → (P.2.2.1 y ≠ [] → c.exceptionTable.toList = tableOf ((P.2.2.1 y).map (·.1))) →
  z_fx T P M D tys A ad0 s → (d + 10 ≤ R.frames ∧ 60 * d + 300 ≤ R.locals) → c2 ≤ R.cells → s2 ≤ R.slots → z_ext ad0 ad 0 → z_ext ad1 ad n0 → n0 ≤ h.length → z_wd D M.2.2.2.2.2.1 tys A ad h H → va_S A s.heap H locs → z_hv h → (∀ q ∈ lv, z_vk h.length q.2) → (∀ v ∈ st, z_vk h.length v) → lv_has ls (P.2.1 y) (z_lvm ad lv) →
  (∀ (pc' : Nat) (i : Instr) (v : Option Value) (ls' : Array Slot) (H' : Heap) (locs' : List Loc) (ad' : Nat → Option Nat), decode (M.2.1 y) pc' = .ok (i, 1) → o = .inl v → (match v with | some w => z_rok i (P.2.2.2.2.1 y) w = true | none => i = .return_ ∧ P.2.2.2.2.1 y = none) → z_ext ad1 ad' n0 → z_wd D M.2.2.2.2.2.1 tys A ad' h2 H' → va_S A s.heap H' locs' → z_hv h2 → n0 ≤ h2.length → (∀ w : Value, v = some w → z_vk h2.length w) → W p l e R s m args below meth c H' locs' c2 s2 Q (F0 m pc' ls' (v.toList.map (z_cv ad')))) →
  (∀ (e' pc' : Nat) (ls' : Array Slot) (rest' : List Value) (H' : Heap) (locs' : List Loc) (ad' : Nat → Option Nat) (q : Addr) (ce : Cell), o = .inr e' → z_ext ad1 ad' n0 → z_wd D M.2.2.2.2.2.1 tys A ad' h2 H' → va_S A s.heap H' locs' → z_hv h2 → n0 ≤ h2.length → H'[q]? = some ce → ce.vm = .none → s.vm.findClass (M.2.2.1 e') = some ce.cls → P.2.2.1 y = [] → vx_W p l e R s m args below meth c H' locs' c2 s2 Q (F0 m pc' ls' rest') q) →
  (∀ (pc' : Nat) (i : Instr) (a : Nat) (ls' : Array Slot) (rest' : List Value) (H' : Heap) (locs' : List Loc) (ad' : Nat → Option Nat) (ck sk : Nat), z_okt T M (M.1 y).cls (M.2.1 y) i pc' a → o = .inr a → z_ext ad1 ad' n0 → z_wd D M.2.2.2.2.2.1 tys A ad' h2 H' → va_S A s.heap H' locs' → z_hv h2 → n0 ≤ h2.length → (rest'.map fun v => v.category).sum ≤ 8 → ls'.size = P.2.1 y → P.2.2.1 y = [] → ck + 1 = c2 → sk + 6 = s2 → W p l e R s m args below meth c H' locs' ck sk Q (F0 m pc' ls' rest')) →
  W p l e R s m args below meth c H locs cs ss Q (F0 m pc ls (st.map (z_cv ad)))
/-- the contract of a method, of a pure run of f steps -/
def z_C (T : zT) (P : zP) (M : zM) (D : va_G) (tys : List (ClassId × FieldType)) (A : Nat → Prop) (ad0 : Nat → Option Nat) (l : Launch) (f : Nat) : Prop :=
  ∀ (d y : Nat) (as : List Value) (h : zH) (o : Option Value ⊕ Nat) (h2 : zH) (mc ms : Nat), z_run T P f d y 0 (lv_args 0 as) [] h 0 0 = some (o, h2, mc, ms) → z_cs as ≤ P.2.1 y → ∀ ad : Nat → Option Nat, z_ext ad0 ad 0 → z_hv h → (∀ v ∈ as, z_vk h.length v) →
  vx_Met l (M.1 y) (z_head P M y :: M.2.2.2.1) (z_rm d mc ms) (va_Pc (as.map (z_cv ad)) (fun U => z_fx T P M D tys A ad0 U ∧ z_wd D M.2.2.2.2.2.1 tys A ad h U.heap)) (z_Q M D tys A ad h.length o h2) (z_X M D tys A ad h.length o h2) mc ms A
theorem z_rfc (ad : Nat → Option Nat) (k : Nat) : z_cv ad (.ref k) = .null ∨ ∃ a, z_cv ad (.ref k) = .ref a := by
  show va_rf (ad k) = .null ∨ ∃ a, va_rf (ad k) = .ref a
  cases ad k with
  | none => exact Or.inl rfl
  | some a => exact Or.inr ⟨a, rfl⟩
section ZC
variable {T : zT} {P : zP} {M : zM} {D : va_G} {tys : List (ClassId × FieldType)} {A : Nat → Prop} {ad0 : Nat → Option Nat} {l : Launch} {f : Nat}
set_option maxHeartbeats 4000000 in
/-- the body of a method: its ends -/
theorem z_body (hS : z_S T P M D tys A ad0 l f) (hok : z_okS T P M tys) (hl0 : l.stackTraces = false) {d y : Nat} {as : List Value} {h h2 : zH} {o : Option Value ⊕ Nat} {mc ms : Nat} (hr : z_run T P f d y 0 (lv_args 0 as) [] h 0 0 = some (o, h2, mc, ms)) (hcs : z_cs as ≤ P.2.1 y) {ad : Nat → Option Nat} (hx0 : z_ext ad0 ad 0) (hv : z_hv h) (has : ∀ v ∈ as, z_vk h.length v)
    {p : Program} {e : Env} {s : State} {m : MethodId} {below : List Frame} {meth : Method} {c : Code} (hx : p.tables.exec = Jvm.exec) (hb : c.code = M.2.1 y) (hml : c.maxLocals = P.2.1 y) (hown : s.vm.findClass (M.1 y).cls = some m.cls) (hts : ∀ w ∈ M.2.2.2.1, w.before (as.map (z_cv ad)).toArray s = true) (hnm : meth.name = (M.1 y).name) (hrt : meth.sig.returnType = P.2.2.2.2.1 y) (hlocks : meth.locks = false) (htab : c.exceptionTable.toList = tableOf ((P.2.2.1 y).map (·.1))) (hfx : z_fx T P M D tys A ad0 s) (hw : z_wd D M.2.2.2.2.2.1 tys A ad h s.heap) :
    W p l e (z_rm d mc ms) s m (as.map (z_cv ad)).toArray below meth c s.heap [] 0 0 (vx_MQ below (z_Q M D tys A ad h.length o h2) (z_X M D tys A ad h.length o h2) (as.map (z_cv ad)).toArray s mc ms A) (entryFrame m (as.map (z_cv ad)).toArray (P.2.1 y)) := by
  have hlen : (lg_sl (as.map (z_cv ad))).length ≤ P.2.1 y := by rw [z_sl_len, z_cs_m]; exact hcs
  have hl := lv_entry (as.map (z_cv ad)) (n := P.2.1 y) hlen
  rw [lg_entry_eq]
  rw [z_args_m] at hl
  generalize (lg_sl (as.map (z_cv ad)) ++ List.replicate (P.2.1 y - (lg_sl (as.map (z_cv ad))).length) Slot.unset).toArray = ls at hl ⊢
  have htab0 : P.2.2.1 y = [] → ∀ pc : Nat, ∀ x ∈ c.exceptionTable.toList, covers x pc = false := fun h0 pc x hx' => by
    rw [htab, h0] at hx'
    cases hx'
  refine hS d y 0 (lv_args 0 as) [] h 0 0 o h2 mc ms hr p e (z_rm d mc ms) s m (as.map (z_cv ad)).toArray below meth c s.heap [] ls ad ad h.length _ hx hb hml hown hts (fun z => hnm.trans z) (fun _ => htab) hfx ⟨Nat.le_refl _, Nat.le_refl _⟩ (Nat.le_refl _) (Nat.le_refl _) hx0 z_ext.rf (Nat.le_refl _) hw va_S.rf hv (fun q hq => has _ (z_args_in as 0 q hq)) (fun v hv' => by cases hv') hl ?_ ?_ ?_
  · intro pc' i v ls' H' locs' ad' hd ho hro hxt hw' hS' hv2 hn2 hvv
    have hq : ∀ t : State, t.heap = H' → z_Q M D tys A ad h.length o h2 (as.map (z_cv ad)).toArray s (.returned (v.map (z_cv ad'))) t := fun t ht => ⟨⟨v, ad', ho, rfl, hxt, by rw [ht]; exact hw', hv2, hn2, hvv⟩, hS'.F ht⟩
    cases v with
    | none =>
      obtain ⟨rfl, hr0⟩ := hro
      exact vx_ret (W.vret hx hb (hrt.trans hr0) (fun t ht _ => hq t ht) hS'.2.2 hd)
    | some w =>
      replace hro : z_rok i (P.2.2.2.2.1 y) w = true := hro
      unfold z_rok at hro
      split at hro
      · rename_i g
        exact vx_ret (W.iret hx hb (hrt.trans g) (fun t ht _ => hq t ht) hS'.2.2 hd)
      · rename_i x g
        refine vx_ret (W.zret hx hb (hrt.trans g) ?_ (fun t ht _ => hq t ht) hS'.2.2 hd)
        simp only [Bool.or_eq_true, decide_eq_true_eq] at hro
        rcases hro with rfl | rfl
        · exact (by decide : (Value.int ((0 : Int32) &&& 1)) = .int 0)
        · exact (by decide : (Value.int ((1 : Int32) &&& 1)) = .int 1)
      · rename_i x g
        exact vx_ret (W.zret hx hb (hrt.trans g) (congrArg Value.int (of_decide_eq_true hro)) (fun t ht _ => hq t ht) hS'.2.2 hd)
      · rename_i x g
        exact vx_ret (W.zret hx hb (hrt.trans g) (congrArg Value.int (of_decide_eq_true hro)) (fun t ht _ => hq t ht) hS'.2.2 hd)
      · rename_i g
        exact vx_ret (W.lret hx hb (hrt.trans g) (fun t ht _ => hq t ht) hS'.2.2 hd)
      · rename_i g
        exact vx_ret (W.fret hx hb (hrt.trans g) (fun t ht _ => hq t ht) hS'.2.2 hd)
      · rename_i g
        exact vx_ret (W.dret hx hb (hrt.trans g) (fun t ht _ => hq t ht) hS'.2.2 hd)
      · rename_i g
        exact vx_ret (W.aret hx hb (hrt.trans g) (Or.inl ⟨_, rfl⟩) (z_rfc ad' _) (fun t ht _ => hq t ht) hS'.2.2 hd)
      · rename_i g
        exact vx_ret (W.aret hx hb (hrt.trans g) (Or.inl ⟨_, rfl⟩) (Or.inl rfl) (fun t ht _ => hq t ht) hS'.2.2 hd)
      · cases hro
  · intro e' pc' ls' rest' H' locs' ad' q ce ho hxt hw' hS' hv2 hn2 hce hcv hcl h0
    exact vx_out (htab0 h0 pc') hlocks hce hcv hcl (fun t ht _ => ⟨e', ad', ho, rfl, hxt, by rw [ht]; exact hw', hv2, hn2, hS'.F ht⟩) hS'.2.2 (Nat.le_refl _) (Nat.le_refl _)
  · intro pc' i a ls' rest' H' locs' ad' ck sk hot ho hxt hw' hS' hv2 hn2 hcat hsz h0 hck hsk
    unfold z_okt at hot
    split at hot
    · rename_i ik
      obtain ⟨names, sx, ic, j, fs, fst, g1, g2, g3, g4, g5, g6, g7, g8, g9, g10, g11, gf, g12, g13, g14⟩ := hot
      obtain ⟨k1, t, k2, k3⟩ := hfx.2.2.1.2.2.1 _ _ g6
      rw [g7, g8] at k3
      have hat : ∀ w ∈ zq_sel fst (M.1 y).cls ic (M.2.2.1 a) names, w.before (as.map (z_cv ad)).toArray s = true := by
        intro w hw9
        by_cases gw : goodWord w = true
        · exact hts w (g9 w (List.mem_filter.mpr ⟨hw9, gw⟩))
        · have := g10 w (List.mem_filter.mpr ⟨hw9, by cases hgw : goodWord w <;> simp_all⟩)
          exact va_Nw.use this.2 (hfx.2.2.1.2.2.2.2.2 w this.1)
      have hxx : ∀ t : State, s.vm.Alike t.vm → H'.size ≤ t.heap.size → (∀ q : Nat, q < H'.size → t.heap[q]? = H'[q]?) → z_X M D tys A ad h.length o h2 (M.2.2.1 a) s t := by
        intro t hal hz hk
        obtain ⟨ws, hP, hD, hr'⟩ := hw'
        refine ⟨a, ad', ho, rfl, hxt, ⟨ws, hP.kept (fun k x hx' => hk x.1 (hP k x hx').lt), hD, hr'⟩, hv2, hn2, ⟨Nat.le_trans hS'.1 hz, fun q h1 h2' => (hk q (Nat.lt_of_lt_of_le h1 hS'.1)).trans (hS'.2.1 q h1 h2')⟩⟩
      have e1 : c.maxLocals = ls'.size := hml.trans hsz.symm
      cases fst with
      | none =>
        rcases g14 with ⟨d4, d6, d9⟩ | ⟨-, d4, d7, d10⟩
        · exact vx_throwS hx hb hl0 hown g1 g2 (hts _ g4) (hts _ g5) k3 hat g11 hfx.2.2.1.2.2.2.2.1.1 hfx.2.2.1.2.2.2.2.1.2 hS' e1.symm g12 g13 d4 d6 d9 (htab0 h0 _) (by show names.length + 3 < d + 10; omega) (by show _ ≤ 60 * d + 300; omega) (by show ck + 1 ≤ mc; omega) (by show sk + 6 ≤ ms; omega) hlocks hxx hS'.2.2 (by omega) (by omega)
        · exact vx_throwSW hx hb hl0 hown g1 g2 (hts _ g4) (hts _ g5) k3 hat g11 hfx.2.2.1.2.2.2.2.1.1 hfx.2.2.1.2.2.2.2.1.2 hS' e1.symm g12 g13 d4 d7 d10 (htab0 h0 _) (by show names.length + 3 < d + 10; omega) (by show _ ≤ 60 * d + 300; omega) (by show ck + 1 ≤ mc; omega) (by show sk + 6 ≤ ms; omega) hlocks hxx hS'.2.2 (by omega) (by omega)
      | some z =>
        obtain ⟨sup, idx, bytes⟩ := z
        rcases g14 with ⟨d4, d6, d9⟩ | ⟨hz, -⟩
        · exact zq_throwS hx hb hl0 hown g1 gf.1 gf.2.1 gf.2.2.1 gf.2.2.2.1 gf.2.2.2.2 g2 (hts _ g4) (hts _ g5) k3 hat g11 hfx.2.2.1.2.2.2.2.1.1 hfx.2.2.1.2.2.2.2.1.2 hS' e1.symm g12 g13 d4 d6 d9 (htab0 h0 _) (by show names.length + 4 < d + 10; omega) (by show _ ≤ 60 * d + 300; omega) (by show ck + 1 ≤ mc; omega) (by show sk + 6 ≤ ms; omega) hlocks hxx hS'.2.2 (by omega) (by omega)
        · cases hz
    · exact hot.elim
theorem z_con (hS : z_S T P M D tys A ad0 l f) (hok : z_okS T P M tys) (hl0 : l.stackTraces = false) : z_C T P M D tys A ad0 l f := by
  intro d y as h o h2 mc ms hr hcs ad hx0 hv has
  have hpn : plainName (M.1 y).cls = true := (hok.2.2.2.2.2.2 y).1
  cases hex : P.2.2.1 y with
  | nil =>
    have hh : z_head P M y = .code (M.1 y) (M.2.1 y) (P.2.1 y) (P.2.2.2.2.1 y) := by unfold z_head; rw [hex]
    rw [hh]
    refine vx_ofW (cc := M.2.1 y) (maxL := P.2.1 y) (ret := P.2.2.2.2.1 y) hpn rfl ?_
    intro p e s m args below meth c s₁ B hml htab hP
    obtain ⟨rfl, hfx, hw⟩ := hP
    have hts := atoms_spec (ws := Cond.code (M.1 y) (M.2.1 y) (P.2.1 y) (P.2.2.2.2.1 y) :: M.2.2.2.1) B.pre
    refine z_body hS hok hl0 hr hcs hx0 hv has B.exec B.bytes hml (findClass_of_methodNamed B.named) (fun w hw' => hts w (List.mem_cons_of_mem _ hw')) (name_of_methodNamed B.named B.method).1 B.returns B.notSynchronized ?_ hfx hw
    rw [hex]
    exact List.eq_nil_iff_forall_not_mem.mpr htab
  | cons x0 l0 =>
    have hh : z_head P M y = .codeWith (M.1 y) (M.2.1 y) (P.2.1 y) (P.2.2.2.2.1 y) ((x0 :: l0).map (fun q : zX => q.1)) := by unfold z_head; rw [hex]
    rw [hh]
    refine vx_ofWH (cc := M.2.1 y) (maxL := P.2.1 y) (ret := P.2.2.2.2.1 y) (hh := (x0 :: l0).map (·.1)) hpn rfl ?_
    intro p e s m args below meth c s₁ B hml hP
    obtain ⟨rfl, hfx, hw⟩ := hP
    have hts := atoms_spec (ws := Cond.codeWith (M.1 y) (M.2.1 y) (P.2.1 y) (P.2.2.2.2.1 y) ((x0 :: l0).map (fun q : zX => q.1)) :: M.2.2.2.1) B.pre
    refine z_body hS hok hl0 hr hcs hx0 hv has B.exec B.bytes hml (findClass_of_methodNamed B.named) (fun w hw' => hts w (List.mem_cons_of_mem _ hw')) (name_of_methodNamed B.named B.method).1 B.returns B.notSynchronized ?_ hfx hw
    rw [hex]
    exact vx_table (x := M.1 y) B (hts _ List.mem_cons_self)
end ZC
end
section
/-! THE PURE MACHINE, IX: a pure run is a run of the machine. -/
theorem z_imp {l : Launch} {x : MethodName} {S : Spec} {P : Array Value → State → Prop} {K : Program → Env → List Frame → State → Array Value → Prop} {Q Q' : Array Value → State → Outcome → State → Prop} (h : MetFree l x S P K Q) (hq : ∀ a st o t, Q a st o t → Q' a st o t) : MetFree l x S P K Q' := by
  intro p e ha hc hk s m args below hf happ hP hK
  obtain ⟨n, o, h1, h2, h3, h4⟩ := h p e ha hc hk s m args below hf happ hP hK
  exact ⟨n, o, h1, h2, h3, hq _ _ _ _ h4⟩
section ZD
variable {T : zT} {P : zP} {M : zM} {D : va_G} {tys : List (ClassId × FieldType)} {A : Nat → Prop} {ad0 ad : Nat → Option Nat} {l : Launch} {f : Nat}
variable {p : Program} {e : Env} {R : Room} {s : State} {m : MethodId} {args : Array Value} {below : List Frame} {meth : Method} {c : Code} {H : Heap} {locs : List Loc} {cells slots : Nat} {Q : State → Prop}
variable {own : String} {cc : ByteArray} {nL pc : Nat} {ls : Array Slot} {h h2 : zH} {st : List Value} {d a b mc ms : Nat} {o : Option Value ⊕ Nat} {i : Instr}
theorem z_good (hok : z_okS T P M tys) {ws : List Cond} (hw : ∀ w ∈ ws, w ∈ M.2.2.2.1) : GoodIn M.2.2.2.1 ws := fun w hw' => ⟨hw w hw', hok.2.2.2.2.2.1 w (hw w hw')⟩
theorem z_pc (hok : z_okS T P M tys) (hfx : z_fx T P M D tys A ad0 s) (hw : z_wd D M.2.2.2.2.2.1 tys A ad h H) (hS : va_S A s.heap H locs) : ∀ U : State, U.heap = H → s.WarmedH U.vm → z_fx T P M D tys A ad0 U ∧ z_wd D M.2.2.2.2.2.1 tys A ad h U.heap := fun U hU hW =>
  ⟨z_fx_moved hok.2.2.2.2.1 hW (by rw [hU]; exact hS.1) (fun q h1 h2 => by rw [hU]; exact hS.2.1 q h1 h2) hfx, by rw [hU]; exact hw⟩
theorem z_blind (hok : z_okS T P M tys) {h : zH} {as : List Value} : FrameBlind (va_Pc as (fun U => z_fx T P M D tys A ad0 U ∧ z_wd D M.2.2.2.2.2.1 tys A ad h U.heap)) := fun a U g mk q =>
  ⟨q.1, z_fx_moved (U := U.calling g mk a) hok.2.2.2.2.1 (State.WarmedH.refl U) (Nat.le_refl _) (fun _ _ _ => rfl) q.2.1, q.2.2⟩
theorem z_recvT (hfx : z_fx T P M D tys A ad0 s) (hx0 : z_ext ad0 ad 0) (hw : z_wd D M.2.2.2.2.2.1 tys A ad h H) (hS : va_S A s.heap H locs) {as : List Value} {t : Nat} (hr : z_rcv T h as t = true) : ∃ (q b : Nat) (r vs : List Value), as = .ref q :: r ∧ z_hg T.1 h q = some (t, vs) ∧ ad q = some b := by
  unfold z_rcv at hr
  split at hr
  · rename_i q r
    split at hr
    · rename_i c0 e1
      have e2 : c0.1 = t := Nat.eq_of_beq_eq_true hr
      obtain ⟨b, e3⟩ := z_hg_ad hfx.2.2.1 hx0 hw e1
      obtain ⟨t', vs⟩ := c0
      dsimp only at e2
      subst e2
      exact ⟨q, b, r, vs, rfl, e1, e3⟩
    · cases hr
  · cases hr
/-- a call of a static method -/
theorem z_runS (hC : z_C T P M D tys A ad0 l f) (hok : z_okS T P M tys) (hx : p.tables.exec = Jvm.exec) (hb : c.code = cc) (hml : c.maxLocals = nL) (hown : s.vm.findClass own = some m.cls) (hts : ∀ w ∈ M.2.2.2.1, w.before args s = true) (hfx : z_fx T P M D tys A ad0 s) (hx0 : z_ext ad0 ad 0) (hw : z_wd D M.2.2.2.2.2.1 tys A ad h H) (hS : va_S A s.heap H locs) (hv : z_hv h)
    (hR : d + 1 + 10 ≤ R.frames ∧ 60 * (d + 1) + 300 ≤ R.locals) (hroom : cells + mc ≤ R.cells ∧ slots + ms ≤ R.slots) (hlz : ls.size = nL) {as rest : List Value} (hst : st = as.reverse ++ rest) (has : ∀ v ∈ as, z_vk h.length v) (hcs : z_cs as ≤ P.2.1 a) (hrest : z_cs rest ≤ 8) (hn : as.length = b % 1000)
    (hr : z_run T P f d a 0 (lv_args 0 as) [] h 0 0 = some (o, h2, mc, ms)) (ho : z_oks P M own i a b) (hd : decode cc pc = .ok (i, 3)) :
    ∃ ar, vx_Run p l e R s m args below meth c H locs cells slots mc ms (F0 m pc ls (st.map (z_cv ad))) (rest.map (z_cv ad)) (z_Q M D tys A ad h.length o h2 ar) (z_X M D tys A ad h.length o h2) A := by
  have hM := hC d a as h o h2 mc ms hr hcs ad hx0 hv has
  unfold z_oks at ho
  split at ho
  · rename_i idx
    obtain ⟨⟨⟨k1, k2, k3⟩, hhead, hini, h40⟩, hlink, hstat⟩ := ho
    have hws : ∀ w ∈ z_head P M a :: M.2.2.2.1, w ∈ M.2.2.2.1 := fun w hw' => by
      rcases List.mem_cons.mp hw' with rfl | hw'
      · exact hhead
      · exact hw'
    have hpS : PreS s H (va_Pc (as.map (z_cv ad)) (fun U => z_fx T P M D tys A ad0 U ∧ z_wd D M.2.2.2.2.2.1 tys A ad h U.heap)) (as.map (z_cv ad)) := ⟨z_blind hok, fun U hU hW => ⟨rfl, z_pc hok hfx hw hS U hU hW⟩⟩
    have hRR : (z_rm d mc ms).frames + 1 ≤ R.frames ∧ 8 + (P.2.1 a + 11) + (z_rm d mc ms).locals ≤ R.locals := ⟨by show d + 10 + 1 ≤ _; omega, by show 8 + (P.2.1 a + 11) + (60 * d + 300) ≤ _; omega⟩
    have hstk : (F0 m pc ls (st.map (z_cv ad))).stack = (as.map (z_cv ad)).reverse ++ rest.map (z_cv ad) := by
      show st.map (z_cv ad) = _
      rw [hst, List.map_append, List.map_reverse]
    have hrW : 2 * (F0 m pc ls (st.map (z_cv ad))).monitorRoom + ((rest.map (z_cv ad)).map fun v => v.category).sum ≤ 8 := by
      have e1 : ((rest.map (z_cv ad)).map fun v => v.category).sum = z_cs rest := z_cs_map ad rest
      rw [e1]
      show 2 * 0 + _ ≤ 8
      omega
    cases hex : P.2.2.1 a with
    | nil =>
      have hh : z_head P M a = .code (M.1 a) (M.2.1 a) (P.2.1 a) (P.2.2.2.2.1 a) := by unfold z_head; rw [hex]
      rw [hh] at hM hws hhead
      have hG := z_good hok hws
      exact ⟨_, vx_runS (n := b % 1000) ⟨hx, hb, hml, hown, hts⟩ hM ⟨callB_of (b % 1000) hts hG rfl rfl rfl (hts _ hini) (hts _ hlink) ⟨k1, k2, k3⟩ hRR, hts _ hstat⟩ hpS rfl (by rw [List.length_map]; exact hn) hlz hstk hrW hd hroom⟩
    | cons x0 l0 =>
      have hh : z_head P M a = .codeWith (M.1 a) (M.2.1 a) (P.2.1 a) (P.2.2.2.2.1 a) ((x0 :: l0).map (fun q : zX => q.1)) := by unfold z_head; rw [hex]
      rw [hh] at hM hws hhead
      have hG := z_good hok hws
      refine ⟨_, vx_runSX (n := b % 1000) ⟨hx, hb, hml, hown, hts⟩ hM ⟨⟨rfl, rfl, hRR.1, hRR.2, pay_in hts hG, List.mem_cons_self⟩, hts _ hhead, hts _ hini, ⟨k1, k2⟩, fun sig hg => ?_, hts _ hlink, hts _ hstat⟩ hpS rfl (by rw [List.length_map]; exact hn) hlz hstk hrW hd hroom⟩
      rw [hg] at k3
      exact (Option.some.inj k3).symm
  · exact ho.elim
/-- a call of a method of the receiver's own class -/
theorem z_runV (hC : z_C T P M D tys A ad0 l f) (hok : z_okS T P M tys) (hx : p.tables.exec = Jvm.exec) (hb : c.code = cc) (hml : c.maxLocals = nL) (hown : s.vm.findClass own = some m.cls) (hts : ∀ w ∈ M.2.2.2.1, w.before args s = true) (hfx : z_fx T P M D tys A ad0 s) (hx0 : z_ext ad0 ad 0) (hw : z_wd D M.2.2.2.2.2.1 tys A ad h H) (hS : va_S A s.heap H locs) (hv : z_hv h)
    (hR : d + 1 + 10 ≤ R.frames ∧ 60 * (d + 1) + 300 ≤ R.locals) (hroom : cells + mc ≤ R.cells ∧ slots + ms ≤ R.slots) (hlz : ls.size = nL) {as rest : List Value} (hst : st = as.reverse ++ rest) (has : ∀ v ∈ as, z_vk h.length v) (hcs : z_cs as ≤ P.2.1 a) (hrest : z_cs rest ≤ 8) (hn : as.length = b % 1000 + 1) (hrv : z_rcv T h as (P.2.2.2.1 a) = true)
    (hr : z_run T P f d a 0 (lv_args 0 as) [] h 0 0 = some (o, h2, mc, ms)) (ho : z_okv P M own i a b) (hd : decode cc pc = .ok (i, 3)) :
    ∃ ar, vx_Run p l e R s m args below meth c H locs cells slots mc ms (F0 m pc ls (st.map (z_cv ad))) (rest.map (z_cv ad)) (z_Q M D tys A ad h.length o h2 ar) (z_X M D tys A ad h.length o h2) A := by
  have hM := hC d a as h o h2 mc ms hr hcs ad hx0 hv has
  unfold z_okv at ho
  split at ho
  · rename_i idx
    obtain ⟨hex, ⟨⟨k1, k2, k3⟩, hhead, hini, h40⟩, hin, h100, ⟨r, hcl, hrc⟩, hlink, hsel⟩ := ho
    obtain ⟨q, b9, r9, vs, rfl, e1, e2⟩ := z_recvT hfx hx0 hw hS hrv
    obtain ⟨b8, e3, hrecv⟩ := z_recv hfx.2.1 hfx.2.2.1 hx0 hw hS e1 h100 hcl
    have e4 : b8 = b9 := Option.some.inj (e3.symm.trans e2)
    subst e4
    have hh : z_head P M a = .code (M.1 a) (M.2.1 a) (P.2.1 a) (P.2.2.2.2.1 a) := by unfold z_head; rw [hex]
    have hcvq : (Value.ref q :: r9).map (z_cv ad) = .ref b8 :: r9.map (z_cv ad) := by
      rw [List.map_cons, show z_cv ad (.ref q) = .ref b8 from congrArg va_rf e2]
    rw [hh] at hM hhead
    have hws : ∀ w ∈ Cond.code (M.1 a) (M.2.1 a) (P.2.1 a) (P.2.2.2.2.1 a) :: M.2.2.2.1, w ∈ M.2.2.2.1 := fun w hw' => by
      rcases List.mem_cons.mp hw' with rfl | hw'
      · exact hhead
      · exact hw'
    have hG := z_good hok hws
    have hpV : PreV s H (M.1 a).cls b8 (va_Pc ((Value.ref q :: r9).map (z_cv ad)) (fun U => z_fx T P M D tys A ad0 U ∧ z_wd D M.2.2.2.2.2.1 tys A ad h U.heap)) (r9.map (z_cv ad)) :=
      ⟨z_blind hok, by rw [hrc] at hrecv; exact hrecv, fun U hU hW => ⟨by rw [hcvq], z_pc hok hfx hw hS U hU hW⟩⟩
    have hRR : (z_rm d mc ms).frames + 1 ≤ R.frames ∧ 8 + (P.2.1 a + 11) + (z_rm d mc ms).locals ≤ R.locals := ⟨by show d + 10 + 1 ≤ _; omega, by show 8 + (P.2.1 a + 11) + (60 * d + 300) ≤ _; omega⟩
    have hstk : (F0 m pc ls (st.map (z_cv ad))).stack = (r9.map (z_cv ad)).reverse ++ .ref b8 :: rest.map (z_cv ad) := by
      show st.map (z_cv ad) = _
      rw [hst, List.map_append, List.map_reverse, hcvq]
      simp
    have hrW : 2 * (F0 m pc ls (st.map (z_cv ad))).monitorRoom + ((rest.map (z_cv ad)).map fun v => v.category).sum ≤ 8 := by
      have e1 : ((rest.map (z_cv ad)).map fun v => v.category).sum = z_cs rest := z_cs_map ad rest
      rw [e1]
      show 2 * 0 + _ ≤ 8
      omega
    exact ⟨_, vx_runV (n := b % 1000) (C := (M.1 a).cls) ⟨hx, hb, hml, hown, hts⟩ hM ⟨callB_of (b % 1000) hts hG rfl rfl rfl (hts _ hini) (hts _ hlink) ⟨k1, k2, k3⟩ hRR, hts _ hin, hts _ hsel⟩ hpV rfl (by rw [List.length_map]; simp only [List.length_cons] at hn; omega) hlz hstk hrW hd hroom⟩
  · exact ho.elim
/-- a run that does not throw -/
theorem z_vxr {g : JFrame} {rest : List Value} {Qa : State → Outcome → State → Prop} {XC : String → State → State → Prop} {fr : Addr → Prop} (h : va_Run p l e R s m args below meth c H locs cells slots mc ms g rest Qa fr) : vx_Run p l e R s m args below meth c H locs cells slots mc ms g rest Qa XC fr := fun T hT X => Or.inl (h T hT X)
/-- a call of a constructor, or of an inherited method, from which nothing is thrown -/
theorem z_runN (hC : z_C T P M D tys A ad0 l f) (hok : z_okS T P M tys) (hx : p.tables.exec = Jvm.exec) (hb : c.code = cc) (hml : c.maxLocals = nL) (hown : s.vm.findClass own = some m.cls) (hts : ∀ w ∈ M.2.2.2.1, w.before args s = true) (hfx : z_fx T P M D tys A ad0 s) (hx0 : z_ext ad0 ad 0) (hw : z_wd D M.2.2.2.2.2.1 tys A ad h H) (hS : va_S A s.heap H locs) (hv : z_hv h)
    (hR : d + 1 + 10 ≤ R.frames ∧ 60 * (d + 1) + 300 ≤ R.locals) (hroom : cells + mc ≤ R.cells ∧ slots + ms ≤ R.slots) (hlz : ls.size = nL) {as rest : List Value} (hst : st = as.reverse ++ rest) (has : ∀ v ∈ as, z_vk h.length v) (hcs : z_cs as ≤ P.2.1 a) (hrest : z_cs rest ≤ 8) (hn : as.length = b % 1000 + 1) (hrv : z_rcv T h as (P.2.2.2.1 a) = true) {v0 : Option Value} (hov : o = .inl v0)
    (hr : z_run T P f d a 0 (lv_args 0 as) [] h 0 0 = some (o, h2, mc, ms)) (ho : z_okn P M own i a b) (hd : decode cc pc = .ok (i, 3)) :
    ∃ ar, vx_Run p l e R s m args below meth c H locs cells slots mc ms (F0 m pc ls (st.map (z_cv ad))) (rest.map (z_cv ad)) (z_Q M D tys A ad h.length o h2 ar) (z_X M D tys A ad h.length o h2) A := by
  have hM0 := hC d a as h o h2 mc ms hr hcs ad hx0 hv has
  have hM : Met l (M.1 a) (z_head P M a :: M.2.2.2.1) (z_rm d mc ms) (va_Pc (as.map (z_cv ad)) (fun U => z_fx T P M D tys A ad0 U ∧ z_wd D M.2.2.2.2.2.1 tys A ad h U.heap)) (z_Q M D tys A ad h.length o h2) mc ms A := by
    refine z_imp hM0 (fun a0 st0 o0 t0 hq => ?_)
    rcases hq with hq | ⟨q, -, E, ce, L, ⟨e', ad2, he, -⟩, -⟩
    · exact hq
    · rw [hov] at he
      cases he
  obtain ⟨q, b8, r9, vs, rfl, e1, e2⟩ := z_recvT hfx hx0 hw hS hrv
  have hcvq : (Value.ref q :: r9).map (z_cv ad) = .ref b8 :: r9.map (z_cv ad) := by
    rw [List.map_cons, show z_cv ad (.ref q) = .ref b8 from congrArg va_rf e2]
  have hstk : (F0 m pc ls (st.map (z_cv ad))).stack = (r9.map (z_cv ad)).reverse ++ .ref b8 :: rest.map (z_cv ad) := by
    show st.map (z_cv ad) = _
    rw [hst, List.map_append, List.map_reverse, hcvq]
    simp
  have hrW : 2 * (F0 m pc ls (st.map (z_cv ad))).monitorRoom + ((rest.map (z_cv ad)).map fun v => v.category).sum ≤ 8 := by
    have e1 : ((rest.map (z_cv ad)).map fun v => v.category).sum = z_cs rest := z_cs_map ad rest
    rw [e1]
    show 2 * 0 + _ ≤ 8
    omega
  unfold z_okn at ho
  split at ho
  · rename_i idx
    obtain ⟨hex, ⟨⟨k1, k2, k3⟩, hhead, hini, h40⟩, hin, h100, r, hcl, x, hxe, hlink, hsame, hsel⟩ := ho
    obtain ⟨b7, e3, hrecv⟩ := z_recv hfx.2.1 hfx.2.2.1 hx0 hw hS e1 h100 hcl
    have e4 : b7 = b8 := Option.some.inj (e3.symm.trans e2)
    subst e4
    have hh : z_head P M a = .code (M.1 a) (M.2.1 a) (P.2.1 a) (P.2.2.2.2.1 a) := by unfold z_head; rw [hex]
    rw [hh] at hM hhead
    have hws : ∀ w ∈ Cond.code (M.1 a) (M.2.1 a) (P.2.1 a) (P.2.2.2.2.1 a) :: M.2.2.2.1, w ∈ M.2.2.2.1 := fun w hw' => by
      rcases List.mem_cons.mp hw' with rfl | hw'
      · exact hhead
      · exact hw'
    have hRR : (z_rm d mc ms).frames + 1 ≤ R.frames ∧ 8 + (P.2.1 a + 11) + (z_rm d mc ms).locals ≤ R.locals := ⟨by show d + 10 + 1 ≤ _; omega, by show 8 + (P.2.1 a + 11) + (60 * d + 300) ≤ _; omega⟩
    have hdesc : (M.1 a).desc = x.desc := by rw [hxe]
    have hG := z_good hok (ws := va_wsU own idx r.1 (M.1 a).cls x (M.1 a) (Cond.code (M.1 a) (M.2.1 a) (P.2.1 a) (P.2.2.2.2.1 a) :: M.2.2.2.1)) (fun w hw' => by
      unfold va_wsU at hw'
      rcases List.mem_append.mp hw' with h9 | h9
      · simp only [List.mem_cons, List.not_mem_nil, or_false] at h9
        rcases h9 with rfl | rfl | rfl | rfl | rfl
        · exact hlink
        · exact hsame
        · exact hsel
        · exact hin
        · exact hini
      · exact hws w h9)
    have hpV : PreV s H r.1 b7 (va_Pc ((Value.ref q :: r9).map (z_cv ad)) (fun U => z_fx T P M D tys A ad0 U ∧ z_wd D M.2.2.2.2.2.1 tys A ad h U.heap)) (r9.map (z_cv ad)) :=
      ⟨z_blind hok, hrecv, fun U hU hW => ⟨by rw [hcvq], z_pc hok hfx hw hS U hU hW⟩⟩
    have cw := va_cwU (R := R) (mc := mc) (ms := ms) (index := idx) (b % 1000) hts hG rfl (rm := z_rm d mc ms) rfl rfl hxe ⟨k1, k2, by rw [← hdesc]; exact k3⟩ hRR
    exact ⟨_, z_vxr (va_runU ⟨hx, hb, hml, hown, hts⟩ hM cw hpV rfl (by rw [List.length_map]; simp only [List.length_cons] at hn; omega) hlz hstk hrW hd hroom)⟩
  · rename_i idx
    obtain ⟨hex, ⟨⟨k1, k2, k3⟩, hhead, hini, h40⟩, hnm, hret, hin, hl⟩ := ho
    have hh : z_head P M a = .code (M.1 a) (M.2.1 a) (P.2.1 a) none := by unfold z_head; rw [hex, hret]
    rw [hh] at hM hhead
    have hws : ∀ w ∈ Cond.code (M.1 a) (M.2.1 a) (P.2.1 a) none :: M.2.2.2.1, w ∈ M.2.2.2.1 := fun w hw' => by
      rcases List.mem_cons.mp hw' with rfl | hw'
      · exact hhead
      · exact hw'
    have hG := z_good hok hws
    have hRR : (z_rm d mc ms).frames + 1 ≤ R.frames ∧ 8 + (P.2.1 a + 11) + (z_rm d mc ms).locals ≤ R.locals := ⟨by show d + 10 + 1 ≤ _; omega, by show 8 + (P.2.1 a + 11) + (60 * d + 300) ≤ _; omega⟩
    have hpS : PreS s H (va_Pc ((Value.ref q :: r9).map (z_cv ad)) (fun U => z_fx T P M D tys A ad0 U ∧ z_wd D M.2.2.2.2.2.1 tys A ad h U.heap)) (.ref b8 :: r9.map (z_cv ad)) := ⟨z_blind hok, fun U hU hW => ⟨by rw [hcvq], z_pc hok hfx hw hS U hU hW⟩⟩
    rcases hl with hl | ⟨host, hl⟩
    · exact ⟨_, z_vxr (va_runI (n := b % 1000) ⟨hx, hb, hml, hown, hts⟩ hM (cwI (b % 1000) hts hG rfl rfl rfl (hts _ hini) (hts _ hl) (hts _ hin) hnm ⟨k1, k2, k3⟩ hRR) hpS rfl (by rw [List.length_map]; simp only [List.length_cons] at hn; omega) hlz hstk hrW hd hroom)⟩
    · exact ⟨_, z_vxr (va_runIN (n := b % 1000) ⟨hx, hb, hml, hown, hts⟩ hM ⟨va_cnB (b % 1000) hts hG rfl rfl rfl (hfx.2.2.1.2.2.2.2.2 _ hl) (hts _ hini) ⟨k1, k2, k3⟩ hRR, hnm, hts _ hin⟩ hpS rfl (by rw [List.length_map]; simp only [List.length_cons] at hn; omega) hlz hstk hrW hd hroom)⟩
  · exact ho.elim
theorem z_kind_le (i : Instr) (a b : Nat) : z_kind i a b ≤ 7 := by
  unfold z_kind
  split <;> first
    | exact Nat.le_of_ble_eq_true rfl
    | (cases Nat.ble 1000 b <;> exact Nat.le_of_ble_eq_true rfl)
    | (cases Nat.beq a 9999 <;> exact Nat.le_of_ble_eq_true rfl)
    | (cases Nat.beq a 9998 <;> exact Nat.le_of_ble_eq_true rfl)
/-- a call -/
theorem z_runA (hC : z_C T P M D tys A ad0 l f) (hok : z_okS T P M tys) (hx : p.tables.exec = Jvm.exec) (hb : c.code = cc) (hml : c.maxLocals = nL) (hown : s.vm.findClass own = some m.cls) (hts : ∀ w ∈ M.2.2.2.1, w.before args s = true) (hfx : z_fx T P M D tys A ad0 s) (hx0 : z_ext ad0 ad 0) (hw : z_wd D M.2.2.2.2.2.1 tys A ad h H) (hS : va_S A s.heap H locs) (hv : z_hv h)
    (hR : d + 1 + 10 ≤ R.frames ∧ 60 * (d + 1) + 300 ≤ R.locals) (hroom : cells + mc ≤ R.cells ∧ slots + ms ≤ R.slots) (hlz : ls.size = nL) (hsv : ∀ v ∈ st, z_vk h.length v) {k : Nat} (hc1 : z_nn k b ≤ st.length) (hrest : z_cs (st.drop (z_nn k b)) ≤ 8) (hcs : z_cs (st.take (z_nn k b)) ≤ P.2.1 a) (hrv : k ≠ 3 → z_rcv T h (st.take (z_nn k b)).reverse (P.2.2.2.1 a) = true)
    (hr : z_run T P f d a 0 (lv_args 0 (st.take (z_nn k b)).reverse) [] h 0 0 = some (o, h2, mc, ms)) (ho : (k = 2 ∧ z_okv P M own i a b) ∨ (k = 3 ∧ z_oks P M own i a b) ∨ (k = 7 ∧ z_okn P M own i a b ∧ ∃ v0, o = .inl v0)) (hd : decode cc pc = .ok (i, 3)) :
    ∃ ar, vx_Run p l e R s m args below meth c H locs cells slots mc ms (F0 m pc ls (st.map (z_cv ad))) ((st.drop (z_nn k b)).map (z_cv ad)) (z_Q M D tys A ad h.length o h2 ar) (z_X M D tys A ad h.length o h2) A := by
  have hst : st = (st.take (z_nn k b)).reverse.reverse ++ st.drop (z_nn k b) := by rw [List.reverse_reverse, List.take_append_drop]
  have has : ∀ v ∈ (st.take (z_nn k b)).reverse, z_vk h.length v := fun v hv' => hsv v (List.mem_of_mem_take (List.mem_reverse.mp hv'))
  have hcs2 : z_cs (st.take (z_nn k b)).reverse ≤ P.2.1 a := by rw [z_cs_rev]; exact hcs
  have hlen : (st.take (z_nn k b)).reverse.length = z_nn k b := by rw [List.length_reverse, List.length_take]; omega
  rcases ho with ⟨rfl, ho⟩ | ⟨rfl, ho⟩ | ⟨rfl, ho, v0, hv0⟩
  · exact z_runV hC hok hx hb hml hown hts hfx hx0 hw hS hv hR hroom hlz hst has hcs2 hrest (by rw [hlen]; rfl) (hrv (by decide)) hr ho hd
  · exact z_runS hC hok hx hb hml hown hts hfx hx0 hw hS hv hR hroom hlz hst has hcs2 hrest (by rw [hlen]; rfl) hr ho hd
  · exact z_runN hC hok hx hb hml hown hts hfx hx0 hw hS hv hR hroom hlz hst has hcs2 hrest (by rw [hlen]; rfl) (hrv (by decide)) hv0 hr ho hd
end ZD
set_option maxHeartbeats 4000000 in
theorem z_Sall {T : zT} {P : zP} {M : zM} {D : va_G} {tys : List (ClassId × FieldType)} {A : Nat → Prop} {ad0 : Nat → Option Nat} {l : Launch} (hok : z_okS T P M tys) (hl0 : l.stackTraces = false) : ∀ f : Nat, z_S T P M D tys A ad0 l f := by
  intro f
  induction f with
  | zero => intro d y pc lv st h cs ss o h2 c2 s2 e; cases e
  | succ f ih =>
    intro d y pc lv st h cs ss o h2 c2 s2 er p e R s m args below meth c H locs ls ad ad1 n0 Q hx hb hml hown hts hnm htab hfx hR hc2 hs2 hx0 hx1 hn0 hw hS hv hlv hsv hl K1 K2 K3
    have hmono := z_run_mono T P (f + 1) d y pc lv st h cs ss o h2 c2 s2 er
    rw [z_run] at er
    split at er
    · cases er
    · rename_i i len a b e1
      have hq := ((hok.2.2.2.2.2.2 y).2).1 _ (z_at_in e1)
      have hxt := ((hok.2.2.2.2.2.2 y).2).2
      unfold z_oke at hq
      obtain ⟨hd, hq⟩ := hq
      have hlz : ls.size = P.2.1 y := hl.1
      split at er
      · rename_i hk
        rw [hk] at hq
        split at er
        · rename_i pc2 lv2 st2 e2
          have hval := z_loc_v e2 hlv hsv
          exact z_loc_ok e2 hd hq.1 hq.2 hx hb hl (fun ls2 hl2 => ih d y pc2 lv2 st2 h cs ss o h2 c2 s2 er p e R s m args below meth c H locs ls2 ad ad1 n0 Q hx hb hml hown hts hnm htab hfx hR hc2 hs2 hx0 hx1 hn0 hw hS hv hval.1 hval.2 hl2 K1 K2 K3)
        · cases er
      · rename_i hk
        rw [hk] at hq
        split at er
        · rename_i pc2 st2 h3 dc ds e2
          have hm := z_run_mono T P f d y pc2 lv st2 h3 (cs + dc) (ss + ds) o h2 c2 s2 er
          exact z_hp_ok e2 hq hok.1 hok.2.1 hok.2.2.1 hok.2.2.2.1 hts hown hx hb hml hlz hnm hfx.2.1 hfx.2.2.1 hx0 hw hS hfx.1 hv hsv ⟨by omega, by omega⟩ ⟨by omega, by omega⟩ hd (fun ad2 H2 locs2 hext hw2 hS2 hv2 hle hsv2 =>
            ih d y pc2 lv st2 h3 (cs + dc) (ss + ds) o h2 c2 s2 er p e R s m args below meth c H2 locs2 ls ad2 ad1 n0 Q hx hb hml hown hts hnm htab hfx hR hc2 hs2 (hx0.tr hext (Nat.zero_le _)) (hx1.tr hext hn0) (Nat.le_trans hn0 hle) hw2 hS2 hv2 (fun q hq' => (hlv q hq').le hle) hsv2 (by rw [z_lvm_ext hext hlv]; exact hl) K1 K2 K3)
        · cases er
      · rename_i hk
        rw [hk] at hq
        split at er
        · rename_i v r
          split at er
          · rename_i hr
            cases er
            obtain ⟨rfl, hr⟩ := hr
            subst hq
            exact K1 pc i (some v) ls H locs ad hd rfl hr hx1 hw hS hv hn0 (fun w hw' => by cases hw'; exact hsv _ List.mem_cons_self)
          · cases er
        · cases er
      · rename_i hk
        rw [hk] at hq
        split at er
        · rename_i hr
          cases er
          obtain ⟨rfl, hr⟩ := hr
          obtain ⟨rfl, rfl⟩ := hq
          exact K1 pc .return_ none ls H locs ad hd rfl ⟨rfl, hr⟩ hx1 hw hS hv hn0 (fun w hw' => by cases hw')
        · cases er
      · rename_i hk
        rw [hk] at hq
        split at er
        · rename_i hr
          cases er
          exact K3 pc i a ls (st.map (z_cv ad)) H locs ad cs ss hq rfl hx1 hw hS hv hn0 (by rw [z_cs_map]; exact hr.1) hlz hr.2 rfl rfl
        · cases er
      · rename_i hk0 hk1 hk4 hk5 hk6
        have hk7 := z_kind_le i a b
        split at er
        · cases er
        · rename_i d'
          have hR' : d' + 1 + 10 ≤ R.frames ∧ 60 * (d' + 1) + 300 ≤ R.locals := hR
          have hk3 : z_kind i a b = 2 ∨ z_kind i a b = 3 ∨ z_kind i a b = 7 := by
            have g0 : z_kind i a b ≠ 0 := hk0
            have g1 : z_kind i a b ≠ 1 := hk1
            have g4 : z_kind i a b ≠ 4 := hk4
            have g5 : z_kind i a b ≠ 5 := hk5
            have g6 : z_kind i a b ≠ 6 := hk6
            omega
          generalize hkk : z_kind i a b = k at *
          have hq3 : decode (M.2.1 y) pc = .ok (i, 3) ∧ ((k = 2 ∧ z_okv P M (M.1 y).cls i a b) ∨ (k = 3 ∧ z_oks P M (M.1 y).cls i a b) ∨ (k = 7 ∧ z_okn P M (M.1 y).cls i a b)) := by
            rcases hk3 with rfl | rfl | rfl
            · obtain ⟨rfl, hq⟩ := hq
              exact ⟨hd, Or.inl ⟨rfl, hq⟩⟩
            · obtain ⟨rfl, hq⟩ := hq
              exact ⟨hd, Or.inr (Or.inl ⟨rfl, hq⟩)⟩
            · obtain ⟨rfl, hq⟩ := hq
              exact ⟨hd, Or.inr (Or.inr ⟨rfl, hq⟩)⟩
          have hC := z_con (ad0 := ad0) (A := A) (D := D) ih hok hl0
          split at er
          · rename_i hc
            obtain ⟨hc1, hc3, hc4, hc5⟩ := hc
            have hrv : ∀ v ∈ st.drop (z_nn k b), z_vk h.length v := fun v hv' => hsv v (List.mem_of_mem_drop hv')
            split at er
            · cases er
            · rename_i ov h3 dc ds e2
              have hm := z_run_mono T P f (d' + 1) y (pc + 3) lv (ov.toList ++ st.drop (z_nn k b)) h3 (cs + dc) (ss + ds) o h2 c2 s2 er
              have ho3 : (k = 2 ∧ z_okv P M (M.1 y).cls i a b) ∨ (k = 3 ∧ z_oks P M (M.1 y).cls i a b) ∨ (k = 7 ∧ z_okn P M (M.1 y).cls i a b ∧ ∃ v0, (Sum.inl ov : Option Value ⊕ Nat) = .inl v0) := by
                rcases hq3.2 with g | g | g
                · exact Or.inl g
                · exact Or.inr (Or.inl g)
                · exact Or.inr (Or.inr ⟨g.1, g.2, ov, rfl⟩)
              obtain ⟨ar, hrun⟩ := z_runA (slots := ss) (cells := cs) (e := e) (below := below) (meth := meth) hC hok hx hb hml hown hts hfx hx0 hw hS hv hR' ⟨by omega, by omega⟩ hlz hsv hc1 hc3 hc4 hc5 e2 ho3 hq3.1
              refine z_after hrun hS (fun v st0 t locs1 h0 hal hQ hF => ?_) (fun E q ce st0 t locs1 h0 hal hX hF hce hcv hcl => ?_)
              · obtain ⟨⟨v', ad2, ho, hoc, hext, hw2, hv2, hle, hvv⟩, hF'⟩ := hQ
                cases ho
                have hv9 : v = ov.map (z_cv ad2) := by injection hoc
                subst hv9
                have estk : (ov.map (z_cv ad2)).toList ++ (st.drop (z_nn k b)).map (z_cv ad) = (ov.toList ++ st.drop (z_nn k b)).map (z_cv ad2) := by
                  rw [List.map_append, z_map_ext hext hrv]
                  cases ov <;> rfl
                rw [estk]
                refine ih (d' + 1) y (pc + 3) lv (ov.toList ++ st.drop (z_nn k b)) h3 (cs + dc) (ss + ds) o h2 c2 s2 er p e R s m args below meth c t.heap locs1 ls ad2 ad1 n0 Q hx hb hml hown hts hnm htab hfx hR hc2 hs2 (hx0.tr hext (Nat.zero_le _)) (hx1.tr hext hn0) (Nat.le_trans hn0 hle) hw2 (hF hF') hv2 (fun q hq' => (hlv q hq').le hle) (fun u hu => ?_) (by rw [z_lvm_ext hext hlv]; exact hl) K1 K2 K3
                rcases List.mem_append.mp hu with hu | hu
                · cases ov with
                  | none => cases hu
                  | some w =>
                    rw [Option.toList_some, List.mem_singleton] at hu
                    subst hu
                    exact hvv _ rfl
                · exact (hrv u hu).le hle
              · obtain ⟨e', ad2, ho, -⟩ := hX
                cases ho
            · rename_i ex h3 dc ds e2
              split at er
              · cases er
              · rename_i hk7n
                have ho3 : (k = 2 ∧ z_okv P M (M.1 y).cls i a b) ∨ (k = 3 ∧ z_oks P M (M.1 y).cls i a b) ∨ (k = 7 ∧ z_okn P M (M.1 y).cls i a b ∧ ∃ v0, (Sum.inr ex : Option Value ⊕ Nat) = .inl v0) := by
                  rcases hq3.2 with g | g | g
                  · exact Or.inl g
                  · exact Or.inr (Or.inl g)
                  · exact absurd g.1 hk7n
                have hroom : cs + dc ≤ R.cells ∧ ss + ds ≤ R.slots := by
                  split at er
                  · cases er; exact ⟨hc2, hs2⟩
                  · split at er
                    · cases er; exact ⟨hc2, hs2⟩
                    · cases er
                obtain ⟨ar, hrun⟩ := z_runA (slots := ss) (cells := cs) (e := e) (below := below) (meth := meth) hC hok hx hb hml hown hts hfx hx0 hw hS hv hR' hroom hlz hsv hc1 hc3 hc4 hc5 e2 ho3 hq3.1
                refine z_after hrun hS (fun v st0 t locs1 h0 hal hQ hF => ?_) (fun E q ce st0 t locs1 h0 hal hX hF hce hcv hcl => ?_)
                · obtain ⟨⟨v', ad2, ho, -⟩, -⟩ := hQ
                  cases ho
                · obtain ⟨e', ad2, ho, hE, hext, hw2, hv2, hle, hF'⟩ := hX
                  cases ho
                  subst hE
                  split at er
                  · rename_i hno
                    cases er
                    exact K2 ex pc ls _ t.heap locs1 ad2 q ce rfl (hx1.tr hext hn0) hw2 (hF hF') hv2 (Nat.le_trans hn0 hle) hce hcv hcl hno
                  · rename_i x0 l0 hhs
                    split at er
                    · rename_i w hw9
                      cases er
                      obtain ⟨pre, suf, g1, g2, g3, g4⟩ := z_catch_ok hw9
                      have htb := htab (by rw [hhs]; exact List.cons_ne_nil _ _)
                      rw [hhs, g1] at htb
                      have hxw := hxt w (by rw [hhs, g1]; exact List.mem_append_right _ List.mem_cons_self)
                      obtain ⟨n1, n2, n3, n4, len, n5, n, n6, n7, n8⟩ := hxw
                      refine vx_catch (name := M.2.2.1 ex) hown (tableOf (pre.map (·.1))) ⟨w.1.1, w.1.2.1, w.1.2.2.1, w.1.2.2.2⟩ (tableOf (suf.map (·.1))) (by rw [htb]; simp [tableOf]) ?_ ?_ n1 (by rw [← g4]; exact hts _ n2) (by
                        rw [g4] at n3
                        exact va_Nw.use rfl (hfx.2.2.1.2.2.2.2.2 _ n3)) hce hcv hcl ?_
                      · intro z hz
                        unfold tableOf at hz
                        rw [List.map_map] at hz
                        obtain ⟨z0, hz0, rfl⟩ := List.mem_map.mp hz
                        rcases g2 z0 hz0 with g | g
                        · left
                          simp only [Function.comp, covers, Bool.and_eq_false_iff, decide_eq_false_iff_not]
                          omega
                        · right
                          have hz1 := hxt z0 (by rw [hhs, g1]; exact List.mem_append_left _ hz0)
                          exact ⟨hz1.1, M.2.2.1 z0.2.1, hts _ hz1.2.1, hfx.2.2.2 _ g⟩
                      · simp only [covers, Bool.and_eq_true, decide_eq_true_eq]
                        exact g3
                      · have hrk : z_rok .ireturn (P.2.2.2.2.1 y) (.int w.2.2) = true := by rw [n4]; rfl
                        have kend : ∀ (ls2 : Array Slot), W p l e R s m args below meth c t.heap locs1 (cs + dc) (ss + ds) Q (F0 m (w.1.2.2.1 + len) ls2 []) := fun ls2 => by
                          refine lv_iconst hx hb n6 rfl ?_
                          rw [n7]
                          exact K1 _ .ireturn (some (.int w.2.2)) ls2 t.heap locs1 ad2 n8 rfl hrk (hx1.tr hext hn0) hw2 (hF hF') hv2 (Nat.le_trans hn0 hle) (fun w' hw' => by cases hw'; trivial)
                        rcases n5 with ⟨kk, n5, n9, rfl⟩ | ⟨kk, n5, n9, rfl⟩
                        · exact lv_astore_n hx hb n5 rfl hl n9 rfl (fun ls2 _ => kend ls2)
                        · exact lv_astore hx hb n5 hl n9 rfl (fun ls2 _ => kend ls2)
                    · cases er
          · cases er
end
