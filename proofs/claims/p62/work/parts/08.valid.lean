/-! THE PURE MACHINE, VII: references stay valid; what nobody changes holds for every later state; the frame of a method. -/
theorem z_c {n : Nat} {v : Value} {r : List Value} (h1 : z_vk n v) (h2 : ∀ u ∈ r, z_vk n u) : ∀ u ∈ v :: r, z_vk n u := fun u hu => by
  rcases List.mem_cons.mp hu with rfl | hu
  · exact h1
  · exact h2 u hu
theorem z_t {n : Nat} {v : Value} {r : List Value} (h : ∀ u ∈ v :: r, z_vk n u) : ∀ u ∈ r, z_vk n u := fun u hu => h u (List.mem_cons_of_mem _ hu)
theorem z_hd {n : Nat} {v : Value} {r : List Value} (h : ∀ u ∈ v :: r, z_vk n u) : z_vk n v := h v List.mem_cons_self
set_option maxHeartbeats 4000000 in
theorem z_loc_v {i : Instr} {pc a nL pc2 n : Nat} {lv lv2 : List (Nat × Value)} {st st2 : List Value} (h : z_loc i pc a nL lv st = some (pc2, lv2, st2)) (hl : ∀ q ∈ lv, z_vk n q.2) (hs : ∀ v ∈ st, z_vk n v) : (∀ q ∈ lv2, z_vk n q.2) ∧ ∀ v ∈ st2, z_vk n v := by
  cases i <;> simp only [z_loc] at h <;> (repeat' split at h) <;> first
    | (exfalso; cases h; done)
    | (cases h; first
      | exact ⟨hl, hs⟩
      | exact ⟨hl, z_c trivial hs⟩
      | exact ⟨hl, z_t hs⟩
      | exact ⟨hl, z_t (z_t hs)⟩
      | exact ⟨hl, z_c trivial (z_t hs)⟩
      | exact ⟨hl, z_c trivial (z_t (z_t hs))⟩
      | exact ⟨hl, z_c (hl _ (z_get_in (by assumption))) hs⟩
      | exact ⟨z_st1_in trivial hl, hs⟩
      | exact ⟨z_st1_in (z_hd hs) hl, z_t hs⟩
      | exact ⟨z_st2_in (z_hd hs) hl, z_t hs⟩
      | exact ⟨hl, z_c (z_hd hs) hs⟩
      | exact ⟨hl, z_c (z_hd hs) (z_c (z_hd (z_t hs)) hs)⟩)
/-- the words that hold at every later state, though they are not of the good ones -/
def z_nwk (w : Cond) : Prop := match w with
  | .methodLinkNest _ _ _ _ => True
  | .arrayOver (.object _) => True
  | .castable _ _ => True
  | .declares _ => True
  | _ => False
theorem z_nw_moved {w : Cond} (hk : z_nwk w) {u U : State} (hW : u.WarmedH U.vm) (h : va_Nw w u) : va_Nw w U := by
  unfold z_nwk at hk
  split at hk
  · exact va_Nw.warmM hW h
  · exact va_AO.moved hW.alike h
  · exact va_Nw.warmC hW h
  · rename_i x
    have h1 : (Cond.declares x).before #[] (u.setVm U.vm) = true := Cond.before_shiftedFace (State.Shifted.of_warmed hW) _ rfl h
    exact va_tabs (c := Cond.declares x) rfl (u := u.setVm U.vm) (U := U) rfl h1
  · exact hk.elim
theorem z_stat_moved {scl : List vw_C} {tf : List FieldType} {S : List zC} {sf : List zF} {ss : List zS} {nw : List Cond} {A : Nat → Prop} {ad : Nat → Option Nat} {u U : State} (hnw : ∀ w ∈ nw, z_nwk w) (hW : u.WarmedH U.vm) (hq : ∀ a : Nat, a < u.heap.size → ¬ A a → U.heap[a]? = u.heap[a]?) (h : z_stat scl tf S sf ss nw A ad u) : z_stat scl tf S sf ss nw A ad U := by
  obtain ⟨h1, h2, h3, h4, h5, h6⟩ := h
  refine ⟨fun j c e => ?_, fun j q e => ?_, fun j q e => ?_, h4, ⟨vx_Zq.moved hW.alike (vx_Zq.kept h5.1 hq), vx_Zq.moved hW.alike (vx_Zq.kept h5.2 hq)⟩, fun w hw => z_nw_moved (hnw w hw) hW (h6 w hw)⟩
  · obtain ⟨g1, t, g2, g3⟩ := h1 j c e
    refine ⟨g1, t, g2, ?_⟩
    rcases g3 with ⟨g4, ty, g5, g6⟩ | ⟨g4, r, g5, g6, g7, g8⟩
    · exact Or.inl ⟨g4, ty, g5, va_T.moved hW.alike (va_T.kept g6 hq)⟩
    · exact Or.inr ⟨g4, r, g5, g6, va_O.moved hW.alike (va_O.kept g7 hq), fun k v hv => va_OF.moved hW.alike (va_OF.kept (g8 k v hv) hq)⟩
  · obtain ⟨g1, g2⟩ := h2 j q e
    exact ⟨g1, va_Z.moved hW.alike (va_Z.kept g2 hq)⟩
  · obtain ⟨g1, t, g2, g3⟩ := h3 j q e
    exact ⟨g1, t, g2, vk_R.warm hW g3⟩
/-- the names behind the numbers: methods, their bytes, exceptions; the words; classes of objects, of objects that nobody writes; the arrays' types -/
abbrev zM : Type := (Nat → MethodName) × (Nat → ByteArray) × (Nat → String) × List Cond × List Cond × List vw_C × List vw_C × List FieldType
def z_head (P : zP) (M : zM) (y : Nat) : Cond := match P.2.2.1 y with
  | [] => .code (M.1 y) (M.2.1 y) (P.2.1 y) (P.2.2.2.2.1 y)
  | x :: l => .codeWith (M.1 y) (M.2.1 y) (P.2.1 y) (P.2.2.2.2.1 y) ((x :: l).map (·.1))
/-- what holds at every state of a run -/
def z_fx (T : zT) (P : zP) (M : zM) (D : va_G) (tys : List (ClassId × FieldType)) (A : Nat → Prop) (ad0 : Nat → Option Nat) (s : State) : Prop :=
  (∀ q : Nat, s.heap.size ≤ q → A q) ∧ va_K D M.2.2.2.2.2.1 tys s ∧ z_stat M.2.2.2.2.2.2.1 M.2.2.2.2.2.2.2 T.1 T.2.1 T.2.2.1 M.2.2.2.2.1 A ad0 s ∧ ∀ q ∈ P.2.2.2.2.2, va_Nc (M.2.2.1 q.1) (M.2.2.1 q.2) s
theorem z_fx_moved {T : zT} {P : zP} {M : zM} {D : va_G} {tys : List (ClassId × FieldType)} {A : Nat → Prop} {ad0 : Nat → Option Nat} {u U : State} (hnw : ∀ w ∈ M.2.2.2.2.1, z_nwk w) (hW : u.WarmedH U.vm) (hz : u.heap.size ≤ U.heap.size) (hq : ∀ a : Nat, a < u.heap.size → ¬ A a → U.heap[a]? = u.heap[a]?) (h : z_fx T P M D tys A ad0 u) : z_fx T P M D tys A ad0 U :=
  ⟨fun q hq' => h.1 q (Nat.le_trans hz hq'), va_K.moved hW.alike h.2.1, z_stat_moved hnw hW hq h.2.2.1, fun q hq' => va_Nc.moved hW.alike (h.2.2.2 q hq')⟩
def z_Q (M : zM) (D : va_G) (tys : List (ClassId × FieldType)) (A : Nat → Prop) (ad : Nat → Option Nat) (n0 : Nat) (o : Option Value ⊕ Nat) (h2 : zH) : Array Value → State → Outcome → State → Prop := fun _ st oc t =>
  (∃ (v : Option Value) (ad2 : Nat → Option Nat), o = .inl v ∧ oc = .returned (v.map (z_cv ad2)) ∧ z_ext ad ad2 n0 ∧ z_wd D M.2.2.2.2.2.1 tys A ad2 h2 t.heap ∧ z_hv h2 ∧ n0 ≤ h2.length ∧ ∀ w : Value, v = some w → z_vk h2.length w) ∧ va_F A st t
def z_X (M : zM) (D : va_G) (tys : List (ClassId × FieldType)) (A : Nat → Prop) (ad : Nat → Option Nat) (n0 : Nat) (o : Option Value ⊕ Nat) (h2 : zH) : String → State → State → Prop := fun E st t =>
  ∃ (e : Nat) (ad2 : Nat → Option Nat), o = .inr e ∧ E = M.2.2.1 e ∧ z_ext ad ad2 n0 ∧ z_wd D M.2.2.2.2.2.1 tys A ad2 h2 t.heap ∧ z_hv h2 ∧ n0 ≤ h2.length ∧ va_F A st t
def z_rm (d mc ms : Nat) : Room := { frames := d + 1, cells := mc, slots := ms, locals := 35 * d + 20 }
section ZA
variable {p : Program} {l : Launch} {e : Env} {R : Room} {s : State} {m : MethodId} {args : Array Value} {below : List Frame} {meth : Method} {c : Code} {H H0 : Heap} {locs : List Loc} {cells slots mc ms : Nat} {Q : State → Prop}
variable {pc : Nat} {ls : Array Slot} {st0 rest : List Value} {A : Nat → Prop}
/-- behind a call -/
theorem z_after {Qa : State → Outcome → State → Prop} {XC : String → State → State → Prop} (hr : vx_Run p l e R s m args below meth c H locs cells slots mc ms (F0 m pc ls st0) rest Qa XC A) (hS : va_S A H0 H locs)
    (kk : ∀ (v : Option Value) (st t : State) (locs1 : List Loc), st.heap = H → s.vm.Alike t.vm → Qa st (.returned v) t → (va_F A st t → va_S A H0 t.heap locs1) → W p l e R s m args below meth c t.heap locs1 (cells + mc) (slots + ms) Q (F0 m (pc + 3) ls (v.toList ++ rest)))
    (kx : ∀ (E : String) (q : Addr) (ce : Cell) (st t : State) (locs1 : List Loc), st.heap = H → s.vm.Alike t.vm → XC E st t → (va_F A st t → va_S A H0 t.heap locs1) → t.heap[q]? = some ce → ce.vm = .none → s.vm.findClass E = some ce.cls → vx_W p l e R s m args below meth c t.heap locs1 (cells + mc) (slots + ms) Q (F0 m pc ls rest) q) : W p l e R s m args below meth c H locs cells slots Q (F0 m pc ls st0) := by
  intro T hT X
  rcases hr T hT X with ⟨v, st₀, t, T', L, h0, X', hL, e1, e2, hq, st⟩ | ⟨q, st₀, t, T', L, E, ce, h0, X', hL, e1, e2, hq, hce, hcv, hcl, st⟩
  · obtain ⟨t2, a1, b1⟩ := kk v st₀ t (locs ++ L) h0 (by rw [← e2]; exact X'.warmed.alike) hq (fun hF => by
      have := (vx_keep (T' := T') h0 e1 hS (fun _ _ z => z) (fun _ z => z) hL hF).2.2
      rw [e1] at this
      exact this) T' e1 X'
    exact ⟨t2, st t2 a1, b1⟩
  · obtain ⟨t2, a1, b1⟩ := kx E q ce st₀ t (locs ++ L) h0 (by rw [← e2]; exact X'.warmed.alike) hq (fun hF => by
      have := (vx_keep (T' := T') h0 e1 hS (fun _ _ z => z) (fun _ z => z) hL hF).2.2
      rw [e1] at this
      exact this) hce hcv hcl T' e1 X'
    exact ⟨t2, st.trans a1, b1⟩
end ZA
theorem z_args_m (ad : Nat → Option Nat) : ∀ (vs : List Value) (k : Nat), lv_args k (vs.map (z_cv ad)) = z_lvm ad (lv_args k vs) := by
  intro vs
  induction vs with
  | nil => intro k; rfl
  | cons v vs ih =>
    intro k
    rw [List.map_cons, lv_args, lv_args, z_cv_cat, ih]
    rfl
theorem z_args_in : ∀ (vs : List Value) (k : Nat) (q : Nat × Value), q ∈ lv_args k vs → q.2 ∈ vs := by
  intro vs
  induction vs with
  | nil => intro k q h; cases h
  | cons v vs ih =>
    intro k q h
    rw [lv_args] at h
    rcases List.mem_cons.mp h with rfl | h
    · exact List.mem_cons_self
    · exact List.mem_cons_of_mem _ (ih _ q h)
theorem z_sl_len (vs : List Value) : (lg_sl vs).length = z_cs vs := by
  induction vs with
  | nil => rfl
  | cons v vs ih =>
    have e1 : lg_sl (v :: vs) = (if v.category = 2 then [Slot.val v, .second] else [.val v]) ++ lg_sl vs := by simp [lg_sl]
    rw [e1, List.length_append, ih]
    unfold z_cs
    rw [List.map_cons, List.sum_cons]
    rcases lv_cat v with h1 | h1 <;> simp [h1]
theorem z_cs_m (ad : Nat → Option Nat) (vs : List Value) : z_cs (vs.map (z_cv ad)) = z_cs vs := z_cs_map ad vs
theorem z_cs_rev (vs : List Value) : z_cs vs.reverse = z_cs vs := by
  unfold z_cs
  rw [List.map_reverse, List.sum_reverse]
