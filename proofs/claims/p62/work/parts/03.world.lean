/-! THE PURE MACHINE, II: its heap is a list of (tag, values); tag < 50: an object of that class of cl; 50 and more: an object of scl that nobody writes; 100 + t: an array of the type tf[t]. References from 1000000 on are cells of S, that nobody writes. -/
abbrev zC : Type := Nat × List Value
abbrev zH : Type := List zC
def z_vk (n : Nat) (v : Value) : Prop := match v with
  | .ref k => k < n ∨ 1000000 ≤ k
  | _ => True
def z_hv (h : zH) : Prop := ∀ c ∈ h, ∀ v ∈ c.2, z_vk h.length v
def z_ext (ad ad2 : Nat → Option Nat) (n : Nat) : Prop := ∀ k : Nat, (k < n ∨ 1000000 ≤ k) → ad2 k = ad k
theorem z_ext.rf {ad : Nat → Option Nat} {n : Nat} : z_ext ad ad n := fun _ _ => rfl
theorem z_ext.tr {a b c : Nat → Option Nat} {n k : Nat} (h1 : z_ext a b n) (h2 : z_ext b c k) (hn : n ≤ k) : z_ext a c n := fun q hq => (h2 q (hq.imp (fun z => Nat.lt_of_lt_of_le z hn) id)).trans (h1 q hq)
theorem z_ext.le {a b : Nat → Option Nat} {n k : Nat} (h : z_ext a b n) (hk : k ≤ n) : z_ext a b k := fun q hq => h q (hq.imp (fun z => Nat.lt_of_lt_of_le z hk) id)
theorem z_vk.le {n k : Nat} {v : Value} (h : z_vk n v) (hk : n ≤ k) : z_vk k v := by
  cases v with
  | ref a => exact h.imp (fun z => Nat.lt_of_lt_of_le z hk) id
  | _ => trivial
theorem z_cv_ext {ad ad2 : Nat → Option Nat} {n : Nat} {v : Value} (h : z_ext ad ad2 n) (hv : z_vk n v) : z_cv ad2 v = z_cv ad v := by
  cases v with
  | ref k => exact congrArg va_rf (h k hv)
  | _ => rfl
theorem z_lvm_ext {ad ad2 : Nat → Option Nat} {n : Nat} {lv : List (Nat × Value)} (h : z_ext ad ad2 n) (hv : ∀ q ∈ lv, z_vk n q.2) : z_lvm ad2 lv = z_lvm ad lv :=
  List.map_congr_left fun q hq => by rw [z_cv_ext h (hv q hq)]
theorem z_map_ext {ad ad2 : Nat → Option Nat} {n : Nat} {st : List Value} (h : z_ext ad ad2 n) (hv : ∀ v ∈ st, z_vk n v) : st.map (z_cv ad2) = st.map (z_cv ad) :=
  List.map_congr_left fun v hq => z_cv_ext h (hv v hq)
def z_rI (vs : List Value) (x : vp_A) : Prop := ∃ l : List Int32, vs = l.map Value.int ∧ x = (l.length, .inl (fun j => l.getD j 0))
/-- an array's contents -/
def z_ra (ad : Nat → Option Nat) (ty : FieldType) (vs : List Value) (x : vp_A) : Prop := match ty with
  | .int => z_rI vs x
  | .byte => z_rI vs x
  | .char => z_rI vs x
  | .long => ∃ l : List Int64, vs = l.map Value.long ∧ x = (l.length, .inr (.inl (fun j => l.getD j 0)))
  | .object _ => ∃ l : List (Option Nat), vs = l.map va_rf ∧ x = (l.length, .inr (.inr (.inr (.inr (fun j => (l.getD j none).bind ad)))))
  | _ => False
def z_re (tys : List (ClassId × FieldType)) (ad : Nat → Option Nat) (c : zC) (e : va_E) : Prop :=
  (c.1 < 50 ∧ e = .inr (c.1, c.2.map (z_cv ad))) ∨ (100 ≤ c.1 ∧ ∃ (cA : ClassId) (ty : FieldType) (x : vp_A), tys[c.1 - 100]? = some (cA, ty) ∧ e = .inl (cA, x) ∧ z_ra ad ty c.2 x)
def z_rp (tys : List (ClassId × FieldType)) (ad : Nat → Option Nat) (h : zH) (ws : va_W) : Prop := ws.length = h.length ∧ ∀ (k : Nat) (c : zC), h[k]? = some c → ∃ (q : Nat) (e : va_E), ad k = some q ∧ ws[k]? = some (q, e) ∧ z_re tys ad c e
def z_wd (D : va_G) (cl : List vw_C) (tys : List (ClassId × FieldType)) (A : Nat → Prop) (ad : Nat → Option Nat) (h : zH) (H : Heap) : Prop := ∃ ws : va_W, va_P D cl ws H ∧ va_D A ws ∧ z_rp tys ad h ws
theorem z_bind_ext {ad ad2 : Nat → Option Nat} {n : Nat} (h : z_ext ad ad2 n) {l : List (Option Nat)} (hv : ∀ v ∈ l.map va_rf, z_vk n v) : (fun j => (l.getD j none).bind ad2) = (fun j => (l.getD j none).bind ad) := by
  funext j
  cases e : l[j]? with
  | none => simp [List.getD_eq_getElem?_getD, e]
  | some o =>
    cases o with
    | none => simp [List.getD_eq_getElem?_getD, e]
    | some k =>
      have h1 : z_vk n (va_rf (some k)) := hv _ (List.mem_map.mpr ⟨some k, List.mem_of_getElem? e, rfl⟩)
      simp only [List.getD_eq_getElem?_getD, e, Option.getD_some, Option.bind_some]
      exact h k h1
theorem z_ra_ext {ad ad2 : Nat → Option Nat} {n : Nat} {ty : FieldType} {vs : List Value} {x : vp_A} (h : z_ext ad ad2 n) (hv : ∀ v ∈ vs, z_vk n v) (hr : z_ra ad ty vs x) : z_ra ad2 ty vs x := by
  cases ty with
  | object C =>
    obtain ⟨l, h1, h2⟩ := hr
    refine ⟨l, h1, ?_⟩
    rw [h2, z_bind_ext h (by rw [← h1]; exact hv)]
  | _ => exact hr
theorem z_re_ext {tys : List (ClassId × FieldType)} {ad ad2 : Nat → Option Nat} {n : Nat} {c : zC} {e : va_E} (h : z_ext ad ad2 n) (hv : ∀ v ∈ c.2, z_vk n v) (hr : z_re tys ad c e) : z_re tys ad2 c e := by
  rcases hr with ⟨h1, h2⟩ | ⟨h1, cA, ty, x, h2, h3, h4⟩
  · exact Or.inl ⟨h1, by rw [h2, z_map_ext h hv]⟩
  · exact Or.inr ⟨h1, cA, ty, x, h2, h3, z_ra_ext h hv h4⟩
theorem z_rp_set {tys : List (ClassId × FieldType)} {ad : Nat → Option Nat} {h : zH} {ws : va_W} {k q : Nat} {c : zC} {e : va_E} (hr : z_rp tys ad h ws) (hk : k < h.length) (hq : ad k = some q) (he : z_re tys ad c e) : z_rp tys ad (h.set k c) (ws.set k (q, e)) := by
  refine ⟨by simp [hr.1], fun j d hj => ?_⟩
  rw [List.getElem?_set] at hj
  rw [List.getElem?_set]
  by_cases hjk : k = j
  · subst hjk
    rw [if_pos rfl, if_pos hk] at hj
    rw [if_pos rfl, if_pos (by rw [hr.1]; exact hk)]
    cases hj
    exact ⟨q, e, hq, rfl, he⟩
  · rw [if_neg hjk] at hj
    rw [if_neg hjk]
    exact hr.2 j d hj
def z_ad1 (ad : Nat → Option Nat) (n q : Nat) : Nat → Option Nat := fun k => if k = n then some q else ad k
theorem z_ad1_ext {ad : Nat → Option Nat} {n q : Nat} (hn : n < 1000000) : z_ext ad (z_ad1 ad n q) n := fun k hk => if_neg (by omega)
theorem z_rp_push {tys : List (ClassId × FieldType)} {ad : Nat → Option Nat} {h : zH} {ws : va_W} {q : Nat} {c : zC} {e : va_E} (hr : z_rp tys ad h ws) (hn : h.length < 1000000) (hv : z_hv h) (he : z_re tys (z_ad1 ad h.length q) c e) : z_rp tys (z_ad1 ad h.length q) (h ++ [c]) (ws ++ [(q, e)]) := by
  refine ⟨by simp [hr.1], fun j d hj => ?_⟩
  rcases Nat.lt_trichotomy j h.length with hl | hl | hl
  · rw [List.getElem?_append_left hl] at hj
    rw [List.getElem?_append_left (by rw [hr.1]; exact hl)]
    obtain ⟨q', e', h1, h2, h3⟩ := hr.2 j d hj
    exact ⟨q', e', ((z_ad1_ext hn) j (Or.inl hl)).trans h1, h2, z_re_ext (z_ad1_ext hn) (hv d (List.mem_of_getElem? hj)) h3⟩
  · subst hl
    rw [List.getElem?_append_right (Nat.le_refl _)] at hj
    rw [List.getElem?_append_right (by rw [hr.1]; exact Nat.le_refl _)]
    simp only [Nat.sub_self] at hj
    rw [hr.1, Nat.sub_self]
    cases hj
    exact ⟨q, e, if_pos rfl, rfl, he⟩
  · rw [List.getElem?_eq_none (by simp; omega)] at hj
    cases hj
theorem z_hv_set {h : zH} {k t : Nat} {vs : List Value} (hv : z_hv h) (hx : ∀ v ∈ vs, z_vk h.length v) : z_hv (h.set k (t, vs)) := by
  intro c hc v hvv
  rw [List.length_set]
  rcases List.mem_or_eq_of_mem_set hc with h1 | rfl
  · exact hv c h1 v hvv
  · exact hx v hvv
theorem z_hv_push {h : zH} {c : zC} (hv : z_hv h) (hx : ∀ v ∈ c.2, z_vk h.length v) : z_hv (h ++ [c]) := by
  intro d hd v hvv
  rw [List.length_append]
  rcases List.mem_append.mp hd with h1 | h1
  · exact (hv d h1 v hvv).le (by simp)
  · rw [List.mem_singleton.mp h1] at hvv
    exact (hx v hvv).le (by simp)
theorem z_hv_at {h : zH} {k t : Nat} {vs : List Value} (hv : z_hv h) (hk : h[k]? = some (t, vs)) : ∀ v ∈ vs, z_vk h.length v := hv _ (List.mem_of_getElem? hk)
theorem z_sameA {s : State} {cA cB : ClassId} {ty : FieldType} (h1 : va_RA s cA ty) (h2 : va_RA s cB ty) : cA = cB := by
  cases ty with
  | object C =>
    obtain ⟨_, _, -, -, -, e1⟩ := h1
    obtain ⟨_, _, -, -, -, e2⟩ := h2
    exact Option.some.inj (e1.symm.trans e2)
  | _ => exact Option.some.inj (Eq.trans (Eq.symm (show s.vm.findClass _ = some cA from h1)) (show s.vm.findClass _ = some cB from h2))
/-- an int array's row behind a store -/
theorem z_updI {l : List Int32} {i : Nat} {x : Int32} (hi : i < l.length) : upd (fun j => l.getD j 0) i x = fun j => (l.set i x).getD j 0 := by
  funext j
  unfold upd
  by_cases hj : j = i
  · subst hj
    rw [if_pos rfl]
    simp [List.getD_eq_getElem?_getD, List.getElem?_set, hi]
  · rw [if_neg hj]
    have : ¬ i = j := fun q => hj q.symm
    simp [List.getD_eq_getElem?_getD, List.getElem?_set, this]
theorem z_updL {l : List Int64} {i : Nat} {x : Int64} (hi : i < l.length) : vp_updL (fun j => l.getD j 0) i x = fun j => (l.set i x).getD j 0 := by
  funext j
  unfold vp_updL
  by_cases hj : j = i
  · subst hj
    rw [if_pos rfl]
    simp [List.getD_eq_getElem?_getD, List.getElem?_set, hi]
  · rw [if_neg hj]
    have : ¬ i = j := fun q => hj q.symm
    simp [List.getD_eq_getElem?_getD, List.getElem?_set, this]
theorem z_updQ {ad : Nat → Option Nat} {l : List (Option Nat)} {i : Nat} {x : Option Nat} (hi : i < l.length) : va_up (fun j => (l.getD j none).bind ad) i (x.bind ad) = fun j => ((l.set i x).getD j none).bind ad := by
  funext j
  unfold va_up
  by_cases hj : j = i
  · subst hj
    rw [if_pos rfl]
    simp [List.getD_eq_getElem?_getD, List.getElem?_set, hi]
  · rw [if_neg hj]
    have : ¬ i = j := fun q => hj q.symm
    simp [List.getD_eq_getElem?_getD, List.getElem?_set, this]
/-- what a list of ints holds at a place -/
theorem z_getI {l : List Int32} {i : Nat} {v : Value} (h : (l.map Value.int)[i]? = some v) : i < l.length ∧ v = .int (l.getD i 0) := by
  rw [List.getElem?_map] at h
  cases e : l[i]? with
  | none => rw [e] at h; cases h
  | some x => rw [e] at h; cases h; exact ⟨(List.getElem?_eq_some_iff.mp e).1, by simp [List.getD_eq_getElem?_getD, e]⟩
theorem z_getL {l : List Int64} {i : Nat} {v : Value} (h : (l.map Value.long)[i]? = some v) : i < l.length ∧ v = .long (l.getD i 0) := by
  rw [List.getElem?_map] at h
  cases e : l[i]? with
  | none => rw [e] at h; cases h
  | some x => rw [e] at h; cases h; exact ⟨(List.getElem?_eq_some_iff.mp e).1, by simp [List.getD_eq_getElem?_getD, e]⟩
theorem z_getQ {ad : Nat → Option Nat} {l : List (Option Nat)} {i : Nat} {v : Value} (h : (l.map va_rf)[i]? = some v) : i < l.length ∧ z_cv ad v = va_rf ((l.getD i none).bind ad) := by
  rw [List.getElem?_map] at h
  cases e : l[i]? with
  | none => rw [e] at h; cases h
  | some x =>
    rw [e] at h; cases h
    refine ⟨(List.getElem?_eq_some_iff.mp e).1, ?_⟩
    cases x <;> simp [List.getD_eq_getElem?_getD, e, va_rf, z_cv]
theorem z_in {i : Int32} {n : Nat} (h0 : ¬ i < 0) (h : i.toNatClampNeg < n) : vp_in i n := by
  unfold vp_in
  intro q
  rcases q with q | q
  · exact h0 q
  · omega
