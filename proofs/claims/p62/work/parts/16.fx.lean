/-! THE START, put together. -/
theorem z_lt1 (j : Nat) {w : Cond} (h : tables_1_1[j]? = some w) : w ∈ lw_tbl := List.mem_append_right _ (show w ∈ tables_1 from List.mem_append_left _ (List.mem_of_getElem? h))
theorem z_lt2 (j : Nat) {w : Cond} (h : tables_1_2[j]? = some w) : w ∈ lw_tbl := List.mem_append_right _ (show w ∈ tables_1 from List.mem_append_right _ (List.mem_append_left _ (List.mem_of_getElem? h)))
theorem z_lt3 (j : Nat) {w : Cond} (h : tables_1_3[j]? = some w) : w ∈ lw_tbl := List.mem_append_right _ (show w ∈ tables_1 from List.mem_append_right _ (List.mem_append_right _ (List.mem_of_getElem? h)))
def ze_ad (aK aV aX : Nat → Nat) (b : Nat) (fmt : Option Nat) : Nat → Option Nat := fun q =>
  if q < 1000000 then none else if q < 1000004 then (if q % 2 = 0 then some (aV ((q - 1000000) / 2)) else some (aK ((q - 1000000) / 2))) else if q = 1000004 then some b else if q = 2000000 then fmt else if 3000000 ≤ q then some (aX (q - 3000000)) else none
theorem ze_getI {l : List Int32} {i : Nat} (ad : Nat → Option Nat) (h : i < l.length) : z_cv ad ((l.map Value.int).getD i .null) = .int (l.getD i 0) := by
  simp [List.getD_eq_getElem?_getD, List.getElem?_map, List.getElem?_eq_getElem h, z_cv]
theorem ze_getS {f : Nat → Nat} {n i : Nat} (ad : Nat → Option Nat) (h : i < n) (hf : ∀ k, k < n → ad (1000000 + k) = some (f k)) : z_cv ad (((List.range n).map (fun k => Value.ref (1000000 + k))).getD i .null) = .ref (f i) := by
  simp [List.getD_eq_getElem?_getD, List.getElem?_map, List.getElem?_range h, z_cv, hf i h, va_rf]
section ZEF
variable {s : State} {b L : Nat} {xs : Nat → Int32} {A : Nat → Prop}
/-- a cell that nobody writes, as z_stat has it -/
def ze_Q (ad : Nat → Option Nat) (A : Nat → Prop) (s : State) (j : Nat) (c : zC) : Prop := (∀ v ∈ c.2, z_vk 0 v) ∧ ∃ t : Nat, ad (1000000 + j) = some t ∧ ((100 ≤ c.1 ∧ ∃ ty : FieldType, za_tf[c.1 - 100]? = some ty ∧ va_T ty t c.2.length (fun i => z_cv ad (c.2.getD i .null)) A s s.heap) ∨ (c.1 < 100 ∧ ∃ r : vw_C, za_scl[c.1 - 50]? = some r ∧ 50 ≤ c.1 ∧ va_O r.1 t A s s.heap ∧ ∀ (k : Nat) (v : Value), c.2[k]? = some v → va_OF (r.2.1 k).1 (r.2.1 k).2.1 (r.2.1 k).2.2.1 (z_cv ad v) t A s s.heap))
theorem ze_Qa {ad : Nat → Option Nat} {j t a : Nat} {ty : FieldType} {l : List Int32} {vs : List Value} (hvs : vs = l.map Value.int) (h1 : ad (1000000 + j) = some t) (h2 : 100 ≤ a) (h3 : za_tf[a - 100]? = some ty) (h4 : va_T ty t l.length (fun i => .int (l.getD i 0)) A s s.heap) : ze_Q ad A s j (a, vs) := by
  subst hvs
  refine ⟨fun v hv => ?_, t, h1, Or.inl ⟨h2, ty, h3, ?_⟩⟩
  · obtain ⟨x, -, rfl⟩ := List.mem_map.mp hv
    trivial
  · dsimp only
    rw [List.length_map]
    exact ze_T_congr h4 (fun j hj => (ze_getI ad hj).symm)
theorem ze_Qs {ad : Nat → Option Nat} {j t k w : Nat} (h1 : ad (1000000 + j) = some t) (hk : ad k = some w) (hk0 : 1000000 ≤ k) (h2 : va_O "java/lang/String" t A s s.heap) (h3 : va_OF "java/lang/String" "coder" "B" (.int 0) t A s s.heap) (h4 : va_OF "java/lang/String" "value" "[B" (.ref w) t A s s.heap) : ze_Q ad A s j (50, [.ref k, .int 0]) := by
  refine ⟨fun v hv => ?_, t, h1, Or.inr ⟨Nat.le_of_ble_eq_true rfl, _, rfl, Nat.le_of_ble_eq_true rfl, h2, fun i v hv => ?_⟩⟩
  · simp only [List.mem_cons, List.not_mem_nil, or_false] at hv
    rcases hv with rfl | rfl
    · exact Or.inr hk0
    · trivial
  · match i, hv with
    | 0, hv =>
      cases hv
      have e1 : z_cv ad (.ref k) = .ref w := congrArg va_rf hk
      rw [e1]
      exact h4
    | 1, hv =>
      cases hv
      exact h3
    | (i + 2), hv => cases hv
theorem ze_sfq {C n dd : String} {A : Nat → Prop} (h : va_Zq C n dd A s s.heap) : ∃ f : Option Nat, va_Z C n dd (va_rf f) A s s.heap := by
  rcases h with h | ⟨t, h⟩
  · exact ⟨none, h⟩
  · exact ⟨some t, h⟩
end ZEF
set_option maxHeartbeats 4000000 in
theorem ze_K {s : State} {b : Nat} (hts : ∀ w ∈ lw_tbl, w.before #[Value.ref b] s = true) : ∃ (D : va_G) (tys : List (ClassId × FieldType)), va_K D za_cl tys s ∧ (∀ (t : Nat) (x : ClassId × FieldType), tys[t]? = some x → za_tf[t]? = some x.2) ∧ (∀ t : Nat, t < 6 → ∀ ty : FieldType, za_tf[t]? = some ty → ∃ x : ClassId, tys[t]? = some (x, ty)) := by
  obtain ⟨c0, i0, k0⟩ := u_known (C := "LyndonBench") (T := za_T0) (N := 7) (n := 7) hts (fun w hw => (List.mem_filter.mp ((zj_0 []).1 w hw)).1) (hts (Jvm.Cond.instantiable "LyndonBench" (7 : Nat)) (z_lt1 19 rfl))
  obtain ⟨c1, i1, k1⟩ := u_known (C := "LyndonBench$History") (T := za_T1) (N := 2) (n := 2) hts (fun w hw => (List.mem_filter.mp ((zj_1 []).1 w hw)).1) (hts (Jvm.Cond.instantiable "LyndonBench$History" (2 : Nat)) (z_lt1 69 rfl))
  obtain ⟨c2, i2, k2⟩ := u_known (C := "LyndonBench$Script") (T := za_T2) (N := 12) (n := 12) hts (fun w hw => (List.mem_filter.mp ((zj_2 []).1 w hw)).1) (hts (Jvm.Cond.instantiable "LyndonBench$Script" (12 : Nat)) (z_lt1 86 rfl))
  obtain ⟨c3, i3, k3⟩ := u_known (C := "LyndonBench$State") (T := za_T3) (N := 4) (n := 4) hts (fun w hw => (List.mem_filter.mp ((zj_3 []).1 w hw)).1) (hts (Jvm.Cond.instantiable "LyndonBench$State" (4 : Nat)) (z_lt1 27 rfl))
  obtain ⟨c4, i4, k4⟩ := u_known (C := "LyndonBench$Word") (T := za_T4) (N := 2) (n := 2) hts (fun w hw => (List.mem_filter.mp ((zj_4 []).1 w hw)).1) (hts (Jvm.Cond.instantiable "LyndonBench$Word" (2 : Nat)) (z_lt1 33 rfl))
  obtain ⟨a0, g0, m0, f0a, f0b, f0c⟩ := Cond.arrayClass_spec (args := #[Value.ref b]) (first := s) (o := none) (s := s) (idx := []) (hts (Jvm.Cond.arrayClass Jvm.ClassFile.FieldType.int) (z_lt1 132 rfl))
  obtain ⟨a1, g1, m1, f1a, f1b, f1c⟩ := Cond.arrayClass_spec (args := #[Value.ref b]) (first := s) (o := none) (s := s) (idx := []) (hts (Jvm.Cond.arrayClass Jvm.ClassFile.FieldType.byte) (z_lt1 50 rfl))
  obtain ⟨m2, a2, g2, f2d, -, f2b, f2c, f2a⟩ := Cond.arrayOver_spec (args := #[Value.ref b]) (first := s) (o := none) (s := s) (idx := []) (hts (Jvm.Cond.arrayOver (Jvm.ClassFile.FieldType.object "LyndonBench$Word")) (z_lt1 51 rfl))
  obtain ⟨m3, a3, g3, f3d, -, f3b, f3c, f3a⟩ := Cond.arrayOver_spec (args := #[Value.ref b]) (first := s) (o := none) (s := s) (idx := []) (hts (Jvm.Cond.arrayOver (Jvm.ClassFile.FieldType.object "LyndonBench$State")) (z_lt1 75 rfl))
  refine ⟨(fun k => z_nth [c0, c1, c2, c3, c4] k c0, fun k => z_nth [i0, i1, i2, i3, i4] k i0), [(a0, .int), (a1, .byte), (a2, .object "LyndonBench$Word"), (a3, .object "LyndonBench$State"), (a2, .object "LyndonBench$Word"), (a3, .object "LyndonBench$State")], ⟨z_l9 (Q := fun (c : Nat) (q : vw_C) => u_Kn s q.1 q.2.1 q.2.2 (z_nth [c0, c1, c2, c3, c4] c c0) (z_nth [i0, i1, i2, i3, i4] c i0)) ?_, z_l9 (Q := fun (_ : Nat) (q : ClassId × FieldType) => ArrOfT s q.1 q.2 ∧ va_RA s q.1 q.2) ?_⟩, z_l9 (Q := fun (t : Nat) (x : ClassId × FieldType) => za_tf[t]? = some x.2) ?_, ?_⟩
  · exact z_l1 (k := 0) (Q := fun (c : Nat) (q : vw_C) => u_Kn s q.1 q.2.1 q.2.2 (z_nth [c0, c1, c2, c3, c4] c c0) (z_nth [i0, i1, i2, i3, i4] c i0)) k0 <| z_l1 (k := 1) (Q := fun (c : Nat) (q : vw_C) => u_Kn s q.1 q.2.1 q.2.2 (z_nth [c0, c1, c2, c3, c4] c c0) (z_nth [i0, i1, i2, i3, i4] c i0)) k1 <| z_l1 (k := 2) (Q := fun (c : Nat) (q : vw_C) => u_Kn s q.1 q.2.1 q.2.2 (z_nth [c0, c1, c2, c3, c4] c c0) (z_nth [i0, i1, i2, i3, i4] c i0)) k2 <| z_l1 (k := 3) (Q := fun (c : Nat) (q : vw_C) => u_Kn s q.1 q.2.1 q.2.2 (z_nth [c0, c1, c2, c3, c4] c c0) (z_nth [i0, i1, i2, i3, i4] c i0)) k3 <| z_l1 (k := 4) (Q := fun (c : Nat) (q : vw_C) => u_Kn s q.1 q.2.1 q.2.2 (z_nth [c0, c1, c2, c3, c4] c c0) (z_nth [i0, i1, i2, i3, i4] c i0)) k4 <| z_l0
  · exact z_l1 (k := 0) (Q := fun (_ : Nat) (q : ClassId × FieldType) => ArrOfT s q.1 q.2 ∧ va_RA s q.1 q.2) ⟨fun n z => ⟨fun k h => (by cases h), g0, f0b, m0, f0c⟩, f0a⟩ <| z_l1 (k := 1) (Q := fun (_ : Nat) (q : ClassId × FieldType) => ArrOfT s q.1 q.2 ∧ va_RA s q.1 q.2) ⟨fun n z => ⟨fun k h => (by cases h), g1, f1b, m1, f1c⟩, f1a⟩ <| z_l1 (k := 2) (Q := fun (_ : Nat) (q : ClassId × FieldType) => ArrOfT s q.1 q.2 ∧ va_RA s q.1 q.2) ⟨fun n z => ⟨fun k h => (by cases h), g2, f2b, m2, f2c⟩, ⟨g2, m2, f2b, f2c, f2d, f2a⟩⟩ <| z_l1 (k := 3) (Q := fun (_ : Nat) (q : ClassId × FieldType) => ArrOfT s q.1 q.2 ∧ va_RA s q.1 q.2) ⟨fun n z => ⟨fun k h => (by cases h), g3, f3b, m3, f3c⟩, ⟨g3, m3, f3b, f3c, f3d, f3a⟩⟩ <| z_l1 (k := 4) (Q := fun (_ : Nat) (q : ClassId × FieldType) => ArrOfT s q.1 q.2 ∧ va_RA s q.1 q.2) ⟨fun n z => ⟨fun k h => (by cases h), g2, f2b, m2, f2c⟩, ⟨g2, m2, f2b, f2c, f2d, f2a⟩⟩ <| z_l1 (k := 5) (Q := fun (_ : Nat) (q : ClassId × FieldType) => ArrOfT s q.1 q.2 ∧ va_RA s q.1 q.2) ⟨fun n z => ⟨fun k h => (by cases h), g3, f3b, m3, f3c⟩, ⟨g3, m3, f3b, f3c, f3d, f3a⟩⟩ <| z_l0
  · exact z_l1 (k := 0) (Q := fun (t : Nat) (x : ClassId × FieldType) => za_tf[t]? = some x.2) rfl <| z_l1 (k := 1) (Q := fun (t : Nat) (x : ClassId × FieldType) => za_tf[t]? = some x.2) rfl <| z_l1 (k := 2) (Q := fun (t : Nat) (x : ClassId × FieldType) => za_tf[t]? = some x.2) rfl <| z_l1 (k := 3) (Q := fun (t : Nat) (x : ClassId × FieldType) => za_tf[t]? = some x.2) rfl <| z_l1 (k := 4) (Q := fun (t : Nat) (x : ClassId × FieldType) => za_tf[t]? = some x.2) rfl <| z_l1 (k := 5) (Q := fun (t : Nat) (x : ClassId × FieldType) => za_tf[t]? = some x.2) rfl <| z_l0
  · intro t ht ty e
    have h8 : t = 0 ∨ t = 1 ∨ t = 2 ∨ t = 3 ∨ t = 4 ∨ t = 5 := by omega
    rcases h8 with rfl | rfl | rfl | rfl | rfl | rfl <;> (cases e; exact ⟨_, rfl⟩)
set_option maxHeartbeats 8000000 in
set_option maxRecDepth 20000 in
theorem ze_st {s : State} {b L : Nat} {xs : Nat → Int32} (hts : ∀ w ∈ lw_tbl, w.before #[Value.ref b] s = true) (hX : va_X b L xs s s.heap) (hLs : L < 2 ^ 31) (hbl : b < s.heap.size) (hgv : (Jvm.Cond.and given_1 narrow_1).before #[Value.ref b] s = true) : ∃ ad0 : Nat → Option Nat, ad0 1000004 = some b ∧ z_stat za_scl za_tf (za_T ((List.range L).map xs)).1 za_sf za_ss za_nw (fun q => s.heap.size ≤ q) ad0 s := by
  have hA : ∀ a : Nat, a < s.heap.size → ¬ (s.heap.size ≤ a) := fun a h => Nat.not_le.mpr h
  obtain ⟨aK, aV, hS⟩ := ze_strs (A := fun q => s.heap.size ≤ q) hgv hA
  obtain ⟨aX, hXs⟩ := ze_thrs hgv
  have u6 := ze_k6 hgv
  have u7 := u6 _ List.mem_cons_self
  have u8 := u6 _ (List.mem_cons_of_mem _ List.mem_cons_self)
  have u9 := u6 _ (List.mem_cons_of_mem _ (List.mem_cons_of_mem _ List.mem_cons_self))
  have u10 := u6 _ (List.mem_cons_of_mem _ (List.mem_cons_of_mem _ (List.mem_cons_of_mem _ List.mem_cons_self)))
  obtain ⟨fmt, hfmt⟩ := ze_sfq (va_Zqof (A := fun q => s.heap.size ≤ q) (hts (Jvm.Cond.laysStatic "jdk/internal/util/Preconditions" "SIOOBE_FORMATTER" "Ljava/util/function/BiFunction;") (z_lt1 173 rfl)) (hts (Jvm.Cond.initialized "jdk/internal/util/Preconditions") (z_lt1 9 rfl)) u8 hA)
  have s0 := hS 0 _ rfl
  have s1 := hS 1 _ rfl
  refine ⟨ze_ad aK aV aX b fmt, rfl, ?_, ?_, ?_, ?_, ⟨?_, ?_⟩, ?_⟩
  · exact z_l9 (Q := ze_Q (ze_ad aK aV aX b fmt) (fun q => s.heap.size ≤ q) s) <|
      z_l1 (k := 0) (Q := ze_Q (ze_ad aK aV aX b fmt) (fun q => s.heap.size ≤ q) s) (ze_Qa rfl rfl (Nat.le_of_ble_eq_true rfl) rfl s0.2.2.2.2) <|
      z_l1 (k := 1) (Q := ze_Q (ze_ad aK aV aX b fmt) (fun q => s.heap.size ≤ q) s) (ze_Qs rfl rfl (Nat.le_of_ble_eq_true rfl) s0.2.1 s0.2.2.1 s0.2.2.2.1) <|
      z_l1 (k := 2) (Q := ze_Q (ze_ad aK aV aX b fmt) (fun q => s.heap.size ≤ q) s) (ze_Qa rfl rfl (Nat.le_of_ble_eq_true rfl) rfl s1.2.2.2.2) <|
      z_l1 (k := 3) (Q := ze_Q (ze_ad aK aV aX b fmt) (fun q => s.heap.size ≤ q) s) (ze_Qs rfl rfl (Nat.le_of_ble_eq_true rfl) s1.2.1 s1.2.2.1 s1.2.2.2.1) <|
      z_l1 (k := 4) (Q := ze_Q (ze_ad aK aV aX b fmt) (fun q => s.heap.size ≤ q) s) (by
      obtain ⟨scr, x1, x2, x3, x4, x5⟩ := hX
      refine ze_Qa (l := (List.range L).map xs) rfl rfl (Nat.le_of_ble_eq_true rfl) rfl ⟨scr, x1, x2, x3, ?_, ?_, ?_, hA b hbl⟩
      · rw [List.length_map, List.length_range, x4]; exact Nat.le_refl _
      · rw [List.length_map, List.length_range, x4]
      · intro j hj
        rw [List.length_map, List.length_range] at hj
        rw [x5 j hj]
        simp [List.getD_eq_getElem?_getD, List.getElem?_map, List.getElem?_range hj]) <|
      z_l0
  · exact z_l9 (Q := fun (_ : Nat) (q : zF) => z_vk 0 q.2.2.2 ∧ va_Z q.1 q.2.1 q.2.2.1 (z_cv (ze_ad aK aV aX b fmt) q.2.2.2) (fun q => s.heap.size ≤ q) s s.heap) <|
      z_l1 (k := 0) (Q := fun (_ : Nat) (q : zF) => z_vk 0 q.2.2.2 ∧ va_Z q.1 q.2.1 q.2.2.1 (z_cv (ze_ad aK aV aX b fmt) q.2.2.2) (fun q => s.heap.size ≤ q) s s.heap) ⟨trivial, va_Zof (hts (Jvm.Cond.laysStatic "java/lang/String" "COMPACT_STRINGS" "Z") (z_lt1 157 rfl)) (hts (Jvm.Cond.initialized "java/lang/String") (z_lt1 7 rfl)) (va_eqi u7) hA⟩ <|
      z_l1 (k := 1) (Q := fun (_ : Nat) (q : zF) => z_vk 0 q.2.2.2 ∧ va_Z q.1 q.2.1 q.2.2.1 (z_cv (ze_ad aK aV aX b fmt) q.2.2.2) (fun q => s.heap.size ≤ q) s s.heap) ⟨Or.inr (Nat.le_of_ble_eq_true rfl), hfmt⟩ <|
      z_l0
  · exact z_l9 (Q := fun (_ : Nat) (q : zS) => 1000000 ≤ q.2.2.2 ∧ ∃ t : Nat, ze_ad aK aV aX b fmt q.2.2.2 = some t ∧ vk_R q.1 q.2.1 q.2.2.1 t s) <|
      z_l1 (k := 0) (Q := fun (_ : Nat) (q : zS) => 1000000 ≤ q.2.2.2 ∧ ∃ t : Nat, ze_ad aK aV aX b fmt q.2.2.2 = some t ∧ vk_R q.1 q.2.1 q.2.2.1 t s) ⟨Nat.le_of_ble_eq_true rfl, aK 0, rfl, vk_R.of (hts (Jvm.Cond.stringRef "LyndonBench" (55 : Nat) "acabaabaccabab") (z_lt1 143 rfl)) s0.1⟩ <|
      z_l1 (k := 1) (Q := fun (_ : Nat) (q : zS) => 1000000 ≤ q.2.2.2 ∧ ∃ t : Nat, ze_ad aK aV aX b fmt q.2.2.2 = some t ∧ vk_R q.1 q.2.1 q.2.2.1 t s) ⟨Nat.le_of_ble_eq_true rfl, aK 1, rfl, vk_R.of (hts (Jvm.Cond.stringRef "LyndonBench" (61 : Nat) "abacab") (z_lt1 200 rfl)) s1.1⟩ <|
      z_l1 (k := 2) (Q := fun (_ : Nat) (q : zS) => 1000000 ≤ q.2.2.2 ∧ ∃ t : Nat, ze_ad aK aV aX b fmt q.2.2.2 = some t ∧ vk_R q.1 q.2.1 q.2.2.1 t s) ⟨Nat.le_of_ble_eq_true rfl, aX 2, rfl, vk_R.of (hts (Jvm.Cond.stringRef "LyndonBench" (102 : Nat) "there are 2 to 9 letters") (z_lt3 108 rfl)) (hXs 2 _ rfl)⟩ <|
      z_l1 (k := 3) (Q := fun (_ : Nat) (q : zS) => 1000000 ≤ q.2.2.2 ∧ ∃ t : Nat, ze_ad aK aV aX b fmt q.2.2.2 = some t ∧ vk_R q.1 q.2.1 q.2.2.1 t s) ⟨Nat.le_of_ble_eq_true rfl, aX 3, rfl, vk_R.of (hts (Jvm.Cond.stringRef "LyndonBench" (110 : Nat) "a letter is still used") (z_lt3 117 rfl)) (hXs 3 _ rfl)⟩ <|
      z_l1 (k := 4) (Q := fun (_ : Nat) (q : zS) => 1000000 ≤ q.2.2.2 ∧ ∃ t : Nat, ze_ad aK aV aX b fmt q.2.2.2 = some t ∧ vk_R q.1 q.2.1 q.2.2.1 t s) ⟨Nat.le_of_ble_eq_true rfl, aX 4, rfl, vk_R.of (hts (Jvm.Cond.stringRef "LyndonBench" (123 : Nat) "a text has at most 120 letters") (z_lt2 124 rfl)) (hXs 4 _ rfl)⟩ <|
      z_l1 (k := 5) (Q := fun (_ : Nat) (q : zS) => 1000000 ≤ q.2.2.2 ∧ ∃ t : Nat, ze_ad aK aV aX b fmt q.2.2.2 = some t ∧ vk_R q.1 q.2.1 q.2.2.1 t s) ⟨Nat.le_of_ble_eq_true rfl, aX 5, rfl, vk_R.of (hts (Jvm.Cond.stringRef "LyndonBench" (154 : Nat) "the text is empty") (z_lt2 197 rfl)) (hXs 5 _ rfl)⟩ <|
      z_l1 (k := 6) (Q := fun (_ : Nat) (q : zS) => 1000000 ≤ q.2.2.2 ∧ ∃ t : Nat, ze_ad aK aV aX b fmt q.2.2.2 = some t ∧ vk_R q.1 q.2.1 q.2.2.1 t s) ⟨Nat.le_of_ble_eq_true rfl, aX 6, rfl, vk_R.of (hts (Jvm.Cond.stringRef "LyndonBench" (159 : Nat) "the greatest length is 1 to 120") (z_lt2 226 rfl)) (hXs 6 _ rfl)⟩ <|
      z_l1 (k := 7) (Q := fun (_ : Nat) (q : zS) => 1000000 ≤ q.2.2.2 ∧ ∃ t : Nat, ze_ad aK aV aX b fmt q.2.2.2 = some t ∧ vk_R q.1 q.2.1 q.2.2.1 t s) ⟨Nat.le_of_ble_eq_true rfl, aX 7, rfl, vk_R.of (hts (Jvm.Cond.stringRef "LyndonBench" (164 : Nat) "there is no next Lyndon word") (z_lt2 237 rfl)) (hXs 7 _ rfl)⟩ <|
      z_l1 (k := 8) (Q := fun (_ : Nat) (q : zS) => 1000000 ≤ q.2.2.2 ∧ ∃ t : Nat, ze_ad aK aV aX b fmt q.2.2.2 = some t ∧ vk_R q.1 q.2.1 q.2.2.1 t s) ⟨Nat.le_of_ble_eq_true rfl, aX 8, rfl, vk_R.of (hts (Jvm.Cond.stringRef "LyndonBench" (181 : Nat) "the factor can't be kept") (z_lt3 49 rfl)) (hXs 8 _ rfl)⟩ <|
      z_l1 (k := 9) (Q := fun (_ : Nat) (q : zS) => 1000000 ≤ q.2.2.2 ∧ ∃ t : Nat, ze_ad aK aV aX b fmt q.2.2.2 = some t ∧ vk_R q.1 q.2.1 q.2.2.1 t s) ⟨Nat.le_of_ble_eq_true rfl, aX 9, rfl, vk_R.of (hts (Jvm.Cond.stringRef "LyndonBench" (186 : Nat) "the text can't be kept") (z_lt3 54 rfl)) (hXs 9 _ rfl)⟩ <|
      z_l1 (k := 10) (Q := fun (_ : Nat) (q : zS) => 1000000 ≤ q.2.2.2 ∧ ∃ t : Nat, ze_ad aK aV aX b fmt q.2.2.2 = some t ∧ vk_R q.1 q.2.1 q.2.2.1 t s) ⟨Nat.le_of_ble_eq_true rfl, aX 10, rfl, vk_R.of (hts (Jvm.Cond.stringRef "LyndonBench" (194 : Nat) "there is no such kept word") (z_lt3 60 rfl)) (hXs 10 _ rfl)⟩ <|
      z_l1 (k := 11) (Q := fun (_ : Nat) (q : zS) => 1000000 ≤ q.2.2.2 ∧ ∃ t : Nat, ze_ad aK aV aX b fmt q.2.2.2 = some t ∧ vk_R q.1 q.2.1 q.2.2.1 t s) ⟨Nat.le_of_ble_eq_true rfl, aX 11, rfl, vk_R.of (hts (Jvm.Cond.stringRef "LyndonBench" (203 : Nat) "the kept words can't be joined") (z_lt3 80 rfl)) (hXs 11 _ rfl)⟩ <|
      z_l1 (k := 12) (Q := fun (_ : Nat) (q : zS) => 1000000 ≤ q.2.2.2 ∧ ∃ t : Nat, ze_ad aK aV aX b fmt q.2.2.2 = some t ∧ vk_R q.1 q.2.1 q.2.2.1 t s) ⟨Nat.le_of_ble_eq_true rfl, aX 12, rfl, vk_R.of (hts (Jvm.Cond.stringRef "LyndonBench" (295 : Nat) "this is not one of the letters") (z_lt2 89 rfl)) (hXs 12 _ rfl)⟩ <|
      z_l1 (k := 13) (Q := fun (_ : Nat) (q : zS) => 1000000 ≤ q.2.2.2 ∧ ∃ t : Nat, ze_ad aK aV aX b fmt q.2.2.2 = some t ∧ vk_R q.1 q.2.1 q.2.2.1 t s) ⟨Nat.le_of_ble_eq_true rfl, aX 13, rfl, vk_R.of (hts (Jvm.Cond.stringRef "LyndonBench" (297 : Nat) "the text has not so many letters") (z_lt2 167 rfl)) (hXs 13 _ rfl)⟩ <|
      z_l1 (k := 14) (Q := fun (_ : Nat) (q : zS) => 1000000 ≤ q.2.2.2 ∧ ∃ t : Nat, ze_ad aK aV aX b fmt q.2.2.2 = some t ∧ vk_R q.1 q.2.1 q.2.2.1 t s) ⟨Nat.le_of_ble_eq_true rfl, aX 14, rfl, vk_R.of (hts (Jvm.Cond.stringRef "LyndonBench" (299 : Nat) "the text has no such part") (z_lt3 98 rfl)) (hXs 14 _ rfl)⟩ <|
      z_l1 (k := 15) (Q := fun (_ : Nat) (q : zS) => 1000000 ≤ q.2.2.2 ∧ ∃ t : Nat, ze_ad aK aV aX b fmt q.2.2.2 = some t ∧ vk_R q.1 q.2.1 q.2.2.1 t s) ⟨Nat.le_of_ble_eq_true rfl, aX 15, rfl, vk_R.of (hts (Jvm.Cond.stringRef "LyndonBench" (306 : Nat) "there is no such factor") (z_lt3 33 rfl)) (hXs 15 _ rfl)⟩ <|
      z_l0
  · intro x y hx1 hx2 hy1 hy2 he
    omega
  · exact vx_Zqof (hts (Jvm.Cond.laysStatic "java/lang/Throwable" "UNASSIGNED_STACK" "[Ljava/lang/StackTraceElement;") (z_lt2 75 rfl)) (hts (Jvm.Cond.initialized "java/lang/Throwable") (z_lt1 11 rfl)) u9 hA
  · exact vx_Zqof (hts (Jvm.Cond.laysStatic "java/lang/Throwable" "SUPPRESSED_SENTINEL" "Ljava/util/List;") (z_lt2 77 rfl)) (hts (Jvm.Cond.initialized "java/lang/Throwable") (z_lt1 11 rfl)) u10 hA
  · intro w hw
    simp only [za_nw, List.mem_cons, List.not_mem_nil, or_false] at hw
    rcases hw with rfl | rfl | rfl
    · exact va_tabs rfl rfl (hts (Jvm.Cond.methodLinkNest "LyndonBench" (32 : Nat) ({ cls := "LyndonBench$Script", name := "<init>", desc := "()V" } : Jvm.MethodName) "LyndonBench") (z_lt1 87 rfl))
    · exact va_AO.of (hts (Jvm.Cond.arrayOver (Jvm.ClassFile.FieldType.object "LyndonBench$Word")) (z_lt1 51 rfl))
    · exact va_AO.of (hts (Jvm.Cond.arrayOver (Jvm.ClassFile.FieldType.object "LyndonBench$State")) (z_lt1 75 rfl))
theorem ze_fx {p : Program} {s : State} {m : MethodId} {meth : Method} {c : Code} {b L : Nat} {xs : Nat → Int32} (hLs : L < 2 ^ 31) (C0 : lw_At p s m meth c b L xs) : ∃ (D : va_G) (tys : List (ClassId × FieldType)) (ad0 : Nat → Option Nat), z_fx (za_T ((List.range L).map xs)) za_P za_M D tys (fun q => s.heap.size ≤ q) ad0 s ∧ ad0 1000004 = some b ∧ z_okS (za_T ((List.range L).map xs)) za_P za_M tys := by
  obtain ⟨-, -, -, -, -, hts, hX, hbl, -, hgv⟩ := C0
  obtain ⟨D, tys, k1, k2, k3⟩ := ze_K hts
  obtain ⟨ad0, g1, g2⟩ := ze_st hts hX hLs hbl hgv
  exact ⟨D, tys, ad0, ⟨fun q h => h, k1, g2, ze_nc hgv⟩, g1, za_okS _ k2 k3⟩
