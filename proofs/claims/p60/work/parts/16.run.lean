section
/-! THE START, put together. -/
theorem z_lt1 (j : Nat) {w : Cond} (h : tables_1_1[j]? = some w) : w ∈ lw_tbl := List.mem_append_right _ (show w ∈ tables_1 from List.mem_append_left _ (List.mem_of_getElem? h))
theorem z_lt2 (j : Nat) {w : Cond} (h : tables_1_2[j]? = some w) : w ∈ lw_tbl := List.mem_append_right _ (show w ∈ tables_1 from List.mem_append_right _ (List.mem_append_left _ (List.mem_of_getElem? h)))
theorem z_lt3 (j : Nat) {w : Cond} (h : tables_1_3[j]? = some w) : w ∈ lw_tbl := List.mem_append_right _ (show w ∈ tables_1 from List.mem_append_right _ (List.mem_append_right _ (List.mem_append_left _ (List.mem_of_getElem? h))))
theorem z_lt4 (j : Nat) {w : Cond} (h : tables_1_4[j]? = some w) : w ∈ lw_tbl := List.mem_append_right _ (show w ∈ tables_1 from List.mem_append_right _ (List.mem_append_right _ (List.mem_append_right _ (List.mem_append_left _ (List.mem_of_getElem? h)))))
theorem z_lt5 (j : Nat) {w : Cond} (h : tables_1_5[j]? = some w) : w ∈ lw_tbl := List.mem_append_right _ (show w ∈ tables_1 from List.mem_append_right _ (List.mem_append_right _ (List.mem_append_right _ (List.mem_append_right _ (List.mem_append_left _ (List.mem_of_getElem? h))))))
theorem z_lt6 (j : Nat) {w : Cond} (h : tables_1_6[j]? = some w) : w ∈ lw_tbl := List.mem_append_right _ (show w ∈ tables_1 from List.mem_append_right _ (List.mem_append_right _ (List.mem_append_right _ (List.mem_append_right _ (List.mem_append_right _ (List.mem_append_left _ (List.mem_of_getElem? h)))))))
theorem z_lt7 (j : Nat) {w : Cond} (h : tables_1_7[j]? = some w) : w ∈ lw_tbl := List.mem_append_right _ (show w ∈ tables_1 from List.mem_append_right _ (List.mem_append_right _ (List.mem_append_right _ (List.mem_append_right _ (List.mem_append_right _ (List.mem_append_right _ (List.mem_append_left _ (List.mem_of_getElem? h))))))))
theorem z_lt8 (j : Nat) {w : Cond} (h : tables_1_8[j]? = some w) : w ∈ lw_tbl := List.mem_append_right _ (show w ∈ tables_1 from List.mem_append_right _ (List.mem_append_right _ (List.mem_append_right _ (List.mem_append_right _ (List.mem_append_right _ (List.mem_append_right _ (List.mem_append_right _ (List.mem_of_getElem? h))))))))
def ze_ad (aE : Nat → Nat) (a1 a2 a3 a4 : Nat) (aK aV aX : Nat → Nat) (b : Nat) (fmt : Option Nat) : Nat → Option Nat := fun q =>
  if q < 1000000 then none else if q < 1000012 then some (aE (q - 1000000)) else if q = 1000012 then some a1 else if q = 1000013 then some a2 else if q = 1000014 then some a3 else if q = 1000015 then some a4
  else if q < 1000074 then (if q % 2 = 0 then some (aV ((q - 1000016) / 2)) else some (aK ((q - 1000016) / 2))) else if q = 1000074 then some b else if q = 2000000 then fmt else if 3000000 ≤ q then some (aX (q - 3000000)) else none
theorem ze_getI {l : List Int32} {i : Nat} (ad : Nat → Option Nat) (h : i < l.length) : z_cv ad ((l.map Value.int).getD i .null) = .int (l.getD i 0) := by
  simp [List.getD_eq_getElem?_getD, List.getElem?_map, List.getElem?_eq_getElem h, z_cv]
theorem ze_getS {f : Nat → Nat} {n i : Nat} (ad : Nat → Option Nat) (h : i < n) (hf : ∀ k, k < n → ad (1000000 + k) = some (f k)) : z_cv ad (((List.range n).map (fun k => Value.ref (1000000 + k))).getD i .null) = .ref (f i) := by
  simp [List.getD_eq_getElem?_getD, List.getElem?_map, List.getElem?_range h, z_cv, hf i h, va_rf]
section ZEF
variable {s : State} {b L : Nat} {xs : Nat → Int32} {A : Nat → Prop}
/-- a cell that nobody writes, as z_stat has it -/
def ze_Q (ad : Nat → Option Nat) (A : Nat → Prop) (s : State) (j : Nat) (c : zC) : Prop := (∀ v ∈ c.2, z_vk 0 v) ∧ ∃ t : Nat, ad (1000000 + j) = some t ∧ ((100 ≤ c.1 ∧ ∃ ty : FieldType, za_tf[c.1 - 100]? = some ty ∧ va_T ty t c.2.length (fun i => z_cv ad (c.2.getD i .null)) A s s.heap) ∨ (c.1 < 100 ∧ ∃ r : vw_C, za_scl[c.1 - 50]? = some r ∧ 50 ≤ c.1 ∧ va_O r.1 t A s s.heap ∧ ∀ (k : Nat) (v : Value), c.2[k]? = some v → va_OF (r.2.1 k).1 (r.2.1 k).2.1 (r.2.1 k).2.2.1 (z_cv ad v) t A s s.heap))
theorem ze_Qa {ad : Nat → Option Nat} {j t a : Nat} {ty : FieldType} {l : List Int32} {vs : List Value} (hvs : vs = l.map Value.int) (h1 : ad (1000000 + j) = some t) (h2 : 100 ≤ a) (h3 : za_tf[a - 100]? = some ty) (h4 : va_T ty t l.length (fun i => .int (l.getD i 0)) A s s.heap) : ze_Q ad A s j (a, vs) := by
  subst hvs
  refine ⟨fun v hv => ?_, t, h1, Or.inl ⟨h2, ty, h3, ?_⟩⟩
  · obtain ⟨x, -, rfl⟩ := List.mem_map.mp hv
    trivial
  · dsimp only
    rw [List.length_map]
    exact ze_T_congr h4 (fun j hj => (ze_getI ad hj).symm)
theorem ze_Qq {ad : Nat → Option Nat} {j t : Nat} {vs : List Value} {f : Nat → Nat} (hvs : vs = (List.range 12).map (fun k => Value.ref (1000000 + k))) (h1 : ad (1000000 + j) = some t) (hf : ∀ k, k < 12 → ad (1000000 + k) = some (f k)) (h4 : va_T (.object "LyndonBench$Command") t 12 (fun i => .ref (f i)) A s s.heap) : ze_Q ad A s j (106, vs) := by
  subst hvs
  refine ⟨fun v hv => ?_, t, h1, Or.inl ⟨Nat.le_of_ble_eq_true rfl, _, rfl, ?_⟩⟩
  · obtain ⟨x, -, rfl⟩ := List.mem_map.mp hv
    exact Or.inr (show 1000000 ≤ 1000000 + x from Nat.le_add_right _ _)
  · dsimp only
    rw [List.length_map, List.length_range]
    exact ze_T_congr h4 (fun j hj => (ze_getS ad hj hf).symm)
theorem ze_Qs {ad : Nat → Option Nat} {j t k w : Nat} (h1 : ad (1000000 + j) = some t) (hk : ad k = some w) (hk0 : 1000000 ≤ k) (h2 : va_O "java/lang/String" t A s s.heap) (h3 : va_OF "java/lang/String" "coder" "B" (.int 0) t A s s.heap) (h4 : va_OF "java/lang/String" "value" "[B" (.ref w) t A s s.heap) : ze_Q ad A s j (50, [.ref k, .int 0]) := by
  refine ⟨fun v hv => ?_, t, h1, Or.inr ⟨Nat.le_of_ble_eq_true rfl, _, rfl, Nat.le_of_ble_eq_true rfl, h2, fun i v hv => ?_⟩⟩
  · simp only [List.mem_cons, List.not_mem_nil, or_false] at hv
    rcases hv with rfl | rfl
    · exact Or.inr hk0
    · trivial
  · match i, hv with
    | 0, hv =>
      cases hv
      have e1 : z_cv ad (.ref k) = .ref w := congrArg va_rf hk
      rw [e1]
      exact h4
    | 1, hv =>
      cases hv
      exact h3
    | (i + 2), hv => cases hv
theorem ze_Qe {ad : Nat → Option Nat} {j t k w : Nat} {x : Int32} (h1 : ad (1000000 + j) = some t) (hk : ad k = some w) (hk0 : 1000000 ≤ k) (h2 : va_O "LyndonBench$Command" t A s s.heap) (h3 : va_OF "java/lang/Enum" "ordinal" "I" (.int x) t A s s.heap) (h4 : va_OF "LyndonBench$Command" "word" "Ljava/lang/String;" (.ref w) t A s s.heap) : ze_Q ad A s j (51, [.ref k, .int x]) := by
  refine ⟨fun v hv => ?_, t, h1, Or.inr ⟨Nat.le_of_ble_eq_true rfl, _, rfl, Nat.le_of_ble_eq_true rfl, h2, fun i v hv => ?_⟩⟩
  · simp only [List.mem_cons, List.not_mem_nil, or_false] at hv
    rcases hv with rfl | rfl
    · exact Or.inr hk0
    · trivial
  · match i, hv with
    | 0, hv =>
      cases hv
      have e1 : z_cv ad (.ref k) = .ref w := congrArg va_rf hk
      rw [e1]
      exact h4
    | 1, hv =>
      cases hv
      exact h3
    | (i + 2), hv => cases hv
theorem ze_sfq {C n dd : String} {A : Nat → Prop} (h : va_Zq C n dd A s s.heap) : ∃ f : Option Nat, va_Z C n dd (va_rf f) A s s.heap := by
  rcases h with h | ⟨t, h⟩
  · exact ⟨none, h⟩
  · exact ⟨some t, h⟩
end ZEF
set_option maxHeartbeats 4000000 in
theorem ze_K {s : State} {b : Nat} (hts : ∀ w ∈ lw_tbl, w.before #[Value.ref b] s = true) : ∃ (D : va_G) (tys : List (ClassId × FieldType)), va_K D za_cl tys s ∧ (∀ (t : Nat) (x : ClassId × FieldType), tys[t]? = some x → za_tf[t]? = some x.2) ∧ (∀ t : Nat, t < 6 → ∀ ty : FieldType, za_tf[t]? = some ty → ∃ x : ClassId, tys[t]? = some (x, ty)) := by
  obtain ⟨c0, i0, k0⟩ := u_known (C := "LyndonBench") (T := za_T0) (N := 7) (n := 7) hts (fun w hw => (List.mem_filter.mp ((zj_0 []).1 w hw)).1) (hts (Jvm.Cond.instantiable "LyndonBench" (7 : Nat)) (z_lt1 23 rfl))
  obtain ⟨c1, i1, k1⟩ := u_known (C := "LyndonBench$History") (T := za_T1) (N := 2) (n := 2) hts (fun w hw => (List.mem_filter.mp ((zj_1 []).1 w hw)).1) (hts (Jvm.Cond.instantiable "LyndonBench$History" (2 : Nat)) (z_lt1 76 rfl))
  obtain ⟨c2, i2, k2⟩ := u_known (C := "LyndonBench$Script") (T := za_T2) (N := 12) (n := 12) hts (fun w hw => (List.mem_filter.mp ((zj_2 []).1 w hw)).1) (hts (Jvm.Cond.instantiable "LyndonBench$Script" (12 : Nat)) (z_lt1 93 rfl))
  obtain ⟨c3, i3, k3⟩ := u_known (C := "LyndonBench$State") (T := za_T3) (N := 4) (n := 4) hts (fun w hw => (List.mem_filter.mp ((zj_3 []).1 w hw)).1) (hts (Jvm.Cond.instantiable "LyndonBench$State" (4 : Nat)) (z_lt1 31 rfl))
  obtain ⟨c4, i4, k4⟩ := u_known (C := "LyndonBench$Word") (T := za_T4) (N := 2) (n := 2) hts (fun w hw => (List.mem_filter.mp ((zj_4 []).1 w hw)).1) (hts (Jvm.Cond.instantiable "LyndonBench$Word" (2 : Nat)) (z_lt1 37 rfl))
  obtain ⟨c5, i5, k5⟩ := u_known (C := "LyndonBenchModel") (T := za_T5) (N := 24) (n := 24) hts (fun w hw => (List.mem_filter.mp ((zj_5 []).1 w hw)).1) (hts (Jvm.Cond.instantiable "LyndonBenchModel" (24 : Nat)) (z_lt5 94 rfl))
  obtain ⟨a0, g0, m0, f0a, f0b, f0c⟩ := Cond.arrayClass_spec (args := #[Value.ref b]) (first := s) (o := none) (s := s) (idx := []) (hts (Jvm.Cond.arrayClass Jvm.ClassFile.FieldType.int) (z_lt1 143 rfl))
  obtain ⟨a1, g1, m1, f1a, f1b, f1c⟩ := Cond.arrayClass_spec (args := #[Value.ref b]) (first := s) (o := none) (s := s) (idx := []) (hts (Jvm.Cond.arrayClass Jvm.ClassFile.FieldType.byte) (z_lt1 55 rfl))
  obtain ⟨a2, g2, m2, f2a, f2b, f2c⟩ := Cond.arrayClass_spec (args := #[Value.ref b]) (first := s) (o := none) (s := s) (idx := []) (hts (Jvm.Cond.arrayClass Jvm.ClassFile.FieldType.char) (z_lt6 190 rfl))
  obtain ⟨a3, g3, m3, f3a, f3b, f3c⟩ := Cond.arrayClass_spec (args := #[Value.ref b]) (first := s) (o := none) (s := s) (idx := []) (hts (Jvm.Cond.arrayClass Jvm.ClassFile.FieldType.long) (z_lt8 49 rfl))
  obtain ⟨m4, a4, g4, f4d, -, f4b, f4c, f4a⟩ := Cond.arrayOver_spec (args := #[Value.ref b]) (first := s) (o := none) (s := s) (idx := []) (hts (Jvm.Cond.arrayOver (Jvm.ClassFile.FieldType.object "LyndonBench$Word")) (z_lt1 56 rfl))
  obtain ⟨m5, a5, g5, f5d, -, f5b, f5c, f5a⟩ := Cond.arrayOver_spec (args := #[Value.ref b]) (first := s) (o := none) (s := s) (idx := []) (hts (Jvm.Cond.arrayOver (Jvm.ClassFile.FieldType.object "LyndonBench$State")) (z_lt1 82 rfl))
  refine ⟨(fun k => z_nth [c0, c1, c2, c3, c4, c5] k c0, fun k => z_nth [i0, i1, i2, i3, i4, i5] k i0), [(a0, .int), (a1, .byte), (a2, .char), (a3, .long), (a4, .object "LyndonBench$Word"), (a5, .object "LyndonBench$State")], ⟨z_l9 (Q := fun (c : Nat) (q : vw_C) => u_Kn s q.1 q.2.1 q.2.2 (z_nth [c0, c1, c2, c3, c4, c5] c c0) (z_nth [i0, i1, i2, i3, i4, i5] c i0)) ?_, z_l9 (Q := fun (_ : Nat) (q : ClassId × FieldType) => ArrOfT s q.1 q.2 ∧ va_RA s q.1 q.2) ?_⟩, z_l9 (Q := fun (t : Nat) (x : ClassId × FieldType) => za_tf[t]? = some x.2) ?_, ?_⟩
  · exact z_l1 (k := 0) (Q := fun (c : Nat) (q : vw_C) => u_Kn s q.1 q.2.1 q.2.2 (z_nth [c0, c1, c2, c3, c4, c5] c c0) (z_nth [i0, i1, i2, i3, i4, i5] c i0)) k0 <| z_l1 (k := 1) (Q := fun (c : Nat) (q : vw_C) => u_Kn s q.1 q.2.1 q.2.2 (z_nth [c0, c1, c2, c3, c4, c5] c c0) (z_nth [i0, i1, i2, i3, i4, i5] c i0)) k1 <| z_l1 (k := 2) (Q := fun (c : Nat) (q : vw_C) => u_Kn s q.1 q.2.1 q.2.2 (z_nth [c0, c1, c2, c3, c4, c5] c c0) (z_nth [i0, i1, i2, i3, i4, i5] c i0)) k2 <| z_l1 (k := 3) (Q := fun (c : Nat) (q : vw_C) => u_Kn s q.1 q.2.1 q.2.2 (z_nth [c0, c1, c2, c3, c4, c5] c c0) (z_nth [i0, i1, i2, i3, i4, i5] c i0)) k3 <| z_l1 (k := 4) (Q := fun (c : Nat) (q : vw_C) => u_Kn s q.1 q.2.1 q.2.2 (z_nth [c0, c1, c2, c3, c4, c5] c c0) (z_nth [i0, i1, i2, i3, i4, i5] c i0)) k4 <| z_l1 (k := 5) (Q := fun (c : Nat) (q : vw_C) => u_Kn s q.1 q.2.1 q.2.2 (z_nth [c0, c1, c2, c3, c4, c5] c c0) (z_nth [i0, i1, i2, i3, i4, i5] c i0)) k5 <| z_l0
  · exact z_l1 (k := 0) (Q := fun (_ : Nat) (q : ClassId × FieldType) => ArrOfT s q.1 q.2 ∧ va_RA s q.1 q.2) ⟨fun n z => ⟨fun k h => (by cases h), g0, f0b, m0, f0c⟩, f0a⟩ <| z_l1 (k := 1) (Q := fun (_ : Nat) (q : ClassId × FieldType) => ArrOfT s q.1 q.2 ∧ va_RA s q.1 q.2) ⟨fun n z => ⟨fun k h => (by cases h), g1, f1b, m1, f1c⟩, f1a⟩ <| z_l1 (k := 2) (Q := fun (_ : Nat) (q : ClassId × FieldType) => ArrOfT s q.1 q.2 ∧ va_RA s q.1 q.2) ⟨fun n z => ⟨fun k h => (by cases h), g2, f2b, m2, f2c⟩, f2a⟩ <| z_l1 (k := 3) (Q := fun (_ : Nat) (q : ClassId × FieldType) => ArrOfT s q.1 q.2 ∧ va_RA s q.1 q.2) ⟨fun n z => ⟨fun k h => (by cases h), g3, f3b, m3, f3c⟩, f3a⟩ <| z_l1 (k := 4) (Q := fun (_ : Nat) (q : ClassId × FieldType) => ArrOfT s q.1 q.2 ∧ va_RA s q.1 q.2) ⟨fun n z => ⟨fun k h => (by cases h), g4, f4b, m4, f4c⟩, ⟨g4, m4, f4b, f4c, f4d, f4a⟩⟩ <| z_l1 (k := 5) (Q := fun (_ : Nat) (q : ClassId × FieldType) => ArrOfT s q.1 q.2 ∧ va_RA s q.1 q.2) ⟨fun n z => ⟨fun k h => (by cases h), g5, f5b, m5, f5c⟩, ⟨g5, m5, f5b, f5c, f5d, f5a⟩⟩ <| z_l0
  · exact z_l1 (k := 0) (Q := fun (t : Nat) (x : ClassId × FieldType) => za_tf[t]? = some x.2) rfl <| z_l1 (k := 1) (Q := fun (t : Nat) (x : ClassId × FieldType) => za_tf[t]? = some x.2) rfl <| z_l1 (k := 2) (Q := fun (t : Nat) (x : ClassId × FieldType) => za_tf[t]? = some x.2) rfl <| z_l1 (k := 3) (Q := fun (t : Nat) (x : ClassId × FieldType) => za_tf[t]? = some x.2) rfl <| z_l1 (k := 4) (Q := fun (t : Nat) (x : ClassId × FieldType) => za_tf[t]? = some x.2) rfl <| z_l1 (k := 5) (Q := fun (t : Nat) (x : ClassId × FieldType) => za_tf[t]? = some x.2) rfl <| z_l0
  · intro t ht ty e
    have h8 : t = 0 ∨ t = 1 ∨ t = 2 ∨ t = 3 ∨ t = 4 ∨ t = 5 := by omega
    rcases h8 with rfl | rfl | rfl | rfl | rfl | rfl <;> (cases e; exact ⟨_, rfl⟩)
set_option maxHeartbeats 8000000 in
set_option maxRecDepth 20000 in
theorem ze_st {s : State} {b L : Nat} {xs : Nat → Int32} (hts : ∀ w ∈ lw_tbl, w.before #[Value.ref b] s = true) (hX : va_X b L xs s s.heap) (hLs : L < 2 ^ 31) (hbl : b < s.heap.size) (hgv : (Jvm.Cond.and given_1 narrow_1).before #[Value.ref b] s = true) : ∃ ad0 : Nat → Option Nat, ad0 1000074 = some b ∧ z_stat za_scl za_tf (za_T ((List.range L).map xs)).1 za_sf za_ss za_nw (fun q => s.heap.size ≤ q) ad0 s := by
  have hA : ∀ a : Nat, a < s.heap.size → ¬ (s.heap.size ≤ a) := fun a h => Nat.not_le.mpr h
  obtain ⟨aK, aV, hS⟩ := ze_strs (A := fun q => s.heap.size ≤ q) hgv hA
  obtain ⟨aX, hXs⟩ := ze_thrs hgv
  obtain ⟨aE, hE, hEi⟩ := ze_enum (A := fun q => s.heap.size ≤ q) hgv hA
  obtain ⟨a2, e2, t2⟩ := ze_arr_T (A := fun q => s.heap.size ≤ q) (ze_k1 hgv) (by decide) hA
  obtain ⟨a3, e3, t3⟩ := ze_arr_T (A := fun q => s.heap.size ≤ q) (ze_k2 hgv) (by decide) hA
  obtain ⟨a4, e4, t4⟩ := ze_arr_T (A := fun q => s.heap.size ≤ q) (ze_k3 hgv) (by decide) hA
  have u6 := ze_k6 hgv
  obtain ⟨a1, e1, t1⟩ := va_Tof (N := 12) (f := fun j => .ref (aE j)) (A := fun q => s.heap.size ≤ q) (by decide) (u6 _ List.mem_cons_self) (va_eqt (u6 _ (List.mem_cons_of_mem _ List.mem_cons_self))) (fun j hj => (hE j hj).2.2.2.1) hA
  have u7 := u6 _ (List.mem_cons_of_mem _ (List.mem_cons_of_mem _ List.mem_cons_self))
  have u8 := u6 _ (List.mem_cons_of_mem _ (List.mem_cons_of_mem _ (List.mem_cons_of_mem _ List.mem_cons_self)))
  have u9 := u6 _ (List.mem_cons_of_mem _ (List.mem_cons_of_mem _ (List.mem_cons_of_mem _ (List.mem_cons_of_mem _ List.mem_cons_self))))
  have u10 := u6 _ (List.mem_cons_of_mem _ (List.mem_cons_of_mem _ (List.mem_cons_of_mem _ (List.mem_cons_of_mem _ (List.mem_cons_of_mem _ List.mem_cons_self)))))
  obtain ⟨fmt, hfmt⟩ := ze_sfq (va_Zqof (A := fun q => s.heap.size ≤ q) (hts (Jvm.Cond.laysStatic "jdk/internal/util/Preconditions" "SIOOBE_FORMATTER" "Ljava/util/function/BiFunction;") (z_lt1 184 rfl)) (hts (Jvm.Cond.initialized "jdk/internal/util/Preconditions") (z_lt1 9 rfl)) u8 hA)
  have s0 := hS 0 _ rfl
  have s1 := hS 1 _ rfl
  have s2 := hS 2 _ rfl
  have s3 := hS 3 _ rfl
  have s4 := hS 4 _ rfl
  have s5 := hS 5 _ rfl
  have s6 := hS 6 _ rfl
  have s7 := hS 7 _ rfl
  have s8 := hS 8 _ rfl
  have s9 := hS 9 _ rfl
  have s10 := hS 10 _ rfl
  have s11 := hS 11 _ rfl
  have s12 := hS 12 _ rfl
  have s13 := hS 13 _ rfl
  have s14 := hS 14 _ rfl
  have s15 := hS 15 _ rfl
  have s16 := hS 16 _ rfl
  have s17 := hS 17 _ rfl
  have s18 := hS 18 _ rfl
  have s19 := hS 19 _ rfl
  have s20 := hS 20 _ rfl
  have s21 := hS 21 _ rfl
  have s22 := hS 22 _ rfl
  have s23 := hS 23 _ rfl
  have s24 := hS 24 _ rfl
  have s25 := hS 25 _ rfl
  have s26 := hS 26 _ rfl
  have s27 := hS 27 _ rfl
  have s28 := hS 28 _ rfl
  have n0 := hE 0 (by decide)
  have n1 := hE 1 (by decide)
  have n2 := hE 2 (by decide)
  have n3 := hE 3 (by decide)
  have n4 := hE 4 (by decide)
  have n5 := hE 5 (by decide)
  have n6 := hE 6 (by decide)
  have n7 := hE 7 (by decide)
  have n8 := hE 8 (by decide)
  have n9 := hE 9 (by decide)
  have n10 := hE 10 (by decide)
  have n11 := hE 11 (by decide)
  refine ⟨ze_ad aE a1 a2 a3 a4 aK aV aX b fmt, rfl, ?_, ?_, ?_, ?_, ⟨?_, ?_⟩, ?_⟩
  · exact z_l9 (Q := ze_Q (ze_ad aE a1 a2 a3 a4 aK aV aX b fmt) (fun q => s.heap.size ≤ q) s) <|
      z_l1 (k := 0) (Q := ze_Q (ze_ad aE a1 a2 a3 a4 aK aV aX b fmt) (fun q => s.heap.size ≤ q) s) (by obtain ⟨w, w1, w2⟩ := n0.2.2.2.2; cases w1.symm.trans s2.1; exact ze_Qe rfl rfl (Nat.le_of_ble_eq_true rfl) n0.2.1 n0.2.2.1 w2) <|
      z_l1 (k := 1) (Q := ze_Q (ze_ad aE a1 a2 a3 a4 aK aV aX b fmt) (fun q => s.heap.size ≤ q) s) (by obtain ⟨w, w1, w2⟩ := n1.2.2.2.2; cases w1.symm.trans s3.1; exact ze_Qe rfl rfl (Nat.le_of_ble_eq_true rfl) n1.2.1 n1.2.2.1 w2) <|
      z_l1 (k := 2) (Q := ze_Q (ze_ad aE a1 a2 a3 a4 aK aV aX b fmt) (fun q => s.heap.size ≤ q) s) (by obtain ⟨w, w1, w2⟩ := n2.2.2.2.2; cases w1.symm.trans s4.1; exact ze_Qe rfl rfl (Nat.le_of_ble_eq_true rfl) n2.2.1 n2.2.2.1 w2) <|
      z_l1 (k := 3) (Q := ze_Q (ze_ad aE a1 a2 a3 a4 aK aV aX b fmt) (fun q => s.heap.size ≤ q) s) (by obtain ⟨w, w1, w2⟩ := n3.2.2.2.2; cases w1.symm.trans s5.1; exact ze_Qe rfl rfl (Nat.le_of_ble_eq_true rfl) n3.2.1 n3.2.2.1 w2) <|
      z_l1 (k := 4) (Q := ze_Q (ze_ad aE a1 a2 a3 a4 aK aV aX b fmt) (fun q => s.heap.size ≤ q) s) (by obtain ⟨w, w1, w2⟩ := n4.2.2.2.2; cases w1.symm.trans s6.1; exact ze_Qe rfl rfl (Nat.le_of_ble_eq_true rfl) n4.2.1 n4.2.2.1 w2) <|
      z_l1 (k := 5) (Q := ze_Q (ze_ad aE a1 a2 a3 a4 aK aV aX b fmt) (fun q => s.heap.size ≤ q) s) (by obtain ⟨w, w1, w2⟩ := n5.2.2.2.2; cases w1.symm.trans s7.1; exact ze_Qe rfl rfl (Nat.le_of_ble_eq_true rfl) n5.2.1 n5.2.2.1 w2) <|
      z_l1 (k := 6) (Q := ze_Q (ze_ad aE a1 a2 a3 a4 aK aV aX b fmt) (fun q => s.heap.size ≤ q) s) (by obtain ⟨w, w1, w2⟩ := n6.2.2.2.2; cases w1.symm.trans s8.1; exact ze_Qe rfl rfl (Nat.le_of_ble_eq_true rfl) n6.2.1 n6.2.2.1 w2) <|
      z_l1 (k := 7) (Q := ze_Q (ze_ad aE a1 a2 a3 a4 aK aV aX b fmt) (fun q => s.heap.size ≤ q) s) (by obtain ⟨w, w1, w2⟩ := n7.2.2.2.2; cases w1.symm.trans s9.1; exact ze_Qe rfl rfl (Nat.le_of_ble_eq_true rfl) n7.2.1 n7.2.2.1 w2) <|
      z_l1 (k := 8) (Q := ze_Q (ze_ad aE a1 a2 a3 a4 aK aV aX b fmt) (fun q => s.heap.size ≤ q) s) (by obtain ⟨w, w1, w2⟩ := n8.2.2.2.2; cases w1.symm.trans s10.1; exact ze_Qe rfl rfl (Nat.le_of_ble_eq_true rfl) n8.2.1 n8.2.2.1 w2) <|
      z_l1 (k := 9) (Q := ze_Q (ze_ad aE a1 a2 a3 a4 aK aV aX b fmt) (fun q => s.heap.size ≤ q) s) (by obtain ⟨w, w1, w2⟩ := n9.2.2.2.2; cases w1.symm.trans s11.1; exact ze_Qe rfl rfl (Nat.le_of_ble_eq_true rfl) n9.2.1 n9.2.2.1 w2) <|
      z_l1 (k := 10) (Q := ze_Q (ze_ad aE a1 a2 a3 a4 aK aV aX b fmt) (fun q => s.heap.size ≤ q) s) (by obtain ⟨w, w1, w2⟩ := n10.2.2.2.2; cases w1.symm.trans s12.1; exact ze_Qe rfl rfl (Nat.le_of_ble_eq_true rfl) n10.2.1 n10.2.2.1 w2) <|
      z_l1 (k := 11) (Q := ze_Q (ze_ad aE a1 a2 a3 a4 aK aV aX b fmt) (fun q => s.heap.size ≤ q) s) (by obtain ⟨w, w1, w2⟩ := n11.2.2.2.2; cases w1.symm.trans s13.1; exact ze_Qe rfl rfl (Nat.le_of_ble_eq_true rfl) n11.2.1 n11.2.2.1 w2) <|
      z_l1 (k := 12) (Q := ze_Q (ze_ad aE a1 a2 a3 a4 aK aV aX b fmt) (fun q => s.heap.size ≤ q) s) (ze_Qq (f := aE) rfl rfl (fun k hk => by unfold ze_ad; rw [if_neg (by omega), if_pos (by omega), Nat.add_sub_cancel_left]) t1) <|
      z_l1 (k := 13) (Q := ze_Q (ze_ad aE a1 a2 a3 a4 aK aV aX b fmt) (fun q => s.heap.size ≤ q) s) (ze_Qa (l := ze_moeb) rfl rfl (Nat.le_of_ble_eq_true rfl) rfl t2) <|
      z_l1 (k := 14) (Q := ze_Q (ze_ad aE a1 a2 a3 a4 aK aV aX b fmt) (fun q => s.heap.size ≤ q) s) (ze_Qa (l := ze_toti) rfl rfl (Nat.le_of_ble_eq_true rfl) rfl t3) <|
      z_l1 (k := 15) (Q := ze_Q (ze_ad aE a1 a2 a3 a4 aK aV aX b fmt) (fun q => s.heap.size ≤ q) s) (ze_Qa (l := ze_sw) rfl rfl (Nat.le_of_ble_eq_true rfl) rfl t4) <|
      z_l1 (k := 16) (Q := ze_Q (ze_ad aE a1 a2 a3 a4 aK aV aX b fmt) (fun q => s.heap.size ≤ q) s) (ze_Qa rfl rfl (Nat.le_of_ble_eq_true rfl) rfl s0.2.2.2.2) <|
      z_l1 (k := 17) (Q := ze_Q (ze_ad aE a1 a2 a3 a4 aK aV aX b fmt) (fun q => s.heap.size ≤ q) s) (ze_Qs rfl rfl (Nat.le_of_ble_eq_true rfl) s0.2.1 s0.2.2.1 s0.2.2.2.1) <|
      z_l1 (k := 18) (Q := ze_Q (ze_ad aE a1 a2 a3 a4 aK aV aX b fmt) (fun q => s.heap.size ≤ q) s) (ze_Qa rfl rfl (Nat.le_of_ble_eq_true rfl) rfl s1.2.2.2.2) <|
      z_l1 (k := 19) (Q := ze_Q (ze_ad aE a1 a2 a3 a4 aK aV aX b fmt) (fun q => s.heap.size ≤ q) s) (ze_Qs rfl rfl (Nat.le_of_ble_eq_true rfl) s1.2.1 s1.2.2.1 s1.2.2.2.1) <|
      z_l1 (k := 20) (Q := ze_Q (ze_ad aE a1 a2 a3 a4 aK aV aX b fmt) (fun q => s.heap.size ≤ q) s) (ze_Qa rfl rfl (Nat.le_of_ble_eq_true rfl) rfl s2.2.2.2.2) <|
      z_l1 (k := 21) (Q := ze_Q (ze_ad aE a1 a2 a3 a4 aK aV aX b fmt) (fun q => s.heap.size ≤ q) s) (ze_Qs rfl rfl (Nat.le_of_ble_eq_true rfl) s2.2.1 s2.2.2.1 s2.2.2.2.1) <|
      z_l1 (k := 22) (Q := ze_Q (ze_ad aE a1 a2 a3 a4 aK aV aX b fmt) (fun q => s.heap.size ≤ q) s) (ze_Qa rfl rfl (Nat.le_of_ble_eq_true rfl) rfl s3.2.2.2.2) <|
      z_l1 (k := 23) (Q := ze_Q (ze_ad aE a1 a2 a3 a4 aK aV aX b fmt) (fun q => s.heap.size ≤ q) s) (ze_Qs rfl rfl (Nat.le_of_ble_eq_true rfl) s3.2.1 s3.2.2.1 s3.2.2.2.1) <|
      z_l1 (k := 24) (Q := ze_Q (ze_ad aE a1 a2 a3 a4 aK aV aX b fmt) (fun q => s.heap.size ≤ q) s) (ze_Qa rfl rfl (Nat.le_of_ble_eq_true rfl) rfl s4.2.2.2.2) <|
      z_l1 (k := 25) (Q := ze_Q (ze_ad aE a1 a2 a3 a4 aK aV aX b fmt) (fun q => s.heap.size ≤ q) s) (ze_Qs rfl rfl (Nat.le_of_ble_eq_true rfl) s4.2.1 s4.2.2.1 s4.2.2.2.1) <|
      z_l1 (k := 26) (Q := ze_Q (ze_ad aE a1 a2 a3 a4 aK aV aX b fmt) (fun q => s.heap.size ≤ q) s) (ze_Qa rfl rfl (Nat.le_of_ble_eq_true rfl) rfl s5.2.2.2.2) <|
      z_l1 (k := 27) (Q := ze_Q (ze_ad aE a1 a2 a3 a4 aK aV aX b fmt) (fun q => s.heap.size ≤ q) s) (ze_Qs rfl rfl (Nat.le_of_ble_eq_true rfl) s5.2.1 s5.2.2.1 s5.2.2.2.1) <|
      z_l1 (k := 28) (Q := ze_Q (ze_ad aE a1 a2 a3 a4 aK aV aX b fmt) (fun q => s.heap.size ≤ q) s) (ze_Qa rfl rfl (Nat.le_of_ble_eq_true rfl) rfl s6.2.2.2.2) <|
      z_l1 (k := 29) (Q := ze_Q (ze_ad aE a1 a2 a3 a4 aK aV aX b fmt) (fun q => s.heap.size ≤ q) s) (ze_Qs rfl rfl (Nat.le_of_ble_eq_true rfl) s6.2.1 s6.2.2.1 s6.2.2.2.1) <|
      z_l1 (k := 30) (Q := ze_Q (ze_ad aE a1 a2 a3 a4 aK aV aX b fmt) (fun q => s.heap.size ≤ q) s) (ze_Qa rfl rfl (Nat.le_of_ble_eq_true rfl) rfl s7.2.2.2.2) <|
      z_l1 (k := 31) (Q := ze_Q (ze_ad aE a1 a2 a3 a4 aK aV aX b fmt) (fun q => s.heap.size ≤ q) s) (ze_Qs rfl rfl (Nat.le_of_ble_eq_true rfl) s7.2.1 s7.2.2.1 s7.2.2.2.1) <|
      z_l1 (k := 32) (Q := ze_Q (ze_ad aE a1 a2 a3 a4 aK aV aX b fmt) (fun q => s.heap.size ≤ q) s) (ze_Qa rfl rfl (Nat.le_of_ble_eq_true rfl) rfl s8.2.2.2.2) <|
      z_l1 (k := 33) (Q := ze_Q (ze_ad aE a1 a2 a3 a4 aK aV aX b fmt) (fun q => s.heap.size ≤ q) s) (ze_Qs rfl rfl (Nat.le_of_ble_eq_true rfl) s8.2.1 s8.2.2.1 s8.2.2.2.1) <|
      z_l1 (k := 34) (Q := ze_Q (ze_ad aE a1 a2 a3 a4 aK aV aX b fmt) (fun q => s.heap.size ≤ q) s) (ze_Qa rfl rfl (Nat.le_of_ble_eq_true rfl) rfl s9.2.2.2.2) <|
      z_l1 (k := 35) (Q := ze_Q (ze_ad aE a1 a2 a3 a4 aK aV aX b fmt) (fun q => s.heap.size ≤ q) s) (ze_Qs rfl rfl (Nat.le_of_ble_eq_true rfl) s9.2.1 s9.2.2.1 s9.2.2.2.1) <|
      z_l1 (k := 36) (Q := ze_Q (ze_ad aE a1 a2 a3 a4 aK aV aX b fmt) (fun q => s.heap.size ≤ q) s) (ze_Qa rfl rfl (Nat.le_of_ble_eq_true rfl) rfl s10.2.2.2.2) <|
      z_l1 (k := 37) (Q := ze_Q (ze_ad aE a1 a2 a3 a4 aK aV aX b fmt) (fun q => s.heap.size ≤ q) s) (ze_Qs rfl rfl (Nat.le_of_ble_eq_true rfl) s10.2.1 s10.2.2.1 s10.2.2.2.1) <|
      z_l1 (k := 38) (Q := ze_Q (ze_ad aE a1 a2 a3 a4 aK aV aX b fmt) (fun q => s.heap.size ≤ q) s) (ze_Qa rfl rfl (Nat.le_of_ble_eq_true rfl) rfl s11.2.2.2.2) <|
      z_l1 (k := 39) (Q := ze_Q (ze_ad aE a1 a2 a3 a4 aK aV aX b fmt) (fun q => s.heap.size ≤ q) s) (ze_Qs rfl rfl (Nat.le_of_ble_eq_true rfl) s11.2.1 s11.2.2.1 s11.2.2.2.1) <|
      z_l1 (k := 40) (Q := ze_Q (ze_ad aE a1 a2 a3 a4 aK aV aX b fmt) (fun q => s.heap.size ≤ q) s) (ze_Qa rfl rfl (Nat.le_of_ble_eq_true rfl) rfl s12.2.2.2.2) <|
      z_l1 (k := 41) (Q := ze_Q (ze_ad aE a1 a2 a3 a4 aK aV aX b fmt) (fun q => s.heap.size ≤ q) s) (ze_Qs rfl rfl (Nat.le_of_ble_eq_true rfl) s12.2.1 s12.2.2.1 s12.2.2.2.1) <|
      z_l1 (k := 42) (Q := ze_Q (ze_ad aE a1 a2 a3 a4 aK aV aX b fmt) (fun q => s.heap.size ≤ q) s) (ze_Qa rfl rfl (Nat.le_of_ble_eq_true rfl) rfl s13.2.2.2.2) <|
      z_l1 (k := 43) (Q := ze_Q (ze_ad aE a1 a2 a3 a4 aK aV aX b fmt) (fun q => s.heap.size ≤ q) s) (ze_Qs rfl rfl (Nat.le_of_ble_eq_true rfl) s13.2.1 s13.2.2.1 s13.2.2.2.1) <|
      z_l1 (k := 44) (Q := ze_Q (ze_ad aE a1 a2 a3 a4 aK aV aX b fmt) (fun q => s.heap.size ≤ q) s) (ze_Qa rfl rfl (Nat.le_of_ble_eq_true rfl) rfl s14.2.2.2.2) <|
      z_l1 (k := 45) (Q := ze_Q (ze_ad aE a1 a2 a3 a4 aK aV aX b fmt) (fun q => s.heap.size ≤ q) s) (ze_Qs rfl rfl (Nat.le_of_ble_eq_true rfl) s14.2.1 s14.2.2.1 s14.2.2.2.1) <|
      z_l1 (k := 46) (Q := ze_Q (ze_ad aE a1 a2 a3 a4 aK aV aX b fmt) (fun q => s.heap.size ≤ q) s) (ze_Qa rfl rfl (Nat.le_of_ble_eq_true rfl) rfl s15.2.2.2.2) <|
      z_l1 (k := 47) (Q := ze_Q (ze_ad aE a1 a2 a3 a4 aK aV aX b fmt) (fun q => s.heap.size ≤ q) s) (ze_Qs rfl rfl (Nat.le_of_ble_eq_true rfl) s15.2.1 s15.2.2.1 s15.2.2.2.1) <|
      z_l1 (k := 48) (Q := ze_Q (ze_ad aE a1 a2 a3 a4 aK aV aX b fmt) (fun q => s.heap.size ≤ q) s) (ze_Qa rfl rfl (Nat.le_of_ble_eq_true rfl) rfl s16.2.2.2.2) <|
      z_l1 (k := 49) (Q := ze_Q (ze_ad aE a1 a2 a3 a4 aK aV aX b fmt) (fun q => s.heap.size ≤ q) s) (ze_Qs rfl rfl (Nat.le_of_ble_eq_true rfl) s16.2.1 s16.2.2.1 s16.2.2.2.1) <|
      z_l1 (k := 50) (Q := ze_Q (ze_ad aE a1 a2 a3 a4 aK aV aX b fmt) (fun q => s.heap.size ≤ q) s) (ze_Qa rfl rfl (Nat.le_of_ble_eq_true rfl) rfl s17.2.2.2.2) <|
      z_l1 (k := 51) (Q := ze_Q (ze_ad aE a1 a2 a3 a4 aK aV aX b fmt) (fun q => s.heap.size ≤ q) s) (ze_Qs rfl rfl (Nat.le_of_ble_eq_true rfl) s17.2.1 s17.2.2.1 s17.2.2.2.1) <|
      z_l1 (k := 52) (Q := ze_Q (ze_ad aE a1 a2 a3 a4 aK aV aX b fmt) (fun q => s.heap.size ≤ q) s) (ze_Qa rfl rfl (Nat.le_of_ble_eq_true rfl) rfl s18.2.2.2.2) <|
      z_l1 (k := 53) (Q := ze_Q (ze_ad aE a1 a2 a3 a4 aK aV aX b fmt) (fun q => s.heap.size ≤ q) s) (ze_Qs rfl rfl (Nat.le_of_ble_eq_true rfl) s18.2.1 s18.2.2.1 s18.2.2.2.1) <|
      z_l1 (k := 54) (Q := ze_Q (ze_ad aE a1 a2 a3 a4 aK aV aX b fmt) (fun q => s.heap.size ≤ q) s) (ze_Qa rfl rfl (Nat.le_of_ble_eq_true rfl) rfl s19.2.2.2.2) <|
      z_l1 (k := 55) (Q := ze_Q (ze_ad aE a1 a2 a3 a4 aK aV aX b fmt) (fun q => s.heap.size ≤ q) s) (ze_Qs rfl rfl (Nat.le_of_ble_eq_true rfl) s19.2.1 s19.2.2.1 s19.2.2.2.1) <|
      z_l1 (k := 56) (Q := ze_Q (ze_ad aE a1 a2 a3 a4 aK aV aX b fmt) (fun q => s.heap.size ≤ q) s) (ze_Qa rfl rfl (Nat.le_of_ble_eq_true rfl) rfl s20.2.2.2.2) <|
      z_l1 (k := 57) (Q := ze_Q (ze_ad aE a1 a2 a3 a4 aK aV aX b fmt) (fun q => s.heap.size ≤ q) s) (ze_Qs rfl rfl (Nat.le_of_ble_eq_true rfl) s20.2.1 s20.2.2.1 s20.2.2.2.1) <|
      z_l1 (k := 58) (Q := ze_Q (ze_ad aE a1 a2 a3 a4 aK aV aX b fmt) (fun q => s.heap.size ≤ q) s) (ze_Qa rfl rfl (Nat.le_of_ble_eq_true rfl) rfl s21.2.2.2.2) <|
      z_l1 (k := 59) (Q := ze_Q (ze_ad aE a1 a2 a3 a4 aK aV aX b fmt) (fun q => s.heap.size ≤ q) s) (ze_Qs rfl rfl (Nat.le_of_ble_eq_true rfl) s21.2.1 s21.2.2.1 s21.2.2.2.1) <|
      z_l1 (k := 60) (Q := ze_Q (ze_ad aE a1 a2 a3 a4 aK aV aX b fmt) (fun q => s.heap.size ≤ q) s) (ze_Qa rfl rfl (Nat.le_of_ble_eq_true rfl) rfl s22.2.2.2.2) <|
      z_l1 (k := 61) (Q := ze_Q (ze_ad aE a1 a2 a3 a4 aK aV aX b fmt) (fun q => s.heap.size ≤ q) s) (ze_Qs rfl rfl (Nat.le_of_ble_eq_true rfl) s22.2.1 s22.2.2.1 s22.2.2.2.1) <|
      z_l1 (k := 62) (Q := ze_Q (ze_ad aE a1 a2 a3 a4 aK aV aX b fmt) (fun q => s.heap.size ≤ q) s) (ze_Qa rfl rfl (Nat.le_of_ble_eq_true rfl) rfl s23.2.2.2.2) <|
      z_l1 (k := 63) (Q := ze_Q (ze_ad aE a1 a2 a3 a4 aK aV aX b fmt) (fun q => s.heap.size ≤ q) s) (ze_Qs rfl rfl (Nat.le_of_ble_eq_true rfl) s23.2.1 s23.2.2.1 s23.2.2.2.1) <|
      z_l1 (k := 64) (Q := ze_Q (ze_ad aE a1 a2 a3 a4 aK aV aX b fmt) (fun q => s.heap.size ≤ q) s) (ze_Qa rfl rfl (Nat.le_of_ble_eq_true rfl) rfl s24.2.2.2.2) <|
      z_l1 (k := 65) (Q := ze_Q (ze_ad aE a1 a2 a3 a4 aK aV aX b fmt) (fun q => s.heap.size ≤ q) s) (ze_Qs rfl rfl (Nat.le_of_ble_eq_true rfl) s24.2.1 s24.2.2.1 s24.2.2.2.1) <|
      z_l1 (k := 66) (Q := ze_Q (ze_ad aE a1 a2 a3 a4 aK aV aX b fmt) (fun q => s.heap.size ≤ q) s) (ze_Qa rfl rfl (Nat.le_of_ble_eq_true rfl) rfl s25.2.2.2.2) <|
      z_l1 (k := 67) (Q := ze_Q (ze_ad aE a1 a2 a3 a4 aK aV aX b fmt) (fun q => s.heap.size ≤ q) s) (ze_Qs rfl rfl (Nat.le_of_ble_eq_true rfl) s25.2.1 s25.2.2.1 s25.2.2.2.1) <|
      z_l1 (k := 68) (Q := ze_Q (ze_ad aE a1 a2 a3 a4 aK aV aX b fmt) (fun q => s.heap.size ≤ q) s) (ze_Qa rfl rfl (Nat.le_of_ble_eq_true rfl) rfl s26.2.2.2.2) <|
      z_l1 (k := 69) (Q := ze_Q (ze_ad aE a1 a2 a3 a4 aK aV aX b fmt) (fun q => s.heap.size ≤ q) s) (ze_Qs rfl rfl (Nat.le_of_ble_eq_true rfl) s26.2.1 s26.2.2.1 s26.2.2.2.1) <|
      z_l1 (k := 70) (Q := ze_Q (ze_ad aE a1 a2 a3 a4 aK aV aX b fmt) (fun q => s.heap.size ≤ q) s) (ze_Qa rfl rfl (Nat.le_of_ble_eq_true rfl) rfl s27.2.2.2.2) <|
      z_l1 (k := 71) (Q := ze_Q (ze_ad aE a1 a2 a3 a4 aK aV aX b fmt) (fun q => s.heap.size ≤ q) s) (ze_Qs rfl rfl (Nat.le_of_ble_eq_true rfl) s27.2.1 s27.2.2.1 s27.2.2.2.1) <|
      z_l1 (k := 72) (Q := ze_Q (ze_ad aE a1 a2 a3 a4 aK aV aX b fmt) (fun q => s.heap.size ≤ q) s) (ze_Qa rfl rfl (Nat.le_of_ble_eq_true rfl) rfl s28.2.2.2.2) <|
      z_l1 (k := 73) (Q := ze_Q (ze_ad aE a1 a2 a3 a4 aK aV aX b fmt) (fun q => s.heap.size ≤ q) s) (ze_Qs rfl rfl (Nat.le_of_ble_eq_true rfl) s28.2.1 s28.2.2.1 s28.2.2.2.1) <|
      z_l1 (k := 74) (Q := ze_Q (ze_ad aE a1 a2 a3 a4 aK aV aX b fmt) (fun q => s.heap.size ≤ q) s) (by
      obtain ⟨scr, x1, x2, x3, x4, x5⟩ := hX
      refine ze_Qa (l := (List.range L).map xs) rfl rfl (Nat.le_of_ble_eq_true rfl) rfl ⟨scr, x1, x2, x3, ?_, ?_, ?_, hA b hbl⟩
      · rw [List.length_map, List.length_range, x4]; exact Nat.le_refl _
      · rw [List.length_map, List.length_range, x4]
      · intro j hj
        rw [List.length_map, List.length_range] at hj
        rw [x5 j hj]
        simp [List.getD_eq_getElem?_getD, List.getElem?_map, List.getElem?_range hj]) <|
      z_l0
  · exact z_l9 (Q := fun (_ : Nat) (q : zF) => z_vk 0 q.2.2.2 ∧ va_Z q.1 q.2.1 q.2.2.1 (z_cv (ze_ad aE a1 a2 a3 a4 aK aV aX b fmt) q.2.2.2) (fun q => s.heap.size ≤ q) s s.heap) <|
      z_l1 (k := 0) (Q := fun (_ : Nat) (q : zF) => z_vk 0 q.2.2.2 ∧ va_Z q.1 q.2.1 q.2.2.1 (z_cv (ze_ad aE a1 a2 a3 a4 aK aV aX b fmt) q.2.2.2) (fun q => s.heap.size ≤ q) s s.heap) ⟨Or.inr (Nat.le_of_ble_eq_true rfl), va_Zof (hts (Jvm.Cond.laysStatic "LyndonBench$Command" "TEXT" "LLyndonBench$Command;") (z_lt8 68 rfl)) (hts (Jvm.Cond.initialized "LyndonBench$Command") (z_lt1 17 rfl)) n0.1 hA⟩ <|
      z_l1 (k := 1) (Q := fun (_ : Nat) (q : zF) => z_vk 0 q.2.2.2 ∧ va_Z q.1 q.2.1 q.2.2.1 (z_cv (ze_ad aE a1 a2 a3 a4 aK aV aX b fmt) q.2.2.2) (fun q => s.heap.size ≤ q) s s.heap) ⟨Or.inr (Nat.le_of_ble_eq_true rfl), va_Zof (hts (Jvm.Cond.laysStatic "LyndonBench$Command" "APPEND" "LLyndonBench$Command;") (z_lt8 69 rfl)) (hts (Jvm.Cond.initialized "LyndonBench$Command") (z_lt1 17 rfl)) n1.1 hA⟩ <|
      z_l1 (k := 2) (Q := fun (_ : Nat) (q : zF) => z_vk 0 q.2.2.2 ∧ va_Z q.1 q.2.1 q.2.2.1 (z_cv (ze_ad aE a1 a2 a3 a4 aK aV aX b fmt) q.2.2.2) (fun q => s.heap.size ≤ q) s s.heap) ⟨Or.inr (Nat.le_of_ble_eq_true rfl), va_Zof (hts (Jvm.Cond.laysStatic "LyndonBench$Command" "DROP" "LLyndonBench$Command;") (z_lt8 70 rfl)) (hts (Jvm.Cond.initialized "LyndonBench$Command") (z_lt1 17 rfl)) n2.1 hA⟩ <|
      z_l1 (k := 3) (Q := fun (_ : Nat) (q : zF) => z_vk 0 q.2.2.2 ∧ va_Z q.1 q.2.1 q.2.2.1 (z_cv (ze_ad aE a1 a2 a3 a4 aK aV aX b fmt) q.2.2.2) (fun q => s.heap.size ≤ q) s s.heap) ⟨Or.inr (Nat.le_of_ble_eq_true rfl), va_Zof (hts (Jvm.Cond.laysStatic "LyndonBench$Command" "PART" "LLyndonBench$Command;") (z_lt8 71 rfl)) (hts (Jvm.Cond.initialized "LyndonBench$Command") (z_lt1 17 rfl)) n3.1 hA⟩ <|
      z_l1 (k := 4) (Q := fun (_ : Nat) (q : zF) => z_vk 0 q.2.2.2 ∧ va_Z q.1 q.2.1 q.2.2.1 (z_cv (ze_ad aE a1 a2 a3 a4 aK aV aX b fmt) q.2.2.2) (fun q => s.heap.size ≤ q) s s.heap) ⟨Or.inr (Nat.le_of_ble_eq_true rfl), va_Zof (hts (Jvm.Cond.laysStatic "LyndonBench$Command" "ROTATE" "LLyndonBench$Command;") (z_lt8 72 rfl)) (hts (Jvm.Cond.initialized "LyndonBench$Command") (z_lt1 17 rfl)) n4.1 hA⟩ <|
      z_l1 (k := 5) (Q := fun (_ : Nat) (q : zF) => z_vk 0 q.2.2.2 ∧ va_Z q.1 q.2.1 q.2.2.1 (z_cv (ze_ad aE a1 a2 a3 a4 aK aV aX b fmt) q.2.2.2) (fun q => s.heap.size ≤ q) s s.heap) ⟨Or.inr (Nat.le_of_ble_eq_true rfl), va_Zof (hts (Jvm.Cond.laysStatic "LyndonBench$Command" "REVERSE" "LLyndonBench$Command;") (z_lt8 73 rfl)) (hts (Jvm.Cond.initialized "LyndonBench$Command") (z_lt1 17 rfl)) n5.1 hA⟩ <|
      z_l1 (k := 6) (Q := fun (_ : Nat) (q : zF) => z_vk 0 q.2.2.2 ∧ va_Z q.1 q.2.1 q.2.2.1 (z_cv (ze_ad aE a1 a2 a3 a4 aK aV aX b fmt) q.2.2.2) (fun q => s.heap.size ≤ q) s s.heap) ⟨Or.inr (Nat.le_of_ble_eq_true rfl), va_Zof (hts (Jvm.Cond.laysStatic "LyndonBench$Command" "LEAST" "LLyndonBench$Command;") (z_lt8 74 rfl)) (hts (Jvm.Cond.initialized "LyndonBench$Command") (z_lt1 17 rfl)) n6.1 hA⟩ <|
      z_l1 (k := 7) (Q := fun (_ : Nat) (q : zF) => z_vk 0 q.2.2.2 ∧ va_Z q.1 q.2.1 q.2.2.1 (z_cv (ze_ad aE a1 a2 a3 a4 aK aV aX b fmt) q.2.2.2) (fun q => s.heap.size ≤ q) s s.heap) ⟨Or.inr (Nat.le_of_ble_eq_true rfl), va_Zof (hts (Jvm.Cond.laysStatic "LyndonBench$Command" "NEXT" "LLyndonBench$Command;") (z_lt8 75 rfl)) (hts (Jvm.Cond.initialized "LyndonBench$Command") (z_lt1 17 rfl)) n7.1 hA⟩ <|
      z_l1 (k := 8) (Q := fun (_ : Nat) (q : zF) => z_vk 0 q.2.2.2 ∧ va_Z q.1 q.2.1 q.2.2.1 (z_cv (ze_ad aE a1 a2 a3 a4 aK aV aX b fmt) q.2.2.2) (fun q => s.heap.size ≤ q) s s.heap) ⟨Or.inr (Nat.le_of_ble_eq_true rfl), va_Zof (hts (Jvm.Cond.laysStatic "LyndonBench$Command" "KEEP" "LLyndonBench$Command;") (z_lt8 76 rfl)) (hts (Jvm.Cond.initialized "LyndonBench$Command") (z_lt1 17 rfl)) n8.1 hA⟩ <|
      z_l1 (k := 9) (Q := fun (_ : Nat) (q : zF) => z_vk 0 q.2.2.2 ∧ va_Z q.1 q.2.1 q.2.2.1 (z_cv (ze_ad aE a1 a2 a3 a4 aK aV aX b fmt) q.2.2.2) (fun q => s.heap.size ≤ q) s s.heap) ⟨Or.inr (Nat.le_of_ble_eq_true rfl), va_Zof (hts (Jvm.Cond.laysStatic "LyndonBench$Command" "REMOVE" "LLyndonBench$Command;") (z_lt8 77 rfl)) (hts (Jvm.Cond.initialized "LyndonBench$Command") (z_lt1 17 rfl)) n9.1 hA⟩ <|
      z_l1 (k := 10) (Q := fun (_ : Nat) (q : zF) => z_vk 0 q.2.2.2 ∧ va_Z q.1 q.2.1 q.2.2.1 (z_cv (ze_ad aE a1 a2 a3 a4 aK aV aX b fmt) q.2.2.2) (fun q => s.heap.size ≤ q) s s.heap) ⟨Or.inr (Nat.le_of_ble_eq_true rfl), va_Zof (hts (Jvm.Cond.laysStatic "LyndonBench$Command" "JOIN" "LLyndonBench$Command;") (z_lt8 78 rfl)) (hts (Jvm.Cond.initialized "LyndonBench$Command") (z_lt1 17 rfl)) n10.1 hA⟩ <|
      z_l1 (k := 11) (Q := fun (_ : Nat) (q : zF) => z_vk 0 q.2.2.2 ∧ va_Z q.1 q.2.1 q.2.2.1 (z_cv (ze_ad aE a1 a2 a3 a4 aK aV aX b fmt) q.2.2.2) (fun q => s.heap.size ≤ q) s s.heap) ⟨Or.inr (Nat.le_of_ble_eq_true rfl), va_Zof (hts (Jvm.Cond.laysStatic "LyndonBench$Command" "REPEAT" "LLyndonBench$Command;") (z_lt2 72 rfl)) (hts (Jvm.Cond.initialized "LyndonBench$Command") (z_lt1 17 rfl)) n11.1 hA⟩ <|
      z_l1 (k := 12) (Q := fun (_ : Nat) (q : zF) => z_vk 0 q.2.2.2 ∧ va_Z q.1 q.2.1 q.2.2.1 (z_cv (ze_ad aE a1 a2 a3 a4 aK aV aX b fmt) q.2.2.2) (fun q => s.heap.size ≤ q) s s.heap) ⟨Or.inr (Nat.le_of_ble_eq_true rfl), va_Zof (hts (Jvm.Cond.laysStatic "LyndonBench$Command" "ALL" "[LLyndonBench$Command;") (z_lt2 69 rfl)) (hts (Jvm.Cond.initialized "LyndonBench$Command") (z_lt1 17 rfl)) e1 hA⟩ <|
      z_l1 (k := 13) (Q := fun (_ : Nat) (q : zF) => z_vk 0 q.2.2.2 ∧ va_Z q.1 q.2.1 q.2.2.1 (z_cv (ze_ad aE a1 a2 a3 a4 aK aV aX b fmt) q.2.2.2) (fun q => s.heap.size ≤ q) s s.heap) ⟨Or.inr (Nat.le_of_ble_eq_true rfl), va_Zof (hts (Jvm.Cond.laysStatic "LyndonBench" "MOEBIUS" "[I") (z_lt3 164 rfl)) (hts (Jvm.Cond.initialized "LyndonBench") (z_lt1 1 rfl)) e2 hA⟩ <|
      z_l1 (k := 14) (Q := fun (_ : Nat) (q : zF) => z_vk 0 q.2.2.2 ∧ va_Z q.1 q.2.1 q.2.2.1 (z_cv (ze_ad aE a1 a2 a3 a4 aK aV aX b fmt) q.2.2.2) (fun q => s.heap.size ≤ q) s s.heap) ⟨Or.inr (Nat.le_of_ble_eq_true rfl), va_Zof (hts (Jvm.Cond.laysStatic "LyndonBench" "TOTIENT" "[I") (z_lt3 172 rfl)) (hts (Jvm.Cond.initialized "LyndonBench") (z_lt1 1 rfl)) e3 hA⟩ <|
      z_l1 (k := 15) (Q := fun (_ : Nat) (q : zF) => z_vk 0 q.2.2.2 ∧ va_Z q.1 q.2.1 q.2.2.1 (z_cv (ze_ad aE a1 a2 a3 a4 aK aV aX b fmt) q.2.2.2) (fun q => s.heap.size ≤ q) s s.heap) ⟨Or.inr (Nat.le_of_ble_eq_true rfl), va_Zof (hts (Jvm.Cond.laysStatic "LyndonBench$1" "$SwitchMap$LyndonBench$Command" "[I") (z_lt2 78 rfl)) (hts (Jvm.Cond.initialized "LyndonBench$1") (z_lt1 18 rfl)) e4 hA⟩ <|
      z_l1 (k := 16) (Q := fun (_ : Nat) (q : zF) => z_vk 0 q.2.2.2 ∧ va_Z q.1 q.2.1 q.2.2.1 (z_cv (ze_ad aE a1 a2 a3 a4 aK aV aX b fmt) q.2.2.2) (fun q => s.heap.size ≤ q) s s.heap) ⟨trivial, va_Zof (hts (Jvm.Cond.laysStatic "java/lang/String" "COMPACT_STRINGS" "Z") (z_lt1 168 rfl)) (hts (Jvm.Cond.initialized "java/lang/String") (z_lt1 7 rfl)) (va_eqi u7) hA⟩ <|
      z_l1 (k := 17) (Q := fun (_ : Nat) (q : zF) => z_vk 0 q.2.2.2 ∧ va_Z q.1 q.2.1 q.2.2.1 (z_cv (ze_ad aE a1 a2 a3 a4 aK aV aX b fmt) q.2.2.2) (fun q => s.heap.size ≤ q) s s.heap) ⟨Or.inr (Nat.le_of_ble_eq_true rfl), hfmt⟩ <|
      z_l0
  · exact z_l9 (Q := fun (_ : Nat) (q : zS) => 1000000 ≤ q.2.2.2 ∧ ∃ t : Nat, ze_ad aE a1 a2 a3 a4 aK aV aX b fmt q.2.2.2 = some t ∧ vk_R q.1 q.2.1 q.2.2.1 t s) <|
      z_l1 (k := 0) (Q := fun (_ : Nat) (q : zS) => 1000000 ≤ q.2.2.2 ∧ ∃ t : Nat, ze_ad aE a1 a2 a3 a4 aK aV aX b fmt q.2.2.2 = some t ∧ vk_R q.1 q.2.1 q.2.2.1 t s) ⟨Nat.le_of_ble_eq_true rfl, aK 0, rfl, vk_R.of (hts (Jvm.Cond.stringRef "LyndonBench" (55 : Nat) "acabaabaccabab") (z_lt1 154 rfl)) s0.1⟩ <|
      z_l1 (k := 1) (Q := fun (_ : Nat) (q : zS) => 1000000 ≤ q.2.2.2 ∧ ∃ t : Nat, ze_ad aE a1 a2 a3 a4 aK aV aX b fmt q.2.2.2 = some t ∧ vk_R q.1 q.2.1 q.2.2.1 t s) ⟨Nat.le_of_ble_eq_true rfl, aK 1, rfl, vk_R.of (hts (Jvm.Cond.stringRef "LyndonBench" (61 : Nat) "abacab") (z_lt1 211 rfl)) s1.1⟩ <|
      z_l1 (k := 2) (Q := fun (_ : Nat) (q : zS) => 1000000 ≤ q.2.2.2 ∧ ∃ t : Nat, ze_ad aE a1 a2 a3 a4 aK aV aX b fmt q.2.2.2 = some t ∧ vk_R q.1 q.2.1 q.2.2.1 t s) ⟨Nat.le_of_ble_eq_true rfl, aX 2, rfl, vk_R.of (hts (Jvm.Cond.stringRef "LyndonBench" (79 : Nat) "the input buffer is not so long") (z_lt4 9 rfl)) (hXs 2 _ rfl)⟩ <|
      z_l1 (k := 3) (Q := fun (_ : Nat) (q : zS) => 1000000 ≤ q.2.2.2 ∧ ∃ t : Nat, ze_ad aE a1 a2 a3 a4 aK aV aX b fmt q.2.2.2 = some t ∧ vk_R q.1 q.2.1 q.2.2.1 t s) ⟨Nat.le_of_ble_eq_true rfl, aX 3, rfl, vk_R.of (hts (Jvm.Cond.stringRef "LyndonBench" (102 : Nat) "there are 2 to 9 letters") (z_lt4 44 rfl)) (hXs 3 _ rfl)⟩ <|
      z_l1 (k := 4) (Q := fun (_ : Nat) (q : zS) => 1000000 ≤ q.2.2.2 ∧ ∃ t : Nat, ze_ad aE a1 a2 a3 a4 aK aV aX b fmt q.2.2.2 = some t ∧ vk_R q.1 q.2.1 q.2.2.1 t s) ⟨Nat.le_of_ble_eq_true rfl, aX 4, rfl, vk_R.of (hts (Jvm.Cond.stringRef "LyndonBench" (110 : Nat) "a letter is still used") (z_lt4 62 rfl)) (hXs 4 _ rfl)⟩ <|
      z_l1 (k := 5) (Q := fun (_ : Nat) (q : zS) => 1000000 ≤ q.2.2.2 ∧ ∃ t : Nat, ze_ad aE a1 a2 a3 a4 aK aV aX b fmt q.2.2.2 = some t ∧ vk_R q.1 q.2.1 q.2.2.1 t s) ⟨Nat.le_of_ble_eq_true rfl, aX 5, rfl, vk_R.of (hts (Jvm.Cond.stringRef "LyndonBench" (123 : Nat) "a text has at most 120 letters") (z_lt4 77 rfl)) (hXs 5 _ rfl)⟩ <|
      z_l1 (k := 6) (Q := fun (_ : Nat) (q : zS) => 1000000 ≤ q.2.2.2 ∧ ∃ t : Nat, ze_ad aE a1 a2 a3 a4 aK aV aX b fmt q.2.2.2 = some t ∧ vk_R q.1 q.2.1 q.2.2.1 t s) ⟨Nat.le_of_ble_eq_true rfl, aX 6, rfl, vk_R.of (hts (Jvm.Cond.stringRef "LyndonBench" (154 : Nat) "the text is empty") (z_lt4 130 rfl)) (hXs 6 _ rfl)⟩ <|
      z_l1 (k := 7) (Q := fun (_ : Nat) (q : zS) => 1000000 ≤ q.2.2.2 ∧ ∃ t : Nat, ze_ad aE a1 a2 a3 a4 aK aV aX b fmt q.2.2.2 = some t ∧ vk_R q.1 q.2.1 q.2.2.1 t s) ⟨Nat.le_of_ble_eq_true rfl, aX 7, rfl, vk_R.of (hts (Jvm.Cond.stringRef "LyndonBench" (159 : Nat) "the greatest length is 1 to 120") (z_lt4 138 rfl)) (hXs 7 _ rfl)⟩ <|
      z_l1 (k := 8) (Q := fun (_ : Nat) (q : zS) => 1000000 ≤ q.2.2.2 ∧ ∃ t : Nat, ze_ad aE a1 a2 a3 a4 aK aV aX b fmt q.2.2.2 = some t ∧ vk_R q.1 q.2.1 q.2.2.1 t s) ⟨Nat.le_of_ble_eq_true rfl, aX 8, rfl, vk_R.of (hts (Jvm.Cond.stringRef "LyndonBench" (164 : Nat) "there is no next Lyndon word") (z_lt4 140 rfl)) (hXs 8 _ rfl)⟩ <|
      z_l1 (k := 9) (Q := fun (_ : Nat) (q : zS) => 1000000 ≤ q.2.2.2 ∧ ∃ t : Nat, ze_ad aE a1 a2 a3 a4 aK aV aX b fmt q.2.2.2 = some t ∧ vk_R q.1 q.2.1 q.2.2.1 t s) ⟨Nat.le_of_ble_eq_true rfl, aX 9, rfl, vk_R.of (hts (Jvm.Cond.stringRef "LyndonBench" (181 : Nat) "the factor can't be kept") (z_lt4 173 rfl)) (hXs 9 _ rfl)⟩ <|
      z_l1 (k := 10) (Q := fun (_ : Nat) (q : zS) => 1000000 ≤ q.2.2.2 ∧ ∃ t : Nat, ze_ad aE a1 a2 a3 a4 aK aV aX b fmt q.2.2.2 = some t ∧ vk_R q.1 q.2.1 q.2.2.1 t s) ⟨Nat.le_of_ble_eq_true rfl, aX 10, rfl, vk_R.of (hts (Jvm.Cond.stringRef "LyndonBench" (186 : Nat) "the text can't be kept") (z_lt4 181 rfl)) (hXs 10 _ rfl)⟩ <|
      z_l1 (k := 11) (Q := fun (_ : Nat) (q : zS) => 1000000 ≤ q.2.2.2 ∧ ∃ t : Nat, ze_ad aE a1 a2 a3 a4 aK aV aX b fmt q.2.2.2 = some t ∧ vk_R q.1 q.2.1 q.2.2.1 t s) ⟨Nat.le_of_ble_eq_true rfl, aX 11, rfl, vk_R.of (hts (Jvm.Cond.stringRef "LyndonBench" (194 : Nat) "there is no such kept word") (z_lt4 189 rfl)) (hXs 11 _ rfl)⟩ <|
      z_l1 (k := 12) (Q := fun (_ : Nat) (q : zS) => 1000000 ≤ q.2.2.2 ∧ ∃ t : Nat, ze_ad aE a1 a2 a3 a4 aK aV aX b fmt q.2.2.2 = some t ∧ vk_R q.1 q.2.1 q.2.2.1 t s) ⟨Nat.le_of_ble_eq_true rfl, aX 12, rfl, vk_R.of (hts (Jvm.Cond.stringRef "LyndonBench" (203 : Nat) "the kept words can't be joined") (z_lt4 199 rfl)) (hXs 12 _ rfl)⟩ <|
      z_l1 (k := 13) (Q := fun (_ : Nat) (q : zS) => 1000000 ≤ q.2.2.2 ∧ ∃ t : Nat, ze_ad aE a1 a2 a3 a4 aK aV aX b fmt q.2.2.2 = some t ∧ vk_R q.1 q.2.1 q.2.2.1 t s) ⟨Nat.le_of_ble_eq_true rfl, aX 13, rfl, vk_R.of (hts (Jvm.Cond.stringRef "LyndonBench" (217 : Nat) "no snapshot was saved") (z_lt4 218 rfl)) (hXs 13 _ rfl)⟩ <|
      z_l1 (k := 14) (Q := fun (_ : Nat) (q : zS) => 1000000 ≤ q.2.2.2 ∧ ∃ t : Nat, ze_ad aE a1 a2 a3 a4 aK aV aX b fmt q.2.2.2 = some t ∧ vk_R q.1 q.2.1 q.2.2.1 t s) ⟨Nat.le_of_ble_eq_true rfl, aX 14, rfl, vk_R.of (hts (Jvm.Cond.stringRef "LyndonBench" (279 : Nat) "there is no row of this order") (z_lt5 73 rfl)) (hXs 14 _ rfl)⟩ <|
      z_l1 (k := 15) (Q := fun (_ : Nat) (q : zS) => 1000000 ≤ q.2.2.2 ∧ ∃ t : Nat, ze_ad aE a1 a2 a3 a4 aK aV aX b fmt q.2.2.2 = some t ∧ vk_R q.1 q.2.1 q.2.2.1 t s) ⟨Nat.le_of_ble_eq_true rfl, aX 15, rfl, vk_R.of (hts (Jvm.Cond.stringRef "LyndonBench" (284 : Nat) "the row has no such letter") (z_lt5 78 rfl)) (hXs 15 _ rfl)⟩ <|
      z_l1 (k := 16) (Q := fun (_ : Nat) (q : zS) => 1000000 ≤ q.2.2.2 ∧ ∃ t : Nat, ze_ad aE a1 a2 a3 a4 aK aV aX b fmt q.2.2.2 = some t ∧ vk_R q.1 q.2.1 q.2.2.1 t s) ⟨Nat.le_of_ble_eq_true rfl, aX 16, rfl, vk_R.of (hts (Jvm.Cond.stringRef "LyndonBench" (295 : Nat) "this is not one of the letters") (z_lt4 89 rfl)) (hXs 16 _ rfl)⟩ <|
      z_l1 (k := 17) (Q := fun (_ : Nat) (q : zS) => 1000000 ≤ q.2.2.2 ∧ ∃ t : Nat, ze_ad aE a1 a2 a3 a4 aK aV aX b fmt q.2.2.2 = some t ∧ vk_R q.1 q.2.1 q.2.2.1 t s) ⟨Nat.le_of_ble_eq_true rfl, aX 17, rfl, vk_R.of (hts (Jvm.Cond.stringRef "LyndonBench" (297 : Nat) "the text has not so many letters") (z_lt4 101 rfl)) (hXs 17 _ rfl)⟩ <|
      z_l1 (k := 18) (Q := fun (_ : Nat) (q : zS) => 1000000 ≤ q.2.2.2 ∧ ∃ t : Nat, ze_ad aE a1 a2 a3 a4 aK aV aX b fmt q.2.2.2 = some t ∧ vk_R q.1 q.2.1 q.2.2.1 t s) ⟨Nat.le_of_ble_eq_true rfl, aX 18, rfl, vk_R.of (hts (Jvm.Cond.stringRef "LyndonBench" (299 : Nat) "the text has no such part") (z_lt4 113 rfl)) (hXs 18 _ rfl)⟩ <|
      z_l1 (k := 19) (Q := fun (_ : Nat) (q : zS) => 1000000 ≤ q.2.2.2 ∧ ∃ t : Nat, ze_ad aE a1 a2 a3 a4 aK aV aX b fmt q.2.2.2 = some t ∧ vk_R q.1 q.2.1 q.2.2.1 t s) ⟨Nat.le_of_ble_eq_true rfl, aX 19, rfl, vk_R.of (hts (Jvm.Cond.stringRef "LyndonBench" (301 : Nat) "words of 1 to 18 letters are counted") (z_lt5 58 rfl)) (hXs 19 _ rfl)⟩ <|
      z_l1 (k := 20) (Q := fun (_ : Nat) (q : zS) => 1000000 ≤ q.2.2.2 ∧ ∃ t : Nat, ze_ad aE a1 a2 a3 a4 aK aV aX b fmt q.2.2.2 = some t ∧ vk_R q.1 q.2.1 q.2.2.1 t s) ⟨Nat.le_of_ble_eq_true rfl, aX 20, rfl, vk_R.of (hts (Jvm.Cond.stringRef "LyndonBench" (306 : Nat) "there is no such factor") (z_lt4 165 rfl)) (hXs 20 _ rfl)⟩ <|
      z_l1 (k := 21) (Q := fun (_ : Nat) (q : zS) => 1000000 ≤ q.2.2.2 ∧ ∃ t : Nat, ze_ad aE a1 a2 a3 a4 aK aV aX b fmt q.2.2.2 = some t ∧ vk_R q.1 q.2.1 q.2.2.1 t s) ⟨Nat.le_of_ble_eq_true rfl, aK 2, rfl, vk_R.of (hts (Jvm.Cond.stringRef "LyndonBench$Command" (73 : Nat) "text") (z_lt8 80 rfl)) s2.1⟩ <|
      z_l1 (k := 22) (Q := fun (_ : Nat) (q : zS) => 1000000 ≤ q.2.2.2 ∧ ∃ t : Nat, ze_ad aE a1 a2 a3 a4 aK aV aX b fmt q.2.2.2 = some t ∧ vk_R q.1 q.2.1 q.2.2.1 t s) ⟨Nat.le_of_ble_eq_true rfl, aK 3, rfl, vk_R.of (hts (Jvm.Cond.stringRef "LyndonBench$Command" (79 : Nat) "append") (z_lt8 81 rfl)) s3.1⟩ <|
      z_l1 (k := 23) (Q := fun (_ : Nat) (q : zS) => 1000000 ≤ q.2.2.2 ∧ ∃ t : Nat, ze_ad aE a1 a2 a3 a4 aK aV aX b fmt q.2.2.2 = some t ∧ vk_R q.1 q.2.1 q.2.2.1 t s) ⟨Nat.le_of_ble_eq_true rfl, aK 4, rfl, vk_R.of (hts (Jvm.Cond.stringRef "LyndonBench$Command" (82 : Nat) "drop") (z_lt8 82 rfl)) s4.1⟩ <|
      z_l1 (k := 24) (Q := fun (_ : Nat) (q : zS) => 1000000 ≤ q.2.2.2 ∧ ∃ t : Nat, ze_ad aE a1 a2 a3 a4 aK aV aX b fmt q.2.2.2 = some t ∧ vk_R q.1 q.2.1 q.2.2.1 t s) ⟨Nat.le_of_ble_eq_true rfl, aK 5, rfl, vk_R.of (hts (Jvm.Cond.stringRef "LyndonBench$Command" (85 : Nat) "part") (z_lt8 83 rfl)) s5.1⟩ <|
      z_l1 (k := 25) (Q := fun (_ : Nat) (q : zS) => 1000000 ≤ q.2.2.2 ∧ ∃ t : Nat, ze_ad aE a1 a2 a3 a4 aK aV aX b fmt q.2.2.2 = some t ∧ vk_R q.1 q.2.1 q.2.2.1 t s) ⟨Nat.le_of_ble_eq_true rfl, aK 6, rfl, vk_R.of (hts (Jvm.Cond.stringRef "LyndonBench$Command" (88 : Nat) "rotate") (z_lt8 84 rfl)) s6.1⟩ <|
      z_l1 (k := 26) (Q := fun (_ : Nat) (q : zS) => 1000000 ≤ q.2.2.2 ∧ ∃ t : Nat, ze_ad aE a1 a2 a3 a4 aK aV aX b fmt q.2.2.2 = some t ∧ vk_R q.1 q.2.1 q.2.2.1 t s) ⟨Nat.le_of_ble_eq_true rfl, aK 7, rfl, vk_R.of (hts (Jvm.Cond.stringRef "LyndonBench$Command" (91 : Nat) "reverse") (z_lt8 85 rfl)) s7.1⟩ <|
      z_l1 (k := 27) (Q := fun (_ : Nat) (q : zS) => 1000000 ≤ q.2.2.2 ∧ ∃ t : Nat, ze_ad aE a1 a2 a3 a4 aK aV aX b fmt q.2.2.2 = some t ∧ vk_R q.1 q.2.1 q.2.2.1 t s) ⟨Nat.le_of_ble_eq_true rfl, aK 8, rfl, vk_R.of (hts (Jvm.Cond.stringRef "LyndonBench$Command" (94 : Nat) "least") (z_lt8 86 rfl)) s8.1⟩ <|
      z_l1 (k := 28) (Q := fun (_ : Nat) (q : zS) => 1000000 ≤ q.2.2.2 ∧ ∃ t : Nat, ze_ad aE a1 a2 a3 a4 aK aV aX b fmt q.2.2.2 = some t ∧ vk_R q.1 q.2.1 q.2.2.1 t s) ⟨Nat.le_of_ble_eq_true rfl, aK 9, rfl, vk_R.of (hts (Jvm.Cond.stringRef "LyndonBench$Command" (97 : Nat) "next") (z_lt8 87 rfl)) s9.1⟩ <|
      z_l1 (k := 29) (Q := fun (_ : Nat) (q : zS) => 1000000 ≤ q.2.2.2 ∧ ∃ t : Nat, ze_ad aE a1 a2 a3 a4 aK aV aX b fmt q.2.2.2 = some t ∧ vk_R q.1 q.2.1 q.2.2.1 t s) ⟨Nat.le_of_ble_eq_true rfl, aK 10, rfl, vk_R.of (hts (Jvm.Cond.stringRef "LyndonBench$Command" (100 : Nat) "keep") (z_lt8 88 rfl)) s10.1⟩ <|
      z_l1 (k := 30) (Q := fun (_ : Nat) (q : zS) => 1000000 ≤ q.2.2.2 ∧ ∃ t : Nat, ze_ad aE a1 a2 a3 a4 aK aV aX b fmt q.2.2.2 = some t ∧ vk_R q.1 q.2.1 q.2.2.1 t s) ⟨Nat.le_of_ble_eq_true rfl, aK 11, rfl, vk_R.of (hts (Jvm.Cond.stringRef "LyndonBench$Command" (103 : Nat) "remove") (z_lt8 89 rfl)) s11.1⟩ <|
      z_l1 (k := 31) (Q := fun (_ : Nat) (q : zS) => 1000000 ≤ q.2.2.2 ∧ ∃ t : Nat, ze_ad aE a1 a2 a3 a4 aK aV aX b fmt q.2.2.2 = some t ∧ vk_R q.1 q.2.1 q.2.2.1 t s) ⟨Nat.le_of_ble_eq_true rfl, aK 12, rfl, vk_R.of (hts (Jvm.Cond.stringRef "LyndonBench$Command" (106 : Nat) "join") (z_lt8 90 rfl)) s12.1⟩ <|
      z_l1 (k := 32) (Q := fun (_ : Nat) (q : zS) => 1000000 ≤ q.2.2.2 ∧ ∃ t : Nat, ze_ad aE a1 a2 a3 a4 aK aV aX b fmt q.2.2.2 = some t ∧ vk_R q.1 q.2.1 q.2.2.1 t s) ⟨Nat.le_of_ble_eq_true rfl, aK 13, rfl, vk_R.of (hts (Jvm.Cond.stringRef "LyndonBench$Command" (109 : Nat) "repeat") (z_lt8 79 rfl)) s13.1⟩ <|
      z_l1 (k := 33) (Q := fun (_ : Nat) (q : zS) => 1000000 ≤ q.2.2.2 ∧ ∃ t : Nat, ze_ad aE a1 a2 a3 a4 aK aV aX b fmt q.2.2.2 = some t ∧ vk_R q.1 q.2.1 q.2.2.1 t s) ⟨Nat.le_of_ble_eq_true rfl, aK 14, rfl, vk_R.of (hts (Jvm.Cond.stringRef "LyndonBench$Script" (77 : Nat) "letters") (z_lt2 38 rfl)) s14.1⟩ <|
      z_l1 (k := 34) (Q := fun (_ : Nat) (q : zS) => 1000000 ≤ q.2.2.2 ∧ ∃ t : Nat, ze_ad aE a1 a2 a3 a4 aK aV aX b fmt q.2.2.2 = some t ∧ vk_R q.1 q.2.1 q.2.2.1 t s) ⟨Nat.le_of_ble_eq_true rfl, aK 15, rfl, vk_R.of (hts (Jvm.Cond.stringRef "LyndonBenchModel" (45 : Nat) "letters 3; text abacabaabacc; keep 0; keep 1; append ab; rotate 2;") (z_lt5 99 rfl)) s15.1⟩ <|
      z_l1 (k := 35) (Q := fun (_ : Nat) (q : zS) => 1000000 ≤ q.2.2.2 ∧ ∃ t : Nat, ze_ad aE a1 a2 a3 a4 aK aV aX b fmt q.2.2.2 = some t ∧ vk_R q.1 q.2.1 q.2.2.1 t s) ⟨Nat.le_of_ble_eq_true rfl, aK 16, rfl, vk_R.of (hts (Jvm.Cond.stringRef "LyndonBenchModel" (232 : Nat) "text") (z_lt5 149 rfl)) s16.1⟩ <|
      z_l1 (k := 36) (Q := fun (_ : Nat) (q : zS) => 1000000 ≤ q.2.2.2 ∧ ∃ t : Nat, ze_ad aE a1 a2 a3 a4 aK aV aX b fmt q.2.2.2 = some t ∧ vk_R q.1 q.2.1 q.2.2.1 t s) ⟨Nat.le_of_ble_eq_true rfl, aK 17, rfl, vk_R.of (hts (Jvm.Cond.stringRef "LyndonBenchModel" (237 : Nat) "append") (z_lt5 150 rfl)) s17.1⟩ <|
      z_l1 (k := 37) (Q := fun (_ : Nat) (q : zS) => 1000000 ≤ q.2.2.2 ∧ ∃ t : Nat, ze_ad aE a1 a2 a3 a4 aK aV aX b fmt q.2.2.2 = some t ∧ vk_R q.1 q.2.1 q.2.2.1 t s) ⟨Nat.le_of_ble_eq_true rfl, aK 18, rfl, vk_R.of (hts (Jvm.Cond.stringRef "LyndonBenchModel" (239 : Nat) "drop") (z_lt5 151 rfl)) s18.1⟩ <|
      z_l1 (k := 38) (Q := fun (_ : Nat) (q : zS) => 1000000 ≤ q.2.2.2 ∧ ∃ t : Nat, ze_ad aE a1 a2 a3 a4 aK aV aX b fmt q.2.2.2 = some t ∧ vk_R q.1 q.2.1 q.2.2.1 t s) ⟨Nat.le_of_ble_eq_true rfl, aK 19, rfl, vk_R.of (hts (Jvm.Cond.stringRef "LyndonBenchModel" (241 : Nat) "part") (z_lt5 152 rfl)) s19.1⟩ <|
      z_l1 (k := 39) (Q := fun (_ : Nat) (q : zS) => 1000000 ≤ q.2.2.2 ∧ ∃ t : Nat, ze_ad aE a1 a2 a3 a4 aK aV aX b fmt q.2.2.2 = some t ∧ vk_R q.1 q.2.1 q.2.2.1 t s) ⟨Nat.le_of_ble_eq_true rfl, aK 20, rfl, vk_R.of (hts (Jvm.Cond.stringRef "LyndonBenchModel" (243 : Nat) "rotate") (z_lt5 153 rfl)) s20.1⟩ <|
      z_l1 (k := 40) (Q := fun (_ : Nat) (q : zS) => 1000000 ≤ q.2.2.2 ∧ ∃ t : Nat, ze_ad aE a1 a2 a3 a4 aK aV aX b fmt q.2.2.2 = some t ∧ vk_R q.1 q.2.1 q.2.2.1 t s) ⟨Nat.le_of_ble_eq_true rfl, aK 21, rfl, vk_R.of (hts (Jvm.Cond.stringRef "LyndonBenchModel" (245 : Nat) "reverse") (z_lt5 154 rfl)) s21.1⟩ <|
      z_l1 (k := 41) (Q := fun (_ : Nat) (q : zS) => 1000000 ≤ q.2.2.2 ∧ ∃ t : Nat, ze_ad aE a1 a2 a3 a4 aK aV aX b fmt q.2.2.2 = some t ∧ vk_R q.1 q.2.1 q.2.2.1 t s) ⟨Nat.le_of_ble_eq_true rfl, aK 22, rfl, vk_R.of (hts (Jvm.Cond.stringRef "LyndonBenchModel" (250 : Nat) "least") (z_lt5 159 rfl)) s22.1⟩ <|
      z_l1 (k := 42) (Q := fun (_ : Nat) (q : zS) => 1000000 ≤ q.2.2.2 ∧ ∃ t : Nat, ze_ad aE a1 a2 a3 a4 aK aV aX b fmt q.2.2.2 = some t ∧ vk_R q.1 q.2.1 q.2.2.1 t s) ⟨Nat.le_of_ble_eq_true rfl, aK 23, rfl, vk_R.of (hts (Jvm.Cond.stringRef "LyndonBenchModel" (251 : Nat) "next") (z_lt5 160 rfl)) s23.1⟩ <|
      z_l1 (k := 43) (Q := fun (_ : Nat) (q : zS) => 1000000 ≤ q.2.2.2 ∧ ∃ t : Nat, ze_ad aE a1 a2 a3 a4 aK aV aX b fmt q.2.2.2 = some t ∧ vk_R q.1 q.2.1 q.2.2.1 t s) ⟨Nat.le_of_ble_eq_true rfl, aK 24, rfl, vk_R.of (hts (Jvm.Cond.stringRef "LyndonBenchModel" (252 : Nat) "keep") (z_lt5 161 rfl)) s24.1⟩ <|
      z_l1 (k := 44) (Q := fun (_ : Nat) (q : zS) => 1000000 ≤ q.2.2.2 ∧ ∃ t : Nat, ze_ad aE a1 a2 a3 a4 aK aV aX b fmt q.2.2.2 = some t ∧ vk_R q.1 q.2.1 q.2.2.1 t s) ⟨Nat.le_of_ble_eq_true rfl, aK 25, rfl, vk_R.of (hts (Jvm.Cond.stringRef "LyndonBenchModel" (254 : Nat) "remove") (z_lt5 162 rfl)) s25.1⟩ <|
      z_l1 (k := 45) (Q := fun (_ : Nat) (q : zS) => 1000000 ≤ q.2.2.2 ∧ ∃ t : Nat, ze_ad aE a1 a2 a3 a4 aK aV aX b fmt q.2.2.2 = some t ∧ vk_R q.1 q.2.1 q.2.2.1 t s) ⟨Nat.le_of_ble_eq_true rfl, aK 26, rfl, vk_R.of (hts (Jvm.Cond.stringRef "LyndonBenchModel" (256 : Nat) "join") (z_lt5 163 rfl)) s26.1⟩ <|
      z_l1 (k := 46) (Q := fun (_ : Nat) (q : zS) => 1000000 ≤ q.2.2.2 ∧ ∃ t : Nat, ze_ad aE a1 a2 a3 a4 aK aV aX b fmt q.2.2.2 = some t ∧ vk_R q.1 q.2.1 q.2.2.1 t s) ⟨Nat.le_of_ble_eq_true rfl, aK 27, rfl, vk_R.of (hts (Jvm.Cond.stringRef "LyndonBenchModel" (258 : Nat) "repeat") (z_lt5 164 rfl)) s27.1⟩ <|
      z_l1 (k := 47) (Q := fun (_ : Nat) (q : zS) => 1000000 ≤ q.2.2.2 ∧ ∃ t : Nat, ze_ad aE a1 a2 a3 a4 aK aV aX b fmt q.2.2.2 = some t ∧ vk_R q.1 q.2.1 q.2.2.1 t s) ⟨Nat.le_of_ble_eq_true rfl, aK 28, rfl, vk_R.of (hts (Jvm.Cond.stringRef "LyndonBenchModel" (305 : Nat) "letters") (z_lt5 121 rfl)) s28.1⟩ <|
      z_l0
  · intro x y hx1 hx2 hy1 hy2 he
    have h9 : ∀ z : Nat, 1000000 ≤ z → z < 1000012 → ze_ad aE a1 a2 a3 a4 aK aV aX b fmt z = some (aE (z - 1000000)) := fun z h1 h2 => by unfold ze_ad; rw [if_neg (by omega), if_pos h2]
    rw [h9 x hx1 hx2, h9 y hy1 hy2] at he
    have h10 := hEi _ _ (by omega) (by omega) (Option.some.inj he)
    omega
  · exact vx_Zqof (hts (Jvm.Cond.laysStatic "java/lang/Throwable" "UNASSIGNED_STACK" "[Ljava/lang/StackTraceElement;") (z_lt3 234 rfl)) (hts (Jvm.Cond.initialized "java/lang/Throwable") (z_lt1 12 rfl)) u9 hA
  · exact vx_Zqof (hts (Jvm.Cond.laysStatic "java/lang/Throwable" "SUPPRESSED_SENTINEL" "Ljava/util/List;") (z_lt3 236 rfl)) (hts (Jvm.Cond.initialized "java/lang/Throwable") (z_lt1 12 rfl)) u10 hA
  · intro w hw
    simp only [za_nw, List.mem_cons, List.not_mem_nil, or_false] at hw
    rcases hw with rfl | rfl | rfl | rfl | rfl | rfl | rfl | rfl | rfl | rfl
    · exact va_tabs rfl rfl (hts (Jvm.Cond.methodLinkNest "LyndonBench" (32 : Nat) ({ cls := "LyndonBench$Script", name := "<init>", desc := "()V" } : Jvm.MethodName) "LyndonBench") (z_lt1 94 rfl))
    · exact va_AO.of (hts (Jvm.Cond.arrayOver (Jvm.ClassFile.FieldType.object "LyndonBench$Word")) (z_lt1 56 rfl))
    · exact va_AO.of (hts (Jvm.Cond.arrayOver (Jvm.ClassFile.FieldType.object "LyndonBench$State")) (z_lt1 82 rfl))
    · exact va_tabs rfl rfl (hts (Jvm.Cond.castable "java/lang/IllegalArgumentException" "java/lang/IllegalArgumentException") (z_lt3 209 rfl))
    · exact va_tabs rfl rfl (hts (Jvm.Cond.castable "java/lang/IllegalStateException" "java/lang/IllegalStateException") (z_lt4 55 rfl))
    · exact va_tabs rfl rfl (hts (Jvm.Cond.castable "java/lang/IndexOutOfBoundsException" "java/lang/IndexOutOfBoundsException") (z_lt4 158 rfl))
    · exact va_tabs rfl rfl (hts (Jvm.Cond.castable "java/util/NoSuchElementException" "java/util/NoSuchElementException") (z_lt4 211 rfl))
    · exact va_tabs rfl rfl (hts (Jvm.Cond.declares ({ cls := "java/lang/RuntimeException", name := "<init>", desc := "(Ljava/lang/String;)V" } : Jvm.MethodName)) (z_lt3 211 rfl))
    · exact va_tabs rfl rfl (hts (Jvm.Cond.declares ({ cls := "java/lang/Exception", name := "<init>", desc := "(Ljava/lang/String;)V" } : Jvm.MethodName)) (z_lt3 213 rfl))
    · exact va_tabs rfl rfl (hts (Jvm.Cond.declares ({ cls := "java/lang/Throwable", name := "<init>", desc := "(Ljava/lang/String;)V" } : Jvm.MethodName)) (z_lt3 215 rfl))
theorem ze_fx {p : Program} {s : State} {m : MethodId} {meth : Method} {c : Code} {b L : Nat} {xs : Nat → Int32} (hLs : L < 2 ^ 31) (C0 : lw_At p s m meth c b L xs) : ∃ (D : va_G) (tys : List (ClassId × FieldType)) (ad0 : Nat → Option Nat), z_fx (za_T ((List.range L).map xs)) za_P za_M D tys (fun q => s.heap.size ≤ q) ad0 s ∧ ad0 1000074 = some b ∧ z_okS (za_T ((List.range L).map xs)) za_P za_M tys := by
  obtain ⟨-, -, -, -, -, hts, hX, hbl, -, hgv⟩ := C0
  obtain ⟨D, tys, k1, k2, k3⟩ := ze_K hts
  obtain ⟨ad0, g1, g2⟩ := ze_st hts hX hLs hbl hgv
  exact ⟨D, tys, ad0, ⟨fun q h => h, k1, g2, ze_nc hgv⟩, g1, za_okS _ k2 k3⟩
end
section
/-! THE LAW'S RUN out of a pure run. -/
theorem ze_run {p : Program} {e : Env} {s : State} {m : MethodId} {below : List Frame} {meth : Method} {c : Code} (l : Launch) (hflags : l.flags = flags0) {b L : Nat} {xs : Nat → Int32} (hLs : L < 2 ^ 31) (C0 : lw_At p s m meth c b L xs)
    (hz : ∃ (f d : Nat) (h2 : zH) (c2 s2 : Nat), d + 10 ≤ 2048 ∧ 60 * d + 300 ≤ 84000 ∧ c2 ≤ 601024 ∧ s2 ≤ 7293034 ∧ z_run (za_T ((List.range L).map xs)) za_P f d 327 0 [(0, .ref 1000074)] [] [] 0 0 = some (.inl (some (.int 1)), h2, c2, s2)) : W p l e room_1 s m #[Value.ref b] below meth c s.heap [] 0 0 (lw_Z below #[Value.ref b] s) (entryFrame m ([Value.ref b] : List Value).toArray 9) := by
  obtain ⟨f, d, h2, c2, s2, hd1, hd2, hc2, hs2, hr⟩ := hz
  obtain ⟨D, tys, ad0, hfx, hb0, hok⟩ := ze_fx hLs C0
  obtain ⟨hx, hcode, hret, hml, hown, hts, hX, hbl, hlk, hgv⟩ := C0
  have hl0 : l.stackTraces = false := by unfold Launch.stackTraces; rw [hflags]; decide +kernel
  have hd0 := Drawn.sameBut.refl s.drawn lw_cs
  have hent := lv_entry ([Value.ref b] : List Value) (n := 9) (Nat.le_of_ble_eq_true rfl)
  rw [lg_entry_eq]
  generalize (lg_sl [Value.ref b] ++ List.replicate (9 - (lg_sl [Value.ref b]).length) Slot.unset).toArray = ls at hent ⊢
  have hcv : z_cv ad0 (.ref 1000074) = .ref b := congrArg va_rf hb0
  have hl : lv_has ls 9 (z_lvm ad0 [(0, .ref 1000074)]) := by
    show lv_has ls 9 [(0, z_cv ad0 (.ref 1000074))]
    rw [hcv]
    exact hent
  refine z_Sall hok hl0 f d 327 0 [(0, .ref 1000074)] [] [] 0 0 (.inl (some (.int 1))) h2 c2 s2 hr p e room_1 s m #[Value.ref b] below meth c s.heap [] ls ad0 ad0 0 _ hx hcode hml hown (fun w hw => hts w (List.mem_filter.mp hw).1) (fun z => absurd (show "law" = "<init>" from z) (by decide +kernel)) (fun z => absurd rfl z) hfx ⟨hd1, hd2⟩ hc2 hs2 z_ext.rf z_ext.rf (Nat.le_refl _) ⟨[], fun k q hq => (by cases hq), ⟨fun i j p q hp => (by cases hp), fun k q hq => (by cases hq)⟩, rfl, fun k c hk => (by cases hk)⟩ va_S.rf (fun c hc => by cases hc) (fun q hq => ?_) (fun v hv => by cases hv) hl ?_ ?_ ?_
  · rw [List.mem_singleton] at hq
    subst hq
    exact Or.inr (Nat.le_of_ble_eq_true rfl)
  · intro pc' i v ls' H' locs' ad' hdec ho hro hxt hw' hS' hv2 hn2 hvv
    cases ho
    have hi : i = .ireturn := by
      have h9 : z_rok i (some .boolean) (.int 1) = true := hro
      unfold z_rok at h9
      split at h9 <;> first
        | rfl
        | (exfalso; simp_all; done)
        | cases h9
    subst hi
    refine va_forget (fun q hq => hS'.2.2 q hq) ?_
    refine W.widen hc2 hs2 ?_
    exact lw_ret (s := s) (d0 := s.drawn) hd0 hx hcode hret hlk hdec
  · intro e' pc' ls' rest' H' locs' ad' q ce ho
    cases ho
  · intro pc' i a ls' rest' H' locs' ad' ck sk hot ho
    cases ho
end
section
/-! RUNS BY RULES: more fuel, more depth, more locals, more made ahead change no run; a run as a statement (zt); its rules. -/
/-- lv's entries are the first of their places in lv2 -/
def zR1 (lv lv2 : List (Nat × Value)) : Prop := ∀ q ∈ lv, z_get lv2 q.1 = some q.2
theorem zR1.get {lv lv2 : List (Nat × Value)} (h : zR1 lv lv2) {i : Nat} {v : Value} (hg : z_get lv i = some v) : z_get lv2 i = some v := h (i, v) (z_get_in hg)
theorem z_get_filter {p : Nat × Value → Bool} {j : Nat} {w : Value} (hp : p (j, w) = true) : ∀ {lv : List (Nat × Value)}, z_get lv j = some w → z_get (lv.filter p) j = some w := by
  intro lv
  induction lv with
  | nil => intro h; cases h
  | cons q l ih =>
    intro h
    rw [z_get] at h
    cases e : Nat.beq q.1 j with
    | true =>
      rw [e] at h
      obtain ⟨a, b⟩ := q
      have e1 : a = j := Nat.eq_of_beq_eq_true e
      cases h
      subst e1
      rw [List.filter_cons, if_pos hp, z_get]
      dsimp only
      rw [show Nat.beq a a = true from Nat.beq_refl a]
      rfl
    | false =>
      rw [e] at h
      rw [List.filter_cons]
      split
      · rw [z_get, e]
        exact ih h
      · exact ih h
theorem zR1.st {p : Nat × Value → Bool} {i : Nat} {v : Value} {lv lv2 : List (Nat × Value)} (h : zR1 lv lv2) (hp : ∀ w : Value, p (i, w) = false) : zR1 ((i, v) :: lv.filter p) ((i, v) :: lv2.filter p) := by
  intro q hq
  rcases List.mem_cons.mp hq with rfl | hq
  · rw [z_get]
    dsimp only
    rw [show Nat.beq i i = true from Nat.beq_refl i]
    rfl
  · obtain ⟨hq1, hq2⟩ := List.mem_filter.mp hq
    have hne : Nat.beq i q.1 = false := by
      cases e : Nat.beq i q.1 with
      | false => rfl
      | true =>
        have e1 : i = q.1 := Nat.eq_of_beq_eq_true e
        have := hp q.2
        rw [e1] at this
        rw [show (q.1, q.2) = q from rfl] at this
        rw [hq2] at this
        cases this
    rw [z_get]
    dsimp only
    rw [hne]
    exact z_get_filter (j := q.1) (w := q.2) hq2 (h q hq1)
theorem zR1.st1 {i : Nat} {v : Value} {lv lv2 : List (Nat × Value)} (h : zR1 lv lv2) : zR1 (z_st1 i v lv) (z_st1 i v lv2) := h.st (fun w => by simp)
theorem zR1.st2 {i : Nat} {v : Value} {lv lv2 : List (Nat × Value)} (h : zR1 lv lv2) : zR1 (z_st2 i v lv) (z_st2 i v lv2) := h.st (fun w => by simp)
def zRe (lv lv2 : List (Nat × Value)) : Prop := lv = lv2 ∨ zR1 lv lv2
set_option maxHeartbeats 4000000 in
theorem z_loc_mono {i : Instr} {pc a nL pc2 : Nat} {lv lv2 lvo : List (Nat × Value)} {st st2 : List Value} (h : z_loc i pc a nL lv st = some (pc2, lvo, st2)) (hr : zRe lv lv2) : ∃ lvo2, z_loc i pc a nL lv2 st = some (pc2, lvo2, st2) ∧ zRe lvo lvo2 := by
  rcases hr with rfl | hr
  · exact ⟨lvo, h, Or.inl rfl⟩
  · cases i <;> simp only [z_loc] at h <;> (repeat' split at h) <;> first
      | (exfalso; cases h; done)
      | (cases h; simp only [z_loc]; first
        | exact ⟨_, rfl, Or.inr hr⟩
        | (rename_i g; rw [hr.get g]; exact ⟨_, rfl, Or.inr hr⟩)
        | (rename_i g _; rw [hr.get g]; rw [if_pos (by assumption)]; exact ⟨_, rfl, Or.inr hr.st1⟩)
        | (rw [if_pos (by assumption)]; exact ⟨_, rfl, Or.inr hr.st1⟩)
        | (rw [if_pos (by assumption)]; exact ⟨_, rfl, Or.inr hr.st2⟩)
        | (rw [if_pos (by assumption)]; exact ⟨_, rfl, Or.inr hr⟩)
        | (rw [if_neg (by assumption)]; exact ⟨_, rfl, Or.inr hr⟩)
        | (rename_i g hif; rw [hr.get g]; dsimp only; rw [if_pos hif]; exact ⟨_, rfl, Or.inr hr.st1⟩)
        | (refine ⟨lv2, ?_, Or.inr hr⟩; simp_all; done)
        | (refine ⟨lv2, ?_, Or.inr hr⟩; rw [if_pos (by assumption)]; simp_all; done)
        | (refine ⟨lv2, ?_, Or.inr hr⟩; rw [if_neg (by assumption)]; simp_all; done))

theorem zRe.args (vs : List Value) (k : Nat) : zRe (lv_args k vs) (lv_args k vs) := Or.inl rfl
set_option maxHeartbeats 4000000 in
/-- more fuel, more depth, more locals, more made ahead -/
theorem z_more {T : zT} {P : zP} : ∀ (f d y pc : Nat) (lv : List (Nat × Value)) (st : List Value) (h : zH) (cs ss : Nat) (o : Option Value ⊕ Nat) (h2 : zH) (c2 s2 : Nat), z_run T P f d y pc lv st h cs ss = some (o, h2, c2, s2) →
    ∀ (g e : Nat) (lv2 : List (Nat × Value)) (k n : Nat), f ≤ g → d ≤ e → zRe lv lv2 → z_run T P g e y pc lv2 st h (cs + k) (ss + n) = some (o, h2, c2 + k, s2 + n) := by
  intro f
  induction f with
  | zero => intro d y pc lv st h cs ss o h2 c2 s2 er; cases er
  | succ f ih =>
    intro d y pc lv st h cs ss o h2 c2 s2 er g e lv2 k n hfg hde hR
    obtain ⟨g, rfl⟩ : ∃ g', g = g' + 1 := ⟨g - 1, by omega⟩
    have hfg' : f ≤ g := by omega
    rw [z_run] at er ⊢
    split at er
    · cases er
    · rename_i i len a b e1
      split at er
      · rename_i hk
        try simp only [hk]
        split at er
        · rename_i pc2 lvo st2 e2
          obtain ⟨lvo2, e3, hR2⟩ := z_loc_mono e2 hR
          simp only [e3]
          exact ih _ _ _ _ _ _ _ _ _ _ _ _ er _ _ _ _ _ hfg' hde hR2
        · cases er
      · rename_i hk
        try simp only [hk]
        split at er
        · rename_i pc2 st2 h3 dc ds e2
          try simp only [e2]
          have := ih _ _ _ _ _ _ _ _ _ _ _ _ er g e lv2 k n hfg' hde hR
          rw [show cs + k + dc = cs + dc + k by omega, show ss + n + ds = ss + ds + n by omega]
          exact this
        · cases er
      · rename_i hk
        try simp only [hk]
        split at er
        · split at er
          · rename_i hr
            cases er
            rw [if_pos hr]
          · cases er
        · cases er
      · rename_i hk
        try simp only [hk]
        split at er
        · rename_i hr
          cases er
          rw [if_pos hr]
        · cases er
      · rename_i hk
        try simp only [hk]
        split at er
        · rename_i hr
          cases er
          rw [if_pos hr, show cs + k + 1 = cs + 1 + k by omega, show ss + n + 6 = ss + 6 + n by omega]
        · cases er
      · rename_i hk0 hk1 hk4 hk5 hk6
        split at er
        · cases er
        · rename_i d'
          obtain ⟨e', rfl⟩ : ∃ e', e = e' + 1 := ⟨e - 1, by omega⟩
          dsimp only
          split at er
          · rename_i hc
            rw [if_pos hc]
            split at er
            · cases er
            · rename_i ov h3 dc ds e2
              have e3 := ih _ _ _ _ _ _ _ _ _ _ _ _ e2 g e' _ 0 0 hfg' (by omega) (zRe.args _ _)
              simp only [Nat.add_zero] at e3
              simp only [e3]
              have := ih _ _ _ _ _ _ _ _ _ _ _ _ er g (e' + 1) lv2 k n hfg' hde hR
              rw [show cs + k + dc = cs + dc + k by omega, show ss + n + ds = ss + ds + n by omega]
              exact this
            · rename_i ex h3 dc ds e2
              have e3 := ih _ _ _ _ _ _ _ _ _ _ _ _ e2 g e' _ 0 0 hfg' (by omega) (zRe.args _ _)
              simp only [Nat.add_zero] at e3
              simp only [e3]
              split at er
              · cases er
              · rename_i hk7
                rw [if_neg hk7]
                split at er
                · cases er
                  rw [show cs + k + dc = cs + dc + k by omega, show ss + n + ds = ss + ds + n by omega]
                · split at er
                  · rename_i hw
                    cases er
                    rw [show cs + k + dc = cs + dc + k by omega, show ss + n + ds = ss + ds + n by omega]
                  · cases er
          · cases er
end
section
/-! A run over the tables without the script is a run over any script; runs of local and heap steps, counted. -/
/-- the tables without the script -/
def za_Tb : zT := (za_S0, za_sf, za_ss, za_num, za_fty, za_fresh, za_elem)
theorem z_hg_ap {S1 S2 : List zC} {h : zH} {q : Nat} {c : zC} (e : z_hg S1 h q = some c) : z_hg (S1 ++ S2) h q = some c := by
  rcases z_hg_cases e with ⟨g, e'⟩ | ⟨g, e'⟩
  · unfold z_hg
    rw [Nat.blt_eq.mpr g]
    exact e'
  · have hb : Nat.blt q 1000000 = false := by
      cases hb : Nat.blt q 1000000 with
      | false => rfl
      | true => exact absurd (Nat.blt_eq.mp hb) (Nat.not_lt.mpr g)
    unfold z_hg
    rw [hb]
    generalize q - 1000000 = j at e' ⊢
    show (S1 ++ S2)[j]? = some c
    rw [List.getElem?_append_left (List.getElem?_eq_some_iff.mp e').1]
    exact e'
section ZB
variable {xs : List Int32}
theorem z_hgb {h : zH} {q : Nat} {c : zC} (e : z_hg za_Tb.1 h q = some c) : z_hg (za_T xs).1 h q = some c := z_hg_ap (S2 := [(100, xs.map Value.int)]) e
theorem z_rcvb {h : zH} {st : List Value} {t : Nat} (e : z_rcv za_Tb h st t = true) : z_rcv (za_T xs) h st t = true := by
  unfold z_rcv at e ⊢
  split at e
  · split at e
    · rename_i c e1
      simp only [z_hgb e1]
      exact e
    · cases e
  · cases e
theorem z_aldb {t0 pc : Nat} {st : List Value} {h : zH} {r : zHR} (e : z_ald za_Tb t0 pc st h = some r) : z_ald (za_T xs) t0 pc st h = some r := by
  unfold z_ald at e ⊢
  split at e
  · split at e
    · rename_i t vs e1
      simp only [z_hgb e1]
      exact e
    · cases e
  · cases e
set_option maxHeartbeats 4000000 in
theorem z_hpb {i : Instr} {pc a b : Nat} {st : List Value} {h : zH} {r : zHR} (e : z_hp za_Tb i pc a b st h = some r) : z_hp (za_T xs) i pc a b st h = some r := by
  cases i
  case getfield idx =>
    simp only [z_hp] at e ⊢
    split at e
    · split at e
      · rename_i t vs e1
        simp only [z_hgb e1]
        exact e
      · cases e
    · cases e
  case arraylength =>
    simp only [z_hp] at e ⊢
    split at e
    · split at e
      · rename_i t vs e1
        simp only [z_hgb e1]
        exact e
      · cases e
    · cases e
  case aaload =>
    simp only [z_hp] at e ⊢
    split at e
    · split at e
      · rename_i t vs e1
        simp only [z_hgb e1]
        exact e
      · cases e
    · cases e
  case invokespecial idx =>
    simp only [z_hp] at e ⊢
    split at e
    · split at e
      · rename_i c e1
        simp only [z_hgb e1]
        exact e
      · cases e
    · cases e
  case ifnull off =>
    simp only [z_hp] at e ⊢
    split at e
    · exact e
    · split at e
      · rename_i c e1
        simp only [z_hgb e1]
        exact e
      · cases e
    · cases e
  case ifnonnull off =>
    simp only [z_hp] at e ⊢
    split at e
    · exact e
    · split at e
      · rename_i c e1
        simp only [z_hgb e1]
        exact e
      · cases e
    · cases e
  case iaload => exact z_aldb e
  case baload => exact z_aldb e
  case caload => exact z_aldb e
  case laload => exact z_aldb e
  all_goals exact e
set_option maxHeartbeats 4000000 in
theorem z_runb : ∀ (f d y pc : Nat) (lv : List (Nat × Value)) (st : List Value) (h : zH) (cs ss : Nat) (r : zO), z_run za_Tb za_P f d y pc lv st h cs ss = some r → z_run (za_T xs) za_P f d y pc lv st h cs ss = some r := by
  intro f
  induction f with
  | zero => intro d y pc lv st h cs ss r er; cases er
  | succ f ih =>
    intro d y pc lv st h cs ss r er
    rw [z_run] at er ⊢
    split at er
    · cases er
    · split at er
      · split at er
        · exact ih _ _ _ _ _ _ _ _ _ er
        · cases er
      · split at er
        · rename_i e2
          simp only [z_hpb e2]
          exact ih _ _ _ _ _ _ _ _ _ er
        · cases er
      · exact er
      · exact er
      · exact er
      · split at er
        · cases er
        · split at er
          · rename_i hc
            rw [if_pos ⟨hc.1, hc.2.1, hc.2.2.1, fun hz => z_rcvb (hc.2.2.2 hz)⟩]
            split at er
            · cases er
            · rename_i e2
              simp only [ih _ _ _ _ _ _ _ _ _ e2]
              exact ih _ _ _ _ _ _ _ _ _ er
            · rename_i e2
              simp only [ih _ _ _ _ _ _ _ _ _ e2]
              exact er
          · cases er
/-- n steps, local or of the heap -/
def z_it (T : zT) (P : zP) (y : Nat) : Nat → Nat × List (Nat × Value) × List Value × zH × Nat × Nat → Option (Nat × List (Nat × Value) × List Value × zH × Nat × Nat)
  | 0, r => some r
  | n + 1, (pc, lv, st, h, cs, ss) => match z_at (P.1 y) pc with
    | some (i, _, a, b) => (match z_kind i a b with
      | 0 => (match z_loc i pc a (P.2.1 y) lv st with
        | some (pc2, lv2, st2) => z_it T P y n (pc2, lv2, st2, h, cs, ss)
        | none => none)
      | 1 => (match z_hp T i pc a b st h with
        | some (pc2, st2, h2, dc, ds) => z_it T P y n (pc2, lv, st2, h2, cs + dc, ss + ds)
        | none => none)
      | _ => none)
    | none => none
theorem z_it_run {d y : Nat} : ∀ (n pc : Nat) (lv : List (Nat × Value)) (st : List Value) (h : zH) (cs ss pc2 : Nat) (lv2 : List (Nat × Value)) (st2 : List Value) (h2 : zH) (c2 s2 : Nat), z_it za_Tb za_P y n (pc, lv, st, h, cs, ss) = some (pc2, lv2, st2, h2, c2, s2) → ∀ f, z_run (za_T xs) za_P (f + n) d y pc lv st h cs ss = z_run (za_T xs) za_P f d y pc2 lv2 st2 h2 c2 s2 := by
  intro n
  induction n with
  | zero => intro pc lv st h cs ss pc2 lv2 st2 h2 c2 s2 e f; cases e; rfl
  | succ n ih =>
    intro pc lv st h cs ss pc2 lv2 st2 h2 c2 s2 e f
    rw [z_it] at e
    rw [show f + (n + 1) = (f + n) + 1 by omega, z_run]
    split at e
    · rename_i i len a b e1
      simp only [e1]
      split at e
      · rename_i hk
        simp only [hk]
        split at e
        · rename_i e2
          simp only [e2]
          exact ih _ _ _ _ _ _ _ _ _ _ _ _ e f
        · cases e
      · rename_i hk
        simp only [hk]
        split at e
        · rename_i e2
          simp only [z_hpb e2]
          exact ih _ _ _ _ _ _ _ _ _ _ _ _ e f
        · cases e
      · cases e
    · cases e
end ZB
end
section
/-! RULES: a run as a statement; F functions against runs. -/
def zxc (o : Option Value ⊕ Nat) : Nat := match o with | .inl _ => 0 | .inr _ => 1
/-- the run from here ends so that Q; C and S: cells and slots made till it answers (one cell and 6 slots more where it throws) -/
def zt (xs : List Int32) (d y pc : Nat) (lv : List (Nat × Value)) (st : List Value) (h : zH) (C S : Nat) (Q : (Option Value ⊕ Nat) → zH → Prop) : Prop :=
  ∃ (f : Nat) (o : Option Value ⊕ Nat) (h2 : zH) (c2 s2 : Nat), z_run (za_T xs) za_P f d y pc lv st h 0 0 = some (o, h2, c2, s2) ∧ c2 ≤ C + zxc o ∧ s2 ≤ S + 6 * zxc o ∧ Q o h2
def zQ {α : Type} (cv : α → Option Value ⊕ Nat) (r : α × zH) : (Option Value ⊕ Nat) → zH → Prop := fun o h2 => o = cv r.1 ∧ h2 = r.2
def cI (x : Int32) : Option Value ⊕ Nat := .inl (some (.int x))
def cL (x : Int64) : Option Value ⊕ Nat := .inl (some (.long x))
def cF (x : UInt32) : Option Value ⊕ Nat := .inl (some (.float x))
def cD (x : UInt64) : Option Value ⊕ Nat := .inl (some (.double x))
def cO (x : Option Nat) : Option Value ⊕ Nat := .inl (some (va_rf x))
def cV (_ : Unit) : Option Value ⊕ Nat := .inl none
def cX {α : Type} (cv : α → Option Value ⊕ Nat) (x : α ⊕ Nat) : Option Value ⊕ Nat := match x with | .inl a => cv a | .inr e => .inr e
/-- a method: its code, locals, handlers, what it returns -/
def z_me (y : Nat) (cd : List zE) (nL : Nat) (hs : List zX) (rt : Option FieldType) : Prop := (∀ pc r, z_at cd pc = some r → z_at (za_P.1 y) pc = some r) ∧ za_P.2.1 y = nL ∧ za_P.2.2.1 y = hs ∧ za_P.2.2.2.2.1 y = rt
theorem z_me0 {y : Nat} {cd : List zE} (h : za_P.1 y = cd) : ∀ pc r, z_at cd pc = some r → z_at (za_P.1 y) pc = some r := fun pc r x => by
  rw [h]
  exact x
theorem z_me1 {y : Nat} {cd B : List zE} (h : za_P.1 y = cd) (c : (B.all fun q => decide (z_at cd q.1 = some q.2)) = true) : ∀ pc r, z_at B pc = some r → z_at (za_P.1 y) pc = some r := fun pc r x => by
  rw [h]
  exact of_decide_eq_true (List.all_eq_true.mp c (pc, r) (z_at_in x))
def b2 {α β : Type} (o : Option (α × zH)) (g : α → zH → Option β) : Option β := match o with | some (a, h) => g a h | none => none
theorem b2_some {α β : Type} {o : Option (α × zH)} {g : α → zH → Option β} {r : β} (e : b2 o g = some r) : ∃ (a : α) (h : zH), o = some (a, h) ∧ g a h = some r := by
  cases o with
  | none => cases e
  | some p => obtain ⟨a, h⟩ := p; exact ⟨a, h, rfl, e⟩
def b1 {α β : Type} (o : Option α) (g : α → Option β) : Option β := match o with | some a => g a | none => none
theorem b1_some {α β : Type} {o : Option α} {g : α → Option β} {r : β} (e : b1 o g = some r) : ∃ a : α, o = some a ∧ g a = some r := by
  cases o with
  | none => cases e
  | some a => exact ⟨a, rfl, e⟩
def z_l1s (cd : List zE) (nL : Nat) (r : zR) : Option zR := match z_at cd r.1 with
  | some (i, _, a, b) => cond (Nat.beq (z_kind i a b) 0) (z_loc i r.1 a nL r.2.1 r.2.2) none
  | none => none
def z_ls (cd : List zE) (nL : Nat) : Nat → zR → Option zR
  | 0, r => some r
  | n + 1, r => match z_l1s cd nL r with
    | some r2 => z_ls cd nL n r2
    | none => none
section ZEQ
variable {T : zT} {P : zP} {f d y pc : Nat} {lv : List (Nat × Value)} {st : List Value} {h : zH} {cs ss : Nat} {i : Instr} {len a b : Nat}
theorem zq_0 (h1 : z_at (P.1 y) pc = some (i, len, a, b)) (h2 : z_kind i a b = 0) : z_run T P (f + 1) d y pc lv st h cs ss = (match z_loc i pc a (P.2.1 y) lv st with
        | some (pc2, lv2, st2) => z_run T P f d y pc2 lv2 st2 h cs ss
        | none => none) := by
  simp only [z_run, h1, h2]
  rfl
theorem zq_1 (h1 : z_at (P.1 y) pc = some (i, len, a, b)) (h2 : z_kind i a b = 1) : z_run T P (f + 1) d y pc lv st h cs ss = (match z_hp T i pc a b st h with
        | some (pc2, st2, h2, dc, ds) => z_run T P f d y pc2 lv st2 h2 (cs + dc) (ss + ds)
        | none => none) := by
  simp only [z_run, h1, h2]
  rfl
theorem zq_4 {v : Value} (h1 : z_at (P.1 y) pc = some (i, len, a, b)) (h2 : z_kind i a b = 4) (h3 : z_rok i (P.2.2.2.2.1 y) v = true) : z_run T P (f + 1) d y pc lv [v] h cs ss = some (.inl (some v), h, cs, ss) := by
  simp only [z_run, h1, h2]
  rw [if_pos ⟨trivial, h3⟩]
theorem zq_5 (h1 : z_at (P.1 y) pc = some (i, len, a, b)) (h2 : z_kind i a b = 5) (h3 : P.2.2.2.2.1 y = none) : z_run T P (f + 1) d y pc lv [] h cs ss = some (.inl none, h, cs, ss) := by
  simp only [z_run, h1, h2]
  rw [if_pos ⟨trivial, h3⟩]
theorem zq_6 (h1 : z_at (P.1 y) pc = some (i, len, a, b)) (h2 : z_kind i a b = 6) (h3 : z_cs st ≤ 8) (h4 : P.2.2.1 y = []) : z_run T P (f + 1) d y pc lv st h cs ss = some (.inr a, h, cs + 1, ss + 6) := by
  simp only [z_run, h1, h2]
  rw [if_pos ⟨h3, h4⟩]
theorem zq_c {k0 : Nat} (h1 : z_at (P.1 y) pc = some (i, len, a, b)) (h2 : z_kind i a b = k0) (h3 : k0 = 2 ∨ k0 = 3 ∨ k0 = 7) (hc : z_nn k0 b ≤ st.length ∧ z_cs (st.drop (z_nn k0 b)) ≤ 8 ∧ z_cs (st.take (z_nn k0 b)) ≤ P.2.1 a ∧ (k0 ≠ 3 → z_rcv T h (st.take (z_nn k0 b)).reverse (P.2.2.2.1 a) = true)) : z_run T P (f + 1) (d + 1) y pc lv st h cs ss = (match z_run T P f d a 0 (lv_args 0 (st.take (z_nn k0 b)).reverse) [] h 0 0 with
            | none => none
            | some (.inl o, h2, dc, ds) => z_run T P f (d + 1) y (pc + 3) lv (o.toList ++ st.drop (z_nn k0 b)) h2 (cs + dc) (ss + ds)
            | some (.inr e, h2, dc, ds) => if k0 = 7 then none else (match P.2.2.1 y with
              | [] => some (.inr e, h2, cs + dc, ss + ds)
              | x :: l => (match z_catch P.2.2.2.2.2 (x :: l) pc e with
                | some w => some (.inl (some (.int w.2.2)), h2, cs + dc, ss + ds)
                | none => none))) := by
  rcases h3 with rfl | rfl | rfl
  · simp only [z_run, h1, h2]
    rw [if_pos hc]
    rfl
  · simp only [z_run, h1, h2]
    rw [if_pos hc]
    rfl
  · simp only [z_run, h1, h2]
    rw [if_pos hc]
    rfl
end ZEQ
section ZT
variable {xs : List Int32} {d y pc : Nat} {lv : List (Nat × Value)} {st rest : List Value} {h : zH} {C S : Nat} {Q : (Option Value ⊕ Nat) → zH → Prop} {cd : List zE} {nL : Nat} {hs : List zX} {rt : Option FieldType}
theorem zt_step {pc2 dc ds : Nat} {lv2 : List (Nat × Value)} {st2 : List Value} {h2 : zH} (hs : ∀ f, z_run (za_T xs) za_P (f + 1) d y pc lv st h 0 0 = z_run (za_T xs) za_P f d y pc2 lv2 st2 h2 dc ds) (k : zt xs d y pc2 lv2 st2 h2 C S Q) : zt xs d y pc lv st h (dc + C) (ds + S) Q := by
  obtain ⟨f, o, h3, c2, s2, hr, h1, h4, hq⟩ := k
  refine ⟨f + 1, o, h3, c2 + dc, s2 + ds, ?_, by omega, by omega, hq⟩
  rw [hs]
  have := z_more f d y pc2 lv2 st2 h2 0 0 o h3 c2 s2 hr f d lv2 dc ds (Nat.le_refl _) (Nat.le_refl _) (Or.inl rfl)
  simpa using this
theorem zt_deep {e : Nat} (hde : d ≤ e) (k : zt xs d y pc lv st h C S Q) : zt xs e y pc lv st h C S Q := by
  obtain ⟨f, o, h3, c2, s2, hr, h1⟩ := k
  exact ⟨f, o, h3, c2, s2, z_more f d y pc lv st h 0 0 o h3 c2 s2 hr f e lv 0 0 (Nat.le_refl _) hde (Or.inl rfl), h1⟩
theorem zt_sub {lv2 : List (Nat × Value)} (hR : zR1 lv2 lv) (k : zt xs d y pc lv2 st h C S Q) : zt xs d y pc lv st h C S Q := by
  obtain ⟨f, o, h3, c2, s2, hr, h1⟩ := k
  exact ⟨f, o, h3, c2, s2, z_more f d y pc lv2 st h 0 0 o h3 c2 s2 hr f d lv 0 0 (Nat.le_refl _) (Nat.le_refl _) (Or.inr hR), h1⟩
theorem zt_wide {C2 S2 : Nat} {Q2 : (Option Value ⊕ Nat) → zH → Prop} (hC : C ≤ C2) (hS : S ≤ S2) (hQ : ∀ o h2, Q o h2 → Q2 o h2) (k : zt xs d y pc lv st h C S Q) : zt xs d y pc lv st h C2 S2 Q2 := by
  obtain ⟨f, o, h3, c2, s2, hr, h1, h2, h4⟩ := k
  exact ⟨f, o, h3, c2, s2, hr, by omega, by omega, hQ _ _ h4⟩
theorem z_step0 (hy : z_me y cd nL hs rt) {i : Instr} {len a b pc2 : Nat} {lv2 : List (Nat × Value)} {st2 : List Value} (hat : z_at cd pc = some (i, len, a, b)) (hk : z_kind i a b = 0) (hl : z_loc i pc a nL lv st = some (pc2, lv2, st2)) (k : zt xs d y pc2 lv2 st2 h C S Q) : zt xs d y pc lv st h C S Q := by
  have := zt_step (xs := xs) (d := d) (y := y) (pc := pc) (lv := lv) (st := st) (h := h) (pc2 := pc2) (lv2 := lv2) (st2 := st2) (h2 := h) (dc := 0) (ds := 0) (C := C) (S := S) (Q := Q) (fun f => by rw [zq_0 (hy.1 _ _ hat) hk, hy.2.1, hl]) k
  simpa using this
theorem zl (hy : z_me y cd nL hs rt) : ∀ (n : Nat) {pc : Nat} {lv : List (Nat × Value)} {st : List Value} {pc2 : Nat} {lv2 : List (Nat × Value)} {st2 : List Value}, z_ls cd nL n (pc, lv, st) = some (pc2, lv2, st2) → zt xs d y pc2 lv2 st2 h C S Q → zt xs d y pc lv st h C S Q := by
  intro n
  induction n with
  | zero => intro pc lv st pc2 lv2 st2 e k; cases e; exact k
  | succ n ih =>
    intro pc lv st pc2 lv2 st2 e k
    rw [z_ls] at e
    split at e
    · rename_i r2 e1
      obtain ⟨pc3, lv3, st3⟩ := r2
      unfold z_l1s at e1
      split at e1
      · rename_i i len a b e2
        cases e3 : Nat.beq (z_kind i a b) 0 with
        | false => rw [e3] at e1; cases e1
        | true =>
          rw [e3] at e1
          exact z_step0 hy e2 (Nat.eq_of_beq_eq_true e3) e1 (ih e k)
      · cases e1
    · cases e
theorem zx_bip (hy : z_me y cd nL hs rt) {n c : Int} {len a b : Nat} (hat : z_at cd pc = some (.bipush n, len, a, b)) (hc : (Int8.ofInt n).toInt32 = Int32.ofInt c) (k : zt xs d y (pc + 2) lv (.int (Int32.ofInt c) :: st) h C S Q) : zt xs d y pc lv st h C S Q := z_step0 hy hat rfl (by simp only [z_loc]; rw [hc]) k
theorem zx_sip (hy : z_me y cd nL hs rt) {n c : Int} {len a b : Nat} (hat : z_at cd pc = some (.sipush n, len, a, b)) (hc : (Int16.ofInt n).toInt32 = Int32.ofInt c) (k : zt xs d y (pc + 3) lv (.int (Int32.ofInt c) :: st) h C S Q) : zt xs d y pc lv st h C S Q := z_step0 hy hat rfl (by simp only [z_loc]; rw [hc]) k
theorem zx_div (hy : z_me y cd nL hs rt) {x z : Int32} {len a b : Nat} {α : Type} {G : Int32 → Option α} {r : α} (hat : z_at cd pc = some (.idiv, len, a, b)) (e : (if z = Int32.ofInt 0 then none else G (x / z)) = some r) (k : z ≠ Int32.ofInt 0 → G (x / z) = some r → zt xs d y (pc + 1) lv (.int (x / z) :: st) h C S Q) : zt xs d y pc lv (.int z :: .int x :: st) h C S Q := by
  split at e
  · cases e
  · rename_i hz
    exact z_step0 hy hat rfl (by simp only [z_loc]; rw [show (0 : Int32) = Int32.ofInt 0 from rfl, if_neg hz]) (k hz e)
theorem zx_rem (hy : z_me y cd nL hs rt) {x z : Int32} {len a b : Nat} {α : Type} {G : Int32 → Option α} {r : α} (hat : z_at cd pc = some (.irem, len, a, b)) (e : (if z = Int32.ofInt 0 then none else G (x - x / z * z)) = some r) (k : z ≠ Int32.ofInt 0 → G (x - x / z * z) = some r → zt xs d y (pc + 1) lv (.int (x - x / z * z) :: st) h C S Q) : zt xs d y pc lv (.int z :: .int x :: st) h C S Q := by
  split at e
  · cases e
  · rename_i hz
    exact z_step0 hy hat rfl (by simp only [z_loc]; rw [show (0 : Int32) = Int32.ofInt 0 from rfl, if_neg hz]) (k hz e)
theorem zx_ldv (hy : z_me y cd nL hs rt) {x z : Int64} {len a b : Nat} {α : Type} {G : Int64 → Option α} {r : α} (hat : z_at cd pc = some (.ldiv, len, a, b)) (e : (if z = Int64.ofInt 0 then none else G (x / z)) = some r) (k : z ≠ Int64.ofInt 0 → G (x / z) = some r → zt xs d y (pc + 1) lv (.long (x / z) :: st) h C S Q) : zt xs d y pc lv (.long z :: .long x :: st) h C S Q := by
  split at e
  · cases e
  · rename_i hz
    exact z_step0 hy hat rfl (by simp only [z_loc]; rw [show (0 : Int64) = Int64.ofInt 0 from rfl, if_neg hz]) (k hz e)
section IFS
variable {α : Type} {A B : Option α} {r : α} {x z : Int32} {off : Int} {len a b : Nat}
theorem zx_icmp (hy : z_me y cd nL hs rt) {c0 : ClassFile.Cond} (hat : z_at cd pc = some (.if_icmp c0 off, len, a, b)) (k1 : z_cmp c0 x z = true → zt xs d y a lv st h C S Q) (k2 : z_cmp c0 x z = false → zt xs d y (pc + 3) lv st h C S Q) : zt xs d y pc lv (.int z :: .int x :: st) h C S Q := by
  cases e : z_cmp c0 x z with
  | true => exact z_step0 hy hat rfl (by simp only [z_loc, e]) (k1 e)
  | false => exact z_step0 hy hat rfl (by simp only [z_loc, e]) (k2 e)
theorem zx_if0 (hy : z_me y cd nL hs rt) {c0 : ClassFile.Cond} (hat : z_at cd pc = some (.ifCond c0 off, len, a, b)) (k1 : z_cmp c0 x (Int32.ofInt 0) = true → zt xs d y a lv st h C S Q) (k2 : z_cmp c0 x (Int32.ofInt 0) = false → zt xs d y (pc + 3) lv st h C S Q) : zt xs d y pc lv (.int x :: st) h C S Q := by
  cases e : z_cmp c0 x (Int32.ofInt 0) with
  | true => exact z_step0 hy hat rfl (by simp only [z_loc]; rw [show (0 : Int32) = Int32.ofInt 0 from rfl, e]) (k1 e)
  | false => exact z_step0 hy hat rfl (by simp only [z_loc]; rw [show (0 : Int32) = Int32.ofInt 0 from rfl, e]) (k2 e)
theorem zx_c (hy : z_me y cd nL hs rt) {c0 : ClassFile.Cond} (hat : z_at cd pc = some (.if_icmp c0 off, len, a, b)) (e : cond (z_cmp c0 x z) A B = some r) (k1 : z_cmp c0 x z = true → A = some r → zt xs d y a lv st h C S Q) (k2 : z_cmp c0 x z = false → B = some r → zt xs d y (pc + 3) lv st h C S Q) : zt xs d y pc lv (.int z :: .int x :: st) h C S Q :=
  zx_icmp hy hat (fun g => k1 g (by rw [g] at e; exact e)) (fun g => k2 g (by rw [g] at e; exact e))
theorem zx_c0 (hy : z_me y cd nL hs rt) {c0 : ClassFile.Cond} (hat : z_at cd pc = some (.ifCond c0 off, len, a, b)) (e : cond (z_cmp c0 x (Int32.ofInt 0)) A B = some r) (k1 : z_cmp c0 x (Int32.ofInt 0) = true → A = some r → zt xs d y a lv st h C S Q) (k2 : z_cmp c0 x (Int32.ofInt 0) = false → B = some r → zt xs d y (pc + 3) lv st h C S Q) : zt xs d y pc lv (.int x :: st) h C S Q :=
  zx_if0 hy hat (fun g => k1 g (by rw [g] at e; exact e)) (fun g => k2 g (by rw [g] at e; exact e))
end IFS
/-! the heap -/
theorem z_hg_app {S1 S2 : List zC} {h : zH} {q : Nat} {c : zC} (e : z_hg S1 h q = some c) : z_hg (S1 ++ S2) h q = some c := by
  rcases z_hg_cases e with ⟨g, e'⟩ | ⟨g, e'⟩
  · unfold z_hg
    rw [Nat.blt_eq.mpr g]
    exact e'
  · have hb : Nat.blt q 1000000 = false := by
      cases hb : Nat.blt q 1000000 with
      | false => rfl
      | true => exact absurd (Nat.blt_eq.mp hb) (Nat.not_lt.mpr g)
    unfold z_hg
    rw [hb]
    generalize q - 1000000 = j at e' ⊢
    show (S1 ++ S2)[j]? = some c
    rw [List.getElem?_append_left (List.getElem?_eq_some_iff.mp e').1]
    exact e'
theorem z_hgT {q : Nat} {c : zC} (e : z_hg za_S0 h q = some c) : z_hg (za_T xs).1 h q = some c := z_hg_app (S2 := [(100, xs.map Value.int)]) e
end ZT
/-- a cell's value at a place -/
def fV (h : zH) (q t b : Nat) : Option Value := match z_hg za_S0 h q with
  | some c => cond (Nat.beq c.1 t) c.2[b]? none
  | none => none
theorem fV_some {h : zH} {q t b : Nat} {v : Value} (e : fV h q t b = some v) : ∃ vs : List Value, z_hg za_S0 h q = some (t, vs) ∧ vs[b]? = some v := by
  unfold fV at e
  split at e
  · rename_i c e1
    cases g : Nat.beq c.1 t with
    | false => rw [g] at e; cases e
    | true =>
      rw [g] at e
      obtain ⟨t', vs⟩ := c
      have g1 : t' = t := Nat.eq_of_beq_eq_true g
      subst g1
      exact ⟨vs, e1, e⟩
  · cases e
def fI (h : zH) (q t b : Nat) : Option Int32 := match fV h q t b with | some (.int x) => some x | _ => none
def fL (h : zH) (q t b : Nat) : Option Int64 := match fV h q t b with | some (.long x) => some x | _ => none
def fR (h : zH) (q t b : Nat) : Option Nat := match fV h q t b with | some (.ref x) => some x | _ => none
theorem fI_some {h : zH} {q t b : Nat} {x : Int32} (e : fI h q t b = some x) : fV h q t b = some (.int x) := by
  unfold fI at e
  split at e
  · rename_i y e1; cases e; exact e1
  · cases e
theorem fL_some {h : zH} {q t b : Nat} {x : Int64} (e : fL h q t b = some x) : fV h q t b = some (.long x) := by
  unfold fL at e
  split at e
  · rename_i y e1; cases e; exact e1
  · cases e
theorem fR_some {h : zH} {q t b : Nat} {x : Nat} (e : fR h q t b = some x) : fV h q t b = some (.ref x) := by
  unfold fR at e
  split at e
  · rename_i y e1; cases e; exact e1
  · cases e
/-- an array's element -/
def fAI (h : zH) (q t : Nat) (i : Int32) : Option Int32 := cond (decide (i < 0)) none (fI h q t i.toNatClampNeg)
def fAL (h : zH) (q t : Nat) (i : Int32) : Option Int64 := cond (decide (i < 0)) none (fL h q t i.toNatClampNeg)
def fAR (h : zH) (q t : Nat) (i : Int32) : Option Nat := cond (decide (i < 0)) none (fR h q t i.toNatClampNeg)
theorem cond_none {α : Type} {b : Bool} {o : Option α} {x : α} (e : cond b none o = some x) : b = false ∧ o = some x := by
  cases b with
  | true => cases e
  | false => exact ⟨rfl, e⟩
def fN (h : zH) (q t : Nat) : Option Int32 := match z_hg za_S0 h q with
  | some c => cond (Nat.beq c.1 t) (some (Int32.ofNat c.2.length)) none
  | none => none
theorem fN_some {h : zH} {q t : Nat} {x : Int32} (e : fN h q t = some x) : ∃ vs : List Value, z_hg za_S0 h q = some (t, vs) ∧ x = Int32.ofNat vs.length := by
  unfold fN at e
  split at e
  · rename_i c e1
    cases g : Nat.beq c.1 t with
    | false => rw [g] at e; cases e
    | true =>
      rw [g] at e
      obtain ⟨t', vs⟩ := c
      have g1 : t' = t := Nat.eq_of_beq_eq_true g
      subst g1
      cases e
      exact ⟨vs, e1, rfl⟩
  · cases e
/-- a write -/
def fS (h : zH) (q t b : Nat) (v : Value) : Option zH := match h[q]? with
  | some c => cond (Nat.beq c.1 t && Nat.blt b c.2.length) (some (h.set q (t, c.2.set b v))) none
  | none => none
theorem fS_some {h h2 : zH} {q t b : Nat} {v : Value} (e : fS h q t b v = some h2) : ∃ vs : List Value, h[q]? = some (t, vs) ∧ b < vs.length ∧ h2 = h.set q (t, vs.set b v) := by
  unfold fS at e
  split at e
  · rename_i c e1
    cases g : (Nat.beq c.1 t && Nat.blt b c.2.length) with
    | false => rw [g] at e; cases e
    | true =>
      rw [g] at e
      rw [Bool.and_eq_true] at g
      obtain ⟨t', vs⟩ := c
      have g1 : t' = t := Nat.eq_of_beq_eq_true g.1
      subst g1
      cases e
      exact ⟨vs, e1, Nat.le_of_ble_eq_true g.2, rfl⟩
  · cases e
def fAS (h : zH) (q t : Nat) (i : Int32) (v : Value) : Option zH := cond (decide (i < 0)) none (fS h q t i.toNatClampNeg v)
/-- is there an object of this kind -/
def fT (h : zH) (q t : Nat) : Bool := match z_hg za_S0 h q with | some c => Nat.beq c.1 t | none => false
section ZT2
variable {xs : List Int32} {d y pc : Nat} {lv : List (Nat × Value)} {st rest : List Value} {h : zH} {C S : Nat} {Q : (Option Value ⊕ Nat) → zH → Prop} {cd : List zE} {nL : Nat} {hs : List zX} {rt : Option FieldType}
variable {α : Type} {r : α} {len a b : Nat}
theorem z_step1 (hy : z_me y cd nL hs rt) {i : Instr} {pc2 dc ds : Nat} {st2 : List Value} {h2 : zH} (hat : z_at cd pc = some (i, len, a, b)) (hk : z_kind i a b = 1) (hl : z_hp (za_T xs) i pc a b st h = some (pc2, st2, h2, dc, ds)) (k : zt xs d y pc2 lv st2 h2 C S Q) : zt xs d y pc lv st h (dc + C) (ds + S) Q :=
  zt_step (fun f => by rw [zq_1 (hy.1 _ _ hat) hk, hl]; simp only [Nat.zero_add]) k
theorem z_step10 (hy : z_me y cd nL hs rt) {i : Instr} {pc2 : Nat} {st2 : List Value} {h2 : zH} (hat : z_at cd pc = some (i, len, a, b)) (hk : z_kind i a b = 1) (hl : z_hp (za_T xs) i pc a b st h = some (pc2, st2, h2, 0, 0)) (k : zt xs d y pc2 lv st2 h2 C S Q) : zt xs d y pc lv st h C S Q := by
  have := z_step1 hy hat hk hl k
  simpa using this
theorem zx_gI (hy : z_me y cd nL hs rt) {idx q : Nat} {G : Int32 → Option α} (hat : z_at cd pc = some (.getfield idx, len, a, b)) (e : b1 (fI h q a b) G = some r) (k : ∀ x : Int32, fI h q a b = some x → G x = some r → zt xs d y (pc + 3) lv (.int x :: st) h C S Q) : zt xs d y pc lv (.ref q :: st) h C S Q := by
  obtain ⟨x, e1, e2⟩ := b1_some e
  obtain ⟨vs, e3, e4⟩ := fV_some (fI_some e1)
  exact z_step10 hy hat rfl (by simp only [z_hp, z_hgT e3, if_true, e4]) (k x e1 e2)
theorem zx_gR (hy : z_me y cd nL hs rt) {idx q : Nat} {G : Nat → Option α} (hat : z_at cd pc = some (.getfield idx, len, a, b)) (e : b1 (fR h q a b) G = some r) (k : ∀ x : Nat, fR h q a b = some x → G x = some r → zt xs d y (pc + 3) lv (.ref x :: st) h C S Q) : zt xs d y pc lv (.ref q :: st) h C S Q := by
  obtain ⟨x, e1, e2⟩ := b1_some e
  obtain ⟨vs, e3, e4⟩ := fV_some (fR_some e1)
  exact z_step10 hy hat rfl (by simp only [z_hp, z_hgT e3, if_true, e4]) (k x e1 e2)
theorem zx_pf (hy : z_me y cd nL hs rt) {idx q : Nat} {v : Value} {G : zH → Option α} (hat : z_at cd pc = some (.putfield idx, len, a, b)) (e : b1 (fS h q a b v) G = some r) (hf : z_fit (za_fty a b) v = true) (k : ∀ h2 : zH, fS h q a b v = some h2 → G h2 = some r → zt xs d y (pc + 3) lv st h2 C S Q) : zt xs d y pc lv (v :: .ref q :: st) h C S Q := by
  obtain ⟨h2, e1, e2⟩ := b1_some e
  obtain ⟨vs, e3, e4, e5⟩ := fS_some e1
  have e6 : z_hp (za_T xs) (.putfield idx) pc a b (v :: .ref q :: st) h = some (pc + 3, st, h2, 0, 0) := by
    simp only [z_hp, e3]
    rw [if_pos ⟨trivial, e4, hf⟩, e5]
  exact z_step10 hy hat rfl e6 (k h2 e1 e2)
theorem zx_len (hy : z_me y cd nL hs rt) {q t : Nat} {G : Int32 → Option α} (ht : 100 ≤ t) (hat : z_at cd pc = some (.arraylength, len, a, b)) (e : b1 (fN h q t) G = some r) (k : ∀ x : Int32, fN h q t = some x → G x = some r → zt xs d y (pc + 1) lv (.int x :: st) h C S Q) : zt xs d y pc lv (.ref q :: st) h C S Q := by
  obtain ⟨x, e1, e2⟩ := b1_some e
  obtain ⟨vs, e3, e4⟩ := fN_some e1
  exact z_step10 hy hat rfl (by simp only [z_hp, z_hgT e3]; rw [if_pos ht, e4]) (k x e1 e2)
theorem z_aldT {t0 q : Nat} {i : Int32} {v : Value} {vs : List Value} (e1 : z_hg za_S0 h q = some (t0, vs)) (e2 : decide (i < 0) = false) (e3 : vs[i.toNatClampNeg]? = some v) : z_ald (za_T xs) t0 pc (.int i :: .ref q :: st) h = some (pc + 1, v :: st, h, 0, 0) := by
  unfold z_ald
  simp only [z_hgT e1]
  rw [if_pos ⟨trivial, of_decide_eq_false e2⟩, e3]
theorem zx_aI (hy : z_me y cd nL hs rt) {q t : Nat} {i : Int32} {j : Instr} {G : Int32 → Option α} (hj : (j = .iaload ∧ t = 100) ∨ (j = .baload ∧ t = 101) ∨ (j = .caload ∧ t = 102)) (hat : z_at cd pc = some (j, len, a, b)) (e : b1 (fAI h q t i) G = some r) (k : ∀ x : Int32, fAI h q t i = some x → G x = some r → zt xs d y (pc + 1) lv (.int x :: st) h C S Q) : zt xs d y pc lv (.int i :: .ref q :: st) h C S Q := by
  obtain ⟨x, e1, e2⟩ := b1_some e
  obtain ⟨e3, e4⟩ := cond_none e1
  obtain ⟨vs, e5, e6⟩ := fV_some (fI_some e4)
  rcases hj with ⟨rfl, rfl⟩ | ⟨rfl, rfl⟩ | ⟨rfl, rfl⟩
  · exact z_step10 hy hat rfl (z_aldT e5 e3 e6) (k x e1 e2)
  · exact z_step10 hy hat rfl (z_aldT e5 e3 e6) (k x e1 e2)
  · exact z_step10 hy hat rfl (z_aldT e5 e3 e6) (k x e1 e2)
theorem zx_aL (hy : z_me y cd nL hs rt) {q : Nat} {i : Int32} {G : Int64 → Option α} (hat : z_at cd pc = some (.laload, len, a, b)) (e : b1 (fAL h q 103 i) G = some r) (k : ∀ x : Int64, fAL h q 103 i = some x → G x = some r → zt xs d y (pc + 1) lv (.long x :: st) h C S Q) : zt xs d y pc lv (.int i :: .ref q :: st) h C S Q := by
  obtain ⟨x, e1, e2⟩ := b1_some e
  obtain ⟨e3, e4⟩ := cond_none e1
  obtain ⟨vs, e5, e6⟩ := fV_some (fL_some e4)
  exact z_step10 hy hat rfl (z_aldT e5 e3 e6) (k x e1 e2)
theorem zx_aR (hy : z_me y cd nL hs rt) {q t : Nat} {i : Int32} {G : Nat → Option α} (ht : 104 ≤ t) (hat : z_at cd pc = some (.aaload, len, a, b)) (e : b1 (fAR h q t i) G = some r) (k : ∀ x : Nat, fAR h q t i = some x → G x = some r → zt xs d y (pc + 1) lv (.ref x :: st) h C S Q) : zt xs d y pc lv (.int i :: .ref q :: st) h C S Q := by
  obtain ⟨x, e1, e2⟩ := b1_some e
  obtain ⟨e3, e4⟩ := cond_none e1
  obtain ⟨vs, e5, e6⟩ := fV_some (fR_some e4)
  exact z_step10 hy hat rfl (by simp only [z_hp, z_hgT e5]; rw [if_pos ⟨ht, of_decide_eq_false e3⟩, e6]) (k x e1 e2)
theorem zx_sI (hy : z_me y cd nL hs rt) {q t : Nat} {i x v : Int32} {j : Instr} {G : zH → Option α} (hj : (j = .iastore ∧ t = 100 ∧ v = x) ∨ (j = .bastore ∧ t = 101 ∧ v = vp_nar .byte x) ∨ (j = .castore ∧ t = 102 ∧ v = vp_nar .char x)) (hat : z_at cd pc = some (j, len, a, b)) (e : b1 (fAS h q t i (.int v)) G = some r) (k : ∀ h2 : zH, fAS h q t i (.int v) = some h2 → G h2 = some r → zt xs d y (pc + 1) lv st h2 C S Q) : zt xs d y pc lv (.int x :: .int i :: .ref q :: st) h C S Q := by
  obtain ⟨h2, e1, e2⟩ := b1_some e
  obtain ⟨e3, e4⟩ := cond_none e1
  obtain ⟨vs, e5, e6, e7⟩ := fS_some e4
  have e8 := of_decide_eq_false e3
  rcases hj with ⟨rfl, rfl, rfl⟩ | ⟨rfl, rfl, rfl⟩ | ⟨rfl, rfl, rfl⟩
  · exact z_step10 hy hat rfl (by simp only [z_hp, e5]; rw [if_pos ⟨trivial, e8, e6⟩, e7]) (k h2 e1 e2)
  · exact z_step10 hy hat rfl (by simp only [z_hp, e5]; rw [if_pos ⟨trivial, e8, e6⟩, e7]) (k h2 e1 e2)
  · exact z_step10 hy hat rfl (by simp only [z_hp, e5]; rw [if_pos ⟨trivial, e8, e6⟩, e7]) (k h2 e1 e2)
theorem zx_sL (hy : z_me y cd nL hs rt) {q : Nat} {i : Int32} {x : Int64} {G : zH → Option α} (hat : z_at cd pc = some (.lastore, len, a, b)) (e : b1 (fAS h q 103 i (.long x)) G = some r) (k : ∀ h2 : zH, fAS h q 103 i (.long x) = some h2 → G h2 = some r → zt xs d y (pc + 1) lv st h2 C S Q) : zt xs d y pc lv (.long x :: .int i :: .ref q :: st) h C S Q := by
  obtain ⟨h2, e1, e2⟩ := b1_some e
  obtain ⟨e3, e4⟩ := cond_none e1
  obtain ⟨vs, e5, e6, e7⟩ := fS_some e4
  exact z_step10 hy hat rfl (by simp only [z_hp, e5]; rw [if_pos ⟨trivial, of_decide_eq_false e3, e6⟩, e7]) (k h2 e1 e2)
/-- a reference into an array; w is an object of the array's kind -/
theorem zx_sR (hy : z_me y cd nL hs rt) {q w t : Nat} {i : Int32} {G : zH → Option α} (ht : 104 ≤ t ∧ t < 106) (hat : z_at cd pc = some (.aastore, len, a, b)) (e : cond (fT h w (za_elem t) && Nat.blt w 1000000) (b1 (fAS h q t i (.ref w)) G) none = some r) (k : ∀ h2 : zH, fAS h q t i (.ref w) = some h2 → G h2 = some r → zt xs d y (pc + 1) lv st h2 C S Q) : zt xs d y pc lv (.ref w :: .int i :: .ref q :: st) h C S Q := by
  cases g : (fT h w (za_elem t) && Nat.blt w 1000000) with
  | false => rw [g] at e; cases e
  | true =>
    rw [g] at e
    rw [Bool.and_eq_true] at g
    obtain ⟨h2, e1, e2⟩ := b1_some e
    obtain ⟨e3, e4⟩ := cond_none e1
    obtain ⟨vs, e5, e6, e7⟩ := fS_some e4
    obtain ⟨g1, g2⟩ := g
    unfold fT z_hg at g1
    rw [g2] at g1
    have g3 : ∃ vw, h[w]? = some (za_elem t, vw) := by
      cases g4 : h[w]? with
      | none => simp only [cond_true, g4] at g1; cases g1
      | some c =>
        simp only [cond_true, g4] at g1
        obtain ⟨t', vw⟩ := c
        have g5 : t' = za_elem t := Nat.eq_of_beq_eq_true g1
        rw [g5]
        exact ⟨vw, rfl⟩
    obtain ⟨vw, g3⟩ := g3
    exact z_step10 hy hat rfl (by simp only [z_hp, e5, g3]; rw [if_pos ⟨ht, of_decide_eq_false e3, e6, rfl⟩, e7]) (k h2 e1 e2)
theorem zx_gs (hy : z_me y cd nL hs rt) {idx : Nat} {v : Value} (hat : z_at cd pc = some (.getstatic idx, len, a, b)) {f : zF} (hf : za_sf[b]? = some f) (hv : f.2.2.2 = v) (k : zt xs d y (pc + 3) lv (v :: st) h C S Q) : zt xs d y pc lv st h C S Q := by
  subst hv
  exact z_step10 hy hat rfl (by simp only [z_hp]; rw [show (za_T xs).2.1[b]? = some f from hf]) k
theorem zx_ldcS (hy : z_me y cd nL hs rt) {idx : Nat} (hat : z_at cd pc = some (.ldc idx, len, 1, b)) {f : zS} (hf : za_ss[b]? = some f) {q : Nat} (hv : f.2.2.2 = q) (k : zt xs d y (pc + 2) lv (.ref q :: st) h C S Q) : zt xs d y pc lv st h C S Q := by
  subst hv
  exact z_step10 hy hat rfl (by simp only [z_hp]; rw [show (za_T xs).2.2.1[b]? = some f from hf]) k
theorem zx_ldcw (hy : z_me y cd nL hs rt) {idx : Nat} (hat : z_at cd pc = some (.ldc_w idx, len, a, b)) {f : zS} (hf : za_ss[b]? = some f) {q : Nat} (hv : f.2.2.2 = q) (k : zt xs d y (pc + 3) lv (.ref q :: st) h C S Q) : zt xs d y pc lv st h C S Q := by
  subst hv
  exact z_step10 hy hat rfl (by simp only [z_hp]; rw [show (za_T xs).2.2.1[b]? = some f from hf]) k
theorem zx_ldcI (hy : z_me y cd nL hs rt) {idx : Nat} (hat : z_at cd pc = some (.ldc idx, len, 0, b)) {v : Value} (hf : za_num[b]? = some v) (k : zt xs d y (pc + 2) lv (v :: st) h C S Q) : zt xs d y pc lv st h C S Q :=
  z_step10 hy hat rfl (by simp only [z_hp]; rw [show (za_T xs).2.2.2.1[b]? = some v from hf]) k
theorem zx_ldcL (hy : z_me y cd nL hs rt) {idx : Nat} (hat : z_at cd pc = some (.ldc2_w idx, len, a, b)) {v : Value} (hf : za_num[b]? = some v) (k : zt xs d y (pc + 3) lv (v :: st) h C S Q) : zt xs d y pc lv st h C S Q :=
  z_step10 hy hat rfl (by simp only [z_hp]; rw [show (za_T xs).2.2.2.1[b]? = some v from hf]) k
theorem zx_nullN (hy : z_me y cd nL hs rt) {off : Int} (hat : z_at cd pc = some (.ifnull off, len, a, b)) (k : zt xs d y a lv st h C S Q) : zt xs d y pc lv (.null :: st) h C S Q := z_step10 hy hat rfl rfl k
theorem zx_nonnullN (hy : z_me y cd nL hs rt) {off : Int} (hat : z_at cd pc = some (.ifnonnull off, len, a, b)) (k : zt xs d y (pc + 3) lv st h C S Q) : zt xs d y pc lv (.null :: st) h C S Q := z_step10 hy hat rfl rfl k
def fX (h : zH) (q : Nat) : Bool := (z_hg za_S0 h q).isSome
theorem fX_some {q : Nat} (e : fX h q = true) : ∃ c, z_hg (za_T xs).1 h q = some c := by
  unfold fX at e
  obtain ⟨c, e1⟩ := Option.isSome_iff_exists.mp e
  exact ⟨c, z_hgT e1⟩
theorem zx_nullR (hy : z_me y cd nL hs rt) {off : Int} {q : Nat} {A : Option α} (hat : z_at cd pc = some (.ifnull off, len, a, b)) (e : cond (fX h q) A none = some r) (k : A = some r → zt xs d y (pc + 3) lv st h C S Q) : zt xs d y pc lv (.ref q :: st) h C S Q := by
  cases g : fX h q with
  | false => rw [g] at e; cases e
  | true =>
    rw [g] at e
    obtain ⟨c, e1⟩ := fX_some (xs := xs) g
    exact z_step10 hy hat rfl (by simp only [z_hp, e1]) (k e)
theorem zx_nonnullR (hy : z_me y cd nL hs rt) {off : Int} {q : Nat} {A : Option α} (hat : z_at cd pc = some (.ifnonnull off, len, a, b)) (e : cond (fX h q) A none = some r) (k : A = some r → zt xs d y a lv st h C S Q) : zt xs d y pc lv (.ref q :: st) h C S Q := by
  cases g : fX h q with
  | false => rw [g] at e; cases e
  | true =>
    rw [g] at e
    obtain ⟨c, e1⟩ := fX_some (xs := xs) g
    exact z_step10 hy hat rfl (by simp only [z_hp, e1]) (k e)
theorem zx_acmp (hy : z_me y cd nL hs rt) {off : Int} {q w : Nat} {A B : Option α} (hat : z_at cd pc = some (.if_acmp .ne off, len, a, b)) (e : cond (Nat.ble 1000000 q && Nat.blt q 1000012 && Nat.ble 1000000 w && Nat.blt w 1000012) (cond (Nat.beq q w) A B) none = some r) (k1 : q = w → A = some r → zt xs d y (pc + 3) lv st h C S Q) (k2 : q ≠ w → B = some r → zt xs d y a lv st h C S Q) : zt xs d y pc lv (.ref w :: .ref q :: st) h C S Q := by
  cases g : (Nat.ble 1000000 q && Nat.blt q 1000012 && Nat.ble 1000000 w && Nat.blt w 1000012) with
  | false => rw [g] at e; cases e
  | true =>
    rw [g] at e
    simp only [Bool.and_eq_true] at g
    obtain ⟨⟨⟨g1, g2⟩, g3⟩, g4⟩ := g
    have g5 : 1000000 ≤ q ∧ q < 1000012 ∧ 1000000 ≤ w ∧ w < 1000012 := ⟨Nat.le_of_ble_eq_true g1, Nat.le_of_ble_eq_true g2, Nat.le_of_ble_eq_true g3, Nat.le_of_ble_eq_true g4⟩
    cases g6 : Nat.beq q w with
    | true =>
      rw [g6] at e
      have g7 := Nat.eq_of_beq_eq_true g6
      exact z_step10 hy hat rfl (by simp only [z_hp]; rw [if_pos g5, if_pos g7]) (k1 g7 e)
    | false =>
      rw [g6] at e
      have g7 : q ≠ w := Nat.ne_of_beq_eq_false g6
      exact z_step10 hy hat rfl (by simp only [z_hp]; rw [if_pos g5, if_neg g7]) (k2 g7 e)
theorem zx_max (hy : z_me y cd nL hs rt) {idx : Nat} {x z : Int32} (hat : z_at cd pc = some (.invokestatic idx, len, 9998, b)) (hr : z_cs st ≤ 7) (k : zt xs d y (pc + 3) lv (.int (if x < z then z else x) :: st) h C S Q) : zt xs d y pc lv (.int z :: .int x :: st) h C S Q :=
  z_step10 hy hat rfl (by simp only [z_hp]; rw [if_pos hr]) k
theorem zx_obj (hy : z_me y cd nL hs rt) {idx q : Nat} {A : Option α} (hat : z_at cd pc = some (.invokespecial idx, len, 9999, b)) (hr : z_cs st ≤ 8) (e : cond (fX h q) A none = some r) (k : A = some r → zt xs d y (pc + 3) lv st h C S Q) : zt xs d y pc lv (.ref q :: st) h C S Q := by
  cases g : fX h q with
  | false => rw [g] at e; cases e
  | true =>
    rw [g] at e
    obtain ⟨c, e1⟩ := fX_some (xs := xs) g
    exact z_step10 hy hat rfl (by simp only [z_hp, e1]; rw [if_pos hr]) (k e)
/-! ends -/
theorem zx_ret (hy : z_me y cd nL hs rt) {i : Instr} {v : Value} {cv : α → Option Value ⊕ Nat} {x : α} {r : α × zH} (hat : z_at cd pc = some (i, len, a, b)) (hk : z_kind i a b = 4) (hro : z_rok i rt v = true) (hcv : cv x = .inl (some v)) (e : some (x, h) = some r) : zt xs d y pc lv [v] h C S (zQ cv r) := by
  cases e
  refine ⟨1, .inl (some v), h, 0, 0, ?_, Nat.zero_le _, Nat.zero_le _, hcv.symm, rfl⟩
  exact zq_4 (hy.1 _ _ hat) hk (by rw [hy.2.2.2]; exact hro)
theorem zx_retB (hy : z_me y cd nL hs (some .boolean)) {x : Int32} {cv : Int32 → Option Value ⊕ Nat} {r : Int32 × zH} (hat : z_at cd pc = some (.ireturn, len, a, b)) (hcv : cv x = .inl (some (.int x))) (e : cond (decide (x = Int32.ofInt 0) || decide (x = Int32.ofInt 1)) (some (x, h)) none = some r) : zt xs d y pc lv [.int x] h C S (zQ cv r) := by
  cases g : (decide (x = Int32.ofInt 0) || decide (x = Int32.ofInt 1)) with
  | false => rw [g] at e; cases e
  | true =>
    rw [g] at e
    exact zx_ret hy hat rfl g hcv e
theorem zx_retV (hy : z_me y cd nL hs none) {cv : Unit → Option Value ⊕ Nat} {r : Unit × zH} (hat : z_at cd pc = some (.return_, len, a, b)) (hcv : cv () = .inl none) (e : some ((), h) = some r) : zt xs d y pc lv [] h C S (zQ cv r) := by
  cases e
  refine ⟨1, .inl none, h, 0, 0, ?_, Nat.zero_le _, Nat.zero_le _, hcv.symm, rfl⟩
  exact zq_5 (hy.1 _ _ hat) rfl hy.2.2.2
theorem zx_retVX {β : Type} (hy : z_me y cd nL hs none) {cv : β → Option Value ⊕ Nat} {x : β} {r : β × zH} (hat : z_at cd pc = some (.return_, len, a, b)) (hcv : cv x = .inl none) (e : some (x, h) = some r) : zt xs d y pc lv [] h C S (zQ cv r) := by
  cases e
  refine ⟨1, .inl none, h, 0, 0, ?_, Nat.zero_le _, Nat.zero_le _, hcv.symm, rfl⟩
  exact zq_5 (hy.1 _ _ hat) rfl hy.2.2.2
theorem zx_thr (hy : z_me y cd nL [] rt) {ik : Nat} {cv : α → Option Value ⊕ Nat} {r : (α ⊕ Nat) × zH} (hat : z_at cd pc = some (.new ik, len, a, 1000)) (hr : z_cs st ≤ 8) (e : some (Sum.inr a, h) = some r) : zt xs d y pc lv st h C S (zQ (cX cv) r) := by
  cases e
  refine ⟨1, .inr a, h, 1, 6, ?_, ?_, ?_, rfl, rfl⟩
  · exact zq_6 (hy.1 _ _ hat) rfl hr hy.2.2.1
  · show 1 ≤ C + 1
    omega
  · show 6 ≤ S + 6 * 1
    omega
/-! calls -/
theorem z_rcvT {q t : Nat} {l : List Value} (e : fT h q t = true) : z_rcv (za_T xs) h (.ref q :: l) t = true := by
  unfold fT at e
  unfold z_rcv
  split at e
  · rename_i c e1
    simp only [z_hgT e1]
    exact e
  · cases e
/-- a call, behind it -/
theorem z_call (hy : z_me y cd nL hs rt) {i : Instr} {k0 c1 s1 : Nat} {as : List Value} {v : Option Value} {h2 : zH} (hat : z_at cd pc = some (i, len, a, b)) (hk : z_kind i a b = k0) (h3 : k0 = 2 ∨ k0 = 3 ∨ k0 = 7) (hst : st = as.reverse ++ rest) (hn : as.length = z_nn k0 b) (hcs : z_cs as ≤ za_P.2.1 a) (hrest : z_cs rest ≤ 8) (hrc : k0 ≠ 3 → z_rcv (za_T xs) h as (za_P.2.2.2.1 a) = true)
    (hm : zt xs d a 0 (lv_args 0 as) [] h c1 s1 (fun o g => o = .inl v ∧ g = h2)) (k : zt xs (d + 1) y (pc + 3) lv (v.toList ++ rest) h2 C S Q) : zt xs (d + 1) y pc lv st h (c1 + C) (s1 + S) Q := by
  obtain ⟨f1, o1, g1, c2, s2, hr1, hc1, hs1, rfl, rfl⟩ := hm
  obtain ⟨f2, o2, g2, c3, s3, hr2, hc2, hs2, hq⟩ := k
  refine ⟨f1 + f2 + 1, o2, g2, c3 + c2, s3 + s2, ?_, ?_, ?_, hq⟩
  · have e1 := z_more f1 d a 0 _ [] h 0 0 _ _ c2 s2 hr1 (f1 + f2) d _ 0 0 (Nat.le_add_right _ _) (Nat.le_refl _) (Or.inl rfl)
    have e2 := z_more f2 (d + 1) y (pc + 3) lv _ _ 0 0 o2 g2 c3 s3 hr2 (f1 + f2) (d + 1) lv c2 s2 (Nat.le_add_left _ _) (Nat.le_refl _) (Or.inl rfl)
    simp only [Nat.add_zero, Nat.zero_add] at e1 e2
    have et : st.take (z_nn k0 b) = as.reverse := by rw [hst, ← hn, ← List.length_reverse, List.take_left]
    have ed : st.drop (z_nn k0 b) = rest := by rw [hst, ← hn, ← List.length_reverse, List.drop_left]
    have hcond : z_nn k0 b ≤ st.length ∧ z_cs (st.drop (z_nn k0 b)) ≤ 8 ∧ z_cs (st.take (z_nn k0 b)) ≤ za_P.2.1 a ∧ (k0 ≠ 3 → z_rcv (za_T xs) h (st.take (z_nn k0 b)).reverse (za_P.2.2.2.1 a) = true) := by
      refine ⟨?_, by rw [ed]; exact hrest, by rw [et, z_cs_rev]; exact hcs, fun hz => by rw [et, List.reverse_reverse]; exact hrc hz⟩
      rw [hst, List.length_append, List.length_reverse, hn]
      exact Nat.le_add_right _ _
    have e1' : z_run (za_T xs) za_P (f1 + f2) d a 0 (lv_args 0 (st.take (z_nn k0 b)).reverse) [] h 0 0 = some (.inl v, g1, c2, s2) := by rw [et, List.reverse_reverse]; exact e1
    have e2' : z_run (za_T xs) za_P (f1 + f2) (d + 1) y (pc + 3) lv (v.toList ++ st.drop (z_nn k0 b)) g1 (0 + c2) (0 + s2) = some (o2, g2, c3 + c2, s3 + s2) := by rw [ed]; simpa using e2
    rw [zq_c (hy.1 _ _ hat) hk h3 hcond, e1']
    exact e2'
  · have : zxc (.inl v) = 0 := rfl
    rw [this] at hc1
    omega
  · have : zxc (.inl v) = 0 := rfl
    rw [this] at hs1
    omega
/-- a call out of which something is thrown that is not caught here -/
theorem z_callX (hy : z_me y cd nL [] rt) {i : Instr} {k0 : Nat} {as : List Value} {E : Nat} {h2 : zH} (hat : z_at cd pc = some (i, len, a, b)) (hk : z_kind i a b = k0) (h3 : k0 = 2 ∨ k0 = 3) (hst : st = as.reverse ++ rest) (hn : as.length = z_nn k0 b) (hcs : z_cs as ≤ za_P.2.1 a) (hrest : z_cs rest ≤ 8) (hrc : k0 ≠ 3 → z_rcv (za_T xs) h as (za_P.2.2.2.1 a) = true)
    (hm : zt xs d a 0 (lv_args 0 as) [] h C S (fun o g => o = .inr E ∧ g = h2)) (hq : Q (.inr E) h2) : zt xs (d + 1) y pc lv st h C S Q := by
  obtain ⟨f1, o1, g1, c2, s2, hr1, hc1, hs1, rfl, rfl⟩ := hm
  refine ⟨f1 + 1, .inr E, g1, c2, s2, ?_, hc1, hs1, hq⟩
  have et : st.take (z_nn k0 b) = as.reverse := by rw [hst, ← hn, ← List.length_reverse, List.take_left]
  have ed : st.drop (z_nn k0 b) = rest := by rw [hst, ← hn, ← List.length_reverse, List.drop_left]
  have hcond : z_nn k0 b ≤ st.length ∧ z_cs (st.drop (z_nn k0 b)) ≤ 8 ∧ z_cs (st.take (z_nn k0 b)) ≤ za_P.2.1 a ∧ (k0 ≠ 3 → z_rcv (za_T xs) h (st.take (z_nn k0 b)).reverse (za_P.2.2.2.1 a) = true) := by
    refine ⟨?_, by rw [ed]; exact hrest, by rw [et, z_cs_rev]; exact hcs, fun hz => by rw [et, List.reverse_reverse]; exact hrc hz⟩
    rw [hst, List.length_append, List.length_reverse, hn]
    exact Nat.le_add_right _ _
  have e1' : z_run (za_T xs) za_P f1 d a 0 (lv_args 0 (st.take (z_nn k0 b)).reverse) [] h 0 0 = some (.inr E, g1, c2, s2) := by rw [et, List.reverse_reverse]; exact hr1
  rw [zq_c (hy.1 _ _ hat) hk (h3.imp id Or.inl) hcond, e1']
  try dsimp only
  rw [if_neg (by omega), hy.2.2.1]
  simp
/-- a call out of which something is thrown that a handler here takes: it answers a constant -/
theorem z_callH (hy : z_me y cd nL hs rt) {i : Instr} {k0 c1 s1 : Nat} {as : List Value} {E : Nat} {w x0 : zX} {l0 : List zX} {h2 : zH} (hhs : hs = x0 :: l0) (hat : z_at cd pc = some (i, len, a, b)) (hk : z_kind i a b = k0) (h3 : k0 = 2 ∨ k0 = 3) (hst : st = as.reverse ++ rest) (hn : as.length = z_nn k0 b) (hcs : z_cs as ≤ za_P.2.1 a) (hrest : z_cs rest ≤ 8) (hrc : k0 ≠ 3 → z_rcv (za_T xs) h as (za_P.2.2.2.1 a) = true)
    (hm : zt xs d a 0 (lv_args 0 as) [] h c1 s1 (fun o g => o = .inr E ∧ g = h2)) (hw : z_catch za_nc hs pc E = some w) (hC : c1 + 1 ≤ C) (hS : s1 + 6 ≤ S) (hq : Q (.inl (some (.int w.2.2))) h2) : zt xs (d + 1) y pc lv st h C S Q := by
  obtain ⟨f1, o1, g1, c2, s2, hr1, hc1, hs1, rfl, rfl⟩ := hm
  have hx : zxc (.inr E) = 1 := rfl
  rw [hx] at hc1 hs1
  refine ⟨f1 + 1, .inl (some (.int w.2.2)), g1, c2, s2, ?_, by show c2 ≤ C + 0; omega, by show s2 ≤ S + 6 * 0; omega, hq⟩
  have et : st.take (z_nn k0 b) = as.reverse := by rw [hst, ← hn, ← List.length_reverse, List.take_left]
  have ed : st.drop (z_nn k0 b) = rest := by rw [hst, ← hn, ← List.length_reverse, List.drop_left]
  have hcond : z_nn k0 b ≤ st.length ∧ z_cs (st.drop (z_nn k0 b)) ≤ 8 ∧ z_cs (st.take (z_nn k0 b)) ≤ za_P.2.1 a ∧ (k0 ≠ 3 → z_rcv (za_T xs) h (st.take (z_nn k0 b)).reverse (za_P.2.2.2.1 a) = true) := by
    refine ⟨?_, by rw [ed]; exact hrest, by rw [et, z_cs_rev]; exact hcs, fun hz => by rw [et, List.reverse_reverse]; exact hrc hz⟩
    rw [hst, List.length_append, List.length_reverse, hn]
    exact Nat.le_add_right _ _
  have e1' : z_run (za_T xs) za_P f1 d a 0 (lv_args 0 (st.take (z_nn k0 b)).reverse) [] h 0 0 = some (.inr E, g1, c2, s2) := by rw [et, List.reverse_reverse]; exact hr1
  have hw' : z_catch za_P.2.2.2.2.2 (x0 :: l0) pc E = some w := by rw [hhs] at hw; exact hw
  rw [zq_c (hy.1 _ _ hat) hk (h3.imp id Or.inl) hcond, e1']
  try dsimp only
  rw [if_neg (by omega), hy.2.2.1, hhs]
  try dsimp only
  rw [hw']
  simp
end ZT2
/-! calls of F functions; switches -/
theorem cond_some {α : Type} {b : Bool} {o : Option α} {x : α} (e : cond b o none = some x) : b = true ∧ o = some x := by
  cases b with
  | true => exact ⟨rfl, e⟩
  | false => cases e
/-- behind a callee that may throw -/
def bX {α β : Type} (o : Option ((α ⊕ Nat) × zH)) (g : α → zH → Option ((β ⊕ Nat) × zH)) : Option ((β ⊕ Nat) × zH) := match o with
  | some (.inl a, h) => g a h
  | some (.inr E, h) => some (.inr E, h)
  | none => none
/-- the same, thrown things taken by handlers here, which answer constants -/
def bH {α : Type} (hs : List zX) (pc : Nat) (o : Option ((α ⊕ Nat) × zH)) (g : α → zH → Option (Int32 × zH)) : Option (Int32 × zH) := match o with
  | some (.inl a, h) => g a h
  | some (.inr E, h) => (match z_catch za_nc hs pc E with | some w => some (w.2.2, h) | none => none)
  | none => none
section ZT3
variable {xs : List Int32} {d y pc : Nat} {lv : List (Nat × Value)} {st rest : List Value} {h : zH} {C S : Nat} {Q : (Option Value ⊕ Nat) → zH → Prop} {cd : List zE} {nL : Nat} {hs : List zX} {rt : Option FieldType}
variable {len a b : Nat}
theorem zx_call {α β : Type} (hy : z_me y cd nL hs rt) {i : Instr} {k0 : Nat} {as : List Value} {X : Option (β × zH)} {G : β → zH → Option α} {r : α} {cv : β → Option Value ⊕ Nat} {ov : β → Option Value} (hcv : ∀ v, cv v = .inl (ov v)) (hat : z_at cd pc = some (i, len, a, b)) (hk : z_kind i a b = k0) (h3 : k0 = 2 ∨ k0 = 3 ∨ k0 = 7) (hst : st = as.reverse ++ rest) (hn : as.length = z_nn k0 b) (hcs : z_cs as ≤ za_P.2.1 a) (hrest : z_cs rest ≤ 8)
    (hrc : ∀ p, X = some p → k0 ≠ 3 → z_rcv (za_T xs) h as (za_P.2.2.2.1 a) = true) (hm : ∀ p, X = some p → zt xs d a 0 (lv_args 0 as) [] h 0 0 (zQ cv p)) (e : b2 X G = some r) (k : ∀ (v : β) (h2 : zH), X = some (v, h2) → G v h2 = some r → zt xs (d + 1) y (pc + 3) lv ((ov v).toList ++ rest) h2 C S Q) : zt xs (d + 1) y pc lv st h C S Q := by
  obtain ⟨v, h2, e1, e2⟩ := b2_some e
  have h9 := z_call (c1 := 0) (s1 := 0) hy hat hk h3 hst hn hcs hrest (hrc _ e1) (zt_wide (Nat.le_refl _) (Nat.le_refl _) (fun o g hq => ⟨hq.1.trans (hcv v), hq.2⟩) (hm _ e1)) (k v h2 e1 e2)
  simpa using h9
theorem zx_callX {α β : Type} (hy : z_me y cd nL [] rt) {i : Instr} {k0 : Nat} {as : List Value} {X : Option ((β ⊕ Nat) × zH)} {G : β → zH → Option ((α ⊕ Nat) × zH)} {r : (α ⊕ Nat) × zH} {cv : β → Option Value ⊕ Nat} {cw : α → Option Value ⊕ Nat} {ov : β → Option Value} (hcv : ∀ v, cv v = .inl (ov v)) (hat : z_at cd pc = some (i, len, a, b)) (hk : z_kind i a b = k0) (h3 : k0 = 2 ∨ k0 = 3) (hst : st = as.reverse ++ rest) (hn : as.length = z_nn k0 b) (hcs : z_cs as ≤ za_P.2.1 a) (hrest : z_cs rest ≤ 8)
    (hrc : ∀ p, X = some p → k0 ≠ 3 → z_rcv (za_T xs) h as (za_P.2.2.2.1 a) = true) (hm : ∀ p, X = some p → zt xs d a 0 (lv_args 0 as) [] h 0 0 (zQ (cX cv) p)) (e : bX X G = some r) (k : ∀ (v : β) (h2 : zH), X = some (.inl v, h2) → G v h2 = some r → zt xs (d + 1) y (pc + 3) lv ((ov v).toList ++ rest) h2 C S (zQ (cX cw) r)) : zt xs (d + 1) y pc lv st h C S (zQ (cX cw) r) := by
  unfold bX at e
  split at e
  · rename_i v h2
    have h9 := z_call (c1 := 0) (s1 := 0) hy hat hk (h3.imp id Or.inl) hst hn hcs hrest (hrc _ rfl) (zt_wide (Nat.le_refl _) (Nat.le_refl _) (fun o g hq => ⟨hq.1.trans (hcv v), hq.2⟩) (hm _ rfl)) (k v h2 rfl e)
    simpa using h9
  · rename_i E h2
    cases e
    exact z_callX hy hat hk h3 hst hn hcs hrest (hrc _ rfl) (zt_wide (Nat.zero_le _) (Nat.zero_le _) (fun o g hq => hq) (hm _ rfl)) ⟨rfl, rfl⟩
  · cases e
theorem zx_callH {β : Type} (hy : z_me y cd nL hs rt) {i : Instr} {k0 : Nat} {as : List Value} {x0 : zX} {l0 : List zX} {X : Option ((β ⊕ Nat) × zH)} {G : β → zH → Option (Int32 × zH)} {r : Int32 × zH} {cv : β → Option Value ⊕ Nat} {ov : β → Option Value} (hhs : hs = x0 :: l0) (hcv : ∀ v, cv v = .inl (ov v)) (hat : z_at cd pc = some (i, len, a, b)) (hk : z_kind i a b = k0) (h3 : k0 = 2 ∨ k0 = 3) (hst : st = as.reverse ++ rest) (hn : as.length = z_nn k0 b) (hcs : z_cs as ≤ za_P.2.1 a) (hrest : z_cs rest ≤ 8)
    (hrc : ∀ p, X = some p → k0 ≠ 3 → z_rcv (za_T xs) h as (za_P.2.2.2.1 a) = true) (hm : ∀ p, X = some p → zt xs d a 0 (lv_args 0 as) [] h 0 0 (zQ (cX cv) p)) (hC : 1 ≤ C) (hS : 6 ≤ S) (e : bH hs pc X G = some r) (k : ∀ (v : β) (h2 : zH), X = some (.inl v, h2) → G v h2 = some r → zt xs (d + 1) y (pc + 3) lv ((ov v).toList ++ rest) h2 C S (zQ cI r)) : zt xs (d + 1) y pc lv st h C S (zQ cI r) := by
  unfold bH at e
  split at e
  · rename_i v h2
    have h9 := z_call (c1 := 0) (s1 := 0) hy hat hk (h3.imp id Or.inl) hst hn hcs hrest (hrc _ rfl) (zt_wide (Nat.le_refl _) (Nat.le_refl _) (fun o g hq => ⟨hq.1.trans (hcv v), hq.2⟩) (hm _ rfl)) (k v h2 rfl e)
    simpa using h9
  · rename_i E h2
    split at e
    · rename_i w hw
      cases e
      exact z_callH (c1 := 0) (s1 := 0) hy hhs hat hk h3 hst hn hcs hrest (hrc _ rfl) (zt_wide (Nat.le_refl _) (Nat.le_refl _) (fun o g hq => hq) (hm _ rfl)) hw hC hS ⟨rfl, rfl⟩
    · cases e
  · cases e
/-- a switch's targets against its cases -/
def zK {α : Type} (xs : List Int32) (d y : Nat) (lv : List (Nat × Value)) (st : List Value) (h : zH) (C S : Nat) (Q : (Option Value ⊕ Nat) → zH → Prop) (r : α) : List Nat → List (Option α) → Prop
  | [], [] => True
  | t :: ts, G :: Gs => (G = some r → zt xs d y t lv st h C S Q) ∧ zK xs d y lv st h C S Q r ts Gs
  | _, _ => False
theorem zK_at {α : Type} {r : α} : ∀ {ts : List Nat} {Gs : List (Option α)}, zK xs d y lv st h C S Q r ts Gs → ∀ j : Nat, z_nth Gs j none = some r → ∃ t : Nat, ts[j]? = some t ∧ zt xs d y t lv st h C S Q := by
  intro ts
  induction ts with
  | nil =>
    intro Gs hk j e
    cases Gs with
    | nil => cases e
    | cons G Gs => exact hk.elim
  | cons t ts ih =>
    intro Gs hk j e
    cases Gs with
    | nil => exact hk.elim
    | cons G Gs =>
      cases j with
      | zero => exact ⟨t, rfl, hk.1 e⟩
      | succ j => exact ih hk.2 j e
theorem zx_tsw {α : Type} {r : α} {Gd : Option α} {Gs : List (Option α)} (hy : z_me y cd nL hs rt) {dflt lo hi : Int} {offs : Array Int} {x : Int32} (ts : List Nat) (td : Nat) (hat : z_at cd pc = some (.tableswitch dflt lo hi offs, len, a, b)) (hd : z_tg pc dflt = some td) (ho : offs.toList.map (z_tg pc) = ts.map some) (e : cond (decide (x.toInt < lo) || decide (hi < x.toInt)) Gd (z_nth Gs (x.toInt - lo).toNat none) = some r) (kd : Gd = some r → zt xs d y td lv st h C S Q) (ks : zK xs d y lv st h C S Q r ts Gs) : zt xs d y pc lv (.int x :: st) h C S Q := by
  cases g : (decide (x.toInt < lo) || decide (hi < x.toInt)) with
  | true =>
    rw [g] at e
    rw [Bool.or_eq_true, decide_eq_true_eq, decide_eq_true_eq] at g
    exact z_step0 hy hat rfl (by simp only [z_loc]; rw [if_pos g, hd]) (kd e)
  | false =>
    rw [g] at e
    rw [Bool.or_eq_false_iff, decide_eq_false_iff_not, decide_eq_false_iff_not] at g
    obtain ⟨t, h1, h2⟩ := zK_at ks _ e
    have h3 : (offs.toList.map (z_tg pc))[(x.toInt - lo).toNat]? = some (some t) := by rw [ho, List.getElem?_map, h1]; rfl
    rw [List.getElem?_map] at h3
    have h5 : ∃ off, offs[(x.toInt - lo).toNat]? = some off ∧ z_tg pc off = some t := by
      cases h4 : offs.toList[(x.toInt - lo).toNat]? with
      | none => rw [h4] at h3; cases h3
      | some off =>
        rw [h4] at h3
        exact ⟨off, by rw [← Array.getElem?_toList]; exact h4, Option.some.inj h3⟩
    obtain ⟨off, h6, h7⟩ := h5
    exact z_step0 hy hat rfl (by simp only [z_loc]; rw [if_neg (by omega), h6]; simp only [h7]) h2
/-- the first case of these keys, or the last -/
def z_lk {α : Type} (v : Int) (d0 : α) : List (Int × α) → α
  | [] => d0
  | q :: l => cond (decide (q.1 = v)) q.2 (z_lk v d0 l)
theorem z_lk_at {α : Type} {r : α} {v : Int} {Gd : Option α} {td : Nat} (kd : Gd = some r → zt xs d y td lv st h C S Q) : ∀ {ts : List (Int × Nat)} {Gs : List (Option α)}, zK xs d y lv st h C S Q r (ts.map (·.2)) Gs → z_lk v Gd ((ts.map (·.1)).zip Gs) = some r → zt xs d y (z_lk v td ts) lv st h C S Q := by
  intro ts
  induction ts with
  | nil => intro Gs hk e; exact kd e
  | cons t ts ih =>
    intro Gs hk e
    cases Gs with
    | nil => exact hk.elim
    | cons G Gs =>
      rw [List.map_cons, List.zip_cons_cons, z_lk] at e
      rw [z_lk]
      cases g : decide (t.1 = v) with
      | true => rw [g] at e; exact hk.1 e
      | false => rw [g] at e; exact ih hk.2 e
theorem zx_lsw {α : Type} {r : α} {Gd : Option α} {Gs : List (Option α)} (hy : z_me y cd nL hs rt) {dflt : Int} {ps : Array (Int × Int)} {x : Int32} (ts : List (Int × Nat)) (td : Nat) (hat : z_at cd pc = some (.lookupswitch dflt ps, len, a, b)) (hsort : (ps.toList.zip (ps.toList.drop 1)).all (fun (a, next) => a.1 < next.1) = true) (ho : ∀ v : Int, z_tg pc (Op.lookupswitch.offset ps.toList dflt v) = some (z_lk v td ts)) (e : z_lk x.toInt Gd ((ts.map (·.1)).zip Gs) = some r) (kd : Gd = some r → zt xs d y td lv st h C S Q) (ks : zK xs d y lv st h C S Q r (ts.map (·.2)) Gs) : zt xs d y pc lv (.int x :: st) h C S Q :=
  z_step0 hy hat rfl (by simp only [z_loc]; rw [if_pos hsort, ho]) (z_lk_at kd ks e)
theorem zx_fdiv {α : Type} {r : α} {G : UInt32 → Option α} (hy : z_me y cd nL hs rt) {x z : UInt32} (hat : z_at cd pc = some (.fdiv, len, a, b)) (e : (if FP.fdiv x z &&& 0x7fffffff ≤ 0x7f800000 then G (FP.fdiv x z) else none) = some r) (k : G (FP.fdiv x z) = some r → zt xs d y (pc + 1) lv (.float (FP.fdiv x z) :: st) h C S Q) : zt xs d y pc lv (.float z :: .float x :: st) h C S Q := by
  split at e
  · rename_i g
    exact z_step0 hy hat rfl (by simp only [z_loc]; rw [if_pos g]) (k e)
  · cases e
theorem zx_ddiv {α : Type} {r : α} {G : UInt64 → Option α} (hy : z_me y cd nL hs rt) {x z : UInt64} (hat : z_at cd pc = some (.ddiv, len, a, b)) (e : (if FP.ddiv x z &&& 0x7fffffffffffffff ≤ 0x7ff0000000000000 then G (FP.ddiv x z) else none) = some r) (k : G (FP.ddiv x z) = some r → zt xs d y (pc + 1) lv (.double (FP.ddiv x z) :: st) h C S Q) : zt xs d y pc lv (.double z :: .double x :: st) h C S Q := by
  split at e
  · rename_i g
    exact z_step0 hy hat rfl (by simp only [z_loc]; rw [if_pos g]) (k e)
  · cases e
theorem zx_f2d {α : Type} {r : α} {G : UInt64 → Option α} (hy : z_me y cd nL hs rt) {x : UInt32} (hat : z_at cd pc = some (.f2d, len, a, b)) (e : (if FP.f2d x &&& 0x7fffffffffffffff ≤ 0x7ff0000000000000 then G (FP.f2d x) else none) = some r) (k : G (FP.f2d x) = some r → zt xs d y (pc + 1) lv (.double (FP.f2d x) :: st) h C S Q) : zt xs d y pc lv (.float x :: st) h C S Q := by
  split at e
  · rename_i g
    exact z_step0 hy hat rfl (by simp only [z_loc]; rw [if_pos g]) (k e)
  · cases e
end ZT3
theorem z_lkT {pc td : Nat} {dflt : Int} (hd : z_tg pc dflt = some td) : ∀ (ps : List (Int × Int)) (ts : List (Int × Nat)), ps.map (fun q => (q.1, z_tg pc q.2)) = ts.map (fun q => (q.1, some q.2)) → ∀ v : Int, z_tg pc (Op.lookupswitch.offset ps dflt v) = some (z_lk v td ts) := by
  intro ps
  induction ps with
  | nil =>
    intro ts h v
    cases ts with
    | nil => exact hd
    | cons t ts => cases h
  | cons p ps ih =>
    intro ts h v
    cases ts with
    | nil => cases h
    | cons t ts =>
      rw [List.map_cons, List.map_cons, List.cons.injEq, Prod.mk.injEq] at h
      obtain ⟨a, o⟩ := p
      rw [Op.lookupswitch.offset_cons, z_lk]
      by_cases g : a = v
      · rw [if_pos g, show decide (t.1 = v) = true from decide_eq_true (by rw [← h.1.1]; exact g)]
        exact h.1.2
      · rw [if_neg g, show decide (t.1 = v) = false from decide_eq_false (by rw [← h.1.1]; exact g)]
        exact ih ts h.2 v
end
