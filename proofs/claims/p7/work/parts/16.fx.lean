/-! THE START, put together. -/
theorem z_lt1 (j : Nat) {w : Cond} (h : tables_1_1[j]? = some w) : w ∈ lw_tbl := List.mem_append_right _ (show w ∈ tables_1 from List.mem_append_left _ (List.mem_of_getElem? h))
theorem z_lt2 (j : Nat) {w : Cond} (h : tables_1_2[j]? = some w) : w ∈ lw_tbl := List.mem_append_right _ (show w ∈ tables_1 from List.mem_append_right _ (List.mem_append_left _ (List.mem_of_getElem? h)))
theorem z_lt3 (j : Nat) {w : Cond} (h : tables_1_3[j]? = some w) : w ∈ lw_tbl := List.mem_append_right _ (show w ∈ tables_1 from List.mem_append_right _ (List.mem_append_right _ (List.mem_append_left _ (List.mem_of_getElem? h))))
theorem z_lt4 (j : Nat) {w : Cond} (h : tables_1_4[j]? = some w) : w ∈ lw_tbl := List.mem_append_right _ (show w ∈ tables_1 from List.mem_append_right _ (List.mem_append_right _ (List.mem_append_right _ (List.mem_append_left _ (List.mem_of_getElem? h)))))
theorem z_lt5 (j : Nat) {w : Cond} (h : tables_1_5[j]? = some w) : w ∈ lw_tbl := List.mem_append_right _ (show w ∈ tables_1 from List.mem_append_right _ (List.mem_append_right _ (List.mem_append_right _ (List.mem_append_right _ (List.mem_append_left _ (List.mem_of_getElem? h))))))
theorem z_lt6 (j : Nat) {w : Cond} (h : tables_1_6[j]? = some w) : w ∈ lw_tbl := List.mem_append_right _ (show w ∈ tables_1 from List.mem_append_right _ (List.mem_append_right _ (List.mem_append_right _ (List.mem_append_right _ (List.mem_append_right _ (List.mem_append_left _ (List.mem_of_getElem? h)))))))
theorem z_lt7 (j : Nat) {w : Cond} (h : tables_1_7[j]? = some w) : w ∈ lw_tbl := List.mem_append_right _ (show w ∈ tables_1 from List.mem_append_right _ (List.mem_append_right _ (List.mem_append_right _ (List.mem_append_right _ (List.mem_append_right _ (List.mem_append_right _ (List.mem_append_left _ (List.mem_of_getElem? h))))))))
theorem z_lt8 (j : Nat) {w : Cond} (h : tables_1_8[j]? = some w) : w ∈ lw_tbl := List.mem_append_right _ (show w ∈ tables_1 from List.mem_append_right _ (List.mem_append_right _ (List.mem_append_right _ (List.mem_append_right _ (List.mem_append_right _ (List.mem_append_right _ (List.mem_append_right _ (List.mem_of_getElem? h))))))))
def ze_ad (aE : Nat → Nat) (a1 a2 a3 a4 : Nat) (aK aV aX : Nat → Nat) (b : Nat) (fmt : Option Nat) : Nat → Option Nat := fun q =>
  if q < 1000000 then none else if q < 1000012 then some (aE (q - 1000000)) else if q = 1000012 then some a1 else if q = 1000013 then some a2 else if q = 1000014 then some a3 else if q = 1000015 then some a4
  else if q < 1000074 then (if q % 2 = 0 then some (aV ((q - 1000016) / 2)) else some (aK ((q - 1000016) / 2))) else if q = 1000074 then some b else if q = 2000000 then fmt else if 3000000 ≤ q then some (aX (q - 3000000)) else none
theorem ze_getI {l : List Int32} {i : Nat} (ad : Nat → Option Nat) (h : i < l.length) : z_cv ad ((l.map Value.int).getD i .null) = .int (l.getD i 0) := by
  simp [List.getD_eq_getElem?_getD, List.getElem?_map, List.getElem?_eq_getElem h, z_cv]
theorem ze_getS {f : Nat → Nat} {n i : Nat} (ad : Nat → Option Nat) (h : i < n) (hf : ∀ k, k < n → ad (1000000 + k) = some (f k)) : z_cv ad (((List.range n).map (fun k => Value.ref (1000000 + k))).getD i .null) = .ref (f i) := by
  simp [List.getD_eq_getElem?_getD, List.getElem?_map, List.getElem?_range h, z_cv, hf i h, va_rf]
section ZEF
variable {s : State} {b L : Nat} {xs : Nat → Int32} {A : Nat → Prop}
/-- a cell that nobody writes, as z_stat has it -/
def ze_Q (ad : Nat → Option Nat) (A : Nat → Prop) (s : State) (j : Nat) (c : zC) : Prop := (∀ v ∈ c.2, z_vk 0 v) ∧ ∃ t : Nat, ad (1000000 + j) = some t ∧ ((100 ≤ c.1 ∧ ∃ ty : FieldType, za_tf[c.1 - 100]? = some ty ∧ va_T ty t c.2.length (fun i => z_cv ad (c.2.getD i .null)) A s s.heap) ∨ (c.1 < 100 ∧ ∃ r : vw_C, za_scl[c.1 - 50]? = some r ∧ 50 ≤ c.1 ∧ va_O r.1 t A s s.heap ∧ ∀ (k : Nat) (v : Value), c.2[k]? = some v → va_OF (r.2.1 k).1 (r.2.1 k).2.1 (r.2.1 k).2.2.1 (z_cv ad v) t A s s.heap))
theorem ze_Qa {ad : Nat → Option Nat} {j t a : Nat} {ty : FieldType} {l : List Int32} {vs : List Value} (hvs : vs = l.map Value.int) (h1 : ad (1000000 + j) = some t) (h2 : 100 ≤ a) (h3 : za_tf[a - 100]? = some ty) (h4 : va_T ty t l.length (fun i => .int (l.getD i 0)) A s s.heap) : ze_Q ad A s j (a, vs) := by
  subst hvs
  refine ⟨fun v hv => ?_, t, h1, Or.inl ⟨h2, ty, h3, ?_⟩⟩
  · obtain ⟨x, -, rfl⟩ := List.mem_map.mp hv
    trivial
  · dsimp only
    rw [List.length_map]
    exact ze_T_congr h4 (fun j hj => (ze_getI ad hj).symm)
theorem ze_Qq {ad : Nat → Option Nat} {j t : Nat} {vs : List Value} {f : Nat → Nat} (hvs : vs = (List.range 12).map (fun k => Value.ref (1000000 + k))) (h1 : ad (1000000 + j) = some t) (hf : ∀ k, k < 12 → ad (1000000 + k) = some (f k)) (h4 : va_T (.object "LyndonBench$Command") t 12 (fun i => .ref (f i)) A s s.heap) : ze_Q ad A s j (106, vs) := by
  subst hvs
  refine ⟨fun v hv => ?_, t, h1, Or.inl ⟨Nat.le_of_ble_eq_true rfl, _, rfl, ?_⟩⟩
  · obtain ⟨x, -, rfl⟩ := List.mem_map.mp hv
    exact Or.inr (show 1000000 ≤ 1000000 + x from Nat.le_add_right _ _)
  · dsimp only
    rw [List.length_map, List.length_range]
    exact ze_T_congr h4 (fun j hj => (ze_getS ad hj hf).symm)
theorem ze_Qs {ad : Nat → Option Nat} {j t k w : Nat} (h1 : ad (1000000 + j) = some t) (hk : ad k = some w) (hk0 : 1000000 ≤ k) (h2 : va_O "java/lang/String" t A s s.heap) (h3 : va_OF "java/lang/String" "coder" "B" (.int 0) t A s s.heap) (h4 : va_OF "java/lang/String" "value" "[B" (.ref w) t A s s.heap) : ze_Q ad A s j (50, [.ref k, .int 0]) := by
  refine ⟨fun v hv => ?_, t, h1, Or.inr ⟨Nat.le_of_ble_eq_true rfl, _, rfl, Nat.le_of_ble_eq_true rfl, h2, fun i v hv => ?_⟩⟩
  · simp only [List.mem_cons, List.not_mem_nil, or_false] at hv
    rcases hv with rfl | rfl
    · exact Or.inr hk0
    · trivial
  · match i, hv with
    | 0, hv =>
      cases hv
      have e1 : z_cv ad (.ref k) = .ref w := congrArg va_rf hk
      rw [e1]
      exact h4
    | 1, hv =>
      cases hv
      exact h3
    | (i + 2), hv => cases hv
theorem ze_Qe {ad : Nat → Option Nat} {j t k w : Nat} {x : Int32} (h1 : ad (1000000 + j) = some t) (hk : ad k = some w) (hk0 : 1000000 ≤ k) (h2 : va_O "LyndonBench$Command" t A s s.heap) (h3 : va_OF "java/lang/Enum" "ordinal" "I" (.int x) t A s s.heap) (h4 : va_OF "LyndonBench$Command" "word" "Ljava/lang/String;" (.ref w) t A s s.heap) : ze_Q ad A s j (51, [.ref k, .int x]) := by
  refine ⟨fun v hv => ?_, t, h1, Or.inr ⟨Nat.le_of_ble_eq_true rfl, _, rfl, Nat.le_of_ble_eq_true rfl, h2, fun i v hv => ?_⟩⟩
  · simp only [List.mem_cons, List.not_mem_nil, or_false] at hv
    rcases hv with rfl | rfl
    · exact Or.inr hk0
    · trivial
  · match i, hv with
    | 0, hv =>
      cases hv
      have e1 : z_cv ad (.ref k) = .ref w := congrArg va_rf hk
      rw [e1]
      exact h4
    | 1, hv =>
      cases hv
      exact h3
    | (i + 2), hv => cases hv
theorem ze_sfq {C n dd : String} {A : Nat → Prop} (h : va_Zq C n dd A s s.heap) : ∃ f : Option Nat, va_Z C n dd (va_rf f) A s s.heap := by
  rcases h with h | ⟨t, h⟩
  · exact ⟨none, h⟩
  · exact ⟨some t, h⟩
end ZEF
set_option maxHeartbeats 4000000 in
theorem ze_K {s : State} {b : Nat} (hts : ∀ w ∈ lw_tbl, w.before #[Value.ref b] s = true) : ∃ (D : va_G) (tys : List (ClassId × FieldType)), va_K D za_cl tys s ∧ (∀ (t : Nat) (x : ClassId × FieldType), tys[t]? = some x → za_tf[t]? = some x.2) ∧ (∀ t : Nat, t < 6 → ∀ ty : FieldType, za_tf[t]? = some ty → ∃ x : ClassId, tys[t]? = some (x, ty)) := by
  obtain ⟨c0, i0, k0⟩ := u_known (C := "LyndonBench") (T := za_T0) (N := 7) (n := 7) hts (fun w hw => (List.mem_filter.mp ((zj_0 []).1 w hw)).1) (hts (Jvm.Cond.instantiable "LyndonBench" (7 : Nat)) (z_lt1 23 rfl))
  obtain ⟨c1, i1, k1⟩ := u_known (C := "LyndonBench$History") (T := za_T1) (N := 2) (n := 2) hts (fun w hw => (List.mem_filter.mp ((zj_1 []).1 w hw)).1) (hts (Jvm.Cond.instantiable "LyndonBench$History" (2 : Nat)) (z_lt1 76 rfl))
  obtain ⟨c2, i2, k2⟩ := u_known (C := "LyndonBench$Script") (T := za_T2) (N := 12) (n := 12) hts (fun w hw => (List.mem_filter.mp ((zj_2 []).1 w hw)).1) (hts (Jvm.Cond.instantiable "LyndonBench$Script" (12 : Nat)) (z_lt1 93 rfl))
  obtain ⟨c3, i3, k3⟩ := u_known (C := "LyndonBench$State") (T := za_T3) (N := 4) (n := 4) hts (fun w hw => (List.mem_filter.mp ((zj_3 []).1 w hw)).1) (hts (Jvm.Cond.instantiable "LyndonBench$State" (4 : Nat)) (z_lt1 31 rfl))
  obtain ⟨c4, i4, k4⟩ := u_known (C := "LyndonBench$Word") (T := za_T4) (N := 2) (n := 2) hts (fun w hw => (List.mem_filter.mp ((zj_4 []).1 w hw)).1) (hts (Jvm.Cond.instantiable "LyndonBench$Word" (2 : Nat)) (z_lt1 37 rfl))
  obtain ⟨c5, i5, k5⟩ := u_known (C := "LyndonBenchModel") (T := za_T5) (N := 24) (n := 24) hts (fun w hw => (List.mem_filter.mp ((zj_5 []).1 w hw)).1) (hts (Jvm.Cond.instantiable "LyndonBenchModel" (24 : Nat)) (z_lt5 94 rfl))
  obtain ⟨a0, g0, m0, f0a, f0b, f0c⟩ := Cond.arrayClass_spec (args := #[Value.ref b]) (first := s) (o := none) (s := s) (idx := []) (hts (Jvm.Cond.arrayClass Jvm.ClassFile.FieldType.int) (z_lt1 143 rfl))
  obtain ⟨a1, g1, m1, f1a, f1b, f1c⟩ := Cond.arrayClass_spec (args := #[Value.ref b]) (first := s) (o := none) (s := s) (idx := []) (hts (Jvm.Cond.arrayClass Jvm.ClassFile.FieldType.byte) (z_lt1 55 rfl))
  obtain ⟨a2, g2, m2, f2a, f2b, f2c⟩ := Cond.arrayClass_spec (args := #[Value.ref b]) (first := s) (o := none) (s := s) (idx := []) (hts (Jvm.Cond.arrayClass Jvm.ClassFile.FieldType.char) (z_lt6 190 rfl))
  obtain ⟨a3, g3, m3, f3a, f3b, f3c⟩ := Cond.arrayClass_spec (args := #[Value.ref b]) (first := s) (o := none) (s := s) (idx := []) (hts (Jvm.Cond.arrayClass Jvm.ClassFile.FieldType.long) (z_lt8 53 rfl))
  obtain ⟨m4, a4, g4, f4d, -, f4b, f4c, f4a⟩ := Cond.arrayOver_spec (args := #[Value.ref b]) (first := s) (o := none) (s := s) (idx := []) (hts (Jvm.Cond.arrayOver (Jvm.ClassFile.FieldType.object "LyndonBench$Word")) (z_lt1 56 rfl))
  obtain ⟨m5, a5, g5, f5d, -, f5b, f5c, f5a⟩ := Cond.arrayOver_spec (args := #[Value.ref b]) (first := s) (o := none) (s := s) (idx := []) (hts (Jvm.Cond.arrayOver (Jvm.ClassFile.FieldType.object "LyndonBench$State")) (z_lt1 82 rfl))
  refine ⟨(fun k => z_nth [c0, c1, c2, c3, c4, c5] k c0, fun k => z_nth [i0, i1, i2, i3, i4, i5] k i0), [(a0, .int), (a1, .byte), (a2, .char), (a3, .long), (a4, .object "LyndonBench$Word"), (a5, .object "LyndonBench$State")], ⟨z_l9 (Q := fun (c : Nat) (q : vw_C) => u_Kn s q.1 q.2.1 q.2.2 (z_nth [c0, c1, c2, c3, c4, c5] c c0) (z_nth [i0, i1, i2, i3, i4, i5] c i0)) ?_, z_l9 (Q := fun (_ : Nat) (q : ClassId × FieldType) => ArrOfT s q.1 q.2 ∧ va_RA s q.1 q.2) ?_⟩, z_l9 (Q := fun (t : Nat) (x : ClassId × FieldType) => za_tf[t]? = some x.2) ?_, ?_⟩
  · exact z_l1 (k := 0) (Q := fun (c : Nat) (q : vw_C) => u_Kn s q.1 q.2.1 q.2.2 (z_nth [c0, c1, c2, c3, c4, c5] c c0) (z_nth [i0, i1, i2, i3, i4, i5] c i0)) k0 <| z_l1 (k := 1) (Q := fun (c : Nat) (q : vw_C) => u_Kn s q.1 q.2.1 q.2.2 (z_nth [c0, c1, c2, c3, c4, c5] c c0) (z_nth [i0, i1, i2, i3, i4, i5] c i0)) k1 <| z_l1 (k := 2) (Q := fun (c : Nat) (q : vw_C) => u_Kn s q.1 q.2.1 q.2.2 (z_nth [c0, c1, c2, c3, c4, c5] c c0) (z_nth [i0, i1, i2, i3, i4, i5] c i0)) k2 <| z_l1 (k := 3) (Q := fun (c : Nat) (q : vw_C) => u_Kn s q.1 q.2.1 q.2.2 (z_nth [c0, c1, c2, c3, c4, c5] c c0) (z_nth [i0, i1, i2, i3, i4, i5] c i0)) k3 <| z_l1 (k := 4) (Q := fun (c : Nat) (q : vw_C) => u_Kn s q.1 q.2.1 q.2.2 (z_nth [c0, c1, c2, c3, c4, c5] c c0) (z_nth [i0, i1, i2, i3, i4, i5] c i0)) k4 <| z_l1 (k := 5) (Q := fun (c : Nat) (q : vw_C) => u_Kn s q.1 q.2.1 q.2.2 (z_nth [c0, c1, c2, c3, c4, c5] c c0) (z_nth [i0, i1, i2, i3, i4, i5] c i0)) k5 <| z_l0
  · exact z_l1 (k := 0) (Q := fun (_ : Nat) (q : ClassId × FieldType) => ArrOfT s q.1 q.2 ∧ va_RA s q.1 q.2) ⟨fun n z => ⟨fun k h => (by cases h), g0, f0b, m0, f0c⟩, f0a⟩ <| z_l1 (k := 1) (Q := fun (_ : Nat) (q : ClassId × FieldType) => ArrOfT s q.1 q.2 ∧ va_RA s q.1 q.2) ⟨fun n z => ⟨fun k h => (by cases h), g1, f1b, m1, f1c⟩, f1a⟩ <| z_l1 (k := 2) (Q := fun (_ : Nat) (q : ClassId × FieldType) => ArrOfT s q.1 q.2 ∧ va_RA s q.1 q.2) ⟨fun n z => ⟨fun k h => (by cases h), g2, f2b, m2, f2c⟩, f2a⟩ <| z_l1 (k := 3) (Q := fun (_ : Nat) (q : ClassId × FieldType) => ArrOfT s q.1 q.2 ∧ va_RA s q.1 q.2) ⟨fun n z => ⟨fun k h => (by cases h), g3, f3b, m3, f3c⟩, f3a⟩ <| z_l1 (k := 4) (Q := fun (_ : Nat) (q : ClassId × FieldType) => ArrOfT s q.1 q.2 ∧ va_RA s q.1 q.2) ⟨fun n z => ⟨fun k h => (by cases h), g4, f4b, m4, f4c⟩, ⟨g4, m4, f4b, f4c, f4d, f4a⟩⟩ <| z_l1 (k := 5) (Q := fun (_ : Nat) (q : ClassId × FieldType) => ArrOfT s q.1 q.2 ∧ va_RA s q.1 q.2) ⟨fun n z => ⟨fun k h => (by cases h), g5, f5b, m5, f5c⟩, ⟨g5, m5, f5b, f5c, f5d, f5a⟩⟩ <| z_l0
  · exact z_l1 (k := 0) (Q := fun (t : Nat) (x : ClassId × FieldType) => za_tf[t]? = some x.2) rfl <| z_l1 (k := 1) (Q := fun (t : Nat) (x : ClassId × FieldType) => za_tf[t]? = some x.2) rfl <| z_l1 (k := 2) (Q := fun (t : Nat) (x : ClassId × FieldType) => za_tf[t]? = some x.2) rfl <| z_l1 (k := 3) (Q := fun (t : Nat) (x : ClassId × FieldType) => za_tf[t]? = some x.2) rfl <| z_l1 (k := 4) (Q := fun (t : Nat) (x : ClassId × FieldType) => za_tf[t]? = some x.2) rfl <| z_l1 (k := 5) (Q := fun (t : Nat) (x : ClassId × FieldType) => za_tf[t]? = some x.2) rfl <| z_l0
  · intro t ht ty e
    have h8 : t = 0 ∨ t = 1 ∨ t = 2 ∨ t = 3 ∨ t = 4 ∨ t = 5 := by omega
    rcases h8 with rfl | rfl | rfl | rfl | rfl | rfl <;> (cases e; exact ⟨_, rfl⟩)
set_option maxHeartbeats 8000000 in
set_option maxRecDepth 20000 in
theorem ze_st {s : State} {b L : Nat} {xs : Nat → Int32} (hts : ∀ w ∈ lw_tbl, w.before #[Value.ref b] s = true) (hX : va_X b L xs s s.heap) (hLs : L < 2 ^ 31) (hbl : b < s.heap.size) (hgv : (Jvm.Cond.and given_1 narrow_1).before #[Value.ref b] s = true) : ∃ ad0 : Nat → Option Nat, ad0 1000074 = some b ∧ z_stat za_scl za_tf (za_T ((List.range L).map xs)).1 za_sf za_ss za_nw (fun q => s.heap.size ≤ q) ad0 s := by
  have hA : ∀ a : Nat, a < s.heap.size → ¬ (s.heap.size ≤ a) := fun a h => Nat.not_le.mpr h
  obtain ⟨aK, aV, hS⟩ := ze_strs (A := fun q => s.heap.size ≤ q) hgv hA
  obtain ⟨aX, hXs⟩ := ze_thrs hgv
  obtain ⟨aE, hE, hEi⟩ := ze_enum (A := fun q => s.heap.size ≤ q) hgv hA
  obtain ⟨a2, e2, t2⟩ := ze_arr_T (A := fun q => s.heap.size ≤ q) (ze_k1 hgv) (by decide) hA
  obtain ⟨a3, e3, t3⟩ := ze_arr_T (A := fun q => s.heap.size ≤ q) (ze_k2 hgv) (by decide) hA
  obtain ⟨a4, e4, t4⟩ := ze_arr_T (A := fun q => s.heap.size ≤ q) (ze_k3 hgv) (by decide) hA
  have u6 := ze_k6 hgv
  obtain ⟨a1, e1, t1⟩ := va_Tof (N := 12) (f := fun j => .ref (aE j)) (A := fun q => s.heap.size ≤ q) (by decide) (u6 _ List.mem_cons_self) (va_eqt (u6 _ (List.mem_cons_of_mem _ List.mem_cons_self))) (fun j hj => (hE j hj).2.2.2.1) hA
  have u7 := u6 _ (List.mem_cons_of_mem _ (List.mem_cons_of_mem _ List.mem_cons_self))
  have u8 := u6 _ (List.mem_cons_of_mem _ (List.mem_cons_of_mem _ (List.mem_cons_of_mem _ List.mem_cons_self)))
  have u9 := u6 _ (List.mem_cons_of_mem _ (List.mem_cons_of_mem _ (List.mem_cons_of_mem _ (List.mem_cons_of_mem _ List.mem_cons_self))))
  have u10 := u6 _ (List.mem_cons_of_mem _ (List.mem_cons_of_mem _ (List.mem_cons_of_mem _ (List.mem_cons_of_mem _ (List.mem_cons_of_mem _ List.mem_cons_self)))))
  obtain ⟨fmt, hfmt⟩ := ze_sfq (va_Zqof (A := fun q => s.heap.size ≤ q) (hts (Jvm.Cond.laysStatic "jdk/internal/util/Preconditions" "SIOOBE_FORMATTER" "Ljava/util/function/BiFunction;") (z_lt1 184 rfl)) (hts (Jvm.Cond.initialized "jdk/internal/util/Preconditions") (z_lt1 9 rfl)) u8 hA)
  have s0 := hS 0 _ rfl
  have s1 := hS 1 _ rfl
  have s2 := hS 2 _ rfl
  have s3 := hS 3 _ rfl
  have s4 := hS 4 _ rfl
  have s5 := hS 5 _ rfl
  have s6 := hS 6 _ rfl
  have s7 := hS 7 _ rfl
  have s8 := hS 8 _ rfl
  have s9 := hS 9 _ rfl
  have s10 := hS 10 _ rfl
  have s11 := hS 11 _ rfl
  have s12 := hS 12 _ rfl
  have s13 := hS 13 _ rfl
  have s14 := hS 14 _ rfl
  have s15 := hS 15 _ rfl
  have s16 := hS 16 _ rfl
  have s17 := hS 17 _ rfl
  have s18 := hS 18 _ rfl
  have s19 := hS 19 _ rfl
  have s20 := hS 20 _ rfl
  have s21 := hS 21 _ rfl
  have s22 := hS 22 _ rfl
  have s23 := hS 23 _ rfl
  have s24 := hS 24 _ rfl
  have s25 := hS 25 _ rfl
  have s26 := hS 26 _ rfl
  have s27 := hS 27 _ rfl
  have s28 := hS 28 _ rfl
  have n0 := hE 0 (by decide)
  have n1 := hE 1 (by decide)
  have n2 := hE 2 (by decide)
  have n3 := hE 3 (by decide)
  have n4 := hE 4 (by decide)
  have n5 := hE 5 (by decide)
  have n6 := hE 6 (by decide)
  have n7 := hE 7 (by decide)
  have n8 := hE 8 (by decide)
  have n9 := hE 9 (by decide)
  have n10 := hE 10 (by decide)
  have n11 := hE 11 (by decide)
  refine ⟨ze_ad aE a1 a2 a3 a4 aK aV aX b fmt, rfl, ?_, ?_, ?_, ?_, ⟨?_, ?_⟩, ?_⟩
  · exact z_l9 (Q := ze_Q (ze_ad aE a1 a2 a3 a4 aK aV aX b fmt) (fun q => s.heap.size ≤ q) s) <|
      z_l1 (k := 0) (Q := ze_Q (ze_ad aE a1 a2 a3 a4 aK aV aX b fmt) (fun q => s.heap.size ≤ q) s) (by obtain ⟨w, w1, w2⟩ := n0.2.2.2.2; cases w1.symm.trans s2.1; exact ze_Qe rfl rfl (Nat.le_of_ble_eq_true rfl) n0.2.1 n0.2.2.1 w2) <|
      z_l1 (k := 1) (Q := ze_Q (ze_ad aE a1 a2 a3 a4 aK aV aX b fmt) (fun q => s.heap.size ≤ q) s) (by obtain ⟨w, w1, w2⟩ := n1.2.2.2.2; cases w1.symm.trans s3.1; exact ze_Qe rfl rfl (Nat.le_of_ble_eq_true rfl) n1.2.1 n1.2.2.1 w2) <|
      z_l1 (k := 2) (Q := ze_Q (ze_ad aE a1 a2 a3 a4 aK aV aX b fmt) (fun q => s.heap.size ≤ q) s) (by obtain ⟨w, w1, w2⟩ := n2.2.2.2.2; cases w1.symm.trans s4.1; exact ze_Qe rfl rfl (Nat.le_of_ble_eq_true rfl) n2.2.1 n2.2.2.1 w2) <|
      z_l1 (k := 3) (Q := ze_Q (ze_ad aE a1 a2 a3 a4 aK aV aX b fmt) (fun q => s.heap.size ≤ q) s) (by obtain ⟨w, w1, w2⟩ := n3.2.2.2.2; cases w1.symm.trans s5.1; exact ze_Qe rfl rfl (Nat.le_of_ble_eq_true rfl) n3.2.1 n3.2.2.1 w2) <|
      z_l1 (k := 4) (Q := ze_Q (ze_ad aE a1 a2 a3 a4 aK aV aX b fmt) (fun q => s.heap.size ≤ q) s) (by obtain ⟨w, w1, w2⟩ := n4.2.2.2.2; cases w1.symm.trans s6.1; exact ze_Qe rfl rfl (Nat.le_of_ble_eq_true rfl) n4.2.1 n4.2.2.1 w2) <|
      z_l1 (k := 5) (Q := ze_Q (ze_ad aE a1 a2 a3 a4 aK aV aX b fmt) (fun q => s.heap.size ≤ q) s) (by obtain ⟨w, w1, w2⟩ := n5.2.2.2.2; cases w1.symm.trans s7.1; exact ze_Qe rfl rfl (Nat.le_of_ble_eq_true rfl) n5.2.1 n5.2.2.1 w2) <|
      z_l1 (k := 6) (Q := ze_Q (ze_ad aE a1 a2 a3 a4 aK aV aX b fmt) (fun q => s.heap.size ≤ q) s) (by obtain ⟨w, w1, w2⟩ := n6.2.2.2.2; cases w1.symm.trans s8.1; exact ze_Qe rfl rfl (Nat.le_of_ble_eq_true rfl) n6.2.1 n6.2.2.1 w2) <|
      z_l1 (k := 7) (Q := ze_Q (ze_ad aE a1 a2 a3 a4 aK aV aX b fmt) (fun q => s.heap.size ≤ q) s) (by obtain ⟨w, w1, w2⟩ := n7.2.2.2.2; cases w1.symm.trans s9.1; exact ze_Qe rfl rfl (Nat.le_of_ble_eq_true rfl) n7.2.1 n7.2.2.1 w2) <|
      z_l1 (k := 8) (Q := ze_Q (ze_ad aE a1 a2 a3 a4 aK aV aX b fmt) (fun q => s.heap.size ≤ q) s) (by obtain ⟨w, w1, w2⟩ := n8.2.2.2.2; cases w1.symm.trans s10.1; exact ze_Qe rfl rfl (Nat.le_of_ble_eq_true rfl) n8.2.1 n8.2.2.1 w2) <|
      z_l1 (k := 9) (Q := ze_Q (ze_ad aE a1 a2 a3 a4 aK aV aX b fmt) (fun q => s.heap.size ≤ q) s) (by obtain ⟨w, w1, w2⟩ := n9.2.2.2.2; cases w1.symm.trans s11.1; exact ze_Qe rfl rfl (Nat.le_of_ble_eq_true rfl) n9.2.1 n9.2.2.1 w2) <|
      z_l1 (k := 10) (Q := ze_Q (ze_ad aE a1 a2 a3 a4 aK aV aX b fmt) (fun q => s.heap.size ≤ q) s) (by obtain ⟨w, w1, w2⟩ := n10.2.2.2.2; cases w1.symm.trans s12.1; exact ze_Qe rfl rfl (Nat.le_of_ble_eq_true rfl) n10.2.1 n10.2.2.1 w2) <|
      z_l1 (k := 11) (Q := ze_Q (ze_ad aE a1 a2 a3 a4 aK aV aX b fmt) (fun q => s.heap.size ≤ q) s) (by obtain ⟨w, w1, w2⟩ := n11.2.2.2.2; cases w1.symm.trans s13.1; exact ze_Qe rfl rfl (Nat.le_of_ble_eq_true rfl) n11.2.1 n11.2.2.1 w2) <|
      z_l1 (k := 12) (Q := ze_Q (ze_ad aE a1 a2 a3 a4 aK aV aX b fmt) (fun q => s.heap.size ≤ q) s) (ze_Qq (f := aE) rfl rfl (fun k hk => by unfold ze_ad; rw [if_neg (by omega), if_pos (by omega), Nat.add_sub_cancel_left]) t1) <|
      z_l1 (k := 13) (Q := ze_Q (ze_ad aE a1 a2 a3 a4 aK aV aX b fmt) (fun q => s.heap.size ≤ q) s) (ze_Qa (l := ze_moeb) rfl rfl (Nat.le_of_ble_eq_true rfl) rfl t2) <|
      z_l1 (k := 14) (Q := ze_Q (ze_ad aE a1 a2 a3 a4 aK aV aX b fmt) (fun q => s.heap.size ≤ q) s) (ze_Qa (l := ze_toti) rfl rfl (Nat.le_of_ble_eq_true rfl) rfl t3) <|
      z_l1 (k := 15) (Q := ze_Q (ze_ad aE a1 a2 a3 a4 aK aV aX b fmt) (fun q => s.heap.size ≤ q) s) (ze_Qa (l := ze_sw) rfl rfl (Nat.le_of_ble_eq_true rfl) rfl t4) <|
      z_l1 (k := 16) (Q := ze_Q (ze_ad aE a1 a2 a3 a4 aK aV aX b fmt) (fun q => s.heap.size ≤ q) s) (ze_Qa rfl rfl (Nat.le_of_ble_eq_true rfl) rfl s0.2.2.2.2) <|
      z_l1 (k := 17) (Q := ze_Q (ze_ad aE a1 a2 a3 a4 aK aV aX b fmt) (fun q => s.heap.size ≤ q) s) (ze_Qs rfl rfl (Nat.le_of_ble_eq_true rfl) s0.2.1 s0.2.2.1 s0.2.2.2.1) <|
      z_l1 (k := 18) (Q := ze_Q (ze_ad aE a1 a2 a3 a4 aK aV aX b fmt) (fun q => s.heap.size ≤ q) s) (ze_Qa rfl rfl (Nat.le_of_ble_eq_true rfl) rfl s1.2.2.2.2) <|
      z_l1 (k := 19) (Q := ze_Q (ze_ad aE a1 a2 a3 a4 aK aV aX b fmt) (fun q => s.heap.size ≤ q) s) (ze_Qs rfl rfl (Nat.le_of_ble_eq_true rfl) s1.2.1 s1.2.2.1 s1.2.2.2.1) <|
      z_l1 (k := 20) (Q := ze_Q (ze_ad aE a1 a2 a3 a4 aK aV aX b fmt) (fun q => s.heap.size ≤ q) s) (ze_Qa rfl rfl (Nat.le_of_ble_eq_true rfl) rfl s2.2.2.2.2) <|
      z_l1 (k := 21) (Q := ze_Q (ze_ad aE a1 a2 a3 a4 aK aV aX b fmt) (fun q => s.heap.size ≤ q) s) (ze_Qs rfl rfl (Nat.le_of_ble_eq_true rfl) s2.2.1 s2.2.2.1 s2.2.2.2.1) <|
      z_l1 (k := 22) (Q := ze_Q (ze_ad aE a1 a2 a3 a4 aK aV aX b fmt) (fun q => s.heap.size ≤ q) s) (ze_Qa rfl rfl (Nat.le_of_ble_eq_true rfl) rfl s3.2.2.2.2) <|
      z_l1 (k := 23) (Q := ze_Q (ze_ad aE a1 a2 a3 a4 aK aV aX b fmt) (fun q => s.heap.size ≤ q) s) (ze_Qs rfl rfl (Nat.le_of_ble_eq_true rfl) s3.2.1 s3.2.2.1 s3.2.2.2.1) <|
      z_l1 (k := 24) (Q := ze_Q (ze_ad aE a1 a2 a3 a4 aK aV aX b fmt) (fun q => s.heap.size ≤ q) s) (ze_Qa rfl rfl (Nat.le_of_ble_eq_true rfl) rfl s4.2.2.2.2) <|
      z_l1 (k := 25) (Q := ze_Q (ze_ad aE a1 a2 a3 a4 aK aV aX b fmt) (fun q => s.heap.size ≤ q) s) (ze_Qs rfl rfl (Nat.le_of_ble_eq_true rfl) s4.2.1 s4.2.2.1 s4.2.2.2.1) <|
      z_l1 (k := 26) (Q := ze_Q (ze_ad aE a1 a2 a3 a4 aK aV aX b fmt) (fun q => s.heap.size ≤ q) s) (ze_Qa rfl rfl (Nat.le_of_ble_eq_true rfl) rfl s5.2.2.2.2) <|
      z_l1 (k := 27) (Q := ze_Q (ze_ad aE a1 a2 a3 a4 aK aV aX b fmt) (fun q => s.heap.size ≤ q) s) (ze_Qs rfl rfl (Nat.le_of_ble_eq_true rfl) s5.2.1 s5.2.2.1 s5.2.2.2.1) <|
      z_l1 (k := 28) (Q := ze_Q (ze_ad aE a1 a2 a3 a4 aK aV aX b fmt) (fun q => s.heap.size ≤ q) s) (ze_Qa rfl rfl (Nat.le_of_ble_eq_true rfl) rfl s6.2.2.2.2) <|
      z_l1 (k := 29) (Q := ze_Q (ze_ad aE a1 a2 a3 a4 aK aV aX b fmt) (fun q => s.heap.size ≤ q) s) (ze_Qs rfl rfl (Nat.le_of_ble_eq_true rfl) s6.2.1 s6.2.2.1 s6.2.2.2.1) <|
      z_l1 (k := 30) (Q := ze_Q (ze_ad aE a1 a2 a3 a4 aK aV aX b fmt) (fun q => s.heap.size ≤ q) s) (ze_Qa rfl rfl (Nat.le_of_ble_eq_true rfl) rfl s7.2.2.2.2) <|
      z_l1 (k := 31) (Q := ze_Q (ze_ad aE a1 a2 a3 a4 aK aV aX b fmt) (fun q => s.heap.size ≤ q) s) (ze_Qs rfl rfl (Nat.le_of_ble_eq_true rfl) s7.2.1 s7.2.2.1 s7.2.2.2.1) <|
      z_l1 (k := 32) (Q := ze_Q (ze_ad aE a1 a2 a3 a4 aK aV aX b fmt) (fun q => s.heap.size ≤ q) s) (ze_Qa rfl rfl (Nat.le_of_ble_eq_true rfl) rfl s8.2.2.2.2) <|
      z_l1 (k := 33) (Q := ze_Q (ze_ad aE a1 a2 a3 a4 aK aV aX b fmt) (fun q => s.heap.size ≤ q) s) (ze_Qs rfl rfl (Nat.le_of_ble_eq_true rfl) s8.2.1 s8.2.2.1 s8.2.2.2.1) <|
      z_l1 (k := 34) (Q := ze_Q (ze_ad aE a1 a2 a3 a4 aK aV aX b fmt) (fun q => s.heap.size ≤ q) s) (ze_Qa rfl rfl (Nat.le_of_ble_eq_true rfl) rfl s9.2.2.2.2) <|
      z_l1 (k := 35) (Q := ze_Q (ze_ad aE a1 a2 a3 a4 aK aV aX b fmt) (fun q => s.heap.size ≤ q) s) (ze_Qs rfl rfl (Nat.le_of_ble_eq_true rfl) s9.2.1 s9.2.2.1 s9.2.2.2.1) <|
      z_l1 (k := 36) (Q := ze_Q (ze_ad aE a1 a2 a3 a4 aK aV aX b fmt) (fun q => s.heap.size ≤ q) s) (ze_Qa rfl rfl (Nat.le_of_ble_eq_true rfl) rfl s10.2.2.2.2) <|
      z_l1 (k := 37) (Q := ze_Q (ze_ad aE a1 a2 a3 a4 aK aV aX b fmt) (fun q => s.heap.size ≤ q) s) (ze_Qs rfl rfl (Nat.le_of_ble_eq_true rfl) s10.2.1 s10.2.2.1 s10.2.2.2.1) <|
      z_l1 (k := 38) (Q := ze_Q (ze_ad aE a1 a2 a3 a4 aK aV aX b fmt) (fun q => s.heap.size ≤ q) s) (ze_Qa rfl rfl (Nat.le_of_ble_eq_true rfl) rfl s11.2.2.2.2) <|
      z_l1 (k := 39) (Q := ze_Q (ze_ad aE a1 a2 a3 a4 aK aV aX b fmt) (fun q => s.heap.size ≤ q) s) (ze_Qs rfl rfl (Nat.le_of_ble_eq_true rfl) s11.2.1 s11.2.2.1 s11.2.2.2.1) <|
      z_l1 (k := 40) (Q := ze_Q (ze_ad aE a1 a2 a3 a4 aK aV aX b fmt) (fun q => s.heap.size ≤ q) s) (ze_Qa rfl rfl (Nat.le_of_ble_eq_true rfl) rfl s12.2.2.2.2) <|
      z_l1 (k := 41) (Q := ze_Q (ze_ad aE a1 a2 a3 a4 aK aV aX b fmt) (fun q => s.heap.size ≤ q) s) (ze_Qs rfl rfl (Nat.le_of_ble_eq_true rfl) s12.2.1 s12.2.2.1 s12.2.2.2.1) <|
      z_l1 (k := 42) (Q := ze_Q (ze_ad aE a1 a2 a3 a4 aK aV aX b fmt) (fun q => s.heap.size ≤ q) s) (ze_Qa rfl rfl (Nat.le_of_ble_eq_true rfl) rfl s13.2.2.2.2) <|
      z_l1 (k := 43) (Q := ze_Q (ze_ad aE a1 a2 a3 a4 aK aV aX b fmt) (fun q => s.heap.size ≤ q) s) (ze_Qs rfl rfl (Nat.le_of_ble_eq_true rfl) s13.2.1 s13.2.2.1 s13.2.2.2.1) <|
      z_l1 (k := 44) (Q := ze_Q (ze_ad aE a1 a2 a3 a4 aK aV aX b fmt) (fun q => s.heap.size ≤ q) s) (ze_Qa rfl rfl (Nat.le_of_ble_eq_true rfl) rfl s14.2.2.2.2) <|
      z_l1 (k := 45) (Q := ze_Q (ze_ad aE a1 a2 a3 a4 aK aV aX b fmt) (fun q => s.heap.size ≤ q) s) (ze_Qs rfl rfl (Nat.le_of_ble_eq_true rfl) s14.2.1 s14.2.2.1 s14.2.2.2.1) <|
      z_l1 (k := 46) (Q := ze_Q (ze_ad aE a1 a2 a3 a4 aK aV aX b fmt) (fun q => s.heap.size ≤ q) s) (ze_Qa rfl rfl (Nat.le_of_ble_eq_true rfl) rfl s15.2.2.2.2) <|
      z_l1 (k := 47) (Q := ze_Q (ze_ad aE a1 a2 a3 a4 aK aV aX b fmt) (fun q => s.heap.size ≤ q) s) (ze_Qs rfl rfl (Nat.le_of_ble_eq_true rfl) s15.2.1 s15.2.2.1 s15.2.2.2.1) <|
      z_l1 (k := 48) (Q := ze_Q (ze_ad aE a1 a2 a3 a4 aK aV aX b fmt) (fun q => s.heap.size ≤ q) s) (ze_Qa rfl rfl (Nat.le_of_ble_eq_true rfl) rfl s16.2.2.2.2) <|
      z_l1 (k := 49) (Q := ze_Q (ze_ad aE a1 a2 a3 a4 aK aV aX b fmt) (fun q => s.heap.size ≤ q) s) (ze_Qs rfl rfl (Nat.le_of_ble_eq_true rfl) s16.2.1 s16.2.2.1 s16.2.2.2.1) <|
      z_l1 (k := 50) (Q := ze_Q (ze_ad aE a1 a2 a3 a4 aK aV aX b fmt) (fun q => s.heap.size ≤ q) s) (ze_Qa rfl rfl (Nat.le_of_ble_eq_true rfl) rfl s17.2.2.2.2) <|
      z_l1 (k := 51) (Q := ze_Q (ze_ad aE a1 a2 a3 a4 aK aV aX b fmt) (fun q => s.heap.size ≤ q) s) (ze_Qs rfl rfl (Nat.le_of_ble_eq_true rfl) s17.2.1 s17.2.2.1 s17.2.2.2.1) <|
      z_l1 (k := 52) (Q := ze_Q (ze_ad aE a1 a2 a3 a4 aK aV aX b fmt) (fun q => s.heap.size ≤ q) s) (ze_Qa rfl rfl (Nat.le_of_ble_eq_true rfl) rfl s18.2.2.2.2) <|
      z_l1 (k := 53) (Q := ze_Q (ze_ad aE a1 a2 a3 a4 aK aV aX b fmt) (fun q => s.heap.size ≤ q) s) (ze_Qs rfl rfl (Nat.le_of_ble_eq_true rfl) s18.2.1 s18.2.2.1 s18.2.2.2.1) <|
      z_l1 (k := 54) (Q := ze_Q (ze_ad aE a1 a2 a3 a4 aK aV aX b fmt) (fun q => s.heap.size ≤ q) s) (ze_Qa rfl rfl (Nat.le_of_ble_eq_true rfl) rfl s19.2.2.2.2) <|
      z_l1 (k := 55) (Q := ze_Q (ze_ad aE a1 a2 a3 a4 aK aV aX b fmt) (fun q => s.heap.size ≤ q) s) (ze_Qs rfl rfl (Nat.le_of_ble_eq_true rfl) s19.2.1 s19.2.2.1 s19.2.2.2.1) <|
      z_l1 (k := 56) (Q := ze_Q (ze_ad aE a1 a2 a3 a4 aK aV aX b fmt) (fun q => s.heap.size ≤ q) s) (ze_Qa rfl rfl (Nat.le_of_ble_eq_true rfl) rfl s20.2.2.2.2) <|
      z_l1 (k := 57) (Q := ze_Q (ze_ad aE a1 a2 a3 a4 aK aV aX b fmt) (fun q => s.heap.size ≤ q) s) (ze_Qs rfl rfl (Nat.le_of_ble_eq_true rfl) s20.2.1 s20.2.2.1 s20.2.2.2.1) <|
      z_l1 (k := 58) (Q := ze_Q (ze_ad aE a1 a2 a3 a4 aK aV aX b fmt) (fun q => s.heap.size ≤ q) s) (ze_Qa rfl rfl (Nat.le_of_ble_eq_true rfl) rfl s21.2.2.2.2) <|
      z_l1 (k := 59) (Q := ze_Q (ze_ad aE a1 a2 a3 a4 aK aV aX b fmt) (fun q => s.heap.size ≤ q) s) (ze_Qs rfl rfl (Nat.le_of_ble_eq_true rfl) s21.2.1 s21.2.2.1 s21.2.2.2.1) <|
      z_l1 (k := 60) (Q := ze_Q (ze_ad aE a1 a2 a3 a4 aK aV aX b fmt) (fun q => s.heap.size ≤ q) s) (ze_Qa rfl rfl (Nat.le_of_ble_eq_true rfl) rfl s22.2.2.2.2) <|
      z_l1 (k := 61) (Q := ze_Q (ze_ad aE a1 a2 a3 a4 aK aV aX b fmt) (fun q => s.heap.size ≤ q) s) (ze_Qs rfl rfl (Nat.le_of_ble_eq_true rfl) s22.2.1 s22.2.2.1 s22.2.2.2.1) <|
      z_l1 (k := 62) (Q := ze_Q (ze_ad aE a1 a2 a3 a4 aK aV aX b fmt) (fun q => s.heap.size ≤ q) s) (ze_Qa rfl rfl (Nat.le_of_ble_eq_true rfl) rfl s23.2.2.2.2) <|
      z_l1 (k := 63) (Q := ze_Q (ze_ad aE a1 a2 a3 a4 aK aV aX b fmt) (fun q => s.heap.size ≤ q) s) (ze_Qs rfl rfl (Nat.le_of_ble_eq_true rfl) s23.2.1 s23.2.2.1 s23.2.2.2.1) <|
      z_l1 (k := 64) (Q := ze_Q (ze_ad aE a1 a2 a3 a4 aK aV aX b fmt) (fun q => s.heap.size ≤ q) s) (ze_Qa rfl rfl (Nat.le_of_ble_eq_true rfl) rfl s24.2.2.2.2) <|
      z_l1 (k := 65) (Q := ze_Q (ze_ad aE a1 a2 a3 a4 aK aV aX b fmt) (fun q => s.heap.size ≤ q) s) (ze_Qs rfl rfl (Nat.le_of_ble_eq_true rfl) s24.2.1 s24.2.2.1 s24.2.2.2.1) <|
      z_l1 (k := 66) (Q := ze_Q (ze_ad aE a1 a2 a3 a4 aK aV aX b fmt) (fun q => s.heap.size ≤ q) s) (ze_Qa rfl rfl (Nat.le_of_ble_eq_true rfl) rfl s25.2.2.2.2) <|
      z_l1 (k := 67) (Q := ze_Q (ze_ad aE a1 a2 a3 a4 aK aV aX b fmt) (fun q => s.heap.size ≤ q) s) (ze_Qs rfl rfl (Nat.le_of_ble_eq_true rfl) s25.2.1 s25.2.2.1 s25.2.2.2.1) <|
      z_l1 (k := 68) (Q := ze_Q (ze_ad aE a1 a2 a3 a4 aK aV aX b fmt) (fun q => s.heap.size ≤ q) s) (ze_Qa rfl rfl (Nat.le_of_ble_eq_true rfl) rfl s26.2.2.2.2) <|
      z_l1 (k := 69) (Q := ze_Q (ze_ad aE a1 a2 a3 a4 aK aV aX b fmt) (fun q => s.heap.size ≤ q) s) (ze_Qs rfl rfl (Nat.le_of_ble_eq_true rfl) s26.2.1 s26.2.2.1 s26.2.2.2.1) <|
      z_l1 (k := 70) (Q := ze_Q (ze_ad aE a1 a2 a3 a4 aK aV aX b fmt) (fun q => s.heap.size ≤ q) s) (ze_Qa rfl rfl (Nat.le_of_ble_eq_true rfl) rfl s27.2.2.2.2) <|
      z_l1 (k := 71) (Q := ze_Q (ze_ad aE a1 a2 a3 a4 aK aV aX b fmt) (fun q => s.heap.size ≤ q) s) (ze_Qs rfl rfl (Nat.le_of_ble_eq_true rfl) s27.2.1 s27.2.2.1 s27.2.2.2.1) <|
      z_l1 (k := 72) (Q := ze_Q (ze_ad aE a1 a2 a3 a4 aK aV aX b fmt) (fun q => s.heap.size ≤ q) s) (ze_Qa rfl rfl (Nat.le_of_ble_eq_true rfl) rfl s28.2.2.2.2) <|
      z_l1 (k := 73) (Q := ze_Q (ze_ad aE a1 a2 a3 a4 aK aV aX b fmt) (fun q => s.heap.size ≤ q) s) (ze_Qs rfl rfl (Nat.le_of_ble_eq_true rfl) s28.2.1 s28.2.2.1 s28.2.2.2.1) <|
      z_l1 (k := 74) (Q := ze_Q (ze_ad aE a1 a2 a3 a4 aK aV aX b fmt) (fun q => s.heap.size ≤ q) s) (by
      obtain ⟨scr, x1, x2, x3, x4, x5⟩ := hX
      refine ze_Qa (l := (List.range L).map xs) rfl rfl (Nat.le_of_ble_eq_true rfl) rfl ⟨scr, x1, x2, x3, ?_, ?_, ?_, hA b hbl⟩
      · rw [List.length_map, List.length_range, x4]; exact Nat.le_refl _
      · rw [List.length_map, List.length_range, x4]
      · intro j hj
        rw [List.length_map, List.length_range] at hj
        rw [x5 j hj]
        simp [List.getD_eq_getElem?_getD, List.getElem?_map, List.getElem?_range hj]) <|
      z_l0
  · exact z_l9 (Q := fun (_ : Nat) (q : zF) => z_vk 0 q.2.2.2 ∧ va_Z q.1 q.2.1 q.2.2.1 (z_cv (ze_ad aE a1 a2 a3 a4 aK aV aX b fmt) q.2.2.2) (fun q => s.heap.size ≤ q) s s.heap) <|
      z_l1 (k := 0) (Q := fun (_ : Nat) (q : zF) => z_vk 0 q.2.2.2 ∧ va_Z q.1 q.2.1 q.2.2.1 (z_cv (ze_ad aE a1 a2 a3 a4 aK aV aX b fmt) q.2.2.2) (fun q => s.heap.size ≤ q) s s.heap) ⟨Or.inr (Nat.le_of_ble_eq_true rfl), va_Zof (hts (Jvm.Cond.laysStatic "LyndonBench$Command" "TEXT" "LLyndonBench$Command;") (z_lt8 72 rfl)) (hts (Jvm.Cond.initialized "LyndonBench$Command") (z_lt1 17 rfl)) n0.1 hA⟩ <|
      z_l1 (k := 1) (Q := fun (_ : Nat) (q : zF) => z_vk 0 q.2.2.2 ∧ va_Z q.1 q.2.1 q.2.2.1 (z_cv (ze_ad aE a1 a2 a3 a4 aK aV aX b fmt) q.2.2.2) (fun q => s.heap.size ≤ q) s s.heap) ⟨Or.inr (Nat.le_of_ble_eq_true rfl), va_Zof (hts (Jvm.Cond.laysStatic "LyndonBench$Command" "APPEND" "LLyndonBench$Command;") (z_lt8 73 rfl)) (hts (Jvm.Cond.initialized "LyndonBench$Command") (z_lt1 17 rfl)) n1.1 hA⟩ <|
      z_l1 (k := 2) (Q := fun (_ : Nat) (q : zF) => z_vk 0 q.2.2.2 ∧ va_Z q.1 q.2.1 q.2.2.1 (z_cv (ze_ad aE a1 a2 a3 a4 aK aV aX b fmt) q.2.2.2) (fun q => s.heap.size ≤ q) s s.heap) ⟨Or.inr (Nat.le_of_ble_eq_true rfl), va_Zof (hts (Jvm.Cond.laysStatic "LyndonBench$Command" "DROP" "LLyndonBench$Command;") (z_lt8 74 rfl)) (hts (Jvm.Cond.initialized "LyndonBench$Command") (z_lt1 17 rfl)) n2.1 hA⟩ <|
      z_l1 (k := 3) (Q := fun (_ : Nat) (q : zF) => z_vk 0 q.2.2.2 ∧ va_Z q.1 q.2.1 q.2.2.1 (z_cv (ze_ad aE a1 a2 a3 a4 aK aV aX b fmt) q.2.2.2) (fun q => s.heap.size ≤ q) s s.heap) ⟨Or.inr (Nat.le_of_ble_eq_true rfl), va_Zof (hts (Jvm.Cond.laysStatic "LyndonBench$Command" "PART" "LLyndonBench$Command;") (z_lt8 75 rfl)) (hts (Jvm.Cond.initialized "LyndonBench$Command") (z_lt1 17 rfl)) n3.1 hA⟩ <|
      z_l1 (k := 4) (Q := fun (_ : Nat) (q : zF) => z_vk 0 q.2.2.2 ∧ va_Z q.1 q.2.1 q.2.2.1 (z_cv (ze_ad aE a1 a2 a3 a4 aK aV aX b fmt) q.2.2.2) (fun q => s.heap.size ≤ q) s s.heap) ⟨Or.inr (Nat.le_of_ble_eq_true rfl), va_Zof (hts (Jvm.Cond.laysStatic "LyndonBench$Command" "ROTATE" "LLyndonBench$Command;") (z_lt8 76 rfl)) (hts (Jvm.Cond.initialized "LyndonBench$Command") (z_lt1 17 rfl)) n4.1 hA⟩ <|
      z_l1 (k := 5) (Q := fun (_ : Nat) (q : zF) => z_vk 0 q.2.2.2 ∧ va_Z q.1 q.2.1 q.2.2.1 (z_cv (ze_ad aE a1 a2 a3 a4 aK aV aX b fmt) q.2.2.2) (fun q => s.heap.size ≤ q) s s.heap) ⟨Or.inr (Nat.le_of_ble_eq_true rfl), va_Zof (hts (Jvm.Cond.laysStatic "LyndonBench$Command" "REVERSE" "LLyndonBench$Command;") (z_lt8 77 rfl)) (hts (Jvm.Cond.initialized "LyndonBench$Command") (z_lt1 17 rfl)) n5.1 hA⟩ <|
      z_l1 (k := 6) (Q := fun (_ : Nat) (q : zF) => z_vk 0 q.2.2.2 ∧ va_Z q.1 q.2.1 q.2.2.1 (z_cv (ze_ad aE a1 a2 a3 a4 aK aV aX b fmt) q.2.2.2) (fun q => s.heap.size ≤ q) s s.heap) ⟨Or.inr (Nat.le_of_ble_eq_true rfl), va_Zof (hts (Jvm.Cond.laysStatic "LyndonBench$Command" "LEAST" "LLyndonBench$Command;") (z_lt8 78 rfl)) (hts (Jvm.Cond.initialized "LyndonBench$Command") (z_lt1 17 rfl)) n6.1 hA⟩ <|
      z_l1 (k := 7) (Q := fun (_ : Nat) (q : zF) => z_vk 0 q.2.2.2 ∧ va_Z q.1 q.2.1 q.2.2.1 (z_cv (ze_ad aE a1 a2 a3 a4 aK aV aX b fmt) q.2.2.2) (fun q => s.heap.size ≤ q) s s.heap) ⟨Or.inr (Nat.le_of_ble_eq_true rfl), va_Zof (hts (Jvm.Cond.laysStatic "LyndonBench$Command" "NEXT" "LLyndonBench$Command;") (z_lt8 79 rfl)) (hts (Jvm.Cond.initialized "LyndonBench$Command") (z_lt1 17 rfl)) n7.1 hA⟩ <|
      z_l1 (k := 8) (Q := fun (_ : Nat) (q : zF) => z_vk 0 q.2.2.2 ∧ va_Z q.1 q.2.1 q.2.2.1 (z_cv (ze_ad aE a1 a2 a3 a4 aK aV aX b fmt) q.2.2.2) (fun q => s.heap.size ≤ q) s s.heap) ⟨Or.inr (Nat.le_of_ble_eq_true rfl), va_Zof (hts (Jvm.Cond.laysStatic "LyndonBench$Command" "KEEP" "LLyndonBench$Command;") (z_lt8 80 rfl)) (hts (Jvm.Cond.initialized "LyndonBench$Command") (z_lt1 17 rfl)) n8.1 hA⟩ <|
      z_l1 (k := 9) (Q := fun (_ : Nat) (q : zF) => z_vk 0 q.2.2.2 ∧ va_Z q.1 q.2.1 q.2.2.1 (z_cv (ze_ad aE a1 a2 a3 a4 aK aV aX b fmt) q.2.2.2) (fun q => s.heap.size ≤ q) s s.heap) ⟨Or.inr (Nat.le_of_ble_eq_true rfl), va_Zof (hts (Jvm.Cond.laysStatic "LyndonBench$Command" "REMOVE" "LLyndonBench$Command;") (z_lt8 81 rfl)) (hts (Jvm.Cond.initialized "LyndonBench$Command") (z_lt1 17 rfl)) n9.1 hA⟩ <|
      z_l1 (k := 10) (Q := fun (_ : Nat) (q : zF) => z_vk 0 q.2.2.2 ∧ va_Z q.1 q.2.1 q.2.2.1 (z_cv (ze_ad aE a1 a2 a3 a4 aK aV aX b fmt) q.2.2.2) (fun q => s.heap.size ≤ q) s s.heap) ⟨Or.inr (Nat.le_of_ble_eq_true rfl), va_Zof (hts (Jvm.Cond.laysStatic "LyndonBench$Command" "JOIN" "LLyndonBench$Command;") (z_lt8 82 rfl)) (hts (Jvm.Cond.initialized "LyndonBench$Command") (z_lt1 17 rfl)) n10.1 hA⟩ <|
      z_l1 (k := 11) (Q := fun (_ : Nat) (q : zF) => z_vk 0 q.2.2.2 ∧ va_Z q.1 q.2.1 q.2.2.1 (z_cv (ze_ad aE a1 a2 a3 a4 aK aV aX b fmt) q.2.2.2) (fun q => s.heap.size ≤ q) s s.heap) ⟨Or.inr (Nat.le_of_ble_eq_true rfl), va_Zof (hts (Jvm.Cond.laysStatic "LyndonBench$Command" "REPEAT" "LLyndonBench$Command;") (z_lt2 72 rfl)) (hts (Jvm.Cond.initialized "LyndonBench$Command") (z_lt1 17 rfl)) n11.1 hA⟩ <|
      z_l1 (k := 12) (Q := fun (_ : Nat) (q : zF) => z_vk 0 q.2.2.2 ∧ va_Z q.1 q.2.1 q.2.2.1 (z_cv (ze_ad aE a1 a2 a3 a4 aK aV aX b fmt) q.2.2.2) (fun q => s.heap.size ≤ q) s s.heap) ⟨Or.inr (Nat.le_of_ble_eq_true rfl), va_Zof (hts (Jvm.Cond.laysStatic "LyndonBench$Command" "ALL" "[LLyndonBench$Command;") (z_lt2 69 rfl)) (hts (Jvm.Cond.initialized "LyndonBench$Command") (z_lt1 17 rfl)) e1 hA⟩ <|
      z_l1 (k := 13) (Q := fun (_ : Nat) (q : zF) => z_vk 0 q.2.2.2 ∧ va_Z q.1 q.2.1 q.2.2.1 (z_cv (ze_ad aE a1 a2 a3 a4 aK aV aX b fmt) q.2.2.2) (fun q => s.heap.size ≤ q) s s.heap) ⟨Or.inr (Nat.le_of_ble_eq_true rfl), va_Zof (hts (Jvm.Cond.laysStatic "LyndonBench" "MOEBIUS" "[I") (z_lt3 164 rfl)) (hts (Jvm.Cond.initialized "LyndonBench") (z_lt1 1 rfl)) e2 hA⟩ <|
      z_l1 (k := 14) (Q := fun (_ : Nat) (q : zF) => z_vk 0 q.2.2.2 ∧ va_Z q.1 q.2.1 q.2.2.1 (z_cv (ze_ad aE a1 a2 a3 a4 aK aV aX b fmt) q.2.2.2) (fun q => s.heap.size ≤ q) s s.heap) ⟨Or.inr (Nat.le_of_ble_eq_true rfl), va_Zof (hts (Jvm.Cond.laysStatic "LyndonBench" "TOTIENT" "[I") (z_lt3 172 rfl)) (hts (Jvm.Cond.initialized "LyndonBench") (z_lt1 1 rfl)) e3 hA⟩ <|
      z_l1 (k := 15) (Q := fun (_ : Nat) (q : zF) => z_vk 0 q.2.2.2 ∧ va_Z q.1 q.2.1 q.2.2.1 (z_cv (ze_ad aE a1 a2 a3 a4 aK aV aX b fmt) q.2.2.2) (fun q => s.heap.size ≤ q) s s.heap) ⟨Or.inr (Nat.le_of_ble_eq_true rfl), va_Zof (hts (Jvm.Cond.laysStatic "LyndonBench$1" "$SwitchMap$LyndonBench$Command" "[I") (z_lt2 78 rfl)) (hts (Jvm.Cond.initialized "LyndonBench$1") (z_lt1 18 rfl)) e4 hA⟩ <|
      z_l1 (k := 16) (Q := fun (_ : Nat) (q : zF) => z_vk 0 q.2.2.2 ∧ va_Z q.1 q.2.1 q.2.2.1 (z_cv (ze_ad aE a1 a2 a3 a4 aK aV aX b fmt) q.2.2.2) (fun q => s.heap.size ≤ q) s s.heap) ⟨trivial, va_Zof (hts (Jvm.Cond.laysStatic "java/lang/String" "COMPACT_STRINGS" "Z") (z_lt1 168 rfl)) (hts (Jvm.Cond.initialized "java/lang/String") (z_lt1 7 rfl)) (va_eqi u7) hA⟩ <|
      z_l1 (k := 17) (Q := fun (_ : Nat) (q : zF) => z_vk 0 q.2.2.2 ∧ va_Z q.1 q.2.1 q.2.2.1 (z_cv (ze_ad aE a1 a2 a3 a4 aK aV aX b fmt) q.2.2.2) (fun q => s.heap.size ≤ q) s s.heap) ⟨Or.inr (Nat.le_of_ble_eq_true rfl), hfmt⟩ <|
      z_l0
  · exact z_l9 (Q := fun (_ : Nat) (q : zS) => 1000000 ≤ q.2.2.2 ∧ ∃ t : Nat, ze_ad aE a1 a2 a3 a4 aK aV aX b fmt q.2.2.2 = some t ∧ vk_R q.1 q.2.1 q.2.2.1 t s) <|
      z_l1 (k := 0) (Q := fun (_ : Nat) (q : zS) => 1000000 ≤ q.2.2.2 ∧ ∃ t : Nat, ze_ad aE a1 a2 a3 a4 aK aV aX b fmt q.2.2.2 = some t ∧ vk_R q.1 q.2.1 q.2.2.1 t s) ⟨Nat.le_of_ble_eq_true rfl, aK 0, rfl, vk_R.of (hts (Jvm.Cond.stringRef "LyndonBench" (55 : Nat) "acabaabaccabab") (z_lt1 154 rfl)) s0.1⟩ <|
      z_l1 (k := 1) (Q := fun (_ : Nat) (q : zS) => 1000000 ≤ q.2.2.2 ∧ ∃ t : Nat, ze_ad aE a1 a2 a3 a4 aK aV aX b fmt q.2.2.2 = some t ∧ vk_R q.1 q.2.1 q.2.2.1 t s) ⟨Nat.le_of_ble_eq_true rfl, aK 1, rfl, vk_R.of (hts (Jvm.Cond.stringRef "LyndonBench" (61 : Nat) "abacab") (z_lt1 211 rfl)) s1.1⟩ <|
      z_l1 (k := 2) (Q := fun (_ : Nat) (q : zS) => 1000000 ≤ q.2.2.2 ∧ ∃ t : Nat, ze_ad aE a1 a2 a3 a4 aK aV aX b fmt q.2.2.2 = some t ∧ vk_R q.1 q.2.1 q.2.2.1 t s) ⟨Nat.le_of_ble_eq_true rfl, aX 2, rfl, vk_R.of (hts (Jvm.Cond.stringRef "LyndonBench" (79 : Nat) "the input buffer is not so long") (z_lt4 9 rfl)) (hXs 2 _ rfl)⟩ <|
      z_l1 (k := 3) (Q := fun (_ : Nat) (q : zS) => 1000000 ≤ q.2.2.2 ∧ ∃ t : Nat, ze_ad aE a1 a2 a3 a4 aK aV aX b fmt q.2.2.2 = some t ∧ vk_R q.1 q.2.1 q.2.2.1 t s) ⟨Nat.le_of_ble_eq_true rfl, aX 3, rfl, vk_R.of (hts (Jvm.Cond.stringRef "LyndonBench" (102 : Nat) "there are 2 to 9 letters") (z_lt4 44 rfl)) (hXs 3 _ rfl)⟩ <|
      z_l1 (k := 4) (Q := fun (_ : Nat) (q : zS) => 1000000 ≤ q.2.2.2 ∧ ∃ t : Nat, ze_ad aE a1 a2 a3 a4 aK aV aX b fmt q.2.2.2 = some t ∧ vk_R q.1 q.2.1 q.2.2.1 t s) ⟨Nat.le_of_ble_eq_true rfl, aX 4, rfl, vk_R.of (hts (Jvm.Cond.stringRef "LyndonBench" (110 : Nat) "a letter is still used") (z_lt4 62 rfl)) (hXs 4 _ rfl)⟩ <|
      z_l1 (k := 5) (Q := fun (_ : Nat) (q : zS) => 1000000 ≤ q.2.2.2 ∧ ∃ t : Nat, ze_ad aE a1 a2 a3 a4 aK aV aX b fmt q.2.2.2 = some t ∧ vk_R q.1 q.2.1 q.2.2.1 t s) ⟨Nat.le_of_ble_eq_true rfl, aX 5, rfl, vk_R.of (hts (Jvm.Cond.stringRef "LyndonBench" (123 : Nat) "a text has at most 120 letters") (z_lt4 77 rfl)) (hXs 5 _ rfl)⟩ <|
      z_l1 (k := 6) (Q := fun (_ : Nat) (q : zS) => 1000000 ≤ q.2.2.2 ∧ ∃ t : Nat, ze_ad aE a1 a2 a3 a4 aK aV aX b fmt q.2.2.2 = some t ∧ vk_R q.1 q.2.1 q.2.2.1 t s) ⟨Nat.le_of_ble_eq_true rfl, aX 6, rfl, vk_R.of (hts (Jvm.Cond.stringRef "LyndonBench" (154 : Nat) "the text is empty") (z_lt4 130 rfl)) (hXs 6 _ rfl)⟩ <|
      z_l1 (k := 7) (Q := fun (_ : Nat) (q : zS) => 1000000 ≤ q.2.2.2 ∧ ∃ t : Nat, ze_ad aE a1 a2 a3 a4 aK aV aX b fmt q.2.2.2 = some t ∧ vk_R q.1 q.2.1 q.2.2.1 t s) ⟨Nat.le_of_ble_eq_true rfl, aX 7, rfl, vk_R.of (hts (Jvm.Cond.stringRef "LyndonBench" (159 : Nat) "the greatest length is 1 to 120") (z_lt4 138 rfl)) (hXs 7 _ rfl)⟩ <|
      z_l1 (k := 8) (Q := fun (_ : Nat) (q : zS) => 1000000 ≤ q.2.2.2 ∧ ∃ t : Nat, ze_ad aE a1 a2 a3 a4 aK aV aX b fmt q.2.2.2 = some t ∧ vk_R q.1 q.2.1 q.2.2.1 t s) ⟨Nat.le_of_ble_eq_true rfl, aX 8, rfl, vk_R.of (hts (Jvm.Cond.stringRef "LyndonBench" (164 : Nat) "there is no next Lyndon word") (z_lt4 140 rfl)) (hXs 8 _ rfl)⟩ <|
      z_l1 (k := 9) (Q := fun (_ : Nat) (q : zS) => 1000000 ≤ q.2.2.2 ∧ ∃ t : Nat, ze_ad aE a1 a2 a3 a4 aK aV aX b fmt q.2.2.2 = some t ∧ vk_R q.1 q.2.1 q.2.2.1 t s) ⟨Nat.le_of_ble_eq_true rfl, aX 9, rfl, vk_R.of (hts (Jvm.Cond.stringRef "LyndonBench" (181 : Nat) "the factor can't be kept") (z_lt4 173 rfl)) (hXs 9 _ rfl)⟩ <|
      z_l1 (k := 10) (Q := fun (_ : Nat) (q : zS) => 1000000 ≤ q.2.2.2 ∧ ∃ t : Nat, ze_ad aE a1 a2 a3 a4 aK aV aX b fmt q.2.2.2 = some t ∧ vk_R q.1 q.2.1 q.2.2.1 t s) ⟨Nat.le_of_ble_eq_true rfl, aX 10, rfl, vk_R.of (hts (Jvm.Cond.stringRef "LyndonBench" (186 : Nat) "the text can't be kept") (z_lt4 181 rfl)) (hXs 10 _ rfl)⟩ <|
      z_l1 (k := 11) (Q := fun (_ : Nat) (q : zS) => 1000000 ≤ q.2.2.2 ∧ ∃ t : Nat, ze_ad aE a1 a2 a3 a4 aK aV aX b fmt q.2.2.2 = some t ∧ vk_R q.1 q.2.1 q.2.2.1 t s) ⟨Nat.le_of_ble_eq_true rfl, aX 11, rfl, vk_R.of (hts (Jvm.Cond.stringRef "LyndonBench" (194 : Nat) "there is no such kept word") (z_lt4 189 rfl)) (hXs 11 _ rfl)⟩ <|
      z_l1 (k := 12) (Q := fun (_ : Nat) (q : zS) => 1000000 ≤ q.2.2.2 ∧ ∃ t : Nat, ze_ad aE a1 a2 a3 a4 aK aV aX b fmt q.2.2.2 = some t ∧ vk_R q.1 q.2.1 q.2.2.1 t s) ⟨Nat.le_of_ble_eq_true rfl, aX 12, rfl, vk_R.of (hts (Jvm.Cond.stringRef "LyndonBench" (203 : Nat) "the kept words can't be joined") (z_lt4 199 rfl)) (hXs 12 _ rfl)⟩ <|
      z_l1 (k := 13) (Q := fun (_ : Nat) (q : zS) => 1000000 ≤ q.2.2.2 ∧ ∃ t : Nat, ze_ad aE a1 a2 a3 a4 aK aV aX b fmt q.2.2.2 = some t ∧ vk_R q.1 q.2.1 q.2.2.1 t s) ⟨Nat.le_of_ble_eq_true rfl, aX 13, rfl, vk_R.of (hts (Jvm.Cond.stringRef "LyndonBench" (217 : Nat) "no snapshot was saved") (z_lt4 218 rfl)) (hXs 13 _ rfl)⟩ <|
      z_l1 (k := 14) (Q := fun (_ : Nat) (q : zS) => 1000000 ≤ q.2.2.2 ∧ ∃ t : Nat, ze_ad aE a1 a2 a3 a4 aK aV aX b fmt q.2.2.2 = some t ∧ vk_R q.1 q.2.1 q.2.2.1 t s) ⟨Nat.le_of_ble_eq_true rfl, aX 14, rfl, vk_R.of (hts (Jvm.Cond.stringRef "LyndonBench" (279 : Nat) "there is no row of this order") (z_lt5 73 rfl)) (hXs 14 _ rfl)⟩ <|
      z_l1 (k := 15) (Q := fun (_ : Nat) (q : zS) => 1000000 ≤ q.2.2.2 ∧ ∃ t : Nat, ze_ad aE a1 a2 a3 a4 aK aV aX b fmt q.2.2.2 = some t ∧ vk_R q.1 q.2.1 q.2.2.1 t s) ⟨Nat.le_of_ble_eq_true rfl, aX 15, rfl, vk_R.of (hts (Jvm.Cond.stringRef "LyndonBench" (284 : Nat) "the row has no such letter") (z_lt5 78 rfl)) (hXs 15 _ rfl)⟩ <|
      z_l1 (k := 16) (Q := fun (_ : Nat) (q : zS) => 1000000 ≤ q.2.2.2 ∧ ∃ t : Nat, ze_ad aE a1 a2 a3 a4 aK aV aX b fmt q.2.2.2 = some t ∧ vk_R q.1 q.2.1 q.2.2.1 t s) ⟨Nat.le_of_ble_eq_true rfl, aX 16, rfl, vk_R.of (hts (Jvm.Cond.stringRef "LyndonBench" (295 : Nat) "this is not one of the letters") (z_lt4 89 rfl)) (hXs 16 _ rfl)⟩ <|
      z_l1 (k := 17) (Q := fun (_ : Nat) (q : zS) => 1000000 ≤ q.2.2.2 ∧ ∃ t : Nat, ze_ad aE a1 a2 a3 a4 aK aV aX b fmt q.2.2.2 = some t ∧ vk_R q.1 q.2.1 q.2.2.1 t s) ⟨Nat.le_of_ble_eq_true rfl, aX 17, rfl, vk_R.of (hts (Jvm.Cond.stringRef "LyndonBench" (297 : Nat) "the text has not so many letters") (z_lt4 101 rfl)) (hXs 17 _ rfl)⟩ <|
      z_l1 (k := 18) (Q := fun (_ : Nat) (q : zS) => 1000000 ≤ q.2.2.2 ∧ ∃ t : Nat, ze_ad aE a1 a2 a3 a4 aK aV aX b fmt q.2.2.2 = some t ∧ vk_R q.1 q.2.1 q.2.2.1 t s) ⟨Nat.le_of_ble_eq_true rfl, aX 18, rfl, vk_R.of (hts (Jvm.Cond.stringRef "LyndonBench" (299 : Nat) "the text has no such part") (z_lt4 113 rfl)) (hXs 18 _ rfl)⟩ <|
      z_l1 (k := 19) (Q := fun (_ : Nat) (q : zS) => 1000000 ≤ q.2.2.2 ∧ ∃ t : Nat, ze_ad aE a1 a2 a3 a4 aK aV aX b fmt q.2.2.2 = some t ∧ vk_R q.1 q.2.1 q.2.2.1 t s) ⟨Nat.le_of_ble_eq_true rfl, aX 19, rfl, vk_R.of (hts (Jvm.Cond.stringRef "LyndonBench" (301 : Nat) "words of 1 to 18 letters are counted") (z_lt5 58 rfl)) (hXs 19 _ rfl)⟩ <|
      z_l1 (k := 20) (Q := fun (_ : Nat) (q : zS) => 1000000 ≤ q.2.2.2 ∧ ∃ t : Nat, ze_ad aE a1 a2 a3 a4 aK aV aX b fmt q.2.2.2 = some t ∧ vk_R q.1 q.2.1 q.2.2.1 t s) ⟨Nat.le_of_ble_eq_true rfl, aX 20, rfl, vk_R.of (hts (Jvm.Cond.stringRef "LyndonBench" (306 : Nat) "there is no such factor") (z_lt4 165 rfl)) (hXs 20 _ rfl)⟩ <|
      z_l1 (k := 21) (Q := fun (_ : Nat) (q : zS) => 1000000 ≤ q.2.2.2 ∧ ∃ t : Nat, ze_ad aE a1 a2 a3 a4 aK aV aX b fmt q.2.2.2 = some t ∧ vk_R q.1 q.2.1 q.2.2.1 t s) ⟨Nat.le_of_ble_eq_true rfl, aK 2, rfl, vk_R.of (hts (Jvm.Cond.stringRef "LyndonBench$Command" (73 : Nat) "text") (z_lt8 84 rfl)) s2.1⟩ <|
      z_l1 (k := 22) (Q := fun (_ : Nat) (q : zS) => 1000000 ≤ q.2.2.2 ∧ ∃ t : Nat, ze_ad aE a1 a2 a3 a4 aK aV aX b fmt q.2.2.2 = some t ∧ vk_R q.1 q.2.1 q.2.2.1 t s) ⟨Nat.le_of_ble_eq_true rfl, aK 3, rfl, vk_R.of (hts (Jvm.Cond.stringRef "LyndonBench$Command" (79 : Nat) "append") (z_lt8 85 rfl)) s3.1⟩ <|
      z_l1 (k := 23) (Q := fun (_ : Nat) (q : zS) => 1000000 ≤ q.2.2.2 ∧ ∃ t : Nat, ze_ad aE a1 a2 a3 a4 aK aV aX b fmt q.2.2.2 = some t ∧ vk_R q.1 q.2.1 q.2.2.1 t s) ⟨Nat.le_of_ble_eq_true rfl, aK 4, rfl, vk_R.of (hts (Jvm.Cond.stringRef "LyndonBench$Command" (82 : Nat) "drop") (z_lt8 86 rfl)) s4.1⟩ <|
      z_l1 (k := 24) (Q := fun (_ : Nat) (q : zS) => 1000000 ≤ q.2.2.2 ∧ ∃ t : Nat, ze_ad aE a1 a2 a3 a4 aK aV aX b fmt q.2.2.2 = some t ∧ vk_R q.1 q.2.1 q.2.2.1 t s) ⟨Nat.le_of_ble_eq_true rfl, aK 5, rfl, vk_R.of (hts (Jvm.Cond.stringRef "LyndonBench$Command" (85 : Nat) "part") (z_lt8 87 rfl)) s5.1⟩ <|
      z_l1 (k := 25) (Q := fun (_ : Nat) (q : zS) => 1000000 ≤ q.2.2.2 ∧ ∃ t : Nat, ze_ad aE a1 a2 a3 a4 aK aV aX b fmt q.2.2.2 = some t ∧ vk_R q.1 q.2.1 q.2.2.1 t s) ⟨Nat.le_of_ble_eq_true rfl, aK 6, rfl, vk_R.of (hts (Jvm.Cond.stringRef "LyndonBench$Command" (88 : Nat) "rotate") (z_lt8 88 rfl)) s6.1⟩ <|
      z_l1 (k := 26) (Q := fun (_ : Nat) (q : zS) => 1000000 ≤ q.2.2.2 ∧ ∃ t : Nat, ze_ad aE a1 a2 a3 a4 aK aV aX b fmt q.2.2.2 = some t ∧ vk_R q.1 q.2.1 q.2.2.1 t s) ⟨Nat.le_of_ble_eq_true rfl, aK 7, rfl, vk_R.of (hts (Jvm.Cond.stringRef "LyndonBench$Command" (91 : Nat) "reverse") (z_lt8 89 rfl)) s7.1⟩ <|
      z_l1 (k := 27) (Q := fun (_ : Nat) (q : zS) => 1000000 ≤ q.2.2.2 ∧ ∃ t : Nat, ze_ad aE a1 a2 a3 a4 aK aV aX b fmt q.2.2.2 = some t ∧ vk_R q.1 q.2.1 q.2.2.1 t s) ⟨Nat.le_of_ble_eq_true rfl, aK 8, rfl, vk_R.of (hts (Jvm.Cond.stringRef "LyndonBench$Command" (94 : Nat) "least") (z_lt8 90 rfl)) s8.1⟩ <|
      z_l1 (k := 28) (Q := fun (_ : Nat) (q : zS) => 1000000 ≤ q.2.2.2 ∧ ∃ t : Nat, ze_ad aE a1 a2 a3 a4 aK aV aX b fmt q.2.2.2 = some t ∧ vk_R q.1 q.2.1 q.2.2.1 t s) ⟨Nat.le_of_ble_eq_true rfl, aK 9, rfl, vk_R.of (hts (Jvm.Cond.stringRef "LyndonBench$Command" (97 : Nat) "next") (z_lt8 91 rfl)) s9.1⟩ <|
      z_l1 (k := 29) (Q := fun (_ : Nat) (q : zS) => 1000000 ≤ q.2.2.2 ∧ ∃ t : Nat, ze_ad aE a1 a2 a3 a4 aK aV aX b fmt q.2.2.2 = some t ∧ vk_R q.1 q.2.1 q.2.2.1 t s) ⟨Nat.le_of_ble_eq_true rfl, aK 10, rfl, vk_R.of (hts (Jvm.Cond.stringRef "LyndonBench$Command" (100 : Nat) "keep") (z_lt8 92 rfl)) s10.1⟩ <|
      z_l1 (k := 30) (Q := fun (_ : Nat) (q : zS) => 1000000 ≤ q.2.2.2 ∧ ∃ t : Nat, ze_ad aE a1 a2 a3 a4 aK aV aX b fmt q.2.2.2 = some t ∧ vk_R q.1 q.2.1 q.2.2.1 t s) ⟨Nat.le_of_ble_eq_true rfl, aK 11, rfl, vk_R.of (hts (Jvm.Cond.stringRef "LyndonBench$Command" (103 : Nat) "remove") (z_lt8 93 rfl)) s11.1⟩ <|
      z_l1 (k := 31) (Q := fun (_ : Nat) (q : zS) => 1000000 ≤ q.2.2.2 ∧ ∃ t : Nat, ze_ad aE a1 a2 a3 a4 aK aV aX b fmt q.2.2.2 = some t ∧ vk_R q.1 q.2.1 q.2.2.1 t s) ⟨Nat.le_of_ble_eq_true rfl, aK 12, rfl, vk_R.of (hts (Jvm.Cond.stringRef "LyndonBench$Command" (106 : Nat) "join") (z_lt8 94 rfl)) s12.1⟩ <|
      z_l1 (k := 32) (Q := fun (_ : Nat) (q : zS) => 1000000 ≤ q.2.2.2 ∧ ∃ t : Nat, ze_ad aE a1 a2 a3 a4 aK aV aX b fmt q.2.2.2 = some t ∧ vk_R q.1 q.2.1 q.2.2.1 t s) ⟨Nat.le_of_ble_eq_true rfl, aK 13, rfl, vk_R.of (hts (Jvm.Cond.stringRef "LyndonBench$Command" (109 : Nat) "repeat") (z_lt8 83 rfl)) s13.1⟩ <|
      z_l1 (k := 33) (Q := fun (_ : Nat) (q : zS) => 1000000 ≤ q.2.2.2 ∧ ∃ t : Nat, ze_ad aE a1 a2 a3 a4 aK aV aX b fmt q.2.2.2 = some t ∧ vk_R q.1 q.2.1 q.2.2.1 t s) ⟨Nat.le_of_ble_eq_true rfl, aK 14, rfl, vk_R.of (hts (Jvm.Cond.stringRef "LyndonBench$Script" (77 : Nat) "letters") (z_lt2 38 rfl)) s14.1⟩ <|
      z_l1 (k := 34) (Q := fun (_ : Nat) (q : zS) => 1000000 ≤ q.2.2.2 ∧ ∃ t : Nat, ze_ad aE a1 a2 a3 a4 aK aV aX b fmt q.2.2.2 = some t ∧ vk_R q.1 q.2.1 q.2.2.1 t s) ⟨Nat.le_of_ble_eq_true rfl, aK 15, rfl, vk_R.of (hts (Jvm.Cond.stringRef "LyndonBenchModel" (45 : Nat) "letters 3; text abacabaabacc; keep 0; keep 1; append ab; rotate 2;") (z_lt5 99 rfl)) s15.1⟩ <|
      z_l1 (k := 35) (Q := fun (_ : Nat) (q : zS) => 1000000 ≤ q.2.2.2 ∧ ∃ t : Nat, ze_ad aE a1 a2 a3 a4 aK aV aX b fmt q.2.2.2 = some t ∧ vk_R q.1 q.2.1 q.2.2.1 t s) ⟨Nat.le_of_ble_eq_true rfl, aK 16, rfl, vk_R.of (hts (Jvm.Cond.stringRef "LyndonBenchModel" (232 : Nat) "text") (z_lt5 149 rfl)) s16.1⟩ <|
      z_l1 (k := 36) (Q := fun (_ : Nat) (q : zS) => 1000000 ≤ q.2.2.2 ∧ ∃ t : Nat, ze_ad aE a1 a2 a3 a4 aK aV aX b fmt q.2.2.2 = some t ∧ vk_R q.1 q.2.1 q.2.2.1 t s) ⟨Nat.le_of_ble_eq_true rfl, aK 17, rfl, vk_R.of (hts (Jvm.Cond.stringRef "LyndonBenchModel" (237 : Nat) "append") (z_lt5 150 rfl)) s17.1⟩ <|
      z_l1 (k := 37) (Q := fun (_ : Nat) (q : zS) => 1000000 ≤ q.2.2.2 ∧ ∃ t : Nat, ze_ad aE a1 a2 a3 a4 aK aV aX b fmt q.2.2.2 = some t ∧ vk_R q.1 q.2.1 q.2.2.1 t s) ⟨Nat.le_of_ble_eq_true rfl, aK 18, rfl, vk_R.of (hts (Jvm.Cond.stringRef "LyndonBenchModel" (239 : Nat) "drop") (z_lt5 151 rfl)) s18.1⟩ <|
      z_l1 (k := 38) (Q := fun (_ : Nat) (q : zS) => 1000000 ≤ q.2.2.2 ∧ ∃ t : Nat, ze_ad aE a1 a2 a3 a4 aK aV aX b fmt q.2.2.2 = some t ∧ vk_R q.1 q.2.1 q.2.2.1 t s) ⟨Nat.le_of_ble_eq_true rfl, aK 19, rfl, vk_R.of (hts (Jvm.Cond.stringRef "LyndonBenchModel" (241 : Nat) "part") (z_lt5 152 rfl)) s19.1⟩ <|
      z_l1 (k := 39) (Q := fun (_ : Nat) (q : zS) => 1000000 ≤ q.2.2.2 ∧ ∃ t : Nat, ze_ad aE a1 a2 a3 a4 aK aV aX b fmt q.2.2.2 = some t ∧ vk_R q.1 q.2.1 q.2.2.1 t s) ⟨Nat.le_of_ble_eq_true rfl, aK 20, rfl, vk_R.of (hts (Jvm.Cond.stringRef "LyndonBenchModel" (243 : Nat) "rotate") (z_lt5 153 rfl)) s20.1⟩ <|
      z_l1 (k := 40) (Q := fun (_ : Nat) (q : zS) => 1000000 ≤ q.2.2.2 ∧ ∃ t : Nat, ze_ad aE a1 a2 a3 a4 aK aV aX b fmt q.2.2.2 = some t ∧ vk_R q.1 q.2.1 q.2.2.1 t s) ⟨Nat.le_of_ble_eq_true rfl, aK 21, rfl, vk_R.of (hts (Jvm.Cond.stringRef "LyndonBenchModel" (245 : Nat) "reverse") (z_lt5 154 rfl)) s21.1⟩ <|
      z_l1 (k := 41) (Q := fun (_ : Nat) (q : zS) => 1000000 ≤ q.2.2.2 ∧ ∃ t : Nat, ze_ad aE a1 a2 a3 a4 aK aV aX b fmt q.2.2.2 = some t ∧ vk_R q.1 q.2.1 q.2.2.1 t s) ⟨Nat.le_of_ble_eq_true rfl, aK 22, rfl, vk_R.of (hts (Jvm.Cond.stringRef "LyndonBenchModel" (250 : Nat) "least") (z_lt5 159 rfl)) s22.1⟩ <|
      z_l1 (k := 42) (Q := fun (_ : Nat) (q : zS) => 1000000 ≤ q.2.2.2 ∧ ∃ t : Nat, ze_ad aE a1 a2 a3 a4 aK aV aX b fmt q.2.2.2 = some t ∧ vk_R q.1 q.2.1 q.2.2.1 t s) ⟨Nat.le_of_ble_eq_true rfl, aK 23, rfl, vk_R.of (hts (Jvm.Cond.stringRef "LyndonBenchModel" (251 : Nat) "next") (z_lt5 160 rfl)) s23.1⟩ <|
      z_l1 (k := 43) (Q := fun (_ : Nat) (q : zS) => 1000000 ≤ q.2.2.2 ∧ ∃ t : Nat, ze_ad aE a1 a2 a3 a4 aK aV aX b fmt q.2.2.2 = some t ∧ vk_R q.1 q.2.1 q.2.2.1 t s) ⟨Nat.le_of_ble_eq_true rfl, aK 24, rfl, vk_R.of (hts (Jvm.Cond.stringRef "LyndonBenchModel" (252 : Nat) "keep") (z_lt5 161 rfl)) s24.1⟩ <|
      z_l1 (k := 44) (Q := fun (_ : Nat) (q : zS) => 1000000 ≤ q.2.2.2 ∧ ∃ t : Nat, ze_ad aE a1 a2 a3 a4 aK aV aX b fmt q.2.2.2 = some t ∧ vk_R q.1 q.2.1 q.2.2.1 t s) ⟨Nat.le_of_ble_eq_true rfl, aK 25, rfl, vk_R.of (hts (Jvm.Cond.stringRef "LyndonBenchModel" (254 : Nat) "remove") (z_lt5 162 rfl)) s25.1⟩ <|
      z_l1 (k := 45) (Q := fun (_ : Nat) (q : zS) => 1000000 ≤ q.2.2.2 ∧ ∃ t : Nat, ze_ad aE a1 a2 a3 a4 aK aV aX b fmt q.2.2.2 = some t ∧ vk_R q.1 q.2.1 q.2.2.1 t s) ⟨Nat.le_of_ble_eq_true rfl, aK 26, rfl, vk_R.of (hts (Jvm.Cond.stringRef "LyndonBenchModel" (256 : Nat) "join") (z_lt5 163 rfl)) s26.1⟩ <|
      z_l1 (k := 46) (Q := fun (_ : Nat) (q : zS) => 1000000 ≤ q.2.2.2 ∧ ∃ t : Nat, ze_ad aE a1 a2 a3 a4 aK aV aX b fmt q.2.2.2 = some t ∧ vk_R q.1 q.2.1 q.2.2.1 t s) ⟨Nat.le_of_ble_eq_true rfl, aK 27, rfl, vk_R.of (hts (Jvm.Cond.stringRef "LyndonBenchModel" (258 : Nat) "repeat") (z_lt5 164 rfl)) s27.1⟩ <|
      z_l1 (k := 47) (Q := fun (_ : Nat) (q : zS) => 1000000 ≤ q.2.2.2 ∧ ∃ t : Nat, ze_ad aE a1 a2 a3 a4 aK aV aX b fmt q.2.2.2 = some t ∧ vk_R q.1 q.2.1 q.2.2.1 t s) ⟨Nat.le_of_ble_eq_true rfl, aK 28, rfl, vk_R.of (hts (Jvm.Cond.stringRef "LyndonBenchModel" (305 : Nat) "letters") (z_lt5 121 rfl)) s28.1⟩ <|
      z_l0
  · intro x y hx1 hx2 hy1 hy2 he
    have h9 : ∀ z : Nat, 1000000 ≤ z → z < 1000012 → ze_ad aE a1 a2 a3 a4 aK aV aX b fmt z = some (aE (z - 1000000)) := fun z h1 h2 => by unfold ze_ad; rw [if_neg (by omega), if_pos h2]
    rw [h9 x hx1 hx2, h9 y hy1 hy2] at he
    have h10 := hEi _ _ (by omega) (by omega) (Option.some.inj he)
    omega
  · exact vx_Zqof (hts (Jvm.Cond.laysStatic "java/lang/Throwable" "UNASSIGNED_STACK" "[Ljava/lang/StackTraceElement;") (z_lt3 234 rfl)) (hts (Jvm.Cond.initialized "java/lang/Throwable") (z_lt1 12 rfl)) u9 hA
  · exact vx_Zqof (hts (Jvm.Cond.laysStatic "java/lang/Throwable" "SUPPRESSED_SENTINEL" "Ljava/util/List;") (z_lt3 236 rfl)) (hts (Jvm.Cond.initialized "java/lang/Throwable") (z_lt1 12 rfl)) u10 hA
  · intro w hw
    simp only [za_nw, List.mem_cons, List.not_mem_nil, or_false] at hw
    rcases hw with rfl | rfl | rfl | rfl | rfl | rfl | rfl | rfl | rfl | rfl
    · exact va_tabs rfl rfl (hts (Jvm.Cond.methodLinkNest "LyndonBench" (32 : Nat) ({ cls := "LyndonBench$Script", name := "<init>", desc := "()V" } : Jvm.MethodName) "LyndonBench") (z_lt1 94 rfl))
    · exact va_AO.of (hts (Jvm.Cond.arrayOver (Jvm.ClassFile.FieldType.object "LyndonBench$Word")) (z_lt1 56 rfl))
    · exact va_AO.of (hts (Jvm.Cond.arrayOver (Jvm.ClassFile.FieldType.object "LyndonBench$State")) (z_lt1 82 rfl))
    · exact va_tabs rfl rfl (hts (Jvm.Cond.castable "java/lang/IllegalArgumentException" "java/lang/IllegalArgumentException") (z_lt3 209 rfl))
    · exact va_tabs rfl rfl (hts (Jvm.Cond.castable "java/lang/IllegalStateException" "java/lang/IllegalStateException") (z_lt4 55 rfl))
    · exact va_tabs rfl rfl (hts (Jvm.Cond.castable "java/lang/IndexOutOfBoundsException" "java/lang/IndexOutOfBoundsException") (z_lt4 158 rfl))
    · exact va_tabs rfl rfl (hts (Jvm.Cond.castable "java/util/NoSuchElementException" "java/util/NoSuchElementException") (z_lt4 211 rfl))
    · exact va_tabs rfl rfl (hts (Jvm.Cond.declares ({ cls := "java/lang/RuntimeException", name := "<init>", desc := "(Ljava/lang/String;)V" } : Jvm.MethodName)) (z_lt3 211 rfl))
    · exact va_tabs rfl rfl (hts (Jvm.Cond.declares ({ cls := "java/lang/Exception", name := "<init>", desc := "(Ljava/lang/String;)V" } : Jvm.MethodName)) (z_lt3 213 rfl))
    · exact va_tabs rfl rfl (hts (Jvm.Cond.declares ({ cls := "java/lang/Throwable", name := "<init>", desc := "(Ljava/lang/String;)V" } : Jvm.MethodName)) (z_lt3 215 rfl))
theorem ze_fx {p : Program} {s : State} {m : MethodId} {meth : Method} {c : Code} {b L : Nat} {xs : Nat → Int32} (hLs : L < 2 ^ 31) (C0 : lw_At p s m meth c b L xs) : ∃ (D : va_G) (tys : List (ClassId × FieldType)) (ad0 : Nat → Option Nat), z_fx (za_T ((List.range L).map xs)) za_P za_M D tys (fun q => s.heap.size ≤ q) ad0 s ∧ ad0 1000074 = some b ∧ z_okS (za_T ((List.range L).map xs)) za_P za_M tys := by
  obtain ⟨-, -, -, -, -, hts, hX, hbl, -, hgv⟩ := C0
  obtain ⟨D, tys, k1, k2, k3⟩ := ze_K hts
  obtain ⟨ad0, g1, g2⟩ := ze_st hts hX hLs hbl hgv
  exact ⟨D, tys, ad0, ⟨fun q h => h, k1, g2, ze_nc hgv⟩, g1, za_okS _ k2 k3⟩
