/-! THE START, in the pure machine's words. -/
/-- the claim's flat premises -/
def ze_flat : List Cond := flatC (Jvm.Cond.and given_1 narrow_1)
def ze_sm (C n d : String) : Term := .static C n d
/-- an array of whole numbers, its premises -/
def ze_els (tm : Term) : List Int32 → Nat → List Cond
  | [], _ => []
  | x :: r, j => .eq (.elem tm (.int (Int32.ofNat j))) (.int x) :: ze_els tm r (j + 1)
def ze_arr (tm : Term) (ty : FieldType) (l : List Int32) : List Cond := .arrayOf tm ty :: .eq (.length tm) (.int (Int32.ofNat l.length)) :: ze_els tm l 0
/-- a text's premises -/
def ze_str (own : String) (k : Nat) (l : List Int32) : List Cond := .exactly (.string own k) "java/lang/String" :: .eq (.field (.string own k) "java/lang/String" "coder" "B") (.int 0) :: ze_arr (.field (.string own k) "java/lang/String" "value" "[B") .byte l
def ze_data : List (String × Nat × List Int32) := [("LyndonBench", 55, [97, 99, 97, 98, 97, 97, 98, 97, 99, 99, 97, 98, 97, 98]),
  ("LyndonBench", 61, [97, 98, 97, 99, 97, 98])]
def z_path : List Bool → Cond → Option Cond
  | [], c => some c
  | false :: p, .and a _ => z_path p a
  | true :: p, .and _ b => z_path p b
  | _ :: _, _ => none
theorem z_path_ok {args : Array Value} {s : State} : ∀ (p : List Bool) (c d : Cond), c.before args s = true → z_path p c = some d → d.before args s = true := by
  intro p
  induction p with
  | nil => intro c d h e; cases e; exact h
  | cons x p ih =>
    intro c d h e
    unfold z_path at e
    split at e
    · cases e; exact h
    · rename_i q a b e1
      cases e1
      rw [Cond.before_and, Bool.and_eq_true] at h
      exact ih _ _ h.1 e
    · rename_i q a b e1
      cases e1
      rw [Cond.before_and, Bool.and_eq_true] at h
      exact ih _ _ h.2 e
    · cases e
theorem ze_p (p : List Bool) {d : Cond} {args : Array Value} {s : State} (hb : (Jvm.Cond.and given_1 narrow_1).before args s = true) (h : z_path p (Jvm.Cond.and given_1 narrow_1) = some d) : d.before args s = true := z_path_ok p _ _ hb h
theorem ze_k5_0 {args : Array Value} {s : State} (hb : (Jvm.Cond.and given_1 narrow_1).before args s = true) : ∀ c ∈ ze_str "LyndonBench" 55 [97, 99, 97, 98, 97, 97, 98, 97, 99, 99, 97, 98, 97, 98], c.before args s = true :=
  z_fc (ze_p [true, false, false, false, false, false, true, false, false, false] hb rfl) <|
  z_fc (ze_p [true, false, false, false, false, false, true, false, false, true] hb rfl) <|
  z_fc (ze_p [true, false, false, false, false, false, true, false, true, false] hb rfl) <|
  z_fc (ze_p [true, false, false, false, false, false, true, false, true, true] hb rfl) <|
  z_fc (ze_p [true, false, false, false, false, false, true, true, false, false] hb rfl) <|
  z_fc (ze_p [true, false, false, false, false, false, true, true, false, true] hb rfl) <|
  z_fc (ze_p [true, false, false, false, false, false, true, true, true, false] hb rfl) <|
  z_fc (ze_p [true, false, false, false, false, false, true, true, true, true, false] hb rfl) <|
  z_fc (ze_p [true, false, false, false, false, false, true, true, true, true, true] hb rfl) <|
  z_fc (ze_p [true, false, false, false, false, true, false, false, false, false] hb rfl) <|
  z_fc (ze_p [true, false, false, false, false, true, false, false, false, true] hb rfl) <|
  z_fc (ze_p [true, false, false, false, false, true, false, false, true, false] hb rfl) <|
  z_fc (ze_p [true, false, false, false, false, true, false, false, true, true] hb rfl) <|
  z_fc (ze_p [true, false, false, false, false, true, false, true, false, false] hb rfl) <|
  z_fc (ze_p [true, false, false, false, false, true, false, true, false, true] hb rfl) <|
  z_fc (ze_p [true, false, false, false, false, true, false, true, true, false] hb rfl) <|
  z_fc (ze_p [true, false, false, false, false, true, false, true, true, true, false] hb rfl) <|
  z_fc (ze_p [true, false, false, false, false, true, false, true, true, true, true] hb rfl) <|
  z_fn
theorem ze_k5_1 {args : Array Value} {s : State} (hb : (Jvm.Cond.and given_1 narrow_1).before args s = true) : ∀ c ∈ ze_str "LyndonBench" 61 [97, 98, 97, 99, 97, 98], c.before args s = true :=
  z_fc (ze_p [true, false, false, false, false, true, true, false, false, false] hb rfl) <|
  z_fc (ze_p [true, false, false, false, false, true, true, false, false, true] hb rfl) <|
  z_fc (ze_p [true, false, false, false, false, true, true, false, true, false] hb rfl) <|
  z_fc (ze_p [true, false, false, false, false, true, true, false, true, true] hb rfl) <|
  z_fc (ze_p [true, false, false, false, false, true, true, true, false, false] hb rfl) <|
  z_fc (ze_p [true, false, false, false, false, true, true, true, false, true] hb rfl) <|
  z_fc (ze_p [true, false, false, false, false, true, true, true, true, false] hb rfl) <|
  z_fc (ze_p [true, false, false, false, false, true, true, true, true, true, false] hb rfl) <|
  z_fc (ze_p [true, false, false, false, false, true, true, true, true, true, true] hb rfl) <|
  z_fc (ze_p [true, false, false, false, true, false, false, false, false, false] hb rfl) <|
  z_fn
theorem z_l1 {α : Type} {Q : Nat → α → Prop} {c : α} {l : List α} {k : Nat} (h : Q k c) (t : ∀ (j : Nat) (x : α), l[j]? = some x → Q (k + 1 + j) x) : ∀ (j : Nat) (x : α), (c :: l)[j]? = some x → Q (k + j) x := by
  intro j x e
  cases j with
  | zero => cases e; exact h
  | succ j => rw [show k + (j + 1) = k + 1 + j by omega]; exact t j x e
theorem z_l0 {α : Type} {R : Nat → α → Prop} : ∀ (j : Nat) (x : α), ([] : List α)[j]? = some x → R j x := fun j x e => by cases e
theorem z_l9 {α : Type} {Q : Nat → α → Prop} {l : List α} (t : ∀ (j : Nat) (x : α), l[j]? = some x → Q (0 + j) x) : ∀ (j : Nat) (x : α), l[j]? = some x → Q j x := fun j x e => by
  have h := t j x e
  rwa [Nat.zero_add] at h
theorem ze_k5 {args : Array Value} {s : State} (hb : (Jvm.Cond.and given_1 narrow_1).before args s = true) : ∀ (i : Nat) (q : String × Nat × List Int32), ze_data[i]? = some q → ∀ c ∈ ze_str q.1 q.2.1 q.2.2, c.before args s = true := z_l9 (Q := fun (_ : Nat) (q : String × Nat × List Int32) => ∀ c ∈ ze_str q.1 q.2.1 q.2.2, c.before args s = true) <| z_l1 (k := 0) (Q := fun (_ : Nat) (q : String × Nat × List Int32) => ∀ c ∈ ze_str q.1 q.2.1 q.2.2, c.before args s = true) (ze_k5_0 hb) <| z_l1 (k := 1) (Q := fun (_ : Nat) (q : String × Nat × List Int32) => ∀ c ∈ ze_str q.1 q.2.1 q.2.2, c.before args s = true) (ze_k5_1 hb) <| z_l0
theorem ze_k6 {args : Array Value} {s : State} (hb : (Jvm.Cond.and given_1 narrow_1).before args s = true) : ∀ c ∈ ([.eq (.static "java/lang/String" "COMPACT_STRINGS" "Z") (.int 1), .isRef (.static "jdk/internal/util/Preconditions" "SIOOBE_FORMATTER" "Ljava/util/function/BiFunction;"), .isRef (.static Bundle.tN "UNASSIGNED_STACK" Bundle.steD), .isRef (.static Bundle.tN "SUPPRESSED_SENTINEL" Bundle.listD)] : List Cond), c.before args s = true :=
  z_fc (ze_p [true, false, false, false, false, false, false, false, true, false] hb rfl) <|
  z_fc (ze_p [true, false, false, false, false, false, false, false, true, true] hb rfl) <|
  z_fc (ze_p [true, false, false, false, false, false, false, true, true, true, false] hb rfl) <|
  z_fc (ze_p [true, false, false, false, false, false, false, true, true, true, true] hb rfl) <|
  z_fn
theorem ze_nc {args : Array Value} {s : State} (hb : (Jvm.Cond.and given_1 narrow_1).before args s = true) : ∀ q ∈ za_nc, va_Nc (za_M.2.2.1 q.1) (za_M.2.2.1 q.2) s :=
  z_fn
def ze_thr : List (String × Nat × String) := [("LyndonBench", 55, "acabaabaccabab"), ("LyndonBench", 61, "abacab"), ("LyndonBench", 102, "there are 2 to 9 letters"), ("LyndonBench", 110, "a letter is still used"), ("LyndonBench", 123, "a text has at most 120 letters"), ("LyndonBench", 154, "the text is empty"), ("LyndonBench", 159, "the greatest length is 1 to 120"), ("LyndonBench", 164, "there is no next Lyndon word"), ("LyndonBench", 181, "the factor can't be kept"), ("LyndonBench", 186, "the text can't be kept"), ("LyndonBench", 194, "there is no such kept word"), ("LyndonBench", 203, "the kept words can't be joined"), ("LyndonBench", 295, "this is not one of the letters"), ("LyndonBench", 297, "the text has not so many letters"), ("LyndonBench", 299, "the text has no such part"), ("LyndonBench", 306, "there is no such factor")]
def ze_dtx : List String := ["acabaabaccabab", "abacab"]
theorem ze_els_mem (tm : Term) : ∀ (l : List Int32) (k j : Nat), j < l.length → Cond.eq (.elem tm (.int (Int32.ofNat (k + j)))) (.int (l.getD j 0)) ∈ ze_els tm l k := by
  intro l
  induction l with
  | nil => intro k j hj; cases hj
  | cons x r ih =>
    intro k j hj
    cases j with
    | zero => exact List.mem_cons_self
    | succ j =>
      have h := ih (k + 1) j (by simpa using hj)
      rw [show k + 1 + j = k + (j + 1) by omega] at h
      exact List.mem_cons_of_mem _ (by simpa using h)
theorem ze_k9 {args : Array Value} {s : State} (hb : (Jvm.Cond.and given_1 narrow_1).before args s = true) : ∀ (i : Nat) (q : String × Nat × String), ze_thr[i]? = some q → (Cond.exactly (.string q.1 q.2.1) "java/lang/String").before args s = true := z_l9 (Q := fun (_ : Nat) (q : String × Nat × String) => (Cond.exactly (.string q.1 q.2.1) "java/lang/String").before args s = true) <| z_l1 (k := 0) (Q := fun (_ : Nat) (q : String × Nat × String) => (Cond.exactly (.string q.1 q.2.1) "java/lang/String").before args s = true) (ze_p [true, false, false, false, false, false, true, false, false, false] hb rfl) <|
  z_l1 (k := 1) (Q := fun (_ : Nat) (q : String × Nat × String) => (Cond.exactly (.string q.1 q.2.1) "java/lang/String").before args s = true) (ze_p [true, false, false, false, false, true, true, false, false, false] hb rfl) <|
  z_l1 (k := 2) (Q := fun (_ : Nat) (q : String × Nat × String) => (Cond.exactly (.string q.1 q.2.1) "java/lang/String").before args s = true) (ze_p [true, true, true, false, true, true, false, true, true, true, true] hb rfl) <|
  z_l1 (k := 3) (Q := fun (_ : Nat) (q : String × Nat × String) => (Cond.exactly (.string q.1 q.2.1) "java/lang/String").before args s = true) (ze_p [true, true, true, true, false, true, true, true, false, true] hb rfl) <|
  z_l1 (k := 4) (Q := fun (_ : Nat) (q : String × Nat × String) => (Cond.exactly (.string q.1 q.2.1) "java/lang/String").before args s = true) (ze_p [true, false, false, true, false, false, false, false, true, false] hb rfl) <|
  z_l1 (k := 5) (Q := fun (_ : Nat) (q : String × Nat × String) => (Cond.exactly (.string q.1 q.2.1) "java/lang/String").before args s = true) (ze_p [true, false, true, false, false, false, false, true, true, true, false] hb rfl) <|
  z_l1 (k := 6) (Q := fun (_ : Nat) (q : String × Nat × String) => (Cond.exactly (.string q.1 q.2.1) "java/lang/String").before args s = true) (ze_p [true, false, true, false, false, true, true, true, true, false] hb rfl) <|
  z_l1 (k := 7) (Q := fun (_ : Nat) (q : String × Nat × String) => (Cond.exactly (.string q.1 q.2.1) "java/lang/String").before args s = true) (ze_p [true, false, true, true, false, false, false, false, true, false] hb rfl) <|
  z_l1 (k := 8) (Q := fun (_ : Nat) (q : String × Nat × String) => (Cond.exactly (.string q.1 q.2.1) "java/lang/String").before args s = true) (ze_p [true, true, false, false, false, false, false, true, false, false] hb rfl) <|
  z_l1 (k := 9) (Q := fun (_ : Nat) (q : String × Nat × String) => (Cond.exactly (.string q.1 q.2.1) "java/lang/String").before args s = true) (ze_p [true, true, false, false, true, false, false, true, false, true] hb rfl) <|
  z_l1 (k := 10) (Q := fun (_ : Nat) (q : String × Nat × String) => (Cond.exactly (.string q.1 q.2.1) "java/lang/String").before args s = true) (ze_p [true, true, false, true, false, false, false, true, false, true] hb rfl) <|
  z_l1 (k := 11) (Q := fun (_ : Nat) (q : String × Nat × String) => (Cond.exactly (.string q.1 q.2.1) "java/lang/String").before args s = true) (ze_p [true, true, false, true, true, false, true, false, false, true] hb rfl) <|
  z_l1 (k := 12) (Q := fun (_ : Nat) (q : String × Nat × String) => (Cond.exactly (.string q.1 q.2.1) "java/lang/String").before args s = true) (ze_p [true, false, false, false, true, false, false, false, true, false] hb rfl) <|
  z_l1 (k := 13) (Q := fun (_ : Nat) (q : String × Nat × String) => (Cond.exactly (.string q.1 q.2.1) "java/lang/String").before args s = true) (ze_p [true, false, false, true, true, false, false, false, true, true] hb rfl) <|
  z_l1 (k := 14) (Q := fun (_ : Nat) (q : String × Nat × String) => (Cond.exactly (.string q.1 q.2.1) "java/lang/String").before args s = true) (ze_p [true, true, true, false, false, true, false, false, true, false] hb rfl) <|
  z_l1 (k := 15) (Q := fun (_ : Nat) (q : String × Nat × String) => (Cond.exactly (.string q.1 q.2.1) "java/lang/String").before args s = true) (ze_p [true, false, true, true, true, false, false, true, false, true] hb rfl) <|
  z_l0
theorem ze_T_congr {ty : FieldType} {t N : Nat} {f g : Nat → Value} {A : Nat → Prop} {U : State} {H : Heap} (h : va_T ty t N f A U H) (e : ∀ j, j < N → f j = g j) : va_T ty t N g A U H := by
  obtain ⟨cell, h1, h2, h3, h4, h5, h6, h7⟩ := h
  exact ⟨cell, h1, h2, h3, h4, h5, fun j hj => (h6 j hj).trans (congrArg some (e j hj)), h7⟩
section ZES
variable {args : Array Value} {s : State} {A : Nat → Prop}
theorem ze_arr_T {tm : Term} {ty : FieldType} {l : List Int32} (h : ∀ c ∈ ze_arr tm ty l, c.before args s = true) (hl : l.length < 2 ^ 31) (hA : ∀ a : Nat, a < s.heap.size → ¬ A a) : ∃ t : Nat, tm.eval args s none [] s = some (.ref t) ∧ va_T ty t l.length (fun i => .int (l.getD i 0)) A s s.heap :=
  va_Tof hl (h _ List.mem_cons_self) (va_eqt (h _ (List.mem_cons_of_mem _ List.mem_cons_self))) (fun j hj => va_eqt (h _ (List.mem_cons_of_mem _ (List.mem_cons_of_mem _ (by have h9 := ze_els_mem tm l 0 j hj; rwa [Nat.zero_add] at h9))))) hA
theorem ze_str_T {own : String} {k : Nat} {l : List Int32} (h : ∀ c ∈ ze_str own k l, c.before args s = true) (hl : l.length < 2 ^ 31) (hA : ∀ a : Nat, a < s.heap.size → ¬ A a) : ∃ a t : Nat, (Term.string own k).eval args s none [] s = some (.ref a) ∧ va_O "java/lang/String" a A s s.heap ∧ va_OF "java/lang/String" "coder" "B" (.int 0) a A s s.heap ∧ va_OF "java/lang/String" "value" "[B" (.ref t) a A s s.heap ∧ va_T .byte t l.length (fun i => .int (l.getD i 0)) A s s.heap := by
  obtain ⟨a, c, cA, kA, q1, q2, q3, q4, q5, q6, -⟩ := Cond.exactly_spec (args := args) (first := s) (o := none) (s := s) (idx := []) (t := .string own k) (cls := "java/lang/String") (h _ List.mem_cons_self)
  obtain ⟨t, ht, hT⟩ := ze_arr_T (fun c hc => h c (List.mem_cons_of_mem _ (List.mem_cons_of_mem _ hc))) hl hA
  exact ⟨a, t, q1, va_Oof (h _ List.mem_cons_self) q1 hA, vk_OFof q1 (va_eqt (h _ (List.mem_cons_of_mem _ List.mem_cons_self))) hA, vk_OFof q1 ht hA, hT⟩
theorem ze_strs (hb : (Jvm.Cond.and given_1 narrow_1).before args s = true) (hA : ∀ a : Nat, a < s.heap.size → ¬ A a) : ∃ adK adV : Nat → Nat, ∀ (i : Nat) (q : String × Nat × List Int32), ze_data[i]? = some q → (Term.string q.1 q.2.1).eval args s none [] s = some (.ref (adK i)) ∧ va_O "java/lang/String" (adK i) A s s.heap ∧ va_OF "java/lang/String" "coder" "B" (.int 0) (adK i) A s s.heap ∧ va_OF "java/lang/String" "value" "[B" (.ref (adV i)) (adK i) A s s.heap ∧ va_T .byte (adV i) q.2.2.length (fun j => .int (q.2.2.getD j 0)) A s s.heap := by
  have hlen : ∀ q ∈ ze_data, q.2.2.length < 100 := by decide +kernel
  have h0 : ∀ i : Nat, ∃ w : Nat × Nat, ∀ q : String × Nat × List Int32, ze_data[i]? = some q → (Term.string q.1 q.2.1).eval args s none [] s = some (.ref w.1) ∧ va_O "java/lang/String" w.1 A s s.heap ∧ va_OF "java/lang/String" "coder" "B" (.int 0) w.1 A s s.heap ∧ va_OF "java/lang/String" "value" "[B" (.ref w.2) w.1 A s s.heap ∧ va_T .byte w.2 q.2.2.length (fun j => .int (q.2.2.getD j 0)) A s s.heap := by
    intro i
    cases e : ze_data[i]? with
    | none => exact ⟨(0, 0), fun q hq => by cases hq⟩
    | some q =>
      have hm := List.mem_of_getElem? e
      obtain ⟨a, t, g⟩ := ze_str_T (own := q.1) (k := q.2.1) (l := q.2.2) (A := A) (ze_k5 hb i q e) (Nat.lt_trans (hlen q hm) (by decide)) hA
      exact ⟨(a, t), fun q' hq' => by cases hq'; exact g⟩
  obtain ⟨ad, had⟩ := Classical.axiomOfChoice h0
  exact ⟨fun i => (ad i).1, fun i => (ad i).2, fun i q hq => had i q hq⟩
theorem ze_thrs (hb : (Jvm.Cond.and given_1 narrow_1).before args s = true) : ∃ adX : Nat → Nat, ∀ (i : Nat) (q : String × Nat × String), ze_thr[i]? = some q → (Term.string q.1 q.2.1).eval args s none [] s = some (.ref (adX i)) := by
  have h0 : ∀ i : Nat, ∃ w : Nat, ∀ q : String × Nat × String, ze_thr[i]? = some q → (Term.string q.1 q.2.1).eval args s none [] s = some (.ref w) := by
    intro i
    cases e : ze_thr[i]? with
    | none => exact ⟨0, fun q hq => by cases hq⟩
    | some q =>
      obtain ⟨a, c, cA, kA, q1, -⟩ := Cond.exactly_spec (args := args) (first := s) (o := none) (s := s) (idx := []) (t := .string q.1 q.2.1) (cls := "java/lang/String") (ze_k9 hb i q e)
      exact ⟨a, fun q' hq' => by cases hq'; exact q1⟩
  obtain ⟨ad, had⟩ := Classical.axiomOfChoice h0
  exact ⟨ad, had⟩
end ZES
