section
/-! THE START, in the pure machine's words. -/
/-- the claim's flat premises -/
def ze_flat : List Cond := flatC (Jvm.Cond.and given_1 narrow_1)
def ze_sm (C n d : String) : Term := .static C n d
/-- an array of whole numbers, its premises -/
def ze_els (tm : Term) : List Int32 → Nat → List Cond
  | [], _ => []
  | x :: r, j => .eq (.elem tm (.int (Int32.ofNat j))) (.int x) :: ze_els tm r (j + 1)
def ze_arr (tm : Term) (ty : FieldType) (l : List Int32) : List Cond := .arrayOf tm ty :: .eq (.length tm) (.int (Int32.ofNat l.length)) :: ze_els tm l 0
/-- a text's premises -/
def ze_str (own : String) (k : Nat) (l : List Int32) : List Cond := .exactly (.string own k) "java/lang/String" :: .eq (.field (.string own k) "java/lang/String" "coder" "B") (.int 0) :: ze_arr (.field (.string own k) "java/lang/String" "value" "[B") .byte l
def ze_cmds : List (String × Nat) := [("TEXT", 73), ("APPEND", 79), ("DROP", 82), ("PART", 85), ("ROTATE", 88), ("REVERSE", 91), ("LEAST", 94), ("NEXT", 97), ("KEEP", 100), ("REMOVE", 103), ("JOIN", 106), ("REPEAT", 109)]
def ze_cT (k : Nat) : Term := .static "LyndonBench$Command" (z_nth ze_cmds k ("", 0)).1 "LLyndonBench$Command;"
def ze_all : Term := .static "LyndonBench$Command" "ALL" "[LLyndonBench$Command;"
def ze_cmd (k : Nat) : List Cond := [.exactly (ze_cT k) "LyndonBench$Command", .eq (.field (ze_cT k) "java/lang/Enum" "ordinal" "I") (.int (Int32.ofNat k)), .eq (.field (ze_cT k) "LyndonBench$Command" "word" "Ljava/lang/String;") (.string "LyndonBench$Command" (z_nth ze_cmds k ("", 0)).2), .eq (.elem ze_all (.int (Int32.ofNat k))) (ze_cT k)]
def ze_data : List (String × Nat × List Int32) := [("LyndonBench", 55, [97, 99, 97, 98, 97, 97, 98, 97, 99, 99, 97, 98, 97, 98]),
  ("LyndonBench", 61, [97, 98, 97, 99, 97, 98]),
  ("LyndonBench$Command", 73, [116, 101, 120, 116]),
  ("LyndonBench$Command", 79, [97, 112, 112, 101, 110, 100]),
  ("LyndonBench$Command", 82, [100, 114, 111, 112]),
  ("LyndonBench$Command", 85, [112, 97, 114, 116]),
  ("LyndonBench$Command", 88, [114, 111, 116, 97, 116, 101]),
  ("LyndonBench$Command", 91, [114, 101, 118, 101, 114, 115, 101]),
  ("LyndonBench$Command", 94, [108, 101, 97, 115, 116]),
  ("LyndonBench$Command", 97, [110, 101, 120, 116]),
  ("LyndonBench$Command", 100, [107, 101, 101, 112]),
  ("LyndonBench$Command", 103, [114, 101, 109, 111, 118, 101]),
  ("LyndonBench$Command", 106, [106, 111, 105, 110]),
  ("LyndonBench$Command", 109, [114, 101, 112, 101, 97, 116]),
  ("LyndonBench$Script", 77, [108, 101, 116, 116, 101, 114, 115]),
  ("LyndonBenchModel", 45, [108, 101, 116, 116, 101, 114, 115, 32, 51, 59, 32, 116, 101, 120, 116, 32, 97, 98, 97, 99, 97, 98, 97, 97, 98, 97, 99, 99, 59, 32, 107, 101, 101, 112, 32, 48, 59, 32, 107, 101, 101, 112, 32, 49, 59, 32, 97, 112, 112, 101, 110, 100, 32, 97, 98, 59, 32, 114, 111, 116, 97, 116, 101, 32, 50, 59]),
  ("LyndonBenchModel", 232, [116, 101, 120, 116]),
  ("LyndonBenchModel", 237, [97, 112, 112, 101, 110, 100]),
  ("LyndonBenchModel", 239, [100, 114, 111, 112]),
  ("LyndonBenchModel", 241, [112, 97, 114, 116]),
  ("LyndonBenchModel", 243, [114, 111, 116, 97, 116, 101]),
  ("LyndonBenchModel", 245, [114, 101, 118, 101, 114, 115, 101]),
  ("LyndonBenchModel", 250, [108, 101, 97, 115, 116]),
  ("LyndonBenchModel", 251, [110, 101, 120, 116]),
  ("LyndonBenchModel", 252, [107, 101, 101, 112]),
  ("LyndonBenchModel", 254, [114, 101, 109, 111, 118, 101]),
  ("LyndonBenchModel", 256, [106, 111, 105, 110]),
  ("LyndonBenchModel", 258, [114, 101, 112, 101, 97, 116]),
  ("LyndonBenchModel", 305, [108, 101, 116, 116, 101, 114, 115])]
def ze_moeb : List Int32 := [0, 1, (-1), (-1), 0, (-1), 1, (-1), 0, 0, 1, (-1), 0, (-1), 1, 1, 0, (-1), 0]
def ze_toti : List Int32 := [0, 1, 1, 2, 2, 4, 2, 6, 4, 6, 4, 10, 4, 12, 6, 8, 8, 16, 6]
def ze_sw : List Int32 := [1, 2, 3, 4, 5, 6, 7, 8, 9, 10, 0, 0]
def z_path : List Bool → Cond → Option Cond
  | [], c => some c
  | false :: p, .and a _ => z_path p a
  | true :: p, .and _ b => z_path p b
  | _ :: _, _ => none
theorem z_path_ok {args : Array Value} {s : State} : ∀ (p : List Bool) (c d : Cond), c.before args s = true → z_path p c = some d → d.before args s = true := by
  intro p
  induction p with
  | nil => intro c d h e; cases e; exact h
  | cons x p ih =>
    intro c d h e
    unfold z_path at e
    split at e
    · cases e; exact h
    · rename_i q a b e1
      cases e1
      rw [Cond.before_and, Bool.and_eq_true] at h
      exact ih _ _ h.1 e
    · rename_i q a b e1
      cases e1
      rw [Cond.before_and, Bool.and_eq_true] at h
      exact ih _ _ h.2 e
    · cases e
theorem ze_p (p : List Bool) {d : Cond} {args : Array Value} {s : State} (hb : (Jvm.Cond.and given_1 narrow_1).before args s = true) (h : z_path p (Jvm.Cond.and given_1 narrow_1) = some d) : d.before args s = true := z_path_ok p _ _ hb h
theorem ze_k1 {args : Array Value} {s : State} (hb : (Jvm.Cond.and given_1 narrow_1).before args s = true) : ∀ c ∈ ze_arr (ze_sm "LyndonBench" "MOEBIUS" "[I") .int ze_moeb, c.before args s = true :=
  z_fc (ze_p [true, false, false, false, false, true, true, true, false, false] hb rfl) <|
  z_fc (ze_p [true, false, false, false, false, true, true, true, false, true, false] hb rfl) <|
  z_fc (ze_p [true, false, false, false, false, true, true, true, false, true, true] hb rfl) <|
  z_fc (ze_p [true, false, false, false, false, true, true, true, true, false, false] hb rfl) <|
  z_fc (ze_p [true, false, false, false, false, true, true, true, true, false, true] hb rfl) <|
  z_fc (ze_p [true, false, false, false, false, true, true, true, true, true, false] hb rfl) <|
  z_fc (ze_p [true, false, false, false, false, true, true, true, true, true, true] hb rfl) <|
  z_fc (ze_p [true, false, false, false, true, false, false, false, false, false] hb rfl) <|
  z_fc (ze_p [true, false, false, false, true, false, false, false, false, true, false] hb rfl) <|
  z_fc (ze_p [true, false, false, false, true, false, false, false, false, true, true] hb rfl) <|
  z_fc (ze_p [true, false, false, false, true, false, false, false, true, false] hb rfl) <|
  z_fc (ze_p [true, false, false, false, true, false, false, false, true, true, false] hb rfl) <|
  z_fc (ze_p [true, false, false, false, true, false, false, false, true, true, true] hb rfl) <|
  z_fc (ze_p [true, false, false, false, true, false, false, true, false, false] hb rfl) <|
  z_fc (ze_p [true, false, false, false, true, false, false, true, false, true, false] hb rfl) <|
  z_fc (ze_p [true, false, false, false, true, false, false, true, false, true, true] hb rfl) <|
  z_fc (ze_p [true, false, false, false, true, false, false, true, true, false] hb rfl) <|
  z_fc (ze_p [true, false, false, false, true, false, false, true, true, true, false] hb rfl) <|
  z_fc (ze_p [true, false, false, false, true, false, false, true, true, true, true] hb rfl) <|
  z_fc (ze_p [true, false, false, false, true, false, true, false, false, false] hb rfl) <|
  z_fc (ze_p [true, false, false, false, true, false, true, false, false, true, false] hb rfl) <|
  z_fn
theorem ze_k2 {args : Array Value} {s : State} (hb : (Jvm.Cond.and given_1 narrow_1).before args s = true) : ∀ c ∈ ze_arr (ze_sm "LyndonBench" "TOTIENT" "[I") .int ze_toti, c.before args s = true :=
  z_fc (ze_p [true, false, false, false, true, false, true, false, true, false] hb rfl) <|
  z_fc (ze_p [true, false, false, false, true, false, true, false, true, true, false] hb rfl) <|
  z_fc (ze_p [true, false, false, false, true, false, true, false, true, true, true] hb rfl) <|
  z_fc (ze_p [true, false, false, false, true, false, true, true, false, false] hb rfl) <|
  z_fc (ze_p [true, false, false, false, true, false, true, true, false, true, false] hb rfl) <|
  z_fc (ze_p [true, false, false, false, true, false, true, true, false, true, true] hb rfl) <|
  z_fc (ze_p [true, false, false, false, true, false, true, true, true, false, false] hb rfl) <|
  z_fc (ze_p [true, false, false, false, true, false, true, true, true, false, true] hb rfl) <|
  z_fc (ze_p [true, false, false, false, true, false, true, true, true, true, false] hb rfl) <|
  z_fc (ze_p [true, false, false, false, true, false, true, true, true, true, true] hb rfl) <|
  z_fc (ze_p [true, false, false, false, true, true, false, false, false, false] hb rfl) <|
  z_fc (ze_p [true, false, false, false, true, true, false, false, false, true, false] hb rfl) <|
  z_fc (ze_p [true, false, false, false, true, true, false, false, false, true, true] hb rfl) <|
  z_fc (ze_p [true, false, false, false, true, true, false, false, true, false] hb rfl) <|
  z_fc (ze_p [true, false, false, false, true, true, false, false, true, true, false] hb rfl) <|
  z_fc (ze_p [true, false, false, false, true, true, false, false, true, true, true] hb rfl) <|
  z_fc (ze_p [true, false, false, false, true, true, false, true, false, false] hb rfl) <|
  z_fc (ze_p [true, false, false, false, true, true, false, true, false, true, false] hb rfl) <|
  z_fc (ze_p [true, false, false, false, true, true, false, true, false, true, true] hb rfl) <|
  z_fc (ze_p [true, false, false, false, true, true, false, true, true, false] hb rfl) <|
  z_fc (ze_p [true, false, false, false, true, true, false, true, true, true, false] hb rfl) <|
  z_fn
theorem ze_k3 {args : Array Value} {s : State} (hb : (Jvm.Cond.and given_1 narrow_1).before args s = true) : ∀ c ∈ ze_arr (ze_sm "LyndonBench$1" "$SwitchMap$LyndonBench$Command" "[I") .int ze_sw, c.before args s = true :=
  z_fc (ze_p [true, false, false, false, false, true, false, false, true, false] hb rfl) <|
  z_fc (ze_p [true, false, false, false, false, true, false, false, true, true, false] hb rfl) <|
  z_fc (ze_p [true, false, false, false, false, true, false, false, true, true, true] hb rfl) <|
  z_fc (ze_p [true, false, false, false, false, true, false, true, false, false] hb rfl) <|
  z_fc (ze_p [true, false, false, false, false, true, false, true, false, true, false] hb rfl) <|
  z_fc (ze_p [true, false, false, false, false, true, false, true, false, true, true] hb rfl) <|
  z_fc (ze_p [true, false, false, false, false, true, false, true, true, false] hb rfl) <|
  z_fc (ze_p [true, false, false, false, false, true, false, true, true, true, false] hb rfl) <|
  z_fc (ze_p [true, false, false, false, false, true, false, true, true, true, true] hb rfl) <|
  z_fc (ze_p [true, false, false, false, false, true, true, false, false, false] hb rfl) <|
  z_fc (ze_p [true, false, false, false, false, true, true, false, false, true, false] hb rfl) <|
  z_fc (ze_p [true, false, false, false, false, true, true, false, false, true, true] hb rfl) <|
  z_fc (ze_p [true, false, false, false, false, true, true, false, true, false] hb rfl) <|
  z_fc (ze_p [true, false, false, false, false, true, true, false, true, true, false] hb rfl) <|
  z_fn
theorem ze_k4_0 {args : Array Value} {s : State} (hb : (Jvm.Cond.and given_1 narrow_1).before args s = true) : ∀ c ∈ ze_cmd 0, c.before args s = true :=
  z_fc (ze_p [true, false, false, false, true, true, true, false, false, true, false] hb rfl) <|
  z_fc (ze_p [true, false, false, false, true, true, true, false, false, true, true] hb rfl) <|
  z_fc (ze_p [true, false, false, false, true, true, true, false, true, false] hb rfl) <|
  z_fc (ze_p [true, false, false, false, false, false, true, false, false, false] hb rfl) <|
  z_fn
theorem ze_k4_1 {args : Array Value} {s : State} (hb : (Jvm.Cond.and given_1 narrow_1).before args s = true) : ∀ c ∈ ze_cmd 1, c.before args s = true :=
  z_fc (ze_p [true, false, false, false, true, true, true, false, true, true, true] hb rfl) <|
  z_fc (ze_p [true, false, false, false, true, true, true, true, false, false] hb rfl) <|
  z_fc (ze_p [true, false, false, false, true, true, true, true, false, true, false] hb rfl) <|
  z_fc (ze_p [true, false, false, false, false, false, true, false, false, true, false] hb rfl) <|
  z_fn
theorem ze_k4_2 {args : Array Value} {s : State} (hb : (Jvm.Cond.and given_1 narrow_1).before args s = true) : ∀ c ∈ ze_cmd 2, c.before args s = true :=
  z_fc (ze_p [true, false, false, false, true, true, true, true, true, false, true] hb rfl) <|
  z_fc (ze_p [true, false, false, false, true, true, true, true, true, true, false] hb rfl) <|
  z_fc (ze_p [true, false, false, false, true, true, true, true, true, true, true] hb rfl) <|
  z_fc (ze_p [true, false, false, false, false, false, true, false, false, true, true] hb rfl) <|
  z_fn
theorem ze_k4_3 {args : Array Value} {s : State} (hb : (Jvm.Cond.and given_1 narrow_1).before args s = true) : ∀ c ∈ ze_cmd 3, c.before args s = true :=
  z_fc (ze_p [true, false, false, true, false, false, false, false, true, false] hb rfl) <|
  z_fc (ze_p [true, false, false, true, false, false, false, false, true, true, false] hb rfl) <|
  z_fc (ze_p [true, false, false, true, false, false, false, false, true, true, true] hb rfl) <|
  z_fc (ze_p [true, false, false, false, false, false, true, false, true, false] hb rfl) <|
  z_fn
theorem ze_k4_4 {args : Array Value} {s : State} (hb : (Jvm.Cond.and given_1 narrow_1).before args s = true) : ∀ c ∈ ze_cmd 4, c.before args s = true :=
  z_fc (ze_p [true, false, false, true, false, false, false, true, true, true, false] hb rfl) <|
  z_fc (ze_p [true, false, false, true, false, false, false, true, true, true, true] hb rfl) <|
  z_fc (ze_p [true, false, false, true, false, false, true, false, false, false] hb rfl) <|
  z_fc (ze_p [true, false, false, false, false, false, true, false, true, true, false] hb rfl) <|
  z_fn
theorem ze_k4_5 {args : Array Value} {s : State} (hb : (Jvm.Cond.and given_1 narrow_1).before args s = true) : ∀ c ∈ ze_cmd 5, c.before args s = true :=
  z_fc (ze_p [true, false, false, true, false, false, true, true, false, false] hb rfl) <|
  z_fc (ze_p [true, false, false, true, false, false, true, true, false, true, false] hb rfl) <|
  z_fc (ze_p [true, false, false, true, false, false, true, true, false, true, true] hb rfl) <|
  z_fc (ze_p [true, false, false, false, false, false, true, false, true, true, true] hb rfl) <|
  z_fn
theorem ze_k4_6 {args : Array Value} {s : State} (hb : (Jvm.Cond.and given_1 narrow_1).before args s = true) : ∀ c ∈ ze_cmd 6, c.before args s = true :=
  z_fc (ze_p [true, false, false, true, false, true, false, false, false, true, true] hb rfl) <|
  z_fc (ze_p [true, false, false, true, false, true, false, false, true, false] hb rfl) <|
  z_fc (ze_p [true, false, false, true, false, true, false, false, true, true, false] hb rfl) <|
  z_fc (ze_p [true, false, false, false, false, false, true, true, false, false] hb rfl) <|
  z_fn
theorem ze_k4_7 {args : Array Value} {s : State} (hb : (Jvm.Cond.and given_1 narrow_1).before args s = true) : ∀ c ∈ ze_cmd 7, c.before args s = true :=
  z_fc (ze_p [true, false, false, true, false, true, true, false, false, false] hb rfl) <|
  z_fc (ze_p [true, false, false, true, false, true, true, false, false, true, false] hb rfl) <|
  z_fc (ze_p [true, false, false, true, false, true, true, false, false, true, true] hb rfl) <|
  z_fc (ze_p [true, false, false, false, false, false, true, true, false, true, false] hb rfl) <|
  z_fn
theorem ze_k4_8 {args : Array Value} {s : State} (hb : (Jvm.Cond.and given_1 narrow_1).before args s = true) : ∀ c ∈ ze_cmd 8, c.before args s = true :=
  z_fc (ze_p [true, false, false, true, false, true, true, true, true, true, false] hb rfl) <|
  z_fc (ze_p [true, false, false, true, false, true, true, true, true, true, true] hb rfl) <|
  z_fc (ze_p [true, false, false, true, true, false, false, false, false, false] hb rfl) <|
  z_fc (ze_p [true, false, false, false, false, false, true, true, false, true, true] hb rfl) <|
  z_fn
theorem ze_k4_9 {args : Array Value} {s : State} (hb : (Jvm.Cond.and given_1 narrow_1).before args s = true) : ∀ c ∈ ze_cmd 9, c.before args s = true :=
  z_fc (ze_p [true, false, false, true, true, false, false, true, true, true, false] hb rfl) <|
  z_fc (ze_p [true, false, false, true, true, false, false, true, true, true, true] hb rfl) <|
  z_fc (ze_p [true, false, false, true, true, false, true, false, false, false] hb rfl) <|
  z_fc (ze_p [true, false, false, false, false, false, true, true, true, false, false] hb rfl) <|
  z_fn
theorem ze_k4_10 {args : Array Value} {s : State} (hb : (Jvm.Cond.and given_1 narrow_1).before args s = true) : ∀ c ∈ ze_cmd 10, c.before args s = true :=
  z_fc (ze_p [true, false, false, true, true, false, true, true, true, true, false] hb rfl) <|
  z_fc (ze_p [true, false, false, true, true, false, true, true, true, true, true] hb rfl) <|
  z_fc (ze_p [true, false, false, true, true, true, false, false, false, false] hb rfl) <|
  z_fc (ze_p [true, false, false, false, false, false, true, true, true, false, true] hb rfl) <|
  z_fn
theorem ze_k4_11 {args : Array Value} {s : State} (hb : (Jvm.Cond.and given_1 narrow_1).before args s = true) : ∀ c ∈ ze_cmd 11, c.before args s = true :=
  z_fc (ze_p [true, false, false, false, false, false, true, true, true, true, true] hb rfl) <|
  z_fc (ze_p [true, false, false, false, false, true, false, false, false, false] hb rfl) <|
  z_fc (ze_p [true, false, false, false, false, true, false, false, false, true, false] hb rfl) <|
  z_fc (ze_p [true, false, false, false, false, false, true, true, true, true, false] hb rfl) <|
  z_fn
theorem ze_k4 {args : Array Value} {s : State} (hb : (Jvm.Cond.and given_1 narrow_1).before args s = true) : ∀ k : Nat, k < 12 → ∀ c ∈ ze_cmd k, c.before args s = true := by
  intro k hk
  have h8 : k = 0 ∨ k = 1 ∨ k = 2 ∨ k = 3 ∨ k = 4 ∨ k = 5 ∨ k = 6 ∨ k = 7 ∨ k = 8 ∨ k = 9 ∨ k = 10 ∨ k = 11 := by omega
  rcases h8 with rfl | rfl | rfl | rfl | rfl | rfl | rfl | rfl | rfl | rfl | rfl | rfl
  · exact ze_k4_0 hb
  · exact ze_k4_1 hb
  · exact ze_k4_2 hb
  · exact ze_k4_3 hb
  · exact ze_k4_4 hb
  · exact ze_k4_5 hb
  · exact ze_k4_6 hb
  · exact ze_k4_7 hb
  · exact ze_k4_8 hb
  · exact ze_k4_9 hb
  · exact ze_k4_10 hb
  · exact ze_k4_11 hb
theorem ze_k5_0 {args : Array Value} {s : State} (hb : (Jvm.Cond.and given_1 narrow_1).before args s = true) : ∀ c ∈ ze_str "LyndonBench" 55 [97, 99, 97, 98, 97, 97, 98, 97, 99, 99, 97, 98, 97, 98], c.before args s = true :=
  z_fc (ze_p [true, false, true, false, false, true, false, false, false, true, true] hb rfl) <|
  z_fc (ze_p [true, false, true, false, false, true, false, false, true, false] hb rfl) <|
  z_fc (ze_p [true, false, true, false, false, true, false, false, true, true, false] hb rfl) <|
  z_fc (ze_p [true, false, true, false, false, true, false, false, true, true, true] hb rfl) <|
  z_fc (ze_p [true, false, true, false, false, true, false, true, false, false] hb rfl) <|
  z_fc (ze_p [true, false, true, false, false, true, false, true, false, true, false] hb rfl) <|
  z_fc (ze_p [true, false, true, false, false, true, false, true, false, true, true] hb rfl) <|
  z_fc (ze_p [true, false, true, false, false, true, false, true, true, false] hb rfl) <|
  z_fc (ze_p [true, false, true, false, false, true, false, true, true, true, false] hb rfl) <|
  z_fc (ze_p [true, false, true, false, false, true, false, true, true, true, true] hb rfl) <|
  z_fc (ze_p [true, false, true, false, false, true, true, false, false, false] hb rfl) <|
  z_fc (ze_p [true, false, true, false, false, true, true, false, false, true, false] hb rfl) <|
  z_fc (ze_p [true, false, true, false, false, true, true, false, false, true, true] hb rfl) <|
  z_fc (ze_p [true, false, true, false, false, true, true, false, true, false] hb rfl) <|
  z_fc (ze_p [true, false, true, false, false, true, true, false, true, true, false] hb rfl) <|
  z_fc (ze_p [true, false, true, false, false, true, true, false, true, true, true] hb rfl) <|
  z_fc (ze_p [true, false, true, false, false, true, true, true, false, false] hb rfl) <|
  z_fc (ze_p [true, false, true, false, false, true, true, true, false, true, false] hb rfl) <|
  z_fn
theorem ze_k5_1 {args : Array Value} {s : State} (hb : (Jvm.Cond.and given_1 narrow_1).before args s = true) : ∀ c ∈ ze_str "LyndonBench" 61 [97, 98, 97, 99, 97, 98], c.before args s = true :=
  z_fc (ze_p [true, false, true, false, false, true, true, true, false, true, true] hb rfl) <|
  z_fc (ze_p [true, false, true, false, false, true, true, true, true, false, false] hb rfl) <|
  z_fc (ze_p [true, false, true, false, false, true, true, true, true, false, true] hb rfl) <|
  z_fc (ze_p [true, false, true, false, false, true, true, true, true, true, false] hb rfl) <|
  z_fc (ze_p [true, false, true, false, false, true, true, true, true, true, true] hb rfl) <|
  z_fc (ze_p [true, false, true, false, true, false, false, false, false, false] hb rfl) <|
  z_fc (ze_p [true, false, true, false, true, false, false, false, false, true, false] hb rfl) <|
  z_fc (ze_p [true, false, true, false, true, false, false, false, false, true, true] hb rfl) <|
  z_fc (ze_p [true, false, true, false, true, false, false, false, true, false] hb rfl) <|
  z_fc (ze_p [true, false, true, false, true, false, false, false, true, true, false] hb rfl) <|
  z_fn
theorem ze_k5_2 {args : Array Value} {s : State} (hb : (Jvm.Cond.and given_1 narrow_1).before args s = true) : ∀ c ∈ ze_str "LyndonBench$Command" 73 [116, 101, 120, 116], c.before args s = true :=
  z_fc (ze_p [true, true, true, true, false, true, true, false, false, true, false] hb rfl) <|
  z_fc (ze_p [true, true, true, true, false, true, true, false, false, true, true, false] hb rfl) <|
  z_fc (ze_p [true, true, true, true, false, true, true, false, false, true, true, true] hb rfl) <|
  z_fc (ze_p [true, true, true, true, false, true, true, false, true, false, false] hb rfl) <|
  z_fc (ze_p [true, true, true, true, false, true, true, false, true, false, true, false] hb rfl) <|
  z_fc (ze_p [true, true, true, true, false, true, true, false, true, false, true, true] hb rfl) <|
  z_fc (ze_p [true, true, true, true, false, true, true, false, true, true, false] hb rfl) <|
  z_fc (ze_p [true, true, true, true, false, true, true, false, true, true, true, false] hb rfl) <|
  z_fn
theorem ze_k5_3 {args : Array Value} {s : State} (hb : (Jvm.Cond.and given_1 narrow_1).before args s = true) : ∀ c ∈ ze_str "LyndonBench$Command" 79 [97, 112, 112, 101, 110, 100], c.before args s = true :=
  z_fc (ze_p [true, true, true, true, false, true, true, true, false, false, false] hb rfl) <|
  z_fc (ze_p [true, true, true, true, false, true, true, true, false, false, true, false] hb rfl) <|
  z_fc (ze_p [true, true, true, true, false, true, true, true, false, false, true, true] hb rfl) <|
  z_fc (ze_p [true, true, true, true, false, true, true, true, false, true, false] hb rfl) <|
  z_fc (ze_p [true, true, true, true, false, true, true, true, false, true, true, false] hb rfl) <|
  z_fc (ze_p [true, true, true, true, false, true, true, true, false, true, true, true] hb rfl) <|
  z_fc (ze_p [true, true, true, true, false, true, true, true, true, false, false] hb rfl) <|
  z_fc (ze_p [true, true, true, true, false, true, true, true, true, false, true, false] hb rfl) <|
  z_fc (ze_p [true, true, true, true, false, true, true, true, true, false, true, true] hb rfl) <|
  z_fc (ze_p [true, true, true, true, false, true, true, true, true, true, false] hb rfl) <|
  z_fn
theorem ze_k5_4 {args : Array Value} {s : State} (hb : (Jvm.Cond.and given_1 narrow_1).before args s = true) : ∀ c ∈ ze_str "LyndonBench$Command" 82 [100, 114, 111, 112], c.before args s = true :=
  z_fc (ze_p [true, true, true, true, false, true, true, true, true, true, true, true] hb rfl) <|
  z_fc (ze_p [true, true, true, true, true, false, false, false, false, false, false] hb rfl) <|
  z_fc (ze_p [true, true, true, true, true, false, false, false, false, false, true] hb rfl) <|
  z_fc (ze_p [true, true, true, true, true, false, false, false, false, true, false] hb rfl) <|
  z_fc (ze_p [true, true, true, true, true, false, false, false, false, true, true, false] hb rfl) <|
  z_fc (ze_p [true, true, true, true, true, false, false, false, false, true, true, true] hb rfl) <|
  z_fc (ze_p [true, true, true, true, true, false, false, false, true, false, false] hb rfl) <|
  z_fc (ze_p [true, true, true, true, true, false, false, false, true, false, true, false] hb rfl) <|
  z_fn
theorem ze_k5_5 {args : Array Value} {s : State} (hb : (Jvm.Cond.and given_1 narrow_1).before args s = true) : ∀ c ∈ ze_str "LyndonBench$Command" 85 [112, 97, 114, 116], c.before args s = true :=
  z_fc (ze_p [true, true, true, true, true, false, false, false, true, true, false] hb rfl) <|
  z_fc (ze_p [true, true, true, true, true, false, false, false, true, true, true, false] hb rfl) <|
  z_fc (ze_p [true, true, true, true, true, false, false, false, true, true, true, true] hb rfl) <|
  z_fc (ze_p [true, true, true, true, true, false, false, true, false, false, false] hb rfl) <|
  z_fc (ze_p [true, true, true, true, true, false, false, true, false, false, true] hb rfl) <|
  z_fc (ze_p [true, true, true, true, true, false, false, true, false, true, false] hb rfl) <|
  z_fc (ze_p [true, true, true, true, true, false, false, true, false, true, true, false] hb rfl) <|
  z_fc (ze_p [true, true, true, true, true, false, false, true, false, true, true, true] hb rfl) <|
  z_fn
theorem ze_k5_6 {args : Array Value} {s : State} (hb : (Jvm.Cond.and given_1 narrow_1).before args s = true) : ∀ c ∈ ze_str "LyndonBench$Command" 88 [114, 111, 116, 97, 116, 101], c.before args s = true :=
  z_fc (ze_p [true, true, true, true, true, false, false, true, true, false, true, false] hb rfl) <|
  z_fc (ze_p [true, true, true, true, true, false, false, true, true, false, true, true] hb rfl) <|
  z_fc (ze_p [true, true, true, true, true, false, false, true, true, true, false] hb rfl) <|
  z_fc (ze_p [true, true, true, true, true, false, false, true, true, true, true, false] hb rfl) <|
  z_fc (ze_p [true, true, true, true, true, false, false, true, true, true, true, true] hb rfl) <|
  z_fc (ze_p [true, true, true, true, true, false, true, false, false, false, false] hb rfl) <|
  z_fc (ze_p [true, true, true, true, true, false, true, false, false, false, true] hb rfl) <|
  z_fc (ze_p [true, true, true, true, true, false, true, false, false, true, false] hb rfl) <|
  z_fc (ze_p [true, true, true, true, true, false, true, false, false, true, true, false] hb rfl) <|
  z_fc (ze_p [true, true, true, true, true, false, true, false, false, true, true, true] hb rfl) <|
  z_fn
theorem ze_k5_7 {args : Array Value} {s : State} (hb : (Jvm.Cond.and given_1 narrow_1).before args s = true) : ∀ c ∈ ze_str "LyndonBench$Command" 91 [114, 101, 118, 101, 114, 115, 101], c.before args s = true :=
  z_fc (ze_p [true, true, true, true, true, false, true, false, true, false, true, false] hb rfl) <|
  z_fc (ze_p [true, true, true, true, true, false, true, false, true, false, true, true] hb rfl) <|
  z_fc (ze_p [true, true, true, true, true, false, true, false, true, true, false] hb rfl) <|
  z_fc (ze_p [true, true, true, true, true, false, true, false, true, true, true, false] hb rfl) <|
  z_fc (ze_p [true, true, true, true, true, false, true, false, true, true, true, true] hb rfl) <|
  z_fc (ze_p [true, true, true, true, true, false, true, true, false, false, false] hb rfl) <|
  z_fc (ze_p [true, true, true, true, true, false, true, true, false, false, true, false] hb rfl) <|
  z_fc (ze_p [true, true, true, true, true, false, true, true, false, false, true, true] hb rfl) <|
  z_fc (ze_p [true, true, true, true, true, false, true, true, false, true, false] hb rfl) <|
  z_fc (ze_p [true, true, true, true, true, false, true, true, false, true, true, false] hb rfl) <|
  z_fc (ze_p [true, true, true, true, true, false, true, true, false, true, true, true] hb rfl) <|
  z_fn
theorem ze_k5_8 {args : Array Value} {s : State} (hb : (Jvm.Cond.and given_1 narrow_1).before args s = true) : ∀ c ∈ ze_str "LyndonBench$Command" 94 [108, 101, 97, 115, 116], c.before args s = true :=
  z_fc (ze_p [true, true, true, true, true, false, true, true, true, false, true, false] hb rfl) <|
  z_fc (ze_p [true, true, true, true, true, false, true, true, true, false, true, true] hb rfl) <|
  z_fc (ze_p [true, true, true, true, true, false, true, true, true, true, false] hb rfl) <|
  z_fc (ze_p [true, true, true, true, true, false, true, true, true, true, true, false] hb rfl) <|
  z_fc (ze_p [true, true, true, true, true, false, true, true, true, true, true, true] hb rfl) <|
  z_fc (ze_p [true, true, true, true, true, true, false, false, false, false, false] hb rfl) <|
  z_fc (ze_p [true, true, true, true, true, true, false, false, false, false, true] hb rfl) <|
  z_fc (ze_p [true, true, true, true, true, true, false, false, false, true, false] hb rfl) <|
  z_fc (ze_p [true, true, true, true, true, true, false, false, false, true, true, false] hb rfl) <|
  z_fn
theorem ze_k5_9 {args : Array Value} {s : State} (hb : (Jvm.Cond.and given_1 narrow_1).before args s = true) : ∀ c ∈ ze_str "LyndonBench$Command" 97 [110, 101, 120, 116], c.before args s = true :=
  z_fc (ze_p [true, true, true, true, true, true, false, false, true, false, false] hb rfl) <|
  z_fc (ze_p [true, true, true, true, true, true, false, false, true, false, true, false] hb rfl) <|
  z_fc (ze_p [true, true, true, true, true, true, false, false, true, false, true, true] hb rfl) <|
  z_fc (ze_p [true, true, true, true, true, true, false, false, true, true, false] hb rfl) <|
  z_fc (ze_p [true, true, true, true, true, true, false, false, true, true, true, false] hb rfl) <|
  z_fc (ze_p [true, true, true, true, true, true, false, false, true, true, true, true] hb rfl) <|
  z_fc (ze_p [true, true, true, true, true, true, false, true, false, false, false] hb rfl) <|
  z_fc (ze_p [true, true, true, true, true, true, false, true, false, false, true, false] hb rfl) <|
  z_fn
theorem ze_k5_10 {args : Array Value} {s : State} (hb : (Jvm.Cond.and given_1 narrow_1).before args s = true) : ∀ c ∈ ze_str "LyndonBench$Command" 100 [107, 101, 101, 112], c.before args s = true :=
  z_fc (ze_p [true, true, true, true, true, true, false, true, false, true, false] hb rfl) <|
  z_fc (ze_p [true, true, true, true, true, true, false, true, false, true, true, false] hb rfl) <|
  z_fc (ze_p [true, true, true, true, true, true, false, true, false, true, true, true] hb rfl) <|
  z_fc (ze_p [true, true, true, true, true, true, false, true, true, false, false] hb rfl) <|
  z_fc (ze_p [true, true, true, true, true, true, false, true, true, false, true, false] hb rfl) <|
  z_fc (ze_p [true, true, true, true, true, true, false, true, true, false, true, true] hb rfl) <|
  z_fc (ze_p [true, true, true, true, true, true, false, true, true, true, false] hb rfl) <|
  z_fc (ze_p [true, true, true, true, true, true, false, true, true, true, true, false] hb rfl) <|
  z_fn
theorem ze_k5_11 {args : Array Value} {s : State} (hb : (Jvm.Cond.and given_1 narrow_1).before args s = true) : ∀ c ∈ ze_str "LyndonBench$Command" 103 [114, 101, 109, 111, 118, 101], c.before args s = true :=
  z_fc (ze_p [true, true, true, true, true, true, true, false, false, false, false] hb rfl) <|
  z_fc (ze_p [true, true, true, true, true, true, true, false, false, false, true] hb rfl) <|
  z_fc (ze_p [true, true, true, true, true, true, true, false, false, true, false] hb rfl) <|
  z_fc (ze_p [true, true, true, true, true, true, true, false, false, true, true, false] hb rfl) <|
  z_fc (ze_p [true, true, true, true, true, true, true, false, false, true, true, true] hb rfl) <|
  z_fc (ze_p [true, true, true, true, true, true, true, false, true, false, false] hb rfl) <|
  z_fc (ze_p [true, true, true, true, true, true, true, false, true, false, true, false] hb rfl) <|
  z_fc (ze_p [true, true, true, true, true, true, true, false, true, false, true, true] hb rfl) <|
  z_fc (ze_p [true, true, true, true, true, true, true, false, true, true, false] hb rfl) <|
  z_fc (ze_p [true, true, true, true, true, true, true, false, true, true, true, false] hb rfl) <|
  z_fn
theorem ze_k5_12 {args : Array Value} {s : State} (hb : (Jvm.Cond.and given_1 narrow_1).before args s = true) : ∀ c ∈ ze_str "LyndonBench$Command" 106 [106, 111, 105, 110], c.before args s = true :=
  z_fc (ze_p [true, true, true, true, true, true, true, true, false, false, false] hb rfl) <|
  z_fc (ze_p [true, true, true, true, true, true, true, true, false, false, true, false] hb rfl) <|
  z_fc (ze_p [true, true, true, true, true, true, true, true, false, false, true, true] hb rfl) <|
  z_fc (ze_p [true, true, true, true, true, true, true, true, false, true, false] hb rfl) <|
  z_fc (ze_p [true, true, true, true, true, true, true, true, false, true, true, false] hb rfl) <|
  z_fc (ze_p [true, true, true, true, true, true, true, true, false, true, true, true] hb rfl) <|
  z_fc (ze_p [true, true, true, true, true, true, true, true, true, false, false] hb rfl) <|
  z_fc (ze_p [true, true, true, true, true, true, true, true, true, false, true, false] hb rfl) <|
  z_fn
theorem ze_k5_13 {args : Array Value} {s : State} (hb : (Jvm.Cond.and given_1 narrow_1).before args s = true) : ∀ c ∈ ze_str "LyndonBench$Command" 109 [114, 101, 112, 101, 97, 116], c.before args s = true :=
  z_fc (ze_p [true, true, true, true, false, true, false, true, false, true, false] hb rfl) <|
  z_fc (ze_p [true, true, true, true, false, true, false, true, false, true, true, false] hb rfl) <|
  z_fc (ze_p [true, true, true, true, false, true, false, true, false, true, true, true] hb rfl) <|
  z_fc (ze_p [true, true, true, true, false, true, false, true, true, false, false] hb rfl) <|
  z_fc (ze_p [true, true, true, true, false, true, false, true, true, false, true, false] hb rfl) <|
  z_fc (ze_p [true, true, true, true, false, true, false, true, true, false, true, true] hb rfl) <|
  z_fc (ze_p [true, true, true, true, false, true, false, true, true, true, false] hb rfl) <|
  z_fc (ze_p [true, true, true, true, false, true, false, true, true, true, true, false] hb rfl) <|
  z_fc (ze_p [true, true, true, true, false, true, false, true, true, true, true, true] hb rfl) <|
  z_fc (ze_p [true, true, true, true, false, true, true, false, false, false, false] hb rfl) <|
  z_fn
theorem ze_k5_14 {args : Array Value} {s : State} (hb : (Jvm.Cond.and given_1 narrow_1).before args s = true) : ∀ c ∈ ze_str "LyndonBench$Script" 77 [108, 101, 116, 116, 101, 114, 115], c.before args s = true :=
  z_fc (ze_p [true, false, true, false, true, false, false, false, true, true, true] hb rfl) <|
  z_fc (ze_p [true, false, true, false, true, false, false, true, false, false] hb rfl) <|
  z_fc (ze_p [true, false, true, false, true, false, false, true, false, true, false] hb rfl) <|
  z_fc (ze_p [true, false, true, false, true, false, false, true, false, true, true] hb rfl) <|
  z_fc (ze_p [true, false, true, false, true, false, false, true, true, false] hb rfl) <|
  z_fc (ze_p [true, false, true, false, true, false, false, true, true, true, false] hb rfl) <|
  z_fc (ze_p [true, false, true, false, true, false, false, true, true, true, true] hb rfl) <|
  z_fc (ze_p [true, false, true, false, true, false, true, false, false, false] hb rfl) <|
  z_fc (ze_p [true, false, true, false, true, false, true, false, false, true, false] hb rfl) <|
  z_fc (ze_p [true, false, true, false, true, false, true, false, false, true, true] hb rfl) <|
  z_fc (ze_p [true, false, true, false, true, false, true, false, true, false] hb rfl) <|
  z_fn
theorem ze_k5_15 {args : Array Value} {s : State} (hb : (Jvm.Cond.and given_1 narrow_1).before args s = true) : ∀ c ∈ ze_str "LyndonBenchModel" 45 [108, 101, 116, 116, 101, 114, 115, 32, 51, 59, 32, 116, 101, 120, 116, 32, 97, 98, 97, 99, 97, 98, 97, 97, 98, 97, 99, 99, 59, 32, 107, 101, 101, 112, 32, 48, 59, 32, 107, 101, 101, 112, 32, 49, 59, 32, 97, 112, 112, 101, 110, 100, 32, 97, 98, 59, 32, 114, 111, 116, 97, 116, 101, 32, 50, 59], c.before args s = true :=
  z_fc (ze_p [true, true, true, false, false, true, false, false, false, true, true, true] hb rfl) <|
  z_fc (ze_p [true, true, true, false, false, true, false, false, true, false, false] hb rfl) <|
  z_fc (ze_p [true, true, true, false, false, true, false, false, true, false, true, false] hb rfl) <|
  z_fc (ze_p [true, true, true, false, false, true, false, false, true, false, true, true] hb rfl) <|
  z_fc (ze_p [true, true, true, false, false, true, false, false, true, true, false] hb rfl) <|
  z_fc (ze_p [true, true, true, false, false, true, false, false, true, true, true, false] hb rfl) <|
  z_fc (ze_p [true, true, true, false, false, true, false, false, true, true, true, true] hb rfl) <|
  z_fc (ze_p [true, true, true, false, false, true, false, true, false, false, false] hb rfl) <|
  z_fc (ze_p [true, true, true, false, false, true, false, true, false, false, true] hb rfl) <|
  z_fc (ze_p [true, true, true, false, false, true, false, true, false, true, false] hb rfl) <|
  z_fc (ze_p [true, true, true, false, false, true, false, true, false, true, true, false] hb rfl) <|
  z_fc (ze_p [true, true, true, false, false, true, false, true, false, true, true, true] hb rfl) <|
  z_fc (ze_p [true, true, true, false, false, true, false, true, true, false, false] hb rfl) <|
  z_fc (ze_p [true, true, true, false, false, true, false, true, true, false, true, false] hb rfl) <|
  z_fc (ze_p [true, true, true, false, false, true, false, true, true, false, true, true] hb rfl) <|
  z_fc (ze_p [true, true, true, false, false, true, false, true, true, true, false] hb rfl) <|
  z_fc (ze_p [true, true, true, false, false, true, false, true, true, true, true, false] hb rfl) <|
  z_fc (ze_p [true, true, true, false, false, true, false, true, true, true, true, true] hb rfl) <|
  z_fc (ze_p [true, true, true, false, false, true, true, false, false, false, false] hb rfl) <|
  z_fc (ze_p [true, true, true, false, false, true, true, false, false, false, true] hb rfl) <|
  z_fc (ze_p [true, true, true, false, false, true, true, false, false, true, false] hb rfl) <|
  z_fc (ze_p [true, true, true, false, false, true, true, false, false, true, true, false] hb rfl) <|
  z_fc (ze_p [true, true, true, false, false, true, true, false, false, true, true, true] hb rfl) <|
  z_fc (ze_p [true, true, true, false, false, true, true, false, true, false, false] hb rfl) <|
  z_fc (ze_p [true, true, true, false, false, true, true, false, true, false, true, false] hb rfl) <|
  z_fc (ze_p [true, true, true, false, false, true, true, false, true, false, true, true] hb rfl) <|
  z_fc (ze_p [true, true, true, false, false, true, true, false, true, true, false] hb rfl) <|
  z_fc (ze_p [true, true, true, false, false, true, true, false, true, true, true, false] hb rfl) <|
  z_fc (ze_p [true, true, true, false, false, true, true, false, true, true, true, true] hb rfl) <|
  z_fc (ze_p [true, true, true, false, false, true, true, true, false, false, false] hb rfl) <|
  z_fc (ze_p [true, true, true, false, false, true, true, true, false, false, true, false] hb rfl) <|
  z_fc (ze_p [true, true, true, false, false, true, true, true, false, false, true, true] hb rfl) <|
  z_fc (ze_p [true, true, true, false, false, true, true, true, false, true, false] hb rfl) <|
  z_fc (ze_p [true, true, true, false, false, true, true, true, false, true, true, false] hb rfl) <|
  z_fc (ze_p [true, true, true, false, false, true, true, true, false, true, true, true] hb rfl) <|
  z_fc (ze_p [true, true, true, false, false, true, true, true, true, false, false] hb rfl) <|
  z_fc (ze_p [true, true, true, false, false, true, true, true, true, false, true, false] hb rfl) <|
  z_fc (ze_p [true, true, true, false, false, true, true, true, true, false, true, true] hb rfl) <|
  z_fc (ze_p [true, true, true, false, false, true, true, true, true, true, false] hb rfl) <|
  z_fc (ze_p [true, true, true, false, false, true, true, true, true, true, true, false] hb rfl) <|
  z_fc (ze_p [true, true, true, false, false, true, true, true, true, true, true, true] hb rfl) <|
  z_fc (ze_p [true, true, true, false, true, false, false, false, false, false, false] hb rfl) <|
  z_fc (ze_p [true, true, true, false, true, false, false, false, false, false, true] hb rfl) <|
  z_fc (ze_p [true, true, true, false, true, false, false, false, false, true, false] hb rfl) <|
  z_fc (ze_p [true, true, true, false, true, false, false, false, false, true, true, false] hb rfl) <|
  z_fc (ze_p [true, true, true, false, true, false, false, false, false, true, true, true] hb rfl) <|
  z_fc (ze_p [true, true, true, false, true, false, false, false, true, false, false] hb rfl) <|
  z_fc (ze_p [true, true, true, false, true, false, false, false, true, false, true, false] hb rfl) <|
  z_fc (ze_p [true, true, true, false, true, false, false, false, true, false, true, true] hb rfl) <|
  z_fc (ze_p [true, true, true, false, true, false, false, false, true, true, false] hb rfl) <|
  z_fc (ze_p [true, true, true, false, true, false, false, false, true, true, true, false] hb rfl) <|
  z_fc (ze_p [true, true, true, false, true, false, false, false, true, true, true, true] hb rfl) <|
  z_fc (ze_p [true, true, true, false, true, false, false, true, false, false, false] hb rfl) <|
  z_fc (ze_p [true, true, true, false, true, false, false, true, false, false, true] hb rfl) <|
  z_fc (ze_p [true, true, true, false, true, false, false, true, false, true, false] hb rfl) <|
  z_fc (ze_p [true, true, true, false, true, false, false, true, false, true, true, false] hb rfl) <|
  z_fc (ze_p [true, true, true, false, true, false, false, true, false, true, true, true] hb rfl) <|
  z_fc (ze_p [true, true, true, false, true, false, false, true, true, false, false] hb rfl) <|
  z_fc (ze_p [true, true, true, false, true, false, false, true, true, false, true, false] hb rfl) <|
  z_fc (ze_p [true, true, true, false, true, false, false, true, true, false, true, true] hb rfl) <|
  z_fc (ze_p [true, true, true, false, true, false, false, true, true, true, false] hb rfl) <|
  z_fc (ze_p [true, true, true, false, true, false, false, true, true, true, true, false] hb rfl) <|
  z_fc (ze_p [true, true, true, false, true, false, false, true, true, true, true, true] hb rfl) <|
  z_fc (ze_p [true, true, true, false, true, false, true, false, false, false, false] hb rfl) <|
  z_fc (ze_p [true, true, true, false, true, false, true, false, false, false, true] hb rfl) <|
  z_fc (ze_p [true, true, true, false, true, false, true, false, false, true, false] hb rfl) <|
  z_fc (ze_p [true, true, true, false, true, false, true, false, false, true, true, false] hb rfl) <|
  z_fc (ze_p [true, true, true, false, true, false, true, false, false, true, true, true] hb rfl) <|
  z_fc (ze_p [true, true, true, false, true, false, true, false, true, false, false] hb rfl) <|
  z_fc (ze_p [true, true, true, false, true, false, true, false, true, false, true, false] hb rfl) <|
  z_fn
theorem ze_k5_16 {args : Array Value} {s : State} (hb : (Jvm.Cond.and given_1 narrow_1).before args s = true) : ∀ c ∈ ze_str "LyndonBenchModel" 232 [116, 101, 120, 116], c.before args s = true :=
  z_fc (ze_p [true, true, true, false, true, false, true, true, true, false, true, true] hb rfl) <|
  z_fc (ze_p [true, true, true, false, true, false, true, true, true, true, false] hb rfl) <|
  z_fc (ze_p [true, true, true, false, true, false, true, true, true, true, true, false] hb rfl) <|
  z_fc (ze_p [true, true, true, false, true, false, true, true, true, true, true, true] hb rfl) <|
  z_fc (ze_p [true, true, true, false, true, true, false, false, false, false, false] hb rfl) <|
  z_fc (ze_p [true, true, true, false, true, true, false, false, false, false, true] hb rfl) <|
  z_fc (ze_p [true, true, true, false, true, true, false, false, false, true, false] hb rfl) <|
  z_fc (ze_p [true, true, true, false, true, true, false, false, false, true, true, false] hb rfl) <|
  z_fn
theorem ze_k5_17 {args : Array Value} {s : State} (hb : (Jvm.Cond.and given_1 narrow_1).before args s = true) : ∀ c ∈ ze_str "LyndonBenchModel" 237 [97, 112, 112, 101, 110, 100], c.before args s = true :=
  z_fc (ze_p [true, true, true, false, true, true, false, false, false, true, true, true] hb rfl) <|
  z_fc (ze_p [true, true, true, false, true, true, false, false, true, false, false] hb rfl) <|
  z_fc (ze_p [true, true, true, false, true, true, false, false, true, false, true, false] hb rfl) <|
  z_fc (ze_p [true, true, true, false, true, true, false, false, true, false, true, true] hb rfl) <|
  z_fc (ze_p [true, true, true, false, true, true, false, false, true, true, false] hb rfl) <|
  z_fc (ze_p [true, true, true, false, true, true, false, false, true, true, true, false] hb rfl) <|
  z_fc (ze_p [true, true, true, false, true, true, false, false, true, true, true, true] hb rfl) <|
  z_fc (ze_p [true, true, true, false, true, true, false, true, false, false, false] hb rfl) <|
  z_fc (ze_p [true, true, true, false, true, true, false, true, false, false, true, false] hb rfl) <|
  z_fc (ze_p [true, true, true, false, true, true, false, true, false, false, true, true] hb rfl) <|
  z_fn
theorem ze_k5_18 {args : Array Value} {s : State} (hb : (Jvm.Cond.and given_1 narrow_1).before args s = true) : ∀ c ∈ ze_str "LyndonBenchModel" 239 [100, 114, 111, 112], c.before args s = true :=
  z_fc (ze_p [true, true, true, false, true, true, false, true, false, true, false] hb rfl) <|
  z_fc (ze_p [true, true, true, false, true, true, false, true, false, true, true, false] hb rfl) <|
  z_fc (ze_p [true, true, true, false, true, true, false, true, false, true, true, true] hb rfl) <|
  z_fc (ze_p [true, true, true, false, true, true, false, true, true, false, false] hb rfl) <|
  z_fc (ze_p [true, true, true, false, true, true, false, true, true, false, true, false] hb rfl) <|
  z_fc (ze_p [true, true, true, false, true, true, false, true, true, false, true, true] hb rfl) <|
  z_fc (ze_p [true, true, true, false, true, true, false, true, true, true, false] hb rfl) <|
  z_fc (ze_p [true, true, true, false, true, true, false, true, true, true, true, false] hb rfl) <|
  z_fn
theorem ze_k5_19 {args : Array Value} {s : State} (hb : (Jvm.Cond.and given_1 narrow_1).before args s = true) : ∀ c ∈ ze_str "LyndonBenchModel" 241 [112, 97, 114, 116], c.before args s = true :=
  z_fc (ze_p [true, true, true, false, true, true, false, true, true, true, true, true] hb rfl) <|
  z_fc (ze_p [true, true, true, false, true, true, true, false, false, false, false] hb rfl) <|
  z_fc (ze_p [true, true, true, false, true, true, true, false, false, false, true] hb rfl) <|
  z_fc (ze_p [true, true, true, false, true, true, true, false, false, true, false] hb rfl) <|
  z_fc (ze_p [true, true, true, false, true, true, true, false, false, true, true, false] hb rfl) <|
  z_fc (ze_p [true, true, true, false, true, true, true, false, false, true, true, true] hb rfl) <|
  z_fc (ze_p [true, true, true, false, true, true, true, false, true, false, false] hb rfl) <|
  z_fc (ze_p [true, true, true, false, true, true, true, false, true, false, true, false] hb rfl) <|
  z_fn
theorem ze_k5_20 {args : Array Value} {s : State} (hb : (Jvm.Cond.and given_1 narrow_1).before args s = true) : ∀ c ∈ ze_str "LyndonBenchModel" 243 [114, 111, 116, 97, 116, 101], c.before args s = true :=
  z_fc (ze_p [true, true, true, false, true, true, true, false, true, false, true, true] hb rfl) <|
  z_fc (ze_p [true, true, true, false, true, true, true, false, true, true, false] hb rfl) <|
  z_fc (ze_p [true, true, true, false, true, true, true, false, true, true, true, false] hb rfl) <|
  z_fc (ze_p [true, true, true, false, true, true, true, false, true, true, true, true] hb rfl) <|
  z_fc (ze_p [true, true, true, false, true, true, true, true, false, false, false] hb rfl) <|
  z_fc (ze_p [true, true, true, false, true, true, true, true, false, false, true, false] hb rfl) <|
  z_fc (ze_p [true, true, true, false, true, true, true, true, false, false, true, true] hb rfl) <|
  z_fc (ze_p [true, true, true, false, true, true, true, true, false, true, false] hb rfl) <|
  z_fc (ze_p [true, true, true, false, true, true, true, true, false, true, true, false] hb rfl) <|
  z_fc (ze_p [true, true, true, false, true, true, true, true, false, true, true, true] hb rfl) <|
  z_fn
theorem ze_k5_21 {args : Array Value} {s : State} (hb : (Jvm.Cond.and given_1 narrow_1).before args s = true) : ∀ c ∈ ze_str "LyndonBenchModel" 245 [114, 101, 118, 101, 114, 115, 101], c.before args s = true :=
  z_fc (ze_p [true, true, true, false, true, true, true, true, true, false, false] hb rfl) <|
  z_fc (ze_p [true, true, true, false, true, true, true, true, true, false, true, false] hb rfl) <|
  z_fc (ze_p [true, true, true, false, true, true, true, true, true, false, true, true] hb rfl) <|
  z_fc (ze_p [true, true, true, false, true, true, true, true, true, true, false] hb rfl) <|
  z_fc (ze_p [true, true, true, false, true, true, true, true, true, true, true, false] hb rfl) <|
  z_fc (ze_p [true, true, true, false, true, true, true, true, true, true, true, true] hb rfl) <|
  z_fc (ze_p [true, true, true, true, false, false, false, false, false, false, false] hb rfl) <|
  z_fc (ze_p [true, true, true, true, false, false, false, false, false, false, true] hb rfl) <|
  z_fc (ze_p [true, true, true, true, false, false, false, false, false, true, false] hb rfl) <|
  z_fc (ze_p [true, true, true, true, false, false, false, false, false, true, true, false] hb rfl) <|
  z_fc (ze_p [true, true, true, true, false, false, false, false, false, true, true, true] hb rfl) <|
  z_fn
theorem ze_k5_22 {args : Array Value} {s : State} (hb : (Jvm.Cond.and given_1 narrow_1).before args s = true) : ∀ c ∈ ze_str "LyndonBenchModel" 250 [108, 101, 97, 115, 116], c.before args s = true :=
  z_fc (ze_p [true, true, true, true, false, false, false, false, true, false, false] hb rfl) <|
  z_fc (ze_p [true, true, true, true, false, false, false, false, true, false, true, false] hb rfl) <|
  z_fc (ze_p [true, true, true, true, false, false, false, false, true, false, true, true] hb rfl) <|
  z_fc (ze_p [true, true, true, true, false, false, false, false, true, true, false] hb rfl) <|
  z_fc (ze_p [true, true, true, true, false, false, false, false, true, true, true, false] hb rfl) <|
  z_fc (ze_p [true, true, true, true, false, false, false, false, true, true, true, true] hb rfl) <|
  z_fc (ze_p [true, true, true, true, false, false, false, true, false, false, false] hb rfl) <|
  z_fc (ze_p [true, true, true, true, false, false, false, true, false, false, true] hb rfl) <|
  z_fc (ze_p [true, true, true, true, false, false, false, true, false, true, false] hb rfl) <|
  z_fn
theorem ze_k5_23 {args : Array Value} {s : State} (hb : (Jvm.Cond.and given_1 narrow_1).before args s = true) : ∀ c ∈ ze_str "LyndonBenchModel" 251 [110, 101, 120, 116], c.before args s = true :=
  z_fc (ze_p [true, true, true, true, false, false, false, true, false, true, true, false] hb rfl) <|
  z_fc (ze_p [true, true, true, true, false, false, false, true, false, true, true, true] hb rfl) <|
  z_fc (ze_p [true, true, true, true, false, false, false, true, true, false, false] hb rfl) <|
  z_fc (ze_p [true, true, true, true, false, false, false, true, true, false, true, false] hb rfl) <|
  z_fc (ze_p [true, true, true, true, false, false, false, true, true, false, true, true] hb rfl) <|
  z_fc (ze_p [true, true, true, true, false, false, false, true, true, true, false] hb rfl) <|
  z_fc (ze_p [true, true, true, true, false, false, false, true, true, true, true, false] hb rfl) <|
  z_fc (ze_p [true, true, true, true, false, false, false, true, true, true, true, true] hb rfl) <|
  z_fn
theorem ze_k5_24 {args : Array Value} {s : State} (hb : (Jvm.Cond.and given_1 narrow_1).before args s = true) : ∀ c ∈ ze_str "LyndonBenchModel" 252 [107, 101, 101, 112], c.before args s = true :=
  z_fc (ze_p [true, true, true, true, false, false, true, false, false, false, false] hb rfl) <|
  z_fc (ze_p [true, true, true, true, false, false, true, false, false, false, true] hb rfl) <|
  z_fc (ze_p [true, true, true, true, false, false, true, false, false, true, false] hb rfl) <|
  z_fc (ze_p [true, true, true, true, false, false, true, false, false, true, true, false] hb rfl) <|
  z_fc (ze_p [true, true, true, true, false, false, true, false, false, true, true, true] hb rfl) <|
  z_fc (ze_p [true, true, true, true, false, false, true, false, true, false, false] hb rfl) <|
  z_fc (ze_p [true, true, true, true, false, false, true, false, true, false, true, false] hb rfl) <|
  z_fc (ze_p [true, true, true, true, false, false, true, false, true, false, true, true] hb rfl) <|
  z_fn
theorem ze_k5_25 {args : Array Value} {s : State} (hb : (Jvm.Cond.and given_1 narrow_1).before args s = true) : ∀ c ∈ ze_str "LyndonBenchModel" 254 [114, 101, 109, 111, 118, 101], c.before args s = true :=
  z_fc (ze_p [true, true, true, true, false, false, true, false, true, true, false] hb rfl) <|
  z_fc (ze_p [true, true, true, true, false, false, true, false, true, true, true, false] hb rfl) <|
  z_fc (ze_p [true, true, true, true, false, false, true, false, true, true, true, true] hb rfl) <|
  z_fc (ze_p [true, true, true, true, false, false, true, true, false, false, false] hb rfl) <|
  z_fc (ze_p [true, true, true, true, false, false, true, true, false, false, true, false] hb rfl) <|
  z_fc (ze_p [true, true, true, true, false, false, true, true, false, false, true, true] hb rfl) <|
  z_fc (ze_p [true, true, true, true, false, false, true, true, false, true, false] hb rfl) <|
  z_fc (ze_p [true, true, true, true, false, false, true, true, false, true, true, false] hb rfl) <|
  z_fc (ze_p [true, true, true, true, false, false, true, true, false, true, true, true] hb rfl) <|
  z_fc (ze_p [true, true, true, true, false, false, true, true, true, false, false] hb rfl) <|
  z_fn
theorem ze_k5_26 {args : Array Value} {s : State} (hb : (Jvm.Cond.and given_1 narrow_1).before args s = true) : ∀ c ∈ ze_str "LyndonBenchModel" 256 [106, 111, 105, 110], c.before args s = true :=
  z_fc (ze_p [true, true, true, true, false, false, true, true, true, false, true, false] hb rfl) <|
  z_fc (ze_p [true, true, true, true, false, false, true, true, true, false, true, true] hb rfl) <|
  z_fc (ze_p [true, true, true, true, false, false, true, true, true, true, false] hb rfl) <|
  z_fc (ze_p [true, true, true, true, false, false, true, true, true, true, true, false] hb rfl) <|
  z_fc (ze_p [true, true, true, true, false, false, true, true, true, true, true, true] hb rfl) <|
  z_fc (ze_p [true, true, true, true, false, true, false, false, false, false, false] hb rfl) <|
  z_fc (ze_p [true, true, true, true, false, true, false, false, false, false, true] hb rfl) <|
  z_fc (ze_p [true, true, true, true, false, true, false, false, false, true, false] hb rfl) <|
  z_fn
theorem ze_k5_27 {args : Array Value} {s : State} (hb : (Jvm.Cond.and given_1 narrow_1).before args s = true) : ∀ c ∈ ze_str "LyndonBenchModel" 258 [114, 101, 112, 101, 97, 116], c.before args s = true :=
  z_fc (ze_p [true, true, true, true, false, true, false, false, false, true, true, false] hb rfl) <|
  z_fc (ze_p [true, true, true, true, false, true, false, false, false, true, true, true] hb rfl) <|
  z_fc (ze_p [true, true, true, true, false, true, false, false, true, false, false] hb rfl) <|
  z_fc (ze_p [true, true, true, true, false, true, false, false, true, false, true, false] hb rfl) <|
  z_fc (ze_p [true, true, true, true, false, true, false, false, true, false, true, true] hb rfl) <|
  z_fc (ze_p [true, true, true, true, false, true, false, false, true, true, false] hb rfl) <|
  z_fc (ze_p [true, true, true, true, false, true, false, false, true, true, true, false] hb rfl) <|
  z_fc (ze_p [true, true, true, true, false, true, false, false, true, true, true, true] hb rfl) <|
  z_fc (ze_p [true, true, true, true, false, true, false, true, false, false, false] hb rfl) <|
  z_fc (ze_p [true, true, true, true, false, true, false, true, false, false, true] hb rfl) <|
  z_fn
theorem ze_k5_28 {args : Array Value} {s : State} (hb : (Jvm.Cond.and given_1 narrow_1).before args s = true) : ∀ c ∈ ze_str "LyndonBenchModel" 305 [108, 101, 116, 116, 101, 114, 115], c.before args s = true :=
  z_fc (ze_p [true, true, true, false, true, false, true, false, true, false, true, true] hb rfl) <|
  z_fc (ze_p [true, true, true, false, true, false, true, false, true, true, false] hb rfl) <|
  z_fc (ze_p [true, true, true, false, true, false, true, false, true, true, true, false] hb rfl) <|
  z_fc (ze_p [true, true, true, false, true, false, true, false, true, true, true, true] hb rfl) <|
  z_fc (ze_p [true, true, true, false, true, false, true, true, false, false, false] hb rfl) <|
  z_fc (ze_p [true, true, true, false, true, false, true, true, false, false, true, false] hb rfl) <|
  z_fc (ze_p [true, true, true, false, true, false, true, true, false, false, true, true] hb rfl) <|
  z_fc (ze_p [true, true, true, false, true, false, true, true, false, true, false] hb rfl) <|
  z_fc (ze_p [true, true, true, false, true, false, true, true, false, true, true, false] hb rfl) <|
  z_fc (ze_p [true, true, true, false, true, false, true, true, false, true, true, true] hb rfl) <|
  z_fc (ze_p [true, true, true, false, true, false, true, true, true, false, false] hb rfl) <|
  z_fn
theorem z_l1 {α : Type} {Q : Nat → α → Prop} {c : α} {l : List α} {k : Nat} (h : Q k c) (t : ∀ (j : Nat) (x : α), l[j]? = some x → Q (k + 1 + j) x) : ∀ (j : Nat) (x : α), (c :: l)[j]? = some x → Q (k + j) x := by
  intro j x e
  cases j with
  | zero => cases e; exact h
  | succ j => rw [show k + (j + 1) = k + 1 + j by omega]; exact t j x e
theorem z_l0 {α : Type} {R : Nat → α → Prop} : ∀ (j : Nat) (x : α), ([] : List α)[j]? = some x → R j x := fun j x e => by cases e
theorem z_l9 {α : Type} {Q : Nat → α → Prop} {l : List α} (t : ∀ (j : Nat) (x : α), l[j]? = some x → Q (0 + j) x) : ∀ (j : Nat) (x : α), l[j]? = some x → Q j x := fun j x e => by
  have h := t j x e
  rwa [Nat.zero_add] at h
theorem ze_k5 {args : Array Value} {s : State} (hb : (Jvm.Cond.and given_1 narrow_1).before args s = true) : ∀ (i : Nat) (q : String × Nat × List Int32), ze_data[i]? = some q → ∀ c ∈ ze_str q.1 q.2.1 q.2.2, c.before args s = true := z_l9 (Q := fun (_ : Nat) (q : String × Nat × List Int32) => ∀ c ∈ ze_str q.1 q.2.1 q.2.2, c.before args s = true) <| z_l1 (k := 0) (Q := fun (_ : Nat) (q : String × Nat × List Int32) => ∀ c ∈ ze_str q.1 q.2.1 q.2.2, c.before args s = true) (ze_k5_0 hb) <| z_l1 (k := 1) (Q := fun (_ : Nat) (q : String × Nat × List Int32) => ∀ c ∈ ze_str q.1 q.2.1 q.2.2, c.before args s = true) (ze_k5_1 hb) <| z_l1 (k := 2) (Q := fun (_ : Nat) (q : String × Nat × List Int32) => ∀ c ∈ ze_str q.1 q.2.1 q.2.2, c.before args s = true) (ze_k5_2 hb) <| z_l1 (k := 3) (Q := fun (_ : Nat) (q : String × Nat × List Int32) => ∀ c ∈ ze_str q.1 q.2.1 q.2.2, c.before args s = true) (ze_k5_3 hb) <| z_l1 (k := 4) (Q := fun (_ : Nat) (q : String × Nat × List Int32) => ∀ c ∈ ze_str q.1 q.2.1 q.2.2, c.before args s = true) (ze_k5_4 hb) <| z_l1 (k := 5) (Q := fun (_ : Nat) (q : String × Nat × List Int32) => ∀ c ∈ ze_str q.1 q.2.1 q.2.2, c.before args s = true) (ze_k5_5 hb) <| z_l1 (k := 6) (Q := fun (_ : Nat) (q : String × Nat × List Int32) => ∀ c ∈ ze_str q.1 q.2.1 q.2.2, c.before args s = true) (ze_k5_6 hb) <| z_l1 (k := 7) (Q := fun (_ : Nat) (q : String × Nat × List Int32) => ∀ c ∈ ze_str q.1 q.2.1 q.2.2, c.before args s = true) (ze_k5_7 hb) <| z_l1 (k := 8) (Q := fun (_ : Nat) (q : String × Nat × List Int32) => ∀ c ∈ ze_str q.1 q.2.1 q.2.2, c.before args s = true) (ze_k5_8 hb) <| z_l1 (k := 9) (Q := fun (_ : Nat) (q : String × Nat × List Int32) => ∀ c ∈ ze_str q.1 q.2.1 q.2.2, c.before args s = true) (ze_k5_9 hb) <| z_l1 (k := 10) (Q := fun (_ : Nat) (q : String × Nat × List Int32) => ∀ c ∈ ze_str q.1 q.2.1 q.2.2, c.before args s = true) (ze_k5_10 hb) <| z_l1 (k := 11) (Q := fun (_ : Nat) (q : String × Nat × List Int32) => ∀ c ∈ ze_str q.1 q.2.1 q.2.2, c.before args s = true) (ze_k5_11 hb) <| z_l1 (k := 12) (Q := fun (_ : Nat) (q : String × Nat × List Int32) => ∀ c ∈ ze_str q.1 q.2.1 q.2.2, c.before args s = true) (ze_k5_12 hb) <| z_l1 (k := 13) (Q := fun (_ : Nat) (q : String × Nat × List Int32) => ∀ c ∈ ze_str q.1 q.2.1 q.2.2, c.before args s = true) (ze_k5_13 hb) <| z_l1 (k := 14) (Q := fun (_ : Nat) (q : String × Nat × List Int32) => ∀ c ∈ ze_str q.1 q.2.1 q.2.2, c.before args s = true) (ze_k5_14 hb) <| z_l1 (k := 15) (Q := fun (_ : Nat) (q : String × Nat × List Int32) => ∀ c ∈ ze_str q.1 q.2.1 q.2.2, c.before args s = true) (ze_k5_15 hb) <| z_l1 (k := 16) (Q := fun (_ : Nat) (q : String × Nat × List Int32) => ∀ c ∈ ze_str q.1 q.2.1 q.2.2, c.before args s = true) (ze_k5_16 hb) <| z_l1 (k := 17) (Q := fun (_ : Nat) (q : String × Nat × List Int32) => ∀ c ∈ ze_str q.1 q.2.1 q.2.2, c.before args s = true) (ze_k5_17 hb) <| z_l1 (k := 18) (Q := fun (_ : Nat) (q : String × Nat × List Int32) => ∀ c ∈ ze_str q.1 q.2.1 q.2.2, c.before args s = true) (ze_k5_18 hb) <| z_l1 (k := 19) (Q := fun (_ : Nat) (q : String × Nat × List Int32) => ∀ c ∈ ze_str q.1 q.2.1 q.2.2, c.before args s = true) (ze_k5_19 hb) <| z_l1 (k := 20) (Q := fun (_ : Nat) (q : String × Nat × List Int32) => ∀ c ∈ ze_str q.1 q.2.1 q.2.2, c.before args s = true) (ze_k5_20 hb) <| z_l1 (k := 21) (Q := fun (_ : Nat) (q : String × Nat × List Int32) => ∀ c ∈ ze_str q.1 q.2.1 q.2.2, c.before args s = true) (ze_k5_21 hb) <| z_l1 (k := 22) (Q := fun (_ : Nat) (q : String × Nat × List Int32) => ∀ c ∈ ze_str q.1 q.2.1 q.2.2, c.before args s = true) (ze_k5_22 hb) <| z_l1 (k := 23) (Q := fun (_ : Nat) (q : String × Nat × List Int32) => ∀ c ∈ ze_str q.1 q.2.1 q.2.2, c.before args s = true) (ze_k5_23 hb) <| z_l1 (k := 24) (Q := fun (_ : Nat) (q : String × Nat × List Int32) => ∀ c ∈ ze_str q.1 q.2.1 q.2.2, c.before args s = true) (ze_k5_24 hb) <| z_l1 (k := 25) (Q := fun (_ : Nat) (q : String × Nat × List Int32) => ∀ c ∈ ze_str q.1 q.2.1 q.2.2, c.before args s = true) (ze_k5_25 hb) <| z_l1 (k := 26) (Q := fun (_ : Nat) (q : String × Nat × List Int32) => ∀ c ∈ ze_str q.1 q.2.1 q.2.2, c.before args s = true) (ze_k5_26 hb) <| z_l1 (k := 27) (Q := fun (_ : Nat) (q : String × Nat × List Int32) => ∀ c ∈ ze_str q.1 q.2.1 q.2.2, c.before args s = true) (ze_k5_27 hb) <| z_l1 (k := 28) (Q := fun (_ : Nat) (q : String × Nat × List Int32) => ∀ c ∈ ze_str q.1 q.2.1 q.2.2, c.before args s = true) (ze_k5_28 hb) <| z_l0
theorem ze_k6 {args : Array Value} {s : State} (hb : (Jvm.Cond.and given_1 narrow_1).before args s = true) : ∀ c ∈ ([.arrayOf ze_all (.object "LyndonBench$Command"), .eq (.length ze_all) (.int 12), .eq (.static "java/lang/String" "COMPACT_STRINGS" "Z") (.int 1), .isRef (.static "jdk/internal/util/Preconditions" "SIOOBE_FORMATTER" "Ljava/util/function/BiFunction;"), .isRef (.static Bundle.tN "UNASSIGNED_STACK" Bundle.steD), .isRef (.static Bundle.tN "SUPPRESSED_SENTINEL" Bundle.listD)] : List Cond), c.before args s = true :=
  z_fc (ze_p [true, false, false, false, false, false, false, true, true, false] hb rfl) <|
  z_fc (ze_p [true, false, false, false, false, false, false, true, true, true, false] hb rfl) <|
  z_fc (ze_p [true, false, false, false, false, false, false, false, false, true, true] hb rfl) <|
  z_fc (ze_p [true, false, false, false, false, false, false, false, true, false] hb rfl) <|
  z_fc (ze_p [true, false, false, false, true, true, false, true, true, true, true] hb rfl) <|
  z_fc (ze_p [true, false, false, false, true, true, true, false, false, false] hb rfl) <|
  z_fn
theorem ze_nc {args : Array Value} {s : State} (hb : (Jvm.Cond.and given_1 narrow_1).before args s = true) : ∀ q ∈ za_nc, va_Nc (za_M.2.2.1 q.1) (za_M.2.2.1 q.2) s :=
  z_fc (va_Nc.of (ze_p [true, false, false, true, true, true, true, true, false, true, false] hb rfl)) <|
  z_fc (va_Nc.of (ze_p [true, false, true, false, false, false, true, false, true, false] hb rfl)) <|
  z_fc (va_Nc.of (ze_p [true, false, false, true, true, true, true, true, false, true, true] hb rfl)) <|
  z_fn
theorem ze_k8_0 {args : Array Value} {s : State} (hb : (Jvm.Cond.and given_1 narrow_1).before args s = true) : ∀ j : Nat, j < 12 → 0 < j → (Cond.not (.eq (ze_cT 0) (ze_cT j))).before args s = true ∨ (Cond.not (.eq (ze_cT j) (ze_cT 0))).before args s = true := by
  intro j hj hij
  have h8 : j = 1 ∨ j = 2 ∨ j = 3 ∨ j = 4 ∨ j = 5 ∨ j = 6 ∨ j = 7 ∨ j = 8 ∨ j = 9 ∨ j = 10 ∨ j = 11 := by omega
  rcases h8 with rfl | rfl | rfl | rfl | rfl | rfl | rfl | rfl | rfl | rfl | rfl
  · exact Or.inl (ze_p [true, false, false, false, true, true, true, true, true, false, false] hb rfl)
  · exact Or.inl (ze_p [true, false, false, true, false, false, false, false, false, true, false] hb rfl)
  · exact Or.inl (ze_p [true, false, false, true, false, false, false, true, false, true, false] hb rfl)
  · exact Or.inl (ze_p [true, false, false, true, false, false, true, false, false, true, true] hb rfl)
  · exact Or.inl (ze_p [true, false, false, true, false, false, true, true, true, false, true] hb rfl)
  · exact Or.inl (ze_p [true, false, false, true, false, true, false, true, false, false] hb rfl)
  · exact Or.inl (ze_p [true, false, false, true, false, true, true, false, true, true, false] hb rfl)
  · exact Or.inl (ze_p [true, false, false, true, true, false, false, false, false, true, true] hb rfl)
  · exact Or.inl (ze_p [true, false, false, true, true, false, true, false, false, true, true] hb rfl)
  · exact Or.inl (ze_p [true, false, false, true, true, true, false, false, false, true, true] hb rfl)
  · exact Or.inr (ze_p [true, false, false, false, true, true, true, false, true, true, false] hb rfl)
theorem ze_k8_1 {args : Array Value} {s : State} (hb : (Jvm.Cond.and given_1 narrow_1).before args s = true) : ∀ j : Nat, j < 12 → 1 < j → (Cond.not (.eq (ze_cT 1) (ze_cT j))).before args s = true ∨ (Cond.not (.eq (ze_cT j) (ze_cT 1))).before args s = true := by
  intro j hj hij
  have h8 : j = 2 ∨ j = 3 ∨ j = 4 ∨ j = 5 ∨ j = 6 ∨ j = 7 ∨ j = 8 ∨ j = 9 ∨ j = 10 ∨ j = 11 := by omega
  rcases h8 with rfl | rfl | rfl | rfl | rfl | rfl | rfl | rfl | rfl | rfl
  · exact Or.inl (ze_p [true, false, false, true, false, false, false, false, false, true, true] hb rfl)
  · exact Or.inl (ze_p [true, false, false, true, false, false, false, true, false, true, true] hb rfl)
  · exact Or.inl (ze_p [true, false, false, true, false, false, true, false, true, false] hb rfl)
  · exact Or.inl (ze_p [true, false, false, true, false, false, true, true, true, true, false] hb rfl)
  · exact Or.inl (ze_p [true, false, false, true, false, true, false, true, false, true, false] hb rfl)
  · exact Or.inl (ze_p [true, false, false, true, false, true, true, false, true, true, true] hb rfl)
  · exact Or.inl (ze_p [true, false, false, true, true, false, false, false, true, false] hb rfl)
  · exact Or.inl (ze_p [true, false, false, true, true, false, true, false, true, false] hb rfl)
  · exact Or.inl (ze_p [true, false, false, true, true, true, false, false, true, false] hb rfl)
  · exact Or.inr (ze_p [true, false, false, false, true, true, true, true, false, true, true] hb rfl)
theorem ze_k8_2 {args : Array Value} {s : State} (hb : (Jvm.Cond.and given_1 narrow_1).before args s = true) : ∀ j : Nat, j < 12 → 2 < j → (Cond.not (.eq (ze_cT 2) (ze_cT j))).before args s = true ∨ (Cond.not (.eq (ze_cT j) (ze_cT 2))).before args s = true := by
  intro j hj hij
  have h8 : j = 3 ∨ j = 4 ∨ j = 5 ∨ j = 6 ∨ j = 7 ∨ j = 8 ∨ j = 9 ∨ j = 10 ∨ j = 11 := by omega
  rcases h8 with rfl | rfl | rfl | rfl | rfl | rfl | rfl | rfl | rfl
  · exact Or.inl (ze_p [true, false, false, true, false, false, false, true, true, false] hb rfl)
  · exact Or.inl (ze_p [true, false, false, true, false, false, true, false, true, true, false] hb rfl)
  · exact Or.inl (ze_p [true, false, false, true, false, false, true, true, true, true, true] hb rfl)
  · exact Or.inl (ze_p [true, false, false, true, false, true, false, true, false, true, true] hb rfl)
  · exact Or.inl (ze_p [true, false, false, true, false, true, true, true, false, false] hb rfl)
  · exact Or.inl (ze_p [true, false, false, true, true, false, false, false, true, true, false] hb rfl)
  · exact Or.inl (ze_p [true, false, false, true, true, false, true, false, true, true, false] hb rfl)
  · exact Or.inl (ze_p [true, false, false, true, true, true, false, false, true, true, false] hb rfl)
  · exact Or.inr (ze_p [true, false, false, true, false, false, false, false, false, false] hb rfl)
theorem ze_k8_3 {args : Array Value} {s : State} (hb : (Jvm.Cond.and given_1 narrow_1).before args s = true) : ∀ j : Nat, j < 12 → 3 < j → (Cond.not (.eq (ze_cT 3) (ze_cT j))).before args s = true ∨ (Cond.not (.eq (ze_cT j) (ze_cT 3))).before args s = true := by
  intro j hj hij
  have h8 : j = 4 ∨ j = 5 ∨ j = 6 ∨ j = 7 ∨ j = 8 ∨ j = 9 ∨ j = 10 ∨ j = 11 := by omega
  rcases h8 with rfl | rfl | rfl | rfl | rfl | rfl | rfl | rfl
  · exact Or.inl (ze_p [true, false, false, true, false, false, true, false, true, true, true] hb rfl)
  · exact Or.inl (ze_p [true, false, false, true, false, true, false, false, false, false] hb rfl)
  · exact Or.inl (ze_p [true, false, false, true, false, true, false, true, true, false] hb rfl)
  · exact Or.inl (ze_p [true, false, false, true, false, true, true, true, false, true, false] hb rfl)
  · exact Or.inl (ze_p [true, false, false, true, true, false, false, false, true, true, true] hb rfl)
  · exact Or.inl (ze_p [true, false, false, true, true, false, true, false, true, true, true] hb rfl)
  · exact Or.inl (ze_p [true, false, false, true, true, true, false, false, true, true, true] hb rfl)
  · exact Or.inr (ze_p [true, false, false, true, false, false, false, true, false, false] hb rfl)
theorem ze_k8_4 {args : Array Value} {s : State} (hb : (Jvm.Cond.and given_1 narrow_1).before args s = true) : ∀ j : Nat, j < 12 → 4 < j → (Cond.not (.eq (ze_cT 4) (ze_cT j))).before args s = true ∨ (Cond.not (.eq (ze_cT j) (ze_cT 4))).before args s = true := by
  intro j hj hij
  have h8 : j = 5 ∨ j = 6 ∨ j = 7 ∨ j = 8 ∨ j = 9 ∨ j = 10 ∨ j = 11 := by omega
  rcases h8 with rfl | rfl | rfl | rfl | rfl | rfl | rfl
  · exact Or.inl (ze_p [true, false, false, true, false, true, false, false, false, true, false] hb rfl)
  · exact Or.inl (ze_p [true, false, false, true, false, true, false, true, true, true, false] hb rfl)
  · exact Or.inl (ze_p [true, false, false, true, false, true, true, true, false, true, true] hb rfl)
  · exact Or.inl (ze_p [true, false, false, true, true, false, false, true, false, false] hb rfl)
  · exact Or.inl (ze_p [true, false, false, true, true, false, true, true, false, false] hb rfl)
  · exact Or.inl (ze_p [true, false, false, true, true, true, false, true, false, false] hb rfl)
  · exact Or.inr (ze_p [true, false, false, true, false, false, true, false, false, true, false] hb rfl)
theorem ze_k8_5 {args : Array Value} {s : State} (hb : (Jvm.Cond.and given_1 narrow_1).before args s = true) : ∀ j : Nat, j < 12 → 5 < j → (Cond.not (.eq (ze_cT 5) (ze_cT j))).before args s = true ∨ (Cond.not (.eq (ze_cT j) (ze_cT 5))).before args s = true := by
  intro j hj hij
  have h8 : j = 6 ∨ j = 7 ∨ j = 8 ∨ j = 9 ∨ j = 10 ∨ j = 11 := by omega
  rcases h8 with rfl | rfl | rfl | rfl | rfl | rfl
  · exact Or.inl (ze_p [true, false, false, true, false, true, false, true, true, true, true] hb rfl)
  · exact Or.inl (ze_p [true, false, false, true, false, true, true, true, true, false, false] hb rfl)
  · exact Or.inl (ze_p [true, false, false, true, true, false, false, true, false, true, false] hb rfl)
  · exact Or.inl (ze_p [true, false, false, true, true, false, true, true, false, true, false] hb rfl)
  · exact Or.inl (ze_p [true, false, false, true, true, true, false, true, false, true, false] hb rfl)
  · exact Or.inr (ze_p [true, false, false, true, false, false, true, true, true, false, false] hb rfl)
theorem ze_k8_6 {args : Array Value} {s : State} (hb : (Jvm.Cond.and given_1 narrow_1).before args s = true) : ∀ j : Nat, j < 12 → 6 < j → (Cond.not (.eq (ze_cT 6) (ze_cT j))).before args s = true ∨ (Cond.not (.eq (ze_cT j) (ze_cT 6))).before args s = true := by
  intro j hj hij
  have h8 : j = 7 ∨ j = 8 ∨ j = 9 ∨ j = 10 ∨ j = 11 := by omega
  rcases h8 with rfl | rfl | rfl | rfl | rfl
  · exact Or.inl (ze_p [true, false, false, true, false, true, true, true, true, false, true] hb rfl)
  · exact Or.inl (ze_p [true, false, false, true, true, false, false, true, false, true, true] hb rfl)
  · exact Or.inl (ze_p [true, false, false, true, true, false, true, true, false, true, true] hb rfl)
  · exact Or.inl (ze_p [true, false, false, true, true, true, false, true, false, true, true] hb rfl)
  · exact Or.inr (ze_p [true, false, false, true, false, true, false, false, true, true, true] hb rfl)
theorem ze_k8_7 {args : Array Value} {s : State} (hb : (Jvm.Cond.and given_1 narrow_1).before args s = true) : ∀ j : Nat, j < 12 → 7 < j → (Cond.not (.eq (ze_cT 7) (ze_cT j))).before args s = true ∨ (Cond.not (.eq (ze_cT j) (ze_cT 7))).before args s = true := by
  intro j hj hij
  have h8 : j = 8 ∨ j = 9 ∨ j = 10 ∨ j = 11 := by omega
  rcases h8 with rfl | rfl | rfl | rfl
  · exact Or.inl (ze_p [true, false, false, true, true, false, false, true, true, false] hb rfl)
  · exact Or.inl (ze_p [true, false, false, true, true, false, true, true, true, false, false] hb rfl)
  · exact Or.inl (ze_p [true, false, false, true, true, true, false, true, true, false] hb rfl)
  · exact Or.inr (ze_p [true, false, false, true, false, true, true, false, true, false] hb rfl)
theorem ze_k8_8 {args : Array Value} {s : State} (hb : (Jvm.Cond.and given_1 narrow_1).before args s = true) : ∀ j : Nat, j < 12 → 8 < j → (Cond.not (.eq (ze_cT 8) (ze_cT j))).before args s = true ∨ (Cond.not (.eq (ze_cT j) (ze_cT 8))).before args s = true := by
  intro j hj hij
  have h8 : j = 9 ∨ j = 10 ∨ j = 11 := by omega
  rcases h8 with rfl | rfl | rfl
  · exact Or.inl (ze_p [true, false, false, true, true, false, true, true, true, false, true] hb rfl)
  · exact Or.inl (ze_p [true, false, false, true, true, true, false, true, true, true, false] hb rfl)
  · exact Or.inr (ze_p [true, false, false, true, true, false, false, false, false, true, false] hb rfl)
theorem ze_k8_9 {args : Array Value} {s : State} (hb : (Jvm.Cond.and given_1 narrow_1).before args s = true) : ∀ j : Nat, j < 12 → 9 < j → (Cond.not (.eq (ze_cT 9) (ze_cT j))).before args s = true ∨ (Cond.not (.eq (ze_cT j) (ze_cT 9))).before args s = true := by
  intro j hj hij
  have h8 : j = 10 ∨ j = 11 := by omega
  rcases h8 with rfl | rfl
  · exact Or.inl (ze_p [true, false, false, true, true, true, false, true, true, true, true] hb rfl)
  · exact Or.inr (ze_p [true, false, false, true, true, false, true, false, false, true, false] hb rfl)
theorem ze_k8_10 {args : Array Value} {s : State} (hb : (Jvm.Cond.and given_1 narrow_1).before args s = true) : ∀ j : Nat, j < 12 → 10 < j → (Cond.not (.eq (ze_cT 10) (ze_cT j))).before args s = true ∨ (Cond.not (.eq (ze_cT j) (ze_cT 10))).before args s = true := by
  intro j hj hij
  have h8 : j = 11 := by omega
  rcases h8 with rfl
  · exact Or.inr (ze_p [true, false, false, true, true, true, false, false, false, true, false] hb rfl)
theorem ze_k8_11 {args : Array Value} {s : State} (hb : (Jvm.Cond.and given_1 narrow_1).before args s = true) : ∀ j : Nat, j < 12 → 11 < j → (Cond.not (.eq (ze_cT 11) (ze_cT j))).before args s = true ∨ (Cond.not (.eq (ze_cT j) (ze_cT 11))).before args s = true := by
  intro j hj hij
  omega
theorem ze_k8 {args : Array Value} {s : State} (hb : (Jvm.Cond.and given_1 narrow_1).before args s = true) : ∀ i j : Nat, i < 12 → j < 12 → i < j → (Cond.not (.eq (ze_cT i) (ze_cT j))).before args s = true ∨ (Cond.not (.eq (ze_cT j) (ze_cT i))).before args s = true := by
  intro i j hi hj hij
  have h8 : i = 0 ∨ i = 1 ∨ i = 2 ∨ i = 3 ∨ i = 4 ∨ i = 5 ∨ i = 6 ∨ i = 7 ∨ i = 8 ∨ i = 9 ∨ i = 10 ∨ i = 11 := by omega
  rcases h8 with rfl | rfl | rfl | rfl | rfl | rfl | rfl | rfl | rfl | rfl | rfl | rfl
  · exact ze_k8_0 hb j hj hij
  · exact ze_k8_1 hb j hj hij
  · exact ze_k8_2 hb j hj hij
  · exact ze_k8_3 hb j hj hij
  · exact ze_k8_4 hb j hj hij
  · exact ze_k8_5 hb j hj hij
  · exact ze_k8_6 hb j hj hij
  · exact ze_k8_7 hb j hj hij
  · exact ze_k8_8 hb j hj hij
  · exact ze_k8_9 hb j hj hij
  · exact ze_k8_10 hb j hj hij
  · exact ze_k8_11 hb j hj hij
def ze_thr : List (String × Nat × String) := [("LyndonBench", 55, "acabaabaccabab"), ("LyndonBench", 61, "abacab"), ("LyndonBench", 79, "the input buffer is not so long"), ("LyndonBench", 102, "there are 2 to 9 letters"), ("LyndonBench", 110, "a letter is still used"), ("LyndonBench", 123, "a text has at most 120 letters"), ("LyndonBench", 154, "the text is empty"), ("LyndonBench", 159, "the greatest length is 1 to 120"), ("LyndonBench", 164, "there is no next Lyndon word"), ("LyndonBench", 181, "the factor can't be kept"), ("LyndonBench", 186, "the text can't be kept"), ("LyndonBench", 194, "there is no such kept word"), ("LyndonBench", 203, "the kept words can't be joined"), ("LyndonBench", 217, "no snapshot was saved"), ("LyndonBench", 279, "there is no row of this order"), ("LyndonBench", 284, "the row has no such letter"), ("LyndonBench", 295, "this is not one of the letters"), ("LyndonBench", 297, "the text has not so many letters"), ("LyndonBench", 299, "the text has no such part"), ("LyndonBench", 301, "words of 1 to 18 letters are counted"), ("LyndonBench", 306, "there is no such factor"), ("LyndonBench$Command", 73, "text"), ("LyndonBench$Command", 79, "append"), ("LyndonBench$Command", 82, "drop"), ("LyndonBench$Command", 85, "part"), ("LyndonBench$Command", 88, "rotate"), ("LyndonBench$Command", 91, "reverse"), ("LyndonBench$Command", 94, "least"), ("LyndonBench$Command", 97, "next"), ("LyndonBench$Command", 100, "keep"), ("LyndonBench$Command", 103, "remove"), ("LyndonBench$Command", 106, "join"), ("LyndonBench$Command", 109, "repeat"), ("LyndonBench$Script", 77, "letters"), ("LyndonBenchModel", 45, "letters 3; text abacabaabacc; keep 0; keep 1; append ab; rotate 2;"), ("LyndonBenchModel", 232, "text"), ("LyndonBenchModel", 237, "append"), ("LyndonBenchModel", 239, "drop"), ("LyndonBenchModel", 241, "part"), ("LyndonBenchModel", 243, "rotate"), ("LyndonBenchModel", 245, "reverse"), ("LyndonBenchModel", 250, "least"), ("LyndonBenchModel", 251, "next"), ("LyndonBenchModel", 252, "keep"), ("LyndonBenchModel", 254, "remove"), ("LyndonBenchModel", 256, "join"), ("LyndonBenchModel", 258, "repeat"), ("LyndonBenchModel", 305, "letters")]
def ze_dtx : List String := ["acabaabaccabab", "abacab", "text", "append", "drop", "part", "rotate", "reverse", "least", "next", "keep", "remove", "join", "repeat", "letters", "letters 3; text abacabaabacc; keep 0; keep 1; append ab; rotate 2;", "text", "append", "drop", "part", "rotate", "reverse", "least", "next", "keep", "remove", "join", "repeat", "letters"]
theorem ze_els_mem (tm : Term) : ∀ (l : List Int32) (k j : Nat), j < l.length → Cond.eq (.elem tm (.int (Int32.ofNat (k + j)))) (.int (l.getD j 0)) ∈ ze_els tm l k := by
  intro l
  induction l with
  | nil => intro k j hj; cases hj
  | cons x r ih =>
    intro k j hj
    cases j with
    | zero => exact List.mem_cons_self
    | succ j =>
      have h := ih (k + 1) j (by simpa using hj)
      rw [show k + 1 + j = k + (j + 1) by omega] at h
      exact List.mem_cons_of_mem _ (by simpa using h)
theorem ze_k9 {args : Array Value} {s : State} (hb : (Jvm.Cond.and given_1 narrow_1).before args s = true) : ∀ (i : Nat) (q : String × Nat × String), ze_thr[i]? = some q → (Cond.exactly (.string q.1 q.2.1) "java/lang/String").before args s = true := z_l9 (Q := fun (_ : Nat) (q : String × Nat × String) => (Cond.exactly (.string q.1 q.2.1) "java/lang/String").before args s = true) <| z_l1 (k := 0) (Q := fun (_ : Nat) (q : String × Nat × String) => (Cond.exactly (.string q.1 q.2.1) "java/lang/String").before args s = true) (ze_p [true, false, true, false, false, true, false, false, false, true, true] hb rfl) <|
  z_l1 (k := 1) (Q := fun (_ : Nat) (q : String × Nat × String) => (Cond.exactly (.string q.1 q.2.1) "java/lang/String").before args s = true) (ze_p [true, false, true, false, false, true, true, true, false, true, true] hb rfl) <|
  z_l1 (k := 2) (Q := fun (_ : Nat) (q : String × Nat × String) => (Cond.exactly (.string q.1 q.2.1) "java/lang/String").before args s = true) (ze_p [true, false, true, false, true, false, true, false, true, true, false] hb rfl) <|
  z_l1 (k := 3) (Q := fun (_ : Nat) (q : String × Nat × String) => (Cond.exactly (.string q.1 q.2.1) "java/lang/String").before args s = true) (ze_p [true, false, true, true, false, false, false, false, false, true, false] hb rfl) <|
  z_l1 (k := 4) (Q := fun (_ : Nat) (q : String × Nat × String) => (Cond.exactly (.string q.1 q.2.1) "java/lang/String").before args s = true) (ze_p [true, false, true, true, false, true, false, false, true, true, false] hb rfl) <|
  z_l1 (k := 5) (Q := fun (_ : Nat) (q : String × Nat × String) => (Cond.exactly (.string q.1 q.2.1) "java/lang/String").before args s = true) (ze_p [true, false, true, true, true, false, false, false, true, true, true] hb rfl) <|
  z_l1 (k := 6) (Q := fun (_ : Nat) (q : String × Nat × String) => (Cond.exactly (.string q.1 q.2.1) "java/lang/String").before args s = true) (ze_p [true, true, false, false, false, true, true, true, false, false, true, false] hb rfl) <|
  z_l1 (k := 7) (Q := fun (_ : Nat) (q : String × Nat × String) => (Cond.exactly (.string q.1 q.2.1) "java/lang/String").before args s = true) (ze_p [true, true, false, false, true, false, false, false, true, true, false] hb rfl) <|
  z_l1 (k := 8) (Q := fun (_ : Nat) (q : String × Nat × String) => (Cond.exactly (.string q.1 q.2.1) "java/lang/String").before args s = true) (ze_p [true, true, false, false, true, false, true, true, true, false, true, false] hb rfl) <|
  z_l1 (k := 9) (Q := fun (_ : Nat) (q : String × Nat × String) => (Cond.exactly (.string q.1 q.2.1) "java/lang/String").before args s = true) (ze_p [true, true, false, true, false, false, false, false, false, true, false] hb rfl) <|
  z_l1 (k := 10) (Q := fun (_ : Nat) (q : String × Nat × String) => (Cond.exactly (.string q.1 q.2.1) "java/lang/String").before args s = true) (ze_p [true, true, false, true, false, false, true, false, true, false, false] hb rfl) <|
  z_l1 (k := 11) (Q := fun (_ : Nat) (q : String × Nat × String) => (Cond.exactly (.string q.1 q.2.1) "java/lang/String").before args s = true) (ze_p [true, true, false, true, false, true, false, false, true, false, true, false] hb rfl) <|
  z_l1 (k := 12) (Q := fun (_ : Nat) (q : String × Nat × String) => (Cond.exactly (.string q.1 q.2.1) "java/lang/String").before args s = true) (ze_p [true, true, false, true, false, true, true, true, false, false, false] hb rfl) <|
  z_l1 (k := 13) (Q := fun (_ : Nat) (q : String × Nat × String) => (Cond.exactly (.string q.1 q.2.1) "java/lang/String").before args s = true) (ze_p [true, true, false, true, true, false, false, true, true, true, false, false] hb rfl) <|
  z_l1 (k := 14) (Q := fun (_ : Nat) (q : String × Nat × String) => (Cond.exactly (.string q.1 q.2.1) "java/lang/String").before args s = true) (ze_p [true, true, false, true, true, true, true, false, true, true, true, true] hb rfl) <|
  z_l1 (k := 15) (Q := fun (_ : Nat) (q : String × Nat × String) => (Cond.exactly (.string q.1 q.2.1) "java/lang/String").before args s = true) (ze_p [true, true, true, false, false, false, false, true, true, true, false] hb rfl) <|
  z_l1 (k := 16) (Q := fun (_ : Nat) (q : String × Nat × String) => (Cond.exactly (.string q.1 q.2.1) "java/lang/String").before args s = true) (ze_p [true, false, true, true, true, true, true, false, false, true, true] hb rfl) <|
  z_l1 (k := 17) (Q := fun (_ : Nat) (q : String × Nat × String) => (Cond.exactly (.string q.1 q.2.1) "java/lang/String").before args s = true) (ze_p [true, true, false, false, false, false, false, true, true, true, true, false] hb rfl) <|
  z_l1 (k := 18) (Q := fun (_ : Nat) (q : String × Nat × String) => (Cond.exactly (.string q.1 q.2.1) "java/lang/String").before args s = true) (ze_p [true, true, false, false, false, true, false, false, true, true, false] hb rfl) <|
  z_l1 (k := 19) (Q := fun (_ : Nat) (q : String × Nat × String) => (Cond.exactly (.string q.1 q.2.1) "java/lang/String").before args s = true) (ze_p [true, true, false, true, true, false, true, true, true, true, false, false] hb rfl) <|
  z_l1 (k := 20) (Q := fun (_ : Nat) (q : String × Nat × String) => (Cond.exactly (.string q.1 q.2.1) "java/lang/String").before args s = true) (ze_p [true, true, false, false, true, true, true, false, false, false, true, false] hb rfl) <|
  z_l1 (k := 21) (Q := fun (_ : Nat) (q : String × Nat × String) => (Cond.exactly (.string q.1 q.2.1) "java/lang/String").before args s = true) (ze_p [true, true, true, true, false, true, true, false, false, true, false] hb rfl) <|
  z_l1 (k := 22) (Q := fun (_ : Nat) (q : String × Nat × String) => (Cond.exactly (.string q.1 q.2.1) "java/lang/String").before args s = true) (ze_p [true, true, true, true, false, true, true, true, false, false, false] hb rfl) <|
  z_l1 (k := 23) (Q := fun (_ : Nat) (q : String × Nat × String) => (Cond.exactly (.string q.1 q.2.1) "java/lang/String").before args s = true) (ze_p [true, true, true, true, false, true, true, true, true, true, true, true] hb rfl) <|
  z_l1 (k := 24) (Q := fun (_ : Nat) (q : String × Nat × String) => (Cond.exactly (.string q.1 q.2.1) "java/lang/String").before args s = true) (ze_p [true, true, true, true, true, false, false, false, true, true, false] hb rfl) <|
  z_l1 (k := 25) (Q := fun (_ : Nat) (q : String × Nat × String) => (Cond.exactly (.string q.1 q.2.1) "java/lang/String").before args s = true) (ze_p [true, true, true, true, true, false, false, true, true, false, true, false] hb rfl) <|
  z_l1 (k := 26) (Q := fun (_ : Nat) (q : String × Nat × String) => (Cond.exactly (.string q.1 q.2.1) "java/lang/String").before args s = true) (ze_p [true, true, true, true, true, false, true, false, true, false, true, false] hb rfl) <|
  z_l1 (k := 27) (Q := fun (_ : Nat) (q : String × Nat × String) => (Cond.exactly (.string q.1 q.2.1) "java/lang/String").before args s = true) (ze_p [true, true, true, true, true, false, true, true, true, false, true, false] hb rfl) <|
  z_l1 (k := 28) (Q := fun (_ : Nat) (q : String × Nat × String) => (Cond.exactly (.string q.1 q.2.1) "java/lang/String").before args s = true) (ze_p [true, true, true, true, true, true, false, false, true, false, false] hb rfl) <|
  z_l1 (k := 29) (Q := fun (_ : Nat) (q : String × Nat × String) => (Cond.exactly (.string q.1 q.2.1) "java/lang/String").before args s = true) (ze_p [true, true, true, true, true, true, false, true, false, true, false] hb rfl) <|
  z_l1 (k := 30) (Q := fun (_ : Nat) (q : String × Nat × String) => (Cond.exactly (.string q.1 q.2.1) "java/lang/String").before args s = true) (ze_p [true, true, true, true, true, true, true, false, false, false, false] hb rfl) <|
  z_l1 (k := 31) (Q := fun (_ : Nat) (q : String × Nat × String) => (Cond.exactly (.string q.1 q.2.1) "java/lang/String").before args s = true) (ze_p [true, true, true, true, true, true, true, true, false, false, false] hb rfl) <|
  z_l1 (k := 32) (Q := fun (_ : Nat) (q : String × Nat × String) => (Cond.exactly (.string q.1 q.2.1) "java/lang/String").before args s = true) (ze_p [true, true, true, true, false, true, false, true, false, true, false] hb rfl) <|
  z_l1 (k := 33) (Q := fun (_ : Nat) (q : String × Nat × String) => (Cond.exactly (.string q.1 q.2.1) "java/lang/String").before args s = true) (ze_p [true, false, true, false, true, false, false, false, true, true, true] hb rfl) <|
  z_l1 (k := 34) (Q := fun (_ : Nat) (q : String × Nat × String) => (Cond.exactly (.string q.1 q.2.1) "java/lang/String").before args s = true) (ze_p [true, true, true, false, false, true, false, false, false, true, true, true] hb rfl) <|
  z_l1 (k := 35) (Q := fun (_ : Nat) (q : String × Nat × String) => (Cond.exactly (.string q.1 q.2.1) "java/lang/String").before args s = true) (ze_p [true, true, true, false, true, false, true, true, true, false, true, true] hb rfl) <|
  z_l1 (k := 36) (Q := fun (_ : Nat) (q : String × Nat × String) => (Cond.exactly (.string q.1 q.2.1) "java/lang/String").before args s = true) (ze_p [true, true, true, false, true, true, false, false, false, true, true, true] hb rfl) <|
  z_l1 (k := 37) (Q := fun (_ : Nat) (q : String × Nat × String) => (Cond.exactly (.string q.1 q.2.1) "java/lang/String").before args s = true) (ze_p [true, true, true, false, true, true, false, true, false, true, false] hb rfl) <|
  z_l1 (k := 38) (Q := fun (_ : Nat) (q : String × Nat × String) => (Cond.exactly (.string q.1 q.2.1) "java/lang/String").before args s = true) (ze_p [true, true, true, false, true, true, false, true, true, true, true, true] hb rfl) <|
  z_l1 (k := 39) (Q := fun (_ : Nat) (q : String × Nat × String) => (Cond.exactly (.string q.1 q.2.1) "java/lang/String").before args s = true) (ze_p [true, true, true, false, true, true, true, false, true, false, true, true] hb rfl) <|
  z_l1 (k := 40) (Q := fun (_ : Nat) (q : String × Nat × String) => (Cond.exactly (.string q.1 q.2.1) "java/lang/String").before args s = true) (ze_p [true, true, true, false, true, true, true, true, true, false, false] hb rfl) <|
  z_l1 (k := 41) (Q := fun (_ : Nat) (q : String × Nat × String) => (Cond.exactly (.string q.1 q.2.1) "java/lang/String").before args s = true) (ze_p [true, true, true, true, false, false, false, false, true, false, false] hb rfl) <|
  z_l1 (k := 42) (Q := fun (_ : Nat) (q : String × Nat × String) => (Cond.exactly (.string q.1 q.2.1) "java/lang/String").before args s = true) (ze_p [true, true, true, true, false, false, false, true, false, true, true, false] hb rfl) <|
  z_l1 (k := 43) (Q := fun (_ : Nat) (q : String × Nat × String) => (Cond.exactly (.string q.1 q.2.1) "java/lang/String").before args s = true) (ze_p [true, true, true, true, false, false, true, false, false, false, false] hb rfl) <|
  z_l1 (k := 44) (Q := fun (_ : Nat) (q : String × Nat × String) => (Cond.exactly (.string q.1 q.2.1) "java/lang/String").before args s = true) (ze_p [true, true, true, true, false, false, true, false, true, true, false] hb rfl) <|
  z_l1 (k := 45) (Q := fun (_ : Nat) (q : String × Nat × String) => (Cond.exactly (.string q.1 q.2.1) "java/lang/String").before args s = true) (ze_p [true, true, true, true, false, false, true, true, true, false, true, false] hb rfl) <|
  z_l1 (k := 46) (Q := fun (_ : Nat) (q : String × Nat × String) => (Cond.exactly (.string q.1 q.2.1) "java/lang/String").before args s = true) (ze_p [true, true, true, true, false, true, false, false, false, true, true, false] hb rfl) <|
  z_l1 (k := 47) (Q := fun (_ : Nat) (q : String × Nat × String) => (Cond.exactly (.string q.1 q.2.1) "java/lang/String").before args s = true) (ze_p [true, true, true, false, true, false, true, false, true, false, true, true] hb rfl) <|
  z_l0
theorem ze_k7 {args : Array Value} {s : State} (hb : (Jvm.Cond.and given_1 narrow_1).before args s = true) : ∀ k : Nat, k < 12 → (Cond.exactly (.string "LyndonBench$Command" (z_nth ze_cmds k ("", 0)).2) "java/lang/String").before args s = true := by
  intro k hk
  have h8 : k = 0 ∨ k = 1 ∨ k = 2 ∨ k = 3 ∨ k = 4 ∨ k = 5 ∨ k = 6 ∨ k = 7 ∨ k = 8 ∨ k = 9 ∨ k = 10 ∨ k = 11 := by omega
  rcases h8 with rfl | rfl | rfl | rfl | rfl | rfl | rfl | rfl | rfl | rfl | rfl | rfl
  · exact (ze_p [true, true, true, true, false, true, true, false, false, true, false] hb rfl)
  · exact (ze_p [true, true, true, true, false, true, true, true, false, false, false] hb rfl)
  · exact (ze_p [true, true, true, true, false, true, true, true, true, true, true, true] hb rfl)
  · exact (ze_p [true, true, true, true, true, false, false, false, true, true, false] hb rfl)
  · exact (ze_p [true, true, true, true, true, false, false, true, true, false, true, false] hb rfl)
  · exact (ze_p [true, true, true, true, true, false, true, false, true, false, true, false] hb rfl)
  · exact (ze_p [true, true, true, true, true, false, true, true, true, false, true, false] hb rfl)
  · exact (ze_p [true, true, true, true, true, true, false, false, true, false, false] hb rfl)
  · exact (ze_p [true, true, true, true, true, true, false, true, false, true, false] hb rfl)
  · exact (ze_p [true, true, true, true, true, true, true, false, false, false, false] hb rfl)
  · exact (ze_p [true, true, true, true, true, true, true, true, false, false, false] hb rfl)
  · exact (ze_p [true, true, true, true, false, true, false, true, false, true, false] hb rfl)
theorem ze_T_congr {ty : FieldType} {t N : Nat} {f g : Nat → Value} {A : Nat → Prop} {U : State} {H : Heap} (h : va_T ty t N f A U H) (e : ∀ j, j < N → f j = g j) : va_T ty t N g A U H := by
  obtain ⟨cell, h1, h2, h3, h4, h5, h6, h7⟩ := h
  exact ⟨cell, h1, h2, h3, h4, h5, fun j hj => (h6 j hj).trans (congrArg some (e j hj)), h7⟩
section ZES
variable {args : Array Value} {s : State} {A : Nat → Prop}
theorem ze_arr_T {tm : Term} {ty : FieldType} {l : List Int32} (h : ∀ c ∈ ze_arr tm ty l, c.before args s = true) (hl : l.length < 2 ^ 31) (hA : ∀ a : Nat, a < s.heap.size → ¬ A a) : ∃ t : Nat, tm.eval args s none [] s = some (.ref t) ∧ va_T ty t l.length (fun i => .int (l.getD i 0)) A s s.heap :=
  va_Tof hl (h _ List.mem_cons_self) (va_eqt (h _ (List.mem_cons_of_mem _ List.mem_cons_self))) (fun j hj => va_eqt (h _ (List.mem_cons_of_mem _ (List.mem_cons_of_mem _ (by have h9 := ze_els_mem tm l 0 j hj; rwa [Nat.zero_add] at h9))))) hA
theorem ze_str_T {own : String} {k : Nat} {l : List Int32} (h : ∀ c ∈ ze_str own k l, c.before args s = true) (hl : l.length < 2 ^ 31) (hA : ∀ a : Nat, a < s.heap.size → ¬ A a) : ∃ a t : Nat, (Term.string own k).eval args s none [] s = some (.ref a) ∧ va_O "java/lang/String" a A s s.heap ∧ va_OF "java/lang/String" "coder" "B" (.int 0) a A s s.heap ∧ va_OF "java/lang/String" "value" "[B" (.ref t) a A s s.heap ∧ va_T .byte t l.length (fun i => .int (l.getD i 0)) A s s.heap := by
  obtain ⟨a, c, cA, kA, q1, q2, q3, q4, q5, q6, -⟩ := Cond.exactly_spec (args := args) (first := s) (o := none) (s := s) (idx := []) (t := .string own k) (cls := "java/lang/String") (h _ List.mem_cons_self)
  obtain ⟨t, ht, hT⟩ := ze_arr_T (fun c hc => h c (List.mem_cons_of_mem _ (List.mem_cons_of_mem _ hc))) hl hA
  exact ⟨a, t, q1, va_Oof (h _ List.mem_cons_self) q1 hA, vk_OFof q1 (va_eqt (h _ (List.mem_cons_of_mem _ List.mem_cons_self))) hA, vk_OFof q1 ht hA, hT⟩
theorem ze_strs (hb : (Jvm.Cond.and given_1 narrow_1).before args s = true) (hA : ∀ a : Nat, a < s.heap.size → ¬ A a) : ∃ adK adV : Nat → Nat, ∀ (i : Nat) (q : String × Nat × List Int32), ze_data[i]? = some q → (Term.string q.1 q.2.1).eval args s none [] s = some (.ref (adK i)) ∧ va_O "java/lang/String" (adK i) A s s.heap ∧ va_OF "java/lang/String" "coder" "B" (.int 0) (adK i) A s s.heap ∧ va_OF "java/lang/String" "value" "[B" (.ref (adV i)) (adK i) A s s.heap ∧ va_T .byte (adV i) q.2.2.length (fun j => .int (q.2.2.getD j 0)) A s s.heap := by
  have hlen : ∀ q ∈ ze_data, q.2.2.length < 100 := by decide +kernel
  have h0 : ∀ i : Nat, ∃ w : Nat × Nat, ∀ q : String × Nat × List Int32, ze_data[i]? = some q → (Term.string q.1 q.2.1).eval args s none [] s = some (.ref w.1) ∧ va_O "java/lang/String" w.1 A s s.heap ∧ va_OF "java/lang/String" "coder" "B" (.int 0) w.1 A s s.heap ∧ va_OF "java/lang/String" "value" "[B" (.ref w.2) w.1 A s s.heap ∧ va_T .byte w.2 q.2.2.length (fun j => .int (q.2.2.getD j 0)) A s s.heap := by
    intro i
    cases e : ze_data[i]? with
    | none => exact ⟨(0, 0), fun q hq => by cases hq⟩
    | some q =>
      have hm := List.mem_of_getElem? e
      obtain ⟨a, t, g⟩ := ze_str_T (own := q.1) (k := q.2.1) (l := q.2.2) (A := A) (ze_k5 hb i q e) (Nat.lt_trans (hlen q hm) (by decide)) hA
      exact ⟨(a, t), fun q' hq' => by cases hq'; exact g⟩
  obtain ⟨ad, had⟩ := Classical.axiomOfChoice h0
  exact ⟨fun i => (ad i).1, fun i => (ad i).2, fun i q hq => had i q hq⟩
theorem ze_thrs (hb : (Jvm.Cond.and given_1 narrow_1).before args s = true) : ∃ adX : Nat → Nat, ∀ (i : Nat) (q : String × Nat × String), ze_thr[i]? = some q → (Term.string q.1 q.2.1).eval args s none [] s = some (.ref (adX i)) := by
  have h0 : ∀ i : Nat, ∃ w : Nat, ∀ q : String × Nat × String, ze_thr[i]? = some q → (Term.string q.1 q.2.1).eval args s none [] s = some (.ref w) := by
    intro i
    cases e : ze_thr[i]? with
    | none => exact ⟨0, fun q hq => by cases hq⟩
    | some q =>
      obtain ⟨a, c, cA, kA, q1, -⟩ := Cond.exactly_spec (args := args) (first := s) (o := none) (s := s) (idx := []) (t := .string q.1 q.2.1) (cls := "java/lang/String") (ze_k9 hb i q e)
      exact ⟨a, fun q' hq' => by cases hq'; exact q1⟩
  obtain ⟨ad, had⟩ := Classical.axiomOfChoice h0
  exact ⟨ad, had⟩
theorem ze_enum (hb : (Jvm.Cond.and given_1 narrow_1).before args s = true) (hA : ∀ a : Nat, a < s.heap.size → ¬ A a) : ∃ adE : Nat → Nat, (∀ k : Nat, k < 12 → (ze_cT k).eval args s none [] s = some (.ref (adE k)) ∧ va_O "LyndonBench$Command" (adE k) A s s.heap ∧ va_OF "java/lang/Enum" "ordinal" "I" (.int (Int32.ofNat k)) (adE k) A s s.heap ∧ (Term.elem ze_all (.int (Int32.ofNat k))).eval args s none [] s = some (.ref (adE k)) ∧ ∃ w : Nat, (Term.string "LyndonBench$Command" (z_nth ze_cmds k ("", 0)).2).eval args s none [] s = some (.ref w) ∧ va_OF "LyndonBench$Command" "word" "Ljava/lang/String;" (.ref w) (adE k) A s s.heap) ∧ ∀ i j : Nat, i < 12 → j < 12 → adE i = adE j → i = j := by
  have h0 : ∀ k : Nat, ∃ e : Nat, k < 12 → (ze_cT k).eval args s none [] s = some (.ref e) ∧ va_O "LyndonBench$Command" e A s s.heap ∧ va_OF "java/lang/Enum" "ordinal" "I" (.int (Int32.ofNat k)) e A s s.heap ∧ (Term.elem ze_all (.int (Int32.ofNat k))).eval args s none [] s = some (.ref e) ∧ ∃ w : Nat, (Term.string "LyndonBench$Command" (z_nth ze_cmds k ("", 0)).2).eval args s none [] s = some (.ref w) ∧ va_OF "LyndonBench$Command" "word" "Ljava/lang/String;" (.ref w) e A s s.heap := by
    intro k
    by_cases hk : k < 12
    · have hu : ∀ c ∈ ze_cmd k, c.before args s = true := ze_k4 hb k hk
      have u0 := hu _ List.mem_cons_self
      have u1 := hu _ (List.mem_cons_of_mem _ List.mem_cons_self)
      have u2 := hu _ (List.mem_cons_of_mem _ (List.mem_cons_of_mem _ List.mem_cons_self))
      have u3 := hu _ (List.mem_cons_of_mem _ (List.mem_cons_of_mem _ (List.mem_cons_of_mem _ List.mem_cons_self)))
      obtain ⟨a, c, cA, kA, q1, -⟩ := Cond.exactly_spec (args := args) (first := s) (o := none) (s := s) (idx := []) (t := ze_cT k) (cls := "LyndonBench$Command") u0
      obtain ⟨y, hy1, hy2⟩ := Cond.eq_one (args := args) (first := s) (o := none) (s := s) (idx := []) u2
      obtain ⟨z, hz1, hz2⟩ := Cond.eq_one (args := args) (first := s) (o := none) (s := s) (idx := []) u3
      cases q1.symm.trans hz2
      have hw : ∃ w : Nat, (Term.string "LyndonBench$Command" (z_nth ze_cmds k ("", 0)).2).eval args s none [] s = some (.ref w) := by
        obtain ⟨a, c, cA, kA, q1, -⟩ := Cond.exactly_spec (args := args) (first := s) (o := none) (s := s) (idx := []) (t := .string "LyndonBench$Command" (z_nth ze_cmds k ("", 0)).2) (cls := "java/lang/String") (ze_k7 hb k hk)
        exact ⟨a, q1⟩
      obtain ⟨w, hw⟩ := hw
      cases hy2.symm.trans hw
      exact ⟨a, fun _ => ⟨q1, va_Oof u0 q1 hA, vk_OFof q1 (va_eqt u1) hA, hz1, w, hw, vk_OFof q1 hy1 hA⟩⟩
    · exact ⟨0, fun h => absurd h hk⟩
  obtain ⟨ad, had⟩ := Classical.axiomOfChoice h0
  refine ⟨ad, had, fun i j hi hj e => ?_⟩
  rcases Nat.lt_trichotomy i j with hij | hij | hij
  · exfalso
    rcases ze_k8 hb i j hi hj hij with h | h
    · exact va_neR h (had i hi).1 (had j hj).1 e
    · exact va_neR h (had j hj).1 (had i hi).1 e.symm
  · exact hij
  · exfalso
    rcases ze_k8 hb j i hj hi hij with h | h
    · exact va_neR h (had j hj).1 (had i hi).1 e.symm
    · exact va_neR h (had i hi).1 (had j hj).1 e
end ZES
end
section
-- ===== end of PART A; then your names; then what follows =====
/-! THE CLAIM OUT OF ONE WALK OF THE LAW'S BODY. Your part is whole_start (and what it stands on); all else here is the same for every law, but numbers. -/
def R_law : String := "LyndonBenchLaw"
def lw_P (b : Addr) (xs : List Int32) (args : Array Value) (s : State) : Prop := args = #[.ref b] ∧ s.IntsAt b xs ∧ xs.length ≤ 3072 ∧ (Jvm.Cond.and given_1 narrow_1).before args s = true
/-- what a walk over the start with the record d0 says of its end, said of the start itself -/
theorem lw_closed {s t : State} {o : Outcome} {d0 : Drawn} {L : List Loc} {k n : Nat} (hd0 : s.drawn.sameBut d0 lw_cs) (hv : ∃ v, o = .returned v) (hW : (s.setDrawn d0).WarmedH t.vm) (hs : (s.setDrawn d0).sameButNew ({ t with vm := s.vm } : State) L k n) : State.butDraws s t lw_cs (fun t1 => Framed s o t1 L k n) := by
  have h2 : t.drawn = d0 := congrArg State.drawn hs.1
  refine ⟨⟨hv, hW, State.sameButNew.setDrawn hs s.drawn⟩, ?_, by decide⟩
  rw [h2]
  exact hd0
def lw_Q (_ : Array Value) (s : State) (o : Outcome) (t : State) : Prop := o = .returned (some (.int 1)) ∧ State.butDraws s t lw_cs (fun t1 => Framed s o t1 [] 601024 7293034)
def lw_Z (below : List Frame) (a : Array Value) (s : State) : State → Prop := fun t => ∃ o, t.status = .running ∧ Ended t below o ∧ lw_Q a s o t
/-- the law's own end, with 1 on the stack, nothing written that was there before, its room as the claim has it; d0: the record of draws at this point (at the entry s.drawn: begin with 'refine W.base ?_' and 'have hd0 := Drawn.sameBut.refl s.drawn lw_cs') -/
theorem lw_ret {p : Program} {l : Launch} {e : Env} {s : State} {m : MethodId} {below : List Frame} {meth : Method} {c : Code} {b : Nat} {d0 : Drawn} (hd0 : s.drawn.sameBut d0 lw_cs) (hx : p.tables.exec = Jvm.exec) (hb : c.code = code) (hr : meth.sig.returnType = ret) (hlocks : meth.locks = false) {pc : Nat} {H : Heap} {ls : Array Slot} (hdg : decode code pc = .ok (.ireturn, 1)) : W p l e room_1 (s.setDrawn d0) m #[Value.ref b] below meth c H [] 601024 7293034 (lw_Z below #[Value.ref b] s) (F0 m pc ls [.int 1]) := by
  intro T hT X
  obtain ⟨fs, hret, hrun, hended, hW, hframe⟩ := X.leave (v := some (.int 1)) (hlocks := hlocks) (fun h => by rw [hr] at h; cases h)
  have hmeth' : T.vm.method? m = some meth := X.method'
  refine ⟨T.setFrames fs, ?_, .returned (some (.int 1)), hrun, hended, rfl, lw_closed hd0 ⟨_, rfl⟩ hW hframe⟩
  jvm_step X.here [X.here.top, hx, hb, hdg, hmeth', hr, ret, narrow_b1]
  (try refine ⟨rfl, ?_⟩); (try refine ⟨rfl, ?_⟩)
  first | (intro acts; rw [hret _ acts rfl rfl rfl]) | rw [hret _ _ rfl rfl rfl]
  exact Steps.refl _
/-- what holds at the law's entry: the machine, the code, the tables' words (any of lw_tbl by 'hts w (by decide +kernel)'), the script of L ints xs at the cell b, what the Statement gives of the start (any of its parts by flat_of_before) -/
def lw_At (p : Program) (s : State) (m : MethodId) (meth : Method) (c : Code) (b L : Nat) (xs : Nat → Int32) : Prop :=
  p.tables.exec = Jvm.exec ∧ c.code = code ∧ meth.sig.returnType = ret ∧ c.maxLocals = 9 ∧ s.vm.findClass R_law = some m.cls ∧ (∀ w ∈ lw_tbl, w.before #[Value.ref b] s = true) ∧ va_X b L xs s s.heap ∧ b < s.heap.size ∧ meth.locks = false ∧ (Jvm.Cond.and given_1 narrow_1).before #[Value.ref b] s = true
end
