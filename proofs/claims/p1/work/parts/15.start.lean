/-! THE START, in the pure machine's words. -/
/-- the claim's flat premises -/
def ze_flat : List Cond := flatC (Jvm.Cond.and given_1 narrow_1)
def ze_sm (C n d : String) : Term := .static C n d
/-- an array of whole numbers, its premises -/
def ze_arr (tm : Term) (ty : FieldType) (l : List Int32) : List Cond := .arrayOf tm ty :: .eq (.length tm) (.int (Int32.ofNat l.length)) :: (List.range l.length).map (fun j => .eq (.elem tm (.int (Int32.ofNat j))) (.int (l.getD j 0)))
/-- a text's premises -/
def ze_str (own : String) (k : Nat) (l : List Int32) : List Cond := .exactly (.string own k) "java/lang/String" :: .eq (.field (.string own k) "java/lang/String" "coder" "B") (.int 0) :: ze_arr (.field (.string own k) "java/lang/String" "value" "[B") .byte l
def ze_cmds : List (String × Nat) := [("TEXT", 73), ("APPEND", 79), ("DROP", 82), ("PART", 85), ("ROTATE", 88), ("REVERSE", 91), ("LEAST", 94), ("NEXT", 97), ("KEEP", 100), ("REMOVE", 103), ("JOIN", 106), ("REPEAT", 109)]
def ze_cT (k : Nat) : Term := .static "LyndonBench$Command" (z_nth ze_cmds k ("", 0)).1 "LLyndonBench$Command;"
def ze_all : Term := .static "LyndonBench$Command" "ALL" "[LLyndonBench$Command;"
def ze_cmd (k : Nat) : List Cond := [.exactly (ze_cT k) "LyndonBench$Command", .eq (.field (ze_cT k) "java/lang/Enum" "ordinal" "I") (.int (Int32.ofNat k)), .eq (.field (ze_cT k) "LyndonBench$Command" "word" "Ljava/lang/String;") (.string "LyndonBench$Command" (z_nth ze_cmds k ("", 0)).2), .eq (.elem ze_all (.int (Int32.ofNat k))) (ze_cT k)]
def ze_data : List (String × Nat × List Int32) := [("LyndonBench", 55, [97, 99, 97, 98, 97, 97, 98, 97, 99, 99, 97, 98, 97, 98]),
  ("LyndonBench", 61, [97, 98, 97, 99, 97, 98]),
  ("LyndonBench$Command", 73, [116, 101, 120, 116]),
  ("LyndonBench$Command", 79, [97, 112, 112, 101, 110, 100]),
  ("LyndonBench$Command", 82, [100, 114, 111, 112]),
  ("LyndonBench$Command", 85, [112, 97, 114, 116]),
  ("LyndonBench$Command", 88, [114, 111, 116, 97, 116, 101]),
  ("LyndonBench$Command", 91, [114, 101, 118, 101, 114, 115, 101]),
  ("LyndonBench$Command", 94, [108, 101, 97, 115, 116]),
  ("LyndonBench$Command", 97, [110, 101, 120, 116]),
  ("LyndonBench$Command", 100, [107, 101, 101, 112]),
  ("LyndonBench$Command", 103, [114, 101, 109, 111, 118, 101]),
  ("LyndonBench$Command", 106, [106, 111, 105, 110]),
  ("LyndonBench$Command", 109, [114, 101, 112, 101, 97, 116]),
  ("LyndonBench$Script", 77, [108, 101, 116, 116, 101, 114, 115]),
  ("LyndonBenchModel", 45, [108, 101, 116, 116, 101, 114, 115, 32, 51, 59, 32, 116, 101, 120, 116, 32, 97, 98, 97, 99, 97, 98, 97, 97, 98, 97, 99, 99, 59, 32, 107, 101, 101, 112, 32, 48, 59, 32, 107, 101, 101, 112, 32, 49, 59, 32, 97, 112, 112, 101, 110, 100, 32, 97, 98, 59, 32, 114, 111, 116, 97, 116, 101, 32, 50, 59]),
  ("LyndonBenchModel", 232, [116, 101, 120, 116]),
  ("LyndonBenchModel", 237, [97, 112, 112, 101, 110, 100]),
  ("LyndonBenchModel", 239, [100, 114, 111, 112]),
  ("LyndonBenchModel", 241, [112, 97, 114, 116]),
  ("LyndonBenchModel", 243, [114, 111, 116, 97, 116, 101]),
  ("LyndonBenchModel", 245, [114, 101, 118, 101, 114, 115, 101]),
  ("LyndonBenchModel", 250, [108, 101, 97, 115, 116]),
  ("LyndonBenchModel", 251, [110, 101, 120, 116]),
  ("LyndonBenchModel", 252, [107, 101, 101, 112]),
  ("LyndonBenchModel", 254, [114, 101, 109, 111, 118, 101]),
  ("LyndonBenchModel", 256, [106, 111, 105, 110]),
  ("LyndonBenchModel", 258, [114, 101, 112, 101, 97, 116]),
  ("LyndonBenchModel", 305, [108, 101, 116, 116, 101, 114, 115])]
def ze_moeb : List Int32 := [0, 1, (-1), (-1), 0, (-1), 1, (-1), 0, 0, 1, (-1), 0, (-1), 1, 1, 0, (-1), 0]
def ze_toti : List Int32 := [0, 1, 1, 2, 2, 4, 2, 6, 4, 6, 4, 10, 4, 12, 6, 8, 8, 16, 6]
def ze_sw : List Int32 := [1, 2, 3, 4, 5, 6, 7, 8, 9, 10, 0, 0]
def ze_ok (L : List Cond) : Prop := L.all (fun c => ze_flat.contains c) = true
theorem ze_use {L : List Cond} (h : ze_ok L) {args : Array Value} {s : State} (hb : (Jvm.Cond.and given_1 narrow_1).before args s = true) : ∀ c ∈ L, c.before args s = true := fun c hc => flat_of_before _ hb c (List.contains_iff_mem.mp (List.all_eq_true.mp h c hc))
theorem ze_k1 : ze_ok (ze_arr (ze_sm "LyndonBench" "MOEBIUS" "[I") .int ze_moeb) := by unfold ze_ok; decide +kernel
theorem ze_k2 : ze_ok (ze_arr (ze_sm "LyndonBench" "TOTIENT" "[I") .int ze_toti) := by unfold ze_ok; decide +kernel
theorem ze_k3 : ze_ok (ze_arr (ze_sm "LyndonBench$1" "$SwitchMap$LyndonBench$Command" "[I") .int ze_sw) := by unfold ze_ok; decide +kernel
theorem ze_k4 : ze_ok ((List.range 12).flatMap ze_cmd) := by unfold ze_ok; decide +kernel
theorem ze_k5 : ze_ok (ze_data.flatMap (fun q => ze_str q.1 q.2.1 q.2.2)) := by unfold ze_ok; decide +kernel
theorem ze_k6 : ze_ok [.arrayOf ze_all (.object "LyndonBench$Command"), .eq (.length ze_all) (.int 12), .eq (.static "java/lang/String" "COMPACT_STRINGS" "Z") (.int 1), .isRef (.static "jdk/internal/util/Preconditions" "SIOOBE_FORMATTER" "Ljava/util/function/BiFunction;"), .isRef (.static Bundle.tN "UNASSIGNED_STACK" Bundle.steD), .isRef (.static Bundle.tN "SUPPRESSED_SENTINEL" Bundle.listD)] := by unfold ze_ok; decide +kernel
theorem ze_k7 : ze_ok (za_nc.map (fun q => Cond.not (.castable (z_nth za_x q.1 "") (z_nth za_x q.2 "")))) := by unfold ze_ok; decide +kernel
/-- two of the enum's constants differ -/
def ze_ne (i j : Nat) : Bool := ze_flat.contains (Cond.not (.eq (ze_cT i) (ze_cT j))) || ze_flat.contains (Cond.not (.eq (ze_cT j) (ze_cT i)))
theorem ze_k8 : ∀ i, i < 12 → ∀ j, j < 12 → i = j ∨ ze_ne i j = true := by decide +kernel
