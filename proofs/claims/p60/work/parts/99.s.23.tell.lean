/-! The reference's constructor: its arrays, the script told. -/
def za_m0 : zH := za_h1 ++ [(5, [.ref 233, .ref 234, .ref 235, .ref 236, .int 0, .int 0, .ref 237, .ref 238, .ref 239, .ref 240, .int 0, .int 0, .int 0, .int (-1), .int 0, .ref 241, .int 0, .int 0, .int 0, .int 0, .int 0, .int 0, .int 0, .ref 242]),
  (100, List.replicate 451 (.int 0)),
  (100, List.replicate 451 (.int 0)),
  (100, List.replicate 3608 (.int 0)),
  (100, List.replicate 451 (.int 0)),
  (100, List.replicate 600 (.int 0)),
  (100, List.replicate 600 (.int 0)),
  (100, List.replicate 130 (.int 0)),
  (100, List.replicate 130 (.int 0)),
  (102, List.replicate 400 (.int 0)),
  (100, List.replicate 2 (.int 0))]
def za_m1 : zH := za_h1 ++ [(5, [.ref 233, .ref 234, .ref 235, .ref 236, .int 0, .int 0, .ref 237, .ref 238, .ref 239, .ref 240, .int 0, .int 66, .int 0, .int (-1), .int 0, .ref 241, .int 0, .int 0, .int 0, .int 0, .int 0, .int 0, .int 0, .ref 242]),
  (100, List.replicate 451 (.int 0)),
  (100, List.replicate 451 (.int 0)),
  (100, List.replicate 3608 (.int 0)),
  (100, List.replicate 451 (.int 0)),
  (100, List.replicate 600 (.int 0)),
  (100, [.int 108, .int 101, .int 116, .int 116, .int 101, .int 114, .int 115, .int 32, .int 51, .int 59, .int 32, .int 116, .int 101, .int 120, .int 116, .int 32, .int 97, .int 98, .int 97, .int 99, .int 97, .int 98, .int 97, .int 97, .int 98, .int 97, .int 99, .int 99, .int 59, .int 32, .int 107, .int 101, .int 101, .int 112, .int 32, .int 48, .int 59, .int 32, .int 107, .int 101, .int 101, .int 112, .int 32, .int 49, .int 59, .int 32, .int 97, .int 112, .int 112, .int 101, .int 110, .int 100, .int 32, .int 97, .int 98, .int 59, .int 32, .int 114, .int 111, .int 116, .int 97, .int 116, .int 101, .int 32, .int 50, .int 59] ++ List.replicate 534 (.int 0)),
  (100, List.replicate 130 (.int 0)),
  (100, List.replicate 130 (.int 0)),
  (102, List.replicate 400 (.int 0)),
  (100, List.replicate 2 (.int 0))]
def z_chk (r : Option (Nat × List (Nat × Value) × List Value × zH × Nat × Nat)) (pc : Nat) (lv : List (Nat × Value)) (st : List Value) (h : zH) (cs ss : Nat) : Bool := match r with
  | some (a, b, c, d, e, f) => decide (a = pc) && (decide (b = lv) && (decide (c = st) && (decide (d = h) && (decide (e = cs) && decide (f = ss)))))
  | none => false
theorem z_chk_ok {r : Option (Nat × List (Nat × Value) × List Value × zH × Nat × Nat)} {pc : Nat} {lv : List (Nat × Value)} {st : List Value} {h : zH} {cs ss : Nat} (e : z_chk r pc lv st h cs ss = true) : r = some (pc, lv, st, h, cs, ss) := by
  unfold z_chk at e
  split at e
  · simp only [Bool.and_eq_true, decide_eq_true_eq] at e
    obtain ⟨rfl, rfl, rfl, rfl, rfl, rfl⟩ := e
    rfl
  · cases e
theorem z_init2 : z_it za_Tb za_P 147 47 (0, [(0, .ref 232)], [], za_h1 ++ [(5, za_fresh 5)], 0, 0) = some (100, [(0, .ref 232)], [.ref 1000047, .ref 232], za_m0, 10, 6823) := z_chk_ok (by decide +kernel)
theorem z_tell : fM_tell 100 232 1000047 za_m0 = some ((), za_m1) := by decide +kernel
