/-! THE REFERENCE'S LOOPS. -/
theorem zh_mul (a i : Nat) (c : Nat) : (Int32.ofInt (a : Int)) * (Int32.ofInt (c : Int)) + Int32.ofInt (i : Int) = Int32.ofInt ((a * c + i : Nat) : Int) := by
  rw [← Int32.ofInt_mul, ← Int32.ofInt_add]
  congr 1
/-- the reference's row before, into the past at its place -/
theorem zg_remember_54 {N q p b n c : Nat} {l1 : Int32} {h : zH} {vs B : List Value} (hq : q < 1000000) (hb : b < 1000000) (hpq : p ≠ q) (hpb : p ≠ b) (eq : h[q]? = some (5, vs)) (e1 : vs[1]? = some (.ref b)) (e2 : vs[2]? = some (.ref p)) (e4 : vs[4]? = some (.int (Int32.ofInt c))) (eb : h[b]? = some (100, B)) (hBl : B.length = 451) (hI : ∀ i, i < 451 → ∃ x, B[i]? = some (.int x)) (hp : p < h.length) (hc : c < 8) : ∀ k i : Nat, i + k = 451 → ∀ P : List Value, P.length = 3608 →
    fM_remember_54 N (n + 1 + k) q l1 (Int32.ofInt i) (h.set p (100, P)) = some (l1, (h.set p (100, P.take (451 * c + i) ++ (B.drop i ++ P.drop (451 * c + 451)))).set q (5, vs.set 4 (.int (Int32.ofInt c + Int32.ofInt 1)))) := by
  have hv : 4 < vs.length := (List.getElem?_eq_some_iff.mp e4).1
  intro k
  induction k with
  | zero =>
    intro i hi P hP
    have hi' : i = 451 := by omega
    subst hi'
    rw [Nat.add_zero, fM_remember_54, show z_cmp .ge (Int32.ofInt ((451 : Nat) : Int)) (Int32.ofInt 451) = true from rfl, cond_true,
      zh_I hq ((zh_set hpq).trans eq) e4, b1, zh_S ((zh_set hpq).trans eq) hv, b1]
    rw [show B.drop 451 = [] from List.drop_of_length_le (by omega), List.nil_append, List.take_append_drop]
  | succ k ih =>
    intro i hi P hP
    obtain ⟨x, hx⟩ := hI i (by omega)
    have ep : (h.set p (100, P))[p]? = some (100, P) := List.getElem?_set_self hp
    have hq2 := (zh_set (c := (100, P)) hpq).trans eq
    rw [show n + 1 + (k + 1) = (n + 1 + k) + 1 by omega, fM_remember_54, zh_ge i 451 (by omega) (by decide), decide_eq_false (by omega), cond_false,
      zh_R hq hq2 e2, b1, zh_I hq hq2 e4, b1, zh_R hq hq2 e1, b1, zh_AI hb ((zh_set hpb).trans eb) hx (by omega), b1]
    rw [show (Int32.ofInt 451) * (Int32.ofInt (c : Int)) + Int32.ofInt (i : Int) = Int32.ofInt ((451 * c + i : Nat) : Int) from zh_mul 451 i c, zh_AS ep (by omega) (by omega), b1, zh_inc, List.set_set]
    rw [ih (i + 1) (by omega) (P.set (451 * c + i) (.int x)) (by rw [List.length_set]; exact hP)]
    have hd : B.drop i = .int x :: B.drop (i + 1) := by
      obtain ⟨h8, h9⟩ := List.getElem?_eq_some_iff.mp hx
      rw [List.drop_eq_getElem_cons h8, h9]
    have ht : (P.set (451 * c + i) (.int x)).take (451 * c + (i + 1)) = P.take (451 * c + i) ++ [.int x] := by
      rw [show 451 * c + (i + 1) = (451 * c + i) + 1 by omega, List.take_add_one, List.take_set_of_le (Nat.le_refl _), List.getElem?_set_self (by omega)]
      rfl
    have hr : (P.set (451 * c + i) (.int x)).drop (451 * c + 451) = P.drop (451 * c + 451) := List.drop_set_of_lt (by omega)
    rw [ht, hr, hd, List.append_assoc]
    rfl
/-- the row's letters into the text, the rest of the text emptied -/
theorem zg_takes_12 {N q w r n L : Nat} {h : zH} {vs R : List Value} (hq : q < 1000000) (hw : w < 1000000) (hr : r < 1000000) (hwq : w ≠ q) (hwr : w ≠ r) (eq : h[q]? = some (5, vs)) (e0 : vs[0]? = some (.ref w)) (e8 : vs[8]? = some (.ref r)) (e14 : vs[14]? = some (.int (Int32.ofInt L))) (hL : L ≤ 120) (er : h[r]? = some (100, R)) (hRl : L ≤ R.length) (hI : ∀ i, i < L → ∃ x, R[i]? = some (.int x)) (hwl : w < h.length) : ∀ k i : Nat, i + k = 120 → ∀ W : List Value, W.length = 451 →
    fM_takes_12 N (n + 1 + k) q (Int32.ofInt i) (h.set w (100, W)) = some (Int32.ofInt L, h.set w (100, W.take (3 + i) ++ ((R.take L ++ List.replicate (120 - L) (Value.int (Int32.ofInt 0))).drop i ++ W.drop 123))) := by
  have hT : (R.take L ++ List.replicate (120 - L) (Value.int (Int32.ofInt 0))).length = 120 := by
    rw [List.length_append, List.length_take, List.length_replicate]
    omega
  intro k
  induction k with
  | zero =>
    intro i hi W hW
    have hi' : i = 120 := by omega
    subst hi'
    rw [Nat.add_zero, fM_takes_12, show z_cmp .ge (Int32.ofInt ((120 : Nat) : Int)) (Int32.ofInt 120) = true from rfl, cond_true,
      zh_I hq ((zh_set hwq).trans eq) e14, b1]
    rw [List.drop_of_length_le (Nat.le_of_eq hT), List.nil_append, List.take_append_drop]
  | succ k ih =>
    intro i hi W hW
    have ew : (h.set w (100, W))[w]? = some (100, W) := List.getElem?_set_self hwl
    have hq2 := (zh_set (c := (100, W)) hwq).trans eq
    have key : ∀ x : Int32, (R.take L ++ List.replicate (120 - L) (Value.int (Int32.ofInt 0)))[i]? = some (.int x) → fM_takes_43 N (fM_takes_12 N (n + 1 + k)) q (Int32.ofInt i) x (Int32.ofInt 3 + Int32.ofInt i) w (h.set w (100, W)) = some (Int32.ofInt L, h.set w (100, W.take (3 + i) ++ ((R.take L ++ List.replicate (120 - L) (Value.int (Int32.ofInt 0))).drop i ++ W.drop 123))) := by
      intro x hx
      unfold fM_takes_43
      rw [show Int32.ofInt 3 + Int32.ofInt (i : Int) = Int32.ofInt ((3 + i : Nat) : Int) by rw [← Int32.ofInt_add]; rfl, zh_AS ew (by omega) (by omega), b1, zh_inc, List.set_set]
      rw [ih (i + 1) (by omega) (W.set (3 + i) (.int x)) (by rw [List.length_set]; exact hW)]
      have hd : (R.take L ++ List.replicate (120 - L) (Value.int (Int32.ofInt 0))).drop i = .int x :: (R.take L ++ List.replicate (120 - L) (Value.int (Int32.ofInt 0))).drop (i + 1) := by
        obtain ⟨h8, h9⟩ := List.getElem?_eq_some_iff.mp hx
        rw [List.drop_eq_getElem_cons h8, h9]
      have ht : (W.set (3 + i) (.int x)).take (3 + (i + 1)) = W.take (3 + i) ++ [.int x] := by
        rw [show 3 + (i + 1) = (3 + i) + 1 by omega, List.take_add_one, List.take_set_of_le (Nat.le_refl _), List.getElem?_set_self (by omega)]
        rfl
      have hr2 : (W.set (3 + i) (.int x)).drop 123 = W.drop 123 := List.drop_set_of_lt (by omega)
      rw [ht, hr2, hd, List.append_assoc]
      rfl
    rw [show n + 1 + (k + 1) = (n + 1 + k) + 1 by omega, fM_takes_12, zh_ge i 120 (by omega) (by decide), decide_eq_false (by omega), cond_false,
      zh_R hq hq2 e0, b1, zh_I hq hq2 e14, b1, zh_ge i L (by omega) (by omega)]
    by_cases hiL : L ≤ i
    · rw [decide_eq_true (by omega), cond_true]
      refine key _ ?_
      rw [List.getElem?_append_right (by rw [List.length_take]; omega), List.length_take, List.getElem?_replicate, if_pos (by omega)]
    · obtain ⟨x, hx⟩ := hI i (by omega)
      rw [decide_eq_false (by omega), cond_false, zh_R hq hq2 e8, b1, zh_AI hr ((zh_set hwr).trans er) hx (by omega), b1]
      refine key _ ?_
      rw [List.getElem?_append_left (by rw [List.length_take]; omega), List.getElem?_take_of_lt (by omega)]
      exact hx
