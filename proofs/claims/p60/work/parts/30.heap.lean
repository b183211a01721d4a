/-! THE HEAP by its cells: what F's reads and writes answer. -/
theorem zh_hg {h : zH} {q : Nat} {c : zC} (hq : q < 1000000) (e : h[q]? = some c) : z_hg za_S0 h q = some c := by
  unfold z_hg
  have h1 : Nat.blt q 1000000 = true := Nat.ble_eq.mpr hq
  rw [h1]
  exact e
theorem zh_R {h : zH} {q t b x : Nat} {vs : List Value} (hq : q < 1000000) (e : h[q]? = some (t, vs)) (e2 : vs[b]? = some (.ref x)) : fR h q t b = some x := by
  unfold fR fV
  rw [zh_hg hq e]
  simp [e2]
theorem zh_I {h : zH} {q t b : Nat} {x : Int32} {vs : List Value} (hq : q < 1000000) (e : h[q]? = some (t, vs)) (e2 : vs[b]? = some (.int x)) : fI h q t b = some x := by
  unfold fI fV
  rw [zh_hg hq e]
  simp [e2]
theorem zh_nat {i : Nat} (hi : i < 2147483648) : ¬ (Int32.ofInt (i : Int) < 0) ∧ (Int32.ofInt (i : Int)).toNatClampNeg = i := by
  have h1 : (Int32.ofInt (i : Int)).toInt = (i : Int) := Int32.toInt_ofInt_of_le (by omega) (by omega)
  constructor
  · rw [Int32.lt_iff_toInt_lt, h1]
    show ¬ ((i : Int) < 0)
    omega
  · show (Int32.ofInt (i : Int)).toInt.toNat = i
    rw [h1]
    omega
theorem zh_AI {h : zH} {q t i : Nat} {x : Int32} {vs : List Value} (hq : q < 1000000) (e : h[q]? = some (t, vs)) (e2 : vs[i]? = some (.int x)) (hi : i < 2147483648) : fAI h q t (Int32.ofInt i) = some x := by
  unfold fAI
  rw [decide_eq_false (zh_nat hi).1, cond_false, (zh_nat hi).2]
  exact zh_I hq e e2
theorem zh_S {h : zH} {q t b : Nat} {v : Value} {vs : List Value} (e : h[q]? = some (t, vs)) (hb : b < vs.length) : fS h q t b v = some (h.set q (t, vs.set b v)) := by
  unfold fS
  rw [e]
  have h1 : Nat.blt b vs.length = true := Nat.ble_eq.mpr hb
  simp [h1]
theorem zh_AS {h : zH} {q t i : Nat} {v : Value} {vs : List Value} (e : h[q]? = some (t, vs)) (hb : i < vs.length) (hi : i < 2147483648) : fAS h q t (Int32.ofInt i) v = some (h.set q (t, vs.set i v)) := by
  unfold fAS
  rw [decide_eq_false (zh_nat hi).1, cond_false, (zh_nat hi).2]
  exact zh_S e hb
theorem zh_set {h : zH} {q p : Nat} {c : zC} (hne : q ≠ p) : (h.set q c)[p]? = h[p]? := List.getElem?_set_ne hne
theorem zh_ge (i : Nat) (n : Int) (hi : i < 2147483648) (hn : -2147483648 ≤ n ∧ n < 2147483648) : z_cmp .ge (Int32.ofInt i) (Int32.ofInt n) = decide (n ≤ (i : Int)) := by
  refine decide_eq_decide.mpr ?_
  have h1 : (Int32.ofInt (i : Int)).toInt = (i : Int) := Int32.toInt_ofInt_of_le (by omega) (by omega)
  rw [Int32.le_iff_toInt_le, Int32.toInt_ofInt_of_le hn.1 hn.2, h1]
theorem zh_inc (i : Nat) : Int32.ofInt (i : Int) + Int32.ofInt 1 = Int32.ofInt ((i + 1 : Nat) : Int) := by
  rw [← Int32.ofInt_add]
  rfl
/-- the reference copies w into before -/
theorem zg_begins_2 {N q w b n : Nat} {h : zH} {vs W : List Value} (hq : q < 1000000) (hw : w < 1000000) (hqb : b ≠ q) (hwb : b ≠ w) (eq : h[q]? = some (5, vs)) (e0 : vs[0]? = some (.ref w)) (e1 : vs[1]? = some (.ref b)) (ew : h[w]? = some (100, W)) (hW : W.length = 451) (hI : ∀ i, i < 451 → ∃ x, W[i]? = some (.int x)) (hb : b < h.length) : ∀ k i : Nat, i + k = 451 → ∀ B : List Value, B.length = 451 → B.take i = W.take i → fM_begins_2 N (n + 1 + k) q (Int32.ofInt i) (h.set b (100, B)) = some ((), h.set b (100, W)) := by
  intro k
  induction k with
  | zero =>
    intro i hi B hB hBW
    have hi' : i = 451 := by omega
    subst hi'
    rw [Nat.add_zero, fM_begins_2, show z_cmp .ge (Int32.ofInt ((451 : Nat) : Int)) (Int32.ofInt 451) = true from rfl, cond_true]
    rw [List.take_of_length_le (by omega), List.take_of_length_le (by omega)] at hBW
    rw [hBW]
  | succ k ih =>
    intro i hi B hB hBW
    obtain ⟨x, hx⟩ := hI i (by omega)
    have eb : (h.set b (100, B))[b]? = some (100, B) := List.getElem?_set_self hb
    rw [show n + 1 + (k + 1) = (n + 1 + k) + 1 by omega, fM_begins_2, zh_ge i 451 (by omega) (by decide), decide_eq_false (by omega), cond_false,
      zh_R hq ((zh_set hqb).trans eq) e1, b1, zh_R hq ((zh_set hqb).trans eq) e0, b1, zh_AI hw ((zh_set hwb).trans ew) hx (by omega), b1, zh_AS eb (by omega) (by omega), b1, zh_inc, List.set_set]
    refine ih (i + 1) (by omega) (B.set i (.int x)) (by rw [List.length_set]; exact hB) ?_
    rw [List.take_add_one, List.take_add_one, List.take_set_of_le (Nat.le_refl _), hBW, hx]
    congr 1
    rw [List.getElem?_set_self (by omega)]
