/-! THE HEAP by its cells: what F's reads and writes answer. -/
theorem zh_hg {h : zH} {q : Nat} {c : zC} (hq : q < 1000000) (e : h[q]? = some c) : z_hg za_S0 h q = some c := by
  unfold z_hg
  have h1 : Nat.blt q 1000000 = true := Nat.ble_eq.mpr hq
  rw [h1]
  exact e
theorem zh_R {h : zH} {q t b x : Nat} {vs : List Value} (hq : q < 1000000) (e : h[q]? = some (t, vs)) (e2 : vs[b]? = some (.ref x)) : fR h q t b = some x := by
  unfold fR fV
  rw [zh_hg hq e]
  simp [e2]
theorem zh_I {h : zH} {q t b : Nat} {x : Int32} {vs : List Value} (hq : q < 1000000) (e : h[q]? = some (t, vs)) (e2 : vs[b]? = some (.int x)) : fI h q t b = some x := by
  unfold fI fV
  rw [zh_hg hq e]
  simp [e2]
theorem zh_nat {i : Nat} (hi : i < 2147483648) : ¬ (Int32.ofInt (i : Int) < 0) ∧ (Int32.ofInt (i : Int)).toNatClampNeg = i := by
  have h1 : (Int32.ofInt (i : Int)).toInt = (i : Int) := Int32.toInt_ofInt_of_le (by omega) (by omega)
  constructor
  · rw [Int32.lt_iff_toInt_lt, h1]
    show ¬ ((i : Int) < 0)
    omega
  · show (Int32.ofInt (i : Int)).toInt.toNat = i
    rw [h1]
    omega
theorem zh_AI {h : zH} {q t i : Nat} {x : Int32} {vs : List Value} (hq : q < 1000000) (e : h[q]? = some (t, vs)) (e2 : vs[i]? = some (.int x)) (hi : i < 2147483648) : fAI h q t (Int32.ofInt i) = some x := by
  unfold fAI
  rw [decide_eq_false (zh_nat hi).1, cond_false, (zh_nat hi).2]
  exact zh_I hq e e2
theorem zh_S {h : zH} {q t b : Nat} {v : Value} {vs : List Value} (e : h[q]? = some (t, vs)) (hb : b < vs.length) : fS h q t b v = some (h.set q (t, vs.set b v)) := by
  unfold fS
  rw [e]
  have h1 : Nat.blt b vs.length = true := Nat.ble_eq.mpr hb
  simp [h1]
theorem zh_AS {h : zH} {q t i : Nat} {v : Value} {vs : List Value} (e : h[q]? = some (t, vs)) (hb : i < vs.length) (hi : i < 2147483648) : fAS h q t (Int32.ofInt i) v = some (h.set q (t, vs.set i v)) := by
  unfold fAS
  rw [decide_eq_false (zh_nat hi).1, cond_false, (zh_nat hi).2]
  exact zh_S e hb
theorem zh_set {h : zH} {q p : Nat} {c : zC} (hne : q ≠ p) : (h.set q c)[p]? = h[p]? := List.getElem?_set_ne hne
theorem zh_ge (i : Nat) (n : Int) (hi : i < 2147483648) (hn : -2147483648 ≤ n ∧ n < 2147483648) : z_cmp .ge (Int32.ofInt i) (Int32.ofInt n) = decide (n ≤ (i : Int)) := by
  refine decide_eq_decide.mpr ?_
  have h1 : (Int32.ofInt (i : Int)).toInt = (i : Int) := Int32.toInt_ofInt_of_le (by omega) (by omega)
  rw [Int32.le_iff_toInt_le, Int32.toInt_ofInt_of_le hn.1 hn.2, h1]
theorem zh_inc (i : Nat) : Int32.ofInt (i : Int) + Int32.ofInt 1 = Int32.ofInt ((i + 1 : Nat) : Int) := by
  rw [← Int32.ofInt_add]
  rfl
