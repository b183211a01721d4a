/-! SMALL LAWS of Int32 and of the heap. -/
/-- a comparison by the whole numbers -/
theorem zj_lt (x : Int32) (c : Int) (hc : -2147483648 ≤ c ∧ c < 2147483648) : z_cmp .lt x (Int32.ofInt c) = decide (x.toInt < c) := by
  refine decide_eq_decide.mpr ?_
  rw [Int32.lt_iff_toInt_lt, Int32.toInt_ofInt_of_le hc.1 hc.2]
theorem zj_gt (x : Int32) (c : Int) (hc : -2147483648 ≤ c ∧ c < 2147483648) : z_cmp .gt x (Int32.ofInt c) = decide (c < x.toInt) := by
  refine decide_eq_decide.mpr ?_
  rw [Int32.lt_iff_toInt_lt, Int32.toInt_ofInt_of_le hc.1 hc.2]
theorem zj_ge (x : Int32) (c : Int) (hc : -2147483648 ≤ c ∧ c < 2147483648) : z_cmp .ge x (Int32.ofInt c) = decide (c ≤ x.toInt) := by
  refine decide_eq_decide.mpr ?_
  rw [Int32.le_iff_toInt_le, Int32.toInt_ofInt_of_le hc.1 hc.2]
theorem zj_le (x : Int32) (c : Int) (hc : -2147483648 ≤ c ∧ c < 2147483648) : z_cmp .le x (Int32.ofInt c) = decide (x.toInt ≤ c) := by
  refine decide_eq_decide.mpr ?_
  rw [Int32.le_iff_toInt_le, Int32.toInt_ofInt_of_le hc.1 hc.2]
theorem zj_ofInt (x : Int32) : Int32.ofInt x.toInt = x := Int32.ofInt_toInt x
theorem zj_geL (x : Int32) (c : Int) (hc : -2147483648 ≤ c ∧ c < 2147483648) : z_cmp .ge (Int32.ofInt c) x = decide (x.toInt ≤ c) := by
  refine decide_eq_decide.mpr ?_
  rw [Int32.le_iff_toInt_le, Int32.toInt_ofInt_of_le hc.1 hc.2]
theorem zj_gtL (x : Int32) (c : Int) (hc : -2147483648 ≤ c ∧ c < 2147483648) : z_cmp .gt (Int32.ofInt c) x = decide (x.toInt < c) := by
  refine decide_eq_decide.mpr ?_
  rw [Int32.lt_iff_toInt_lt, Int32.toInt_ofInt_of_le hc.1 hc.2]
theorem b1_s {α β : Type} (a : α) (g : α → Option β) : b1 (some a) g = g a := rfl
theorem zi_T {h : zH} {q t : Nat} {vs : List Value} (hq : q < 1000000) (e : h[q]? = some (t, vs)) : fT h q t = true := by
  unfold fT
  rw [zh_hg hq e]
  exact Nat.beq_refl t
theorem zi_N {h : zH} {q t : Nat} {vs : List Value} (hq : q < 1000000) (e : h[q]? = some (t, vs)) : fN h q t = some (Int32.ofNat vs.length) := by
  unfold fN
  rw [zh_hg hq e]
  show cond (Nat.beq t t) _ _ = _
  rw [Nat.beq_refl]
  rfl
theorem zqo_i (p : Int) (hp : -2147483648 ≤ p ∧ p < 2147483648) : (Int32.ofInt p).toInt = p := Int32.toInt_ofInt_of_le (by omega) (by omega)
theorem zqo_eq (p q : Int) (hp : -2147483648 ≤ p ∧ p < 2147483648) (hq : -2147483648 ≤ q ∧ q < 2147483648) : z_cmp .eq (Int32.ofInt p) (Int32.ofInt q) = decide (p = q) := by
  refine decide_eq_decide.mpr ?_
  constructor
  · intro h
    have h1 := congrArg Int32.toInt h
    rw [zqo_i p hp, zqo_i q hq] at h1
    exact h1
  · intro h
    rw [h]
theorem zqo_ne (p q : Int) (hp : -2147483648 ≤ p ∧ p < 2147483648) (hq : -2147483648 ≤ q ∧ q < 2147483648) : z_cmp .ne (Int32.ofInt p) (Int32.ofInt q) = !decide (p = q) := by
  rw [← zqo_eq p q hp hq]
  rfl
theorem zqo_ge (p q : Int) (hp : -2147483648 ≤ p ∧ p < 2147483648) (hq : -2147483648 ≤ q ∧ q < 2147483648) : z_cmp .ge (Int32.ofInt p) (Int32.ofInt q) = decide (q ≤ p) := by
  rw [zj_ge _ q hq, zqo_i p hp]
theorem zqo_le (p q : Int) (hp : -2147483648 ≤ p ∧ p < 2147483648) (hq : -2147483648 ≤ q ∧ q < 2147483648) : z_cmp .le (Int32.ofInt p) (Int32.ofInt q) = decide (p ≤ q) := by
  rw [zj_le _ q hq, zqo_i p hp]
theorem zh_AL {h : zH} {q t i : Nat} {x : Int64} {vs : List Value} (hq : q < 1000000) (e : h[q]? = some (t, vs)) (e2 : vs[i]? = some (.long x)) (hi : i < 2147483648) : fAL h q t (Int32.ofInt i) = some x := by
  unfold fAL
  rw [decide_eq_false (zh_nat hi).1, cond_false, (zh_nat hi).2]
  unfold fL fV
  rw [zh_hg hq e]
  simp [e2]
theorem zqo_lg (x : Int64) : z_cmp .eq (lg_cmp x x) (Int32.ofInt 0) = true := by
  unfold lg_cmp
  simp
  rfl
