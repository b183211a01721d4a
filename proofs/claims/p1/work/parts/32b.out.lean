/-! THE FIRST CALL: arguments out of range. -/
/-- thrown on both sides -/
theorem zqk_out {cv : Int32 → Int64} {L M T : zH → Option (Int32 × zH)} {h1 h3 : zH} {y : Int32} {h2 : zH} (e1 : L h1 = some (Int32.ofInt 1, h1)) (e2 : M h1 = some (y, h2)) (e3 : T h2 = some (Int32.ofInt 1, h3)) {l : Nat} : z_eqC cv L M T l h1 = true := by
  unfold z_eqC
  rw [e1]
  simp only [e2, e3]
  rfl
theorem zqk_in2 (x : Int32) (h : zH) (a b : Int) (ha : -2147483648 ≤ a ∧ a < 2147483648) (hb : -2147483648 ≤ b ∧ b < 2147483648) (hx : x.toInt < a ∨ b < x.toInt) : fM_in 3000 x (Int32.ofInt a) (Int32.ofInt b) h = some (Int32.ofInt 0, h) := by
  unfold fM_in
  rw [zj_lt x a ha, zj_gt x b hb]
  cases h1 : decide (x.toInt < a) with
  | true => rfl
  | false =>
    have h2 := of_decide_eq_false h1
    rw [cond_false, decide_eq_true (by omega)]
    rfl
theorem zf_thr : fM_throwsOne 3000 232 (Int32.ofInt 1) za_h2 = some (Int32.ofInt 1, za_h2e) := by
  unfold fM_throwsOne
  rw [zf_T5, cond_true, show z_cmp .eq (Int32.ofInt 1) (Int32.ofInt 0) = false from rfl, cond_false]
  unfold fM_throwsOne_10
  rw [zf_th1]
  rfl
theorem zf_thr2 (y : Int32) : fM_throwsOne2 3000 232 (Int32.ofInt 1) y za_h2 = some (Int32.ofInt 1, za_h2e) := by
  unfold fM_throwsOne2
  rw [zf_T5, cond_true, show z_cmp .eq (Int32.ofInt 1) (Int32.ofInt 0) = false from rfl, cond_false]
  unfold fM_throwsOne2_18
  rw [zf_th1]
  rfl
theorem zf_thrown : fM_thrown 3000 232 za_h2e = some (Int32.ofInt 1, za_h2e) := by
  unfold fM_thrown
  rw [zf_T5e, cond_true, zf_th1r]
  rfl
theorem zf_count (x : Int32) (hx : x.toInt < 0 ∨ 14 < x.toInt) : fB_checkCount 3000 0 x za_h2 = some (.inr 0, za_h2) := by
  unfold fB_checkCount
  rw [zf_T0, cond_true, zj_lt x 0 (by decide), zf_now, b1, zf_txt, b1, zf_sz, b1, zj_le x 14 (by decide)]
  cases h1 : decide (x.toInt < 0) with
  | true => rfl
  | false =>
    have h2 := of_decide_eq_false h1
    rw [cond_false, decide_eq_false (by omega)]
    rfl
theorem zf_letter (x : Int32) (hx : x.toInt < 97 ∨ 99 < x.toInt) : fB_checkLetter 3000 0 x za_h2 = some (.inr 0, za_h2) := by
  unfold fB_checkLetter
  rw [zf_T0, cond_true, zf_now, b1]
  unfold fS_isLetter
  rw [zf_T1, cond_true, zj_lt x 97 (by decide), zf_letB, b1, show Int32.ofInt 97 + Int32.ofInt 3 = Int32.ofInt 100 from rfl, zj_ge x 100 (by decide)]
  cases h1 : decide (x.toInt < 97) with
  | true => rfl
  | false =>
    have h2 := of_decide_eq_false h1
    rw [cond_false, decide_eq_true (by omega)]
    rfl
theorem zf_letterM (x : Int32) (hx : x.toInt < 97 ∨ 99 < x.toInt) : fM_isLetter 3000 232 x za_h2 = some (Int32.ofInt 0, za_h2) := by
  unfold fM_isLetter
  rw [zf_T5, cond_true, zf_w, b1, zf_letM, b1, show Int32.ofInt 97 + Int32.ofInt 3 - Int32.ofInt 1 = Int32.ofInt 99 from rfl, zqk_in2 x _ 97 99 (by decide) (by decide) hx]
  rfl
theorem zf_keptB (x : Int32) (hx : x.toInt < 0 ∨ 1 < x.toInt) : fS_keptAt 3000 1 x za_h2 = some (none, za_h2) := by
  unfold fS_keptAt
  rw [zf_T1, cond_true, zj_lt x 0 (by decide), zf_kept, b1, zj_ge x 2 (by decide)]
  cases h1 : decide (x.toInt < 0) with
  | true => rfl
  | false =>
    have h2 := of_decide_eq_false h1
    rw [cond_false, decide_eq_true (by omega)]
    rfl
theorem zf_keptS (x : Int32) (hx : x.toInt < 0 ∨ 1 < x.toInt) : fM_isShelved 3000 232 x za_h2 = some (Int32.ofInt 0, za_h2) := by
  unfold fM_isShelved
  rw [zf_T5, cond_true, zf_w, b1, zf_keptM, b1, show Int32.ofInt 2 - Int32.ofInt 1 = Int32.ofInt 1 from rfl, zqk_in2 x _ 0 1 (by decide) (by decide) hx]
  rfl
