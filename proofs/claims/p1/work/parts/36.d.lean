/-! THE FIRST CALL: cutPart. -/
theorem zc_lt2 (x y : Int32) : z_cmp .lt x y = decide (x.toInt < y.toInt) := by
  refine decide_eq_decide.mpr ?_
  rw [Int32.lt_iff_toInt_lt]
/-- no such part -/
def zc_no (x y : Int32) : Prop := x.toInt < 0 ∨ y.toInt < x.toInt ∨ 14 < y.toInt
theorem zc_checkB (x y : Int32) (h0 : zc_no x y) : fB_checkPart 3000 0 x y za_h2 = some (.inr 0, za_h2) := by
  unfold fB_checkPart
  rw [zf_T0, cond_true, zj_lt x 0 (by decide), zc_lt2, zf_now, b1, zf_txt, b1, zf_sz, b1, zj_le y 14 (by decide)]
  cases h1 : decide (x.toInt < 0) with
  | true => rfl
  | false =>
    cases h2 : decide (y.toInt < x.toInt) with
    | true => rfl
    | false =>
      have h3 := of_decide_eq_false h1
      have h4 := of_decide_eq_false h2
      have h5 : 14 < y.toInt := by
        rcases h0 with h0 | h0 | h0
        · exact absurd h0 h3
        · exact absurd h0 h4
        · exact h0
      rw [cond_false, cond_false, decide_eq_false (by omega)]
      rfl
theorem zc_throw (x y : Int32) : fM_cutPart_20 3000 232 x y 232 za_h2 = some (Int32.ofInt 0, za_h2e) := by
  unfold fM_cutPart_20 fM_cutPart_25
  rw [zf_thr]
  rfl
theorem z_f7 (x y : Int32) : z_eqC Int32.toInt64 (fun h => fL_cutPart 3000 0 x y 243 h) (fun h => fM_cutPart 3000 232 x y h) (fun h => fM_thrown 3000 232 h) 243 za_h2 = true := by
  by_cases h0 : zc_no x y
  · refine zqk_out (y := Int32.ofInt 0) (h2 := za_h2e) (h3 := za_h2e) ?_ ?_ zf_thrown
    · show fL_cutPart 3000 0 x y 243 za_h2 = _
      unfold fL_cutPart fB_cutPart
      rw [zf_T0, cond_true, zc_checkB x y h0]
      rfl
    · show fM_cutPart 3000 232 x y za_h2 = _
      unfold fM_cutPart
      rw [zf_T5, cond_true, zj_lt x 0 (by decide), zc_lt2, zf_w, b1, zf_len, b1, zj_le y 14 (by decide), zc_throw]
      cases h1 : decide (x.toInt < 0) with
      | true => rfl
      | false =>
        cases h2 : decide (y.toInt < x.toInt) with
        | true => rfl
        | false =>
          have h3 := of_decide_eq_false h1
          have h4 := of_decide_eq_false h2
          have h5 : 14 < y.toInt := by
            rcases h0 with h0 | h0 | h0
            · exact absurd h0 h3
            · exact absurd h0 h4
            · exact h0
          rw [cond_false, cond_false, decide_eq_false (by omega)]
          rfl
  · have h1 : 0 ≤ x.toInt ∧ x.toInt ≤ y.toInt ∧ y.toInt ≤ 14 := by
      unfold zc_no at h0
      omega
    obtain ⟨h1, h2, h3⟩ := h1
    have h4 : x.toInt = 0 ∨ x.toInt = 1 ∨ x.toInt = 2 ∨ x.toInt = 3 ∨ x.toInt = 4 ∨ x.toInt = 5 ∨ x.toInt = 6 ∨ x.toInt = 7 ∨ x.toInt = 8 ∨ x.toInt = 9 ∨ x.toInt = 10 ∨ x.toInt = 11 ∨ x.toInt = 12 ∨ x.toInt = 13 ∨ x.toInt = 14 := by omega
    rcases h4 with h4 | h4 | h4 | h4 | h4 | h4 | h4 | h4 | h4 | h4 | h4 | h4 | h4 | h4 | h4
    · rw [← zj_ofInt x, h4]
      have h5 : y.toInt = 0 ∨ y.toInt = 1 ∨ y.toInt = 2 ∨ y.toInt = 3 ∨ y.toInt = 4 ∨ y.toInt = 5 ∨ y.toInt = 6 ∨ y.toInt = 7 ∨ y.toInt = 8 ∨ y.toInt = 9 ∨ y.toInt = 10 ∨ y.toInt = 11 ∨ y.toInt = 12 ∨ y.toInt = 13 ∨ y.toInt = 14 := by omega
      rcases h5 with h5 | h5 | h5 | h5 | h5 | h5 | h5 | h5 | h5 | h5 | h5 | h5 | h5 | h5 | h5
      · rw [← zj_ofInt y, h5]; exact z_eqC_mono (fun _ => gfM_cutPart) zgk_7_0_0
      · rw [← zj_ofInt y, h5]; exact z_eqC_mono (fun _ => gfM_cutPart) zgk_7_0_1
      · rw [← zj_ofInt y, h5]; exact z_eqC_mono (fun _ => gfM_cutPart) zgk_7_0_2
      · rw [← zj_ofInt y, h5]; exact z_eqC_mono (fun _ => gfM_cutPart) zgk_7_0_3
      · rw [← zj_ofInt y, h5]; exact z_eqC_mono (fun _ => gfM_cutPart) zgk_7_0_4
      · rw [← zj_ofInt y, h5]; exact z_eqC_mono (fun _ => gfM_cutPart) zgk_7_0_5
      · rw [← zj_ofInt y, h5]; exact z_eqC_mono (fun _ => gfM_cutPart) zgk_7_0_6
      · rw [← zj_ofInt y, h5]; exact z_eqC_mono (fun _ => gfM_cutPart) zgk_7_0_7
      · rw [← zj_ofInt y, h5]; exact z_eqC_mono (fun _ => gfM_cutPart) zgk_7_0_8
      · rw [← zj_ofInt y, h5]; exact z_eqC_mono (fun _ => gfM_cutPart) zgk_7_0_9
      · rw [← zj_ofInt y, h5]; exact z_eqC_mono (fun _ => gfM_cutPart) zgk_7_0_10
      · rw [← zj_ofInt y, h5]; exact z_eqC_mono (fun _ => gfM_cutPart) zgk_7_0_11
      · rw [← zj_ofInt y, h5]; exact z_eqC_mono (fun _ => gfM_cutPart) zgk_7_0_12
      · rw [← zj_ofInt y, h5]; exact z_eqC_mono (fun _ => gfM_cutPart) zgk_7_0_13
      · rw [← zj_ofInt y, h5]; exact z_eqC_mono (fun _ => gfM_cutPart) zgk_7_0_14
    · rw [← zj_ofInt x, h4]
      have h5 : y.toInt = 1 ∨ y.toInt = 2 ∨ y.toInt = 3 ∨ y.toInt = 4 ∨ y.toInt = 5 ∨ y.toInt = 6 ∨ y.toInt = 7 ∨ y.toInt = 8 ∨ y.toInt = 9 ∨ y.toInt = 10 ∨ y.toInt = 11 ∨ y.toInt = 12 ∨ y.toInt = 13 ∨ y.toInt = 14 := by omega
      rcases h5 with h5 | h5 | h5 | h5 | h5 | h5 | h5 | h5 | h5 | h5 | h5 | h5 | h5 | h5
      · rw [← zj_ofInt y, h5]; exact z_eqC_mono (fun _ => gfM_cutPart) zgk_7_1_1
      · rw [← zj_ofInt y, h5]; exact z_eqC_mono (fun _ => gfM_cutPart) zgk_7_1_2
      · rw [← zj_ofInt y, h5]; exact z_eqC_mono (fun _ => gfM_cutPart) zgk_7_1_3
      · rw [← zj_ofInt y, h5]; exact z_eqC_mono (fun _ => gfM_cutPart) zgk_7_1_4
      · rw [← zj_ofInt y, h5]; exact z_eqC_mono (fun _ => gfM_cutPart) zgk_7_1_5
      · rw [← zj_ofInt y, h5]; exact z_eqC_mono (fun _ => gfM_cutPart) zgk_7_1_6
      · rw [← zj_ofInt y, h5]; exact z_eqC_mono (fun _ => gfM_cutPart) zgk_7_1_7
      · rw [← zj_ofInt y, h5]; exact z_eqC_mono (fun _ => gfM_cutPart) zgk_7_1_8
      · rw [← zj_ofInt y, h5]; exact z_eqC_mono (fun _ => gfM_cutPart) zgk_7_1_9
      · rw [← zj_ofInt y, h5]; exact z_eqC_mono (fun _ => gfM_cutPart) zgk_7_1_10
      · rw [← zj_ofInt y, h5]; exact z_eqC_mono (fun _ => gfM_cutPart) zgk_7_1_11
      · rw [← zj_ofInt y, h5]; exact z_eqC_mono (fun _ => gfM_cutPart) zgk_7_1_12
      · rw [← zj_ofInt y, h5]; exact z_eqC_mono (fun _ => gfM_cutPart) zgk_7_1_13
      · rw [← zj_ofInt y, h5]; exact z_eqC_mono (fun _ => gfM_cutPart) zgk_7_1_14
    · rw [← zj_ofInt x, h4]
      have h5 : y.toInt = 2 ∨ y.toInt = 3 ∨ y.toInt = 4 ∨ y.toInt = 5 ∨ y.toInt = 6 ∨ y.toInt = 7 ∨ y.toInt = 8 ∨ y.toInt = 9 ∨ y.toInt = 10 ∨ y.toInt = 11 ∨ y.toInt = 12 ∨ y.toInt = 13 ∨ y.toInt = 14 := by omega
      rcases h5 with h5 | h5 | h5 | h5 | h5 | h5 | h5 | h5 | h5 | h5 | h5 | h5 | h5
      · rw [← zj_ofInt y, h5]; exact z_eqC_mono (fun _ => gfM_cutPart) zgk_7_2_2
      · rw [← zj_ofInt y, h5]; exact z_eqC_mono (fun _ => gfM_cutPart) zgk_7_2_3
      · rw [← zj_ofInt y, h5]; exact z_eqC_mono (fun _ => gfM_cutPart) zgk_7_2_4
      · rw [← zj_ofInt y, h5]; exact z_eqC_mono (fun _ => gfM_cutPart) zgk_7_2_5
      · rw [← zj_ofInt y, h5]; exact z_eqC_mono (fun _ => gfM_cutPart) zgk_7_2_6
      · rw [← zj_ofInt y, h5]; exact z_eqC_mono (fun _ => gfM_cutPart) zgk_7_2_7
      · rw [← zj_ofInt y, h5]; exact z_eqC_mono (fun _ => gfM_cutPart) zgk_7_2_8
      · rw [← zj_ofInt y, h5]; exact z_eqC_mono (fun _ => gfM_cutPart) zgk_7_2_9
      · rw [← zj_ofInt y, h5]; exact z_eqC_mono (fun _ => gfM_cutPart) zgk_7_2_10
      · rw [← zj_ofInt y, h5]; exact z_eqC_mono (fun _ => gfM_cutPart) zgk_7_2_11
      · rw [← zj_ofInt y, h5]; exact z_eqC_mono (fun _ => gfM_cutPart) zgk_7_2_12
      · rw [← zj_ofInt y, h5]; exact z_eqC_mono (fun _ => gfM_cutPart) zgk_7_2_13
      · rw [← zj_ofInt y, h5]; exact z_eqC_mono (fun _ => gfM_cutPart) zgk_7_2_14
    · rw [← zj_ofInt x, h4]
      have h5 : y.toInt = 3 ∨ y.toInt = 4 ∨ y.toInt = 5 ∨ y.toInt = 6 ∨ y.toInt = 7 ∨ y.toInt = 8 ∨ y.toInt = 9 ∨ y.toInt = 10 ∨ y.toInt = 11 ∨ y.toInt = 12 ∨ y.toInt = 13 ∨ y.toInt = 14 := by omega
      rcases h5 with h5 | h5 | h5 | h5 | h5 | h5 | h5 | h5 | h5 | h5 | h5 | h5
      · rw [← zj_ofInt y, h5]; exact z_eqC_mono (fun _ => gfM_cutPart) zgk_7_3_3
      · rw [← zj_ofInt y, h5]; exact z_eqC_mono (fun _ => gfM_cutPart) zgk_7_3_4
      · rw [← zj_ofInt y, h5]; exact z_eqC_mono (fun _ => gfM_cutPart) zgk_7_3_5
      · rw [← zj_ofInt y, h5]; exact z_eqC_mono (fun _ => gfM_cutPart) zgk_7_3_6
      · rw [← zj_ofInt y, h5]; exact z_eqC_mono (fun _ => gfM_cutPart) zgk_7_3_7
      · rw [← zj_ofInt y, h5]; exact z_eqC_mono (fun _ => gfM_cutPart) zgk_7_3_8
      · rw [← zj_ofInt y, h5]; exact z_eqC_mono (fun _ => gfM_cutPart) zgk_7_3_9
      · rw [← zj_ofInt y, h5]; exact z_eqC_mono (fun _ => gfM_cutPart) zgk_7_3_10
      · rw [← zj_ofInt y, h5]; exact z_eqC_mono (fun _ => gfM_cutPart) zgk_7_3_11
      · rw [← zj_ofInt y, h5]; exact z_eqC_mono (fun _ => gfM_cutPart) zgk_7_3_12
      · rw [← zj_ofInt y, h5]; exact z_eqC_mono (fun _ => gfM_cutPart) zgk_7_3_13
      · rw [← zj_ofInt y, h5]; exact z_eqC_mono (fun _ => gfM_cutPart) zgk_7_3_14
    · rw [← zj_ofInt x, h4]
      have h5 : y.toInt = 4 ∨ y.toInt = 5 ∨ y.toInt = 6 ∨ y.toInt = 7 ∨ y.toInt = 8 ∨ y.toInt = 9 ∨ y.toInt = 10 ∨ y.toInt = 11 ∨ y.toInt = 12 ∨ y.toInt = 13 ∨ y.toInt = 14 := by omega
      rcases h5 with h5 | h5 | h5 | h5 | h5 | h5 | h5 | h5 | h5 | h5 | h5
      · rw [← zj_ofInt y, h5]; exact z_eqC_mono (fun _ => gfM_cutPart) zgk_7_4_4
      · rw [← zj_ofInt y, h5]; exact z_eqC_mono (fun _ => gfM_cutPart) zgk_7_4_5
      · rw [← zj_ofInt y, h5]; exact z_eqC_mono (fun _ => gfM_cutPart) zgk_7_4_6
      · rw [← zj_ofInt y, h5]; exact z_eqC_mono (fun _ => gfM_cutPart) zgk_7_4_7
      · rw [← zj_ofInt y, h5]; exact z_eqC_mono (fun _ => gfM_cutPart) zgk_7_4_8
      · rw [← zj_ofInt y, h5]; exact z_eqC_mono (fun _ => gfM_cutPart) zgk_7_4_9
      · rw [← zj_ofInt y, h5]; exact z_eqC_mono (fun _ => gfM_cutPart) zgk_7_4_10
      · rw [← zj_ofInt y, h5]; exact z_eqC_mono (fun _ => gfM_cutPart) zgk_7_4_11
      · rw [← zj_ofInt y, h5]; exact z_eqC_mono (fun _ => gfM_cutPart) zgk_7_4_12
      · rw [← zj_ofInt y, h5]; exact z_eqC_mono (fun _ => gfM_cutPart) zgk_7_4_13
      · rw [← zj_ofInt y, h5]; exact z_eqC_mono (fun _ => gfM_cutPart) zgk_7_4_14
    · rw [← zj_ofInt x, h4]
      have h5 : y.toInt = 5 ∨ y.toInt = 6 ∨ y.toInt = 7 ∨ y.toInt = 8 ∨ y.toInt = 9 ∨ y.toInt = 10 ∨ y.toInt = 11 ∨ y.toInt = 12 ∨ y.toInt = 13 ∨ y.toInt = 14 := by omega
      rcases h5 with h5 | h5 | h5 | h5 | h5 | h5 | h5 | h5 | h5 | h5
      · rw [← zj_ofInt y, h5]; exact z_eqC_mono (fun _ => gfM_cutPart) zgk_7_5_5
      · rw [← zj_ofInt y, h5]; exact z_eqC_mono (fun _ => gfM_cutPart) zgk_7_5_6
      · rw [← zj_ofInt y, h5]; exact z_eqC_mono (fun _ => gfM_cutPart) zgk_7_5_7
      · rw [← zj_ofInt y, h5]; exact z_eqC_mono (fun _ => gfM_cutPart) zgk_7_5_8
      · rw [← zj_ofInt y, h5]; exact z_eqC_mono (fun _ => gfM_cutPart) zgk_7_5_9
      · rw [← zj_ofInt y, h5]; exact z_eqC_mono (fun _ => gfM_cutPart) zgk_7_5_10
      · rw [← zj_ofInt y, h5]; exact z_eqC_mono (fun _ => gfM_cutPart) zgk_7_5_11
      · rw [← zj_ofInt y, h5]; exact z_eqC_mono (fun _ => gfM_cutPart) zgk_7_5_12
      · rw [← zj_ofInt y, h5]; exact z_eqC_mono (fun _ => gfM_cutPart) zgk_7_5_13
      · rw [← zj_ofInt y, h5]; exact z_eqC_mono (fun _ => gfM_cutPart) zgk_7_5_14
    · rw [← zj_ofInt x, h4]
      have h5 : y.toInt = 6 ∨ y.toInt = 7 ∨ y.toInt = 8 ∨ y.toInt = 9 ∨ y.toInt = 10 ∨ y.toInt = 11 ∨ y.toInt = 12 ∨ y.toInt = 13 ∨ y.toInt = 14 := by omega
      rcases h5 with h5 | h5 | h5 | h5 | h5 | h5 | h5 | h5 | h5
      · rw [← zj_ofInt y, h5]; exact z_eqC_mono (fun _ => gfM_cutPart) zgk_7_6_6
      · rw [← zj_ofInt y, h5]; exact z_eqC_mono (fun _ => gfM_cutPart) zgk_7_6_7
      · rw [← zj_ofInt y, h5]; exact z_eqC_mono (fun _ => gfM_cutPart) zgk_7_6_8
      · rw [← zj_ofInt y, h5]; exact z_eqC_mono (fun _ => gfM_cutPart) zgk_7_6_9
      · rw [← zj_ofInt y, h5]; exact z_eqC_mono (fun _ => gfM_cutPart) zgk_7_6_10
      · rw [← zj_ofInt y, h5]; exact z_eqC_mono (fun _ => gfM_cutPart) zgk_7_6_11
      · rw [← zj_ofInt y, h5]; exact z_eqC_mono (fun _ => gfM_cutPart) zgk_7_6_12
      · rw [← zj_ofInt y, h5]; exact z_eqC_mono (fun _ => gfM_cutPart) zgk_7_6_13
      · rw [← zj_ofInt y, h5]; exact z_eqC_mono (fun _ => gfM_cutPart) zgk_7_6_14
    · rw [← zj_ofInt x, h4]
      have h5 : y.toInt = 7 ∨ y.toInt = 8 ∨ y.toInt = 9 ∨ y.toInt = 10 ∨ y.toInt = 11 ∨ y.toInt = 12 ∨ y.toInt = 13 ∨ y.toInt = 14 := by omega
      rcases h5 with h5 | h5 | h5 | h5 | h5 | h5 | h5 | h5
      · rw [← zj_ofInt y, h5]; exact z_eqC_mono (fun _ => gfM_cutPart) zgk_7_7_7
      · rw [← zj_ofInt y, h5]; exact z_eqC_mono (fun _ => gfM_cutPart) zgk_7_7_8
      · rw [← zj_ofInt y, h5]; exact z_eqC_mono (fun _ => gfM_cutPart) zgk_7_7_9
      · rw [← zj_ofInt y, h5]; exact z_eqC_mono (fun _ => gfM_cutPart) zgk_7_7_10
      · rw [← zj_ofInt y, h5]; exact z_eqC_mono (fun _ => gfM_cutPart) zgk_7_7_11
      · rw [← zj_ofInt y, h5]; exact z_eqC_mono (fun _ => gfM_cutPart) zgk_7_7_12
      · rw [← zj_ofInt y, h5]; exact z_eqC_mono (fun _ => gfM_cutPart) zgk_7_7_13
      · rw [← zj_ofInt y, h5]; exact z_eqC_mono (fun _ => gfM_cutPart) zgk_7_7_14
    · rw [← zj_ofInt x, h4]
      have h5 : y.toInt = 8 ∨ y.toInt = 9 ∨ y.toInt = 10 ∨ y.toInt = 11 ∨ y.toInt = 12 ∨ y.toInt = 13 ∨ y.toInt = 14 := by omega
      rcases h5 with h5 | h5 | h5 | h5 | h5 | h5 | h5
      · rw [← zj_ofInt y, h5]; exact z_eqC_mono (fun _ => gfM_cutPart) zgk_7_8_8
      · rw [← zj_ofInt y, h5]; exact z_eqC_mono (fun _ => gfM_cutPart) zgk_7_8_9
      · rw [← zj_ofInt y, h5]; exact z_eqC_mono (fun _ => gfM_cutPart) zgk_7_8_10
      · rw [← zj_ofInt y, h5]; exact z_eqC_mono (fun _ => gfM_cutPart) zgk_7_8_11
      · rw [← zj_ofInt y, h5]; exact z_eqC_mono (fun _ => gfM_cutPart) zgk_7_8_12
      · rw [← zj_ofInt y, h5]; exact z_eqC_mono (fun _ => gfM_cutPart) zgk_7_8_13
      · rw [← zj_ofInt y, h5]; exact z_eqC_mono (fun _ => gfM_cutPart) zgk_7_8_14
    · rw [← zj_ofInt x, h4]
      have h5 : y.toInt = 9 ∨ y.toInt = 10 ∨ y.toInt = 11 ∨ y.toInt = 12 ∨ y.toInt = 13 ∨ y.toInt = 14 := by omega
      rcases h5 with h5 | h5 | h5 | h5 | h5 | h5
      · rw [← zj_ofInt y, h5]; exact z_eqC_mono (fun _ => gfM_cutPart) zgk_7_9_9
      · rw [← zj_ofInt y, h5]; exact z_eqC_mono (fun _ => gfM_cutPart) zgk_7_9_10
      · rw [← zj_ofInt y, h5]; exact z_eqC_mono (fun _ => gfM_cutPart) zgk_7_9_11
      · rw [← zj_ofInt y, h5]; exact z_eqC_mono (fun _ => gfM_cutPart) zgk_7_9_12
      · rw [← zj_ofInt y, h5]; exact z_eqC_mono (fun _ => gfM_cutPart) zgk_7_9_13
      · rw [← zj_ofInt y, h5]; exact z_eqC_mono (fun _ => gfM_cutPart) zgk_7_9_14
    · rw [← zj_ofInt x, h4]
      have h5 : y.toInt = 10 ∨ y.toInt = 11 ∨ y.toInt = 12 ∨ y.toInt = 13 ∨ y.toInt = 14 := by omega
      rcases h5 with h5 | h5 | h5 | h5 | h5
      · rw [← zj_ofInt y, h5]; exact z_eqC_mono (fun _ => gfM_cutPart) zgk_7_10_10
      · rw [← zj_ofInt y, h5]; exact z_eqC_mono (fun _ => gfM_cutPart) zgk_7_10_11
      · rw [← zj_ofInt y, h5]; exact z_eqC_mono (fun _ => gfM_cutPart) zgk_7_10_12
      · rw [← zj_ofInt y, h5]; exact z_eqC_mono (fun _ => gfM_cutPart) zgk_7_10_13
      · rw [← zj_ofInt y, h5]; exact z_eqC_mono (fun _ => gfM_cutPart) zgk_7_10_14
    · rw [← zj_ofInt x, h4]
      have h5 : y.toInt = 11 ∨ y.toInt = 12 ∨ y.toInt = 13 ∨ y.toInt = 14 := by omega
      rcases h5 with h5 | h5 | h5 | h5
      · rw [← zj_ofInt y, h5]; exact z_eqC_mono (fun _ => gfM_cutPart) zgk_7_11_11
      · rw [← zj_ofInt y, h5]; exact z_eqC_mono (fun _ => gfM_cutPart) zgk_7_11_12
      · rw [← zj_ofInt y, h5]; exact z_eqC_mono (fun _ => gfM_cutPart) zgk_7_11_13
      · rw [← zj_ofInt y, h5]; exact z_eqC_mono (fun _ => gfM_cutPart) zgk_7_11_14
    · rw [← zj_ofInt x, h4]
      have h5 : y.toInt = 12 ∨ y.toInt = 13 ∨ y.toInt = 14 := by omega
      rcases h5 with h5 | h5 | h5
      · rw [← zj_ofInt y, h5]; exact z_eqC_mono (fun _ => gfM_cutPart) zgk_7_12_12
      · rw [← zj_ofInt y, h5]; exact z_eqC_mono (fun _ => gfM_cutPart) zgk_7_12_13
      · rw [← zj_ofInt y, h5]; exact z_eqC_mono (fun _ => gfM_cutPart) zgk_7_12_14
    · rw [← zj_ofInt x, h4]
      have h5 : y.toInt = 13 ∨ y.toInt = 14 := by omega
      rcases h5 with h5 | h5
      · rw [← zj_ofInt y, h5]; exact z_eqC_mono (fun _ => gfM_cutPart) zgk_7_13_13
      · rw [← zj_ofInt y, h5]; exact z_eqC_mono (fun _ => gfM_cutPart) zgk_7_13_14
    · rw [← zj_ofInt x, h4]
      have h5 : y.toInt = 14 := by omega
      rw [← zj_ofInt y, h5]; exact z_eqC_mono (fun _ => gfM_cutPart) zgk_7_14_14
