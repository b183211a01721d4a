/-! THE FIRST CALL: cases that write. -/
set_option linter.unusedSimpArgs false
theorem zgk_6_0 : z_eqC Int32.toInt64 (fun h => fL_dropLast 3000 0 (Int32.ofInt (0)) 243 h) (fun h => gM_dropLast 3000 232 (Int32.ofInt (0)) h) (fun h => fM_thrown 3000 232 h) 243 za_h2 = true := by decide +kernel
theorem zgk_6_1 : z_eqC Int32.toInt64 (fun h => fL_dropLast 3000 0 (Int32.ofInt (1)) 243 h) (fun h => gM_dropLast 3000 232 (Int32.ofInt (1)) h) (fun h => fM_thrown 3000 232 h) 243 za_h2 = true := by decide +kernel
theorem zgk_6_2 : z_eqC Int32.toInt64 (fun h => fL_dropLast 3000 0 (Int32.ofInt (2)) 243 h) (fun h => gM_dropLast 3000 232 (Int32.ofInt (2)) h) (fun h => fM_thrown 3000 232 h) 243 za_h2 = true := by decide +kernel
theorem zgk_6_3 : z_eqC Int32.toInt64 (fun h => fL_dropLast 3000 0 (Int32.ofInt (3)) 243 h) (fun h => gM_dropLast 3000 232 (Int32.ofInt (3)) h) (fun h => fM_thrown 3000 232 h) 243 za_h2 = true := by decide +kernel
theorem zgk_6_4 : z_eqC Int32.toInt64 (fun h => fL_dropLast 3000 0 (Int32.ofInt (4)) 243 h) (fun h => gM_dropLast 3000 232 (Int32.ofInt (4)) h) (fun h => fM_thrown 3000 232 h) 243 za_h2 = true := by decide +kernel
theorem zgk_6_5 : z_eqC Int32.toInt64 (fun h => fL_dropLast 3000 0 (Int32.ofInt (5)) 243 h) (fun h => gM_dropLast 3000 232 (Int32.ofInt (5)) h) (fun h => fM_thrown 3000 232 h) 243 za_h2 = true := by decide +kernel
theorem zgk_6_6 : z_eqC Int32.toInt64 (fun h => fL_dropLast 3000 0 (Int32.ofInt (6)) 243 h) (fun h => gM_dropLast 3000 232 (Int32.ofInt (6)) h) (fun h => fM_thrown 3000 232 h) 243 za_h2 = true := by decide +kernel
theorem zgk_6_7 : z_eqC Int32.toInt64 (fun h => fL_dropLast 3000 0 (Int32.ofInt (7)) 243 h) (fun h => gM_dropLast 3000 232 (Int32.ofInt (7)) h) (fun h => fM_thrown 3000 232 h) 243 za_h2 = true := by decide +kernel
theorem zgk_6_8 : z_eqC Int32.toInt64 (fun h => fL_dropLast 3000 0 (Int32.ofInt (8)) 243 h) (fun h => gM_dropLast 3000 232 (Int32.ofInt (8)) h) (fun h => fM_thrown 3000 232 h) 243 za_h2 = true := by decide +kernel
theorem zgk_6_9 : z_eqC Int32.toInt64 (fun h => fL_dropLast 3000 0 (Int32.ofInt (9)) 243 h) (fun h => gM_dropLast 3000 232 (Int32.ofInt (9)) h) (fun h => fM_thrown 3000 232 h) 243 za_h2 = true := by decide +kernel
theorem zgk_6_10 : z_eqC Int32.toInt64 (fun h => fL_dropLast 3000 0 (Int32.ofInt (10)) 243 h) (fun h => gM_dropLast 3000 232 (Int32.ofInt (10)) h) (fun h => fM_thrown 3000 232 h) 243 za_h2 = true := by decide +kernel
theorem zgk_6_11 : z_eqC Int32.toInt64 (fun h => fL_dropLast 3000 0 (Int32.ofInt (11)) 243 h) (fun h => gM_dropLast 3000 232 (Int32.ofInt (11)) h) (fun h => fM_thrown 3000 232 h) 243 za_h2 = true := by decide +kernel
theorem zgk_6_12 : z_eqC Int32.toInt64 (fun h => fL_dropLast 3000 0 (Int32.ofInt (12)) 243 h) (fun h => gM_dropLast 3000 232 (Int32.ofInt (12)) h) (fun h => fM_thrown 3000 232 h) 243 za_h2 = true := by decide +kernel
theorem zgk_6_13 : z_eqC Int32.toInt64 (fun h => fL_dropLast 3000 0 (Int32.ofInt (13)) 243 h) (fun h => gM_dropLast 3000 232 (Int32.ofInt (13)) h) (fun h => fM_thrown 3000 232 h) 243 za_h2 = true := by decide +kernel
theorem zgk_6_14 : z_eqC Int32.toInt64 (fun h => fL_dropLast 3000 0 (Int32.ofInt (14)) 243 h) (fun h => gM_dropLast 3000 232 (Int32.ofInt (14)) h) (fun h => fM_thrown 3000 232 h) 243 za_h2 = true := by decide +kernel
theorem z_f6 (x : Int32) : z_eqC Int32.toInt64 (fun h => fL_dropLast 3000 0 x 243 h) (fun h => fM_dropLast 3000 232 x h) (fun h => fM_thrown 3000 232 h) 243 za_h2 = true := by
  by_cases h0 : x.toInt < 0 ∨ 14 < x.toInt
  · refine zqk_out (y := Int32.ofInt 0) (h2 := za_h2e) (h3 := za_h2e) ?_ ?_ zf_thrown
    · show fL_dropLast 3000 0 x 243 za_h2 = _
      unfold fL_dropLast fB_dropLast
      rw [zf_T0, cond_true, zf_count x h0]
      rfl
    · show fM_dropLast 3000 232 x za_h2 = _
      unfold fM_dropLast
      rw [zf_T5, cond_true, zf_w, b1, zf_len, b1, zqk_in2 x _ 0 14 (by decide) (by decide) h0, b2, show z_cmp .ne (Int32.ofInt 0) (Int32.ofInt 0) = false from rfl, cond_false]
      unfold fM_dropLast_20
      rw [zf_thr]
      rfl
  · have h2 : x.toInt = 0 ∨ x.toInt = 1 ∨ x.toInt = 2 ∨ x.toInt = 3 ∨ x.toInt = 4 ∨ x.toInt = 5 ∨ x.toInt = 6 ∨ x.toInt = 7 ∨ x.toInt = 8 ∨ x.toInt = 9 ∨ x.toInt = 10 ∨ x.toInt = 11 ∨ x.toInt = 12 ∨ x.toInt = 13 ∨ x.toInt = 14 := by omega
    rcases h2 with h2 | h2 | h2 | h2 | h2 | h2 | h2 | h2 | h2 | h2 | h2 | h2 | h2 | h2 | h2
    · rw [← zj_ofInt x, h2]; exact z_eqC_mono (fun _ => gfM_dropLast) zgk_6_0
    · rw [← zj_ofInt x, h2]; exact z_eqC_mono (fun _ => gfM_dropLast) zgk_6_1
    · rw [← zj_ofInt x, h2]; exact z_eqC_mono (fun _ => gfM_dropLast) zgk_6_2
    · rw [← zj_ofInt x, h2]; exact z_eqC_mono (fun _ => gfM_dropLast) zgk_6_3
    · rw [← zj_ofInt x, h2]; exact z_eqC_mono (fun _ => gfM_dropLast) zgk_6_4
    · rw [← zj_ofInt x, h2]; exact z_eqC_mono (fun _ => gfM_dropLast) zgk_6_5
    · rw [← zj_ofInt x, h2]; exact z_eqC_mono (fun _ => gfM_dropLast) zgk_6_6
    · rw [← zj_ofInt x, h2]; exact z_eqC_mono (fun _ => gfM_dropLast) zgk_6_7
    · rw [← zj_ofInt x, h2]; exact z_eqC_mono (fun _ => gfM_dropLast) zgk_6_8
    · rw [← zj_ofInt x, h2]; exact z_eqC_mono (fun _ => gfM_dropLast) zgk_6_9
    · rw [← zj_ofInt x, h2]; exact z_eqC_mono (fun _ => gfM_dropLast) zgk_6_10
    · rw [← zj_ofInt x, h2]; exact z_eqC_mono (fun _ => gfM_dropLast) zgk_6_11
    · rw [← zj_ofInt x, h2]; exact z_eqC_mono (fun _ => gfM_dropLast) zgk_6_12
    · rw [← zj_ofInt x, h2]; exact z_eqC_mono (fun _ => gfM_dropLast) zgk_6_13
    · rw [← zj_ofInt x, h2]; exact z_eqC_mono (fun _ => gfM_dropLast) zgk_6_14
theorem zgk_8_0 : z_eqC Int32.toInt64 (fun h => fL_rotate 3000 0 (Int32.ofInt (0)) 243 h) (fun h => gM_rotate 3000 232 (Int32.ofInt (0)) h) (fun h => fM_thrown 3000 232 h) 243 za_h2 = true := by decide +kernel
theorem zgk_8_1 : z_eqC Int32.toInt64 (fun h => fL_rotate 3000 0 (Int32.ofInt (1)) 243 h) (fun h => gM_rotate 3000 232 (Int32.ofInt (1)) h) (fun h => fM_thrown 3000 232 h) 243 za_h2 = true := by decide +kernel
theorem zgk_8_2 : z_eqC Int32.toInt64 (fun h => fL_rotate 3000 0 (Int32.ofInt (2)) 243 h) (fun h => gM_rotate 3000 232 (Int32.ofInt (2)) h) (fun h => fM_thrown 3000 232 h) 243 za_h2 = true := by decide +kernel
theorem zgk_8_3 : z_eqC Int32.toInt64 (fun h => fL_rotate 3000 0 (Int32.ofInt (3)) 243 h) (fun h => gM_rotate 3000 232 (Int32.ofInt (3)) h) (fun h => fM_thrown 3000 232 h) 243 za_h2 = true := by decide +kernel
theorem zgk_8_4 : z_eqC Int32.toInt64 (fun h => fL_rotate 3000 0 (Int32.ofInt (4)) 243 h) (fun h => gM_rotate 3000 232 (Int32.ofInt (4)) h) (fun h => fM_thrown 3000 232 h) 243 za_h2 = true := by decide +kernel
theorem zgk_8_5 : z_eqC Int32.toInt64 (fun h => fL_rotate 3000 0 (Int32.ofInt (5)) 243 h) (fun h => gM_rotate 3000 232 (Int32.ofInt (5)) h) (fun h => fM_thrown 3000 232 h) 243 za_h2 = true := by decide +kernel
theorem zgk_8_6 : z_eqC Int32.toInt64 (fun h => fL_rotate 3000 0 (Int32.ofInt (6)) 243 h) (fun h => gM_rotate 3000 232 (Int32.ofInt (6)) h) (fun h => fM_thrown 3000 232 h) 243 za_h2 = true := by decide +kernel
theorem zgk_8_7 : z_eqC Int32.toInt64 (fun h => fL_rotate 3000 0 (Int32.ofInt (7)) 243 h) (fun h => gM_rotate 3000 232 (Int32.ofInt (7)) h) (fun h => fM_thrown 3000 232 h) 243 za_h2 = true := by decide +kernel
theorem zgk_8_8 : z_eqC Int32.toInt64 (fun h => fL_rotate 3000 0 (Int32.ofInt (8)) 243 h) (fun h => gM_rotate 3000 232 (Int32.ofInt (8)) h) (fun h => fM_thrown 3000 232 h) 243 za_h2 = true := by decide +kernel
theorem zgk_8_9 : z_eqC Int32.toInt64 (fun h => fL_rotate 3000 0 (Int32.ofInt (9)) 243 h) (fun h => gM_rotate 3000 232 (Int32.ofInt (9)) h) (fun h => fM_thrown 3000 232 h) 243 za_h2 = true := by decide +kernel
theorem zgk_8_10 : z_eqC Int32.toInt64 (fun h => fL_rotate 3000 0 (Int32.ofInt (10)) 243 h) (fun h => gM_rotate 3000 232 (Int32.ofInt (10)) h) (fun h => fM_thrown 3000 232 h) 243 za_h2 = true := by decide +kernel
theorem zgk_8_11 : z_eqC Int32.toInt64 (fun h => fL_rotate 3000 0 (Int32.ofInt (11)) 243 h) (fun h => gM_rotate 3000 232 (Int32.ofInt (11)) h) (fun h => fM_thrown 3000 232 h) 243 za_h2 = true := by decide +kernel
theorem zgk_8_12 : z_eqC Int32.toInt64 (fun h => fL_rotate 3000 0 (Int32.ofInt (12)) 243 h) (fun h => gM_rotate 3000 232 (Int32.ofInt (12)) h) (fun h => fM_thrown 3000 232 h) 243 za_h2 = true := by decide +kernel
theorem zgk_8_13 : z_eqC Int32.toInt64 (fun h => fL_rotate 3000 0 (Int32.ofInt (13)) 243 h) (fun h => gM_rotate 3000 232 (Int32.ofInt (13)) h) (fun h => fM_thrown 3000 232 h) 243 za_h2 = true := by decide +kernel
theorem zgk_8_14 : z_eqC Int32.toInt64 (fun h => fL_rotate 3000 0 (Int32.ofInt (14)) 243 h) (fun h => gM_rotate 3000 232 (Int32.ofInt (14)) h) (fun h => fM_thrown 3000 232 h) 243 za_h2 = true := by decide +kernel
theorem z_f8 (x : Int32) : z_eqC Int32.toInt64 (fun h => fL_rotate 3000 0 x 243 h) (fun h => fM_rotate 3000 232 x h) (fun h => fM_thrown 3000 232 h) 243 za_h2 = true := by
  by_cases h0 : x.toInt < 0 ∨ 14 < x.toInt
  · refine zqk_out (y := Int32.ofInt 0) (h2 := za_h2e) (h3 := za_h2e) ?_ ?_ zf_thrown
    · show fL_rotate 3000 0 x 243 za_h2 = _
      unfold fL_rotate fB_rotate
      rw [zf_T0, cond_true, zf_count x h0]
      rfl
    · show fM_rotate 3000 232 x za_h2 = _
      unfold fM_rotate
      rw [zf_T5, cond_true, zf_w, b1, zf_len, b1, zqk_in2 x _ 0 14 (by decide) (by decide) h0, b2, show z_cmp .ne (Int32.ofInt 0) (Int32.ofInt 0) = false from rfl, cond_false]
      unfold fM_rotate_20
      rw [zf_thr]
      rfl
  · have h2 : x.toInt = 0 ∨ x.toInt = 1 ∨ x.toInt = 2 ∨ x.toInt = 3 ∨ x.toInt = 4 ∨ x.toInt = 5 ∨ x.toInt = 6 ∨ x.toInt = 7 ∨ x.toInt = 8 ∨ x.toInt = 9 ∨ x.toInt = 10 ∨ x.toInt = 11 ∨ x.toInt = 12 ∨ x.toInt = 13 ∨ x.toInt = 14 := by omega
    rcases h2 with h2 | h2 | h2 | h2 | h2 | h2 | h2 | h2 | h2 | h2 | h2 | h2 | h2 | h2 | h2
    · rw [← zj_ofInt x, h2]; exact z_eqC_mono (fun _ => gfM_rotate) zgk_8_0
    · rw [← zj_ofInt x, h2]; exact z_eqC_mono (fun _ => gfM_rotate) zgk_8_1
    · rw [← zj_ofInt x, h2]; exact z_eqC_mono (fun _ => gfM_rotate) zgk_8_2
    · rw [← zj_ofInt x, h2]; exact z_eqC_mono (fun _ => gfM_rotate) zgk_8_3
    · rw [← zj_ofInt x, h2]; exact z_eqC_mono (fun _ => gfM_rotate) zgk_8_4
    · rw [← zj_ofInt x, h2]; exact z_eqC_mono (fun _ => gfM_rotate) zgk_8_5
    · rw [← zj_ofInt x, h2]; exact z_eqC_mono (fun _ => gfM_rotate) zgk_8_6
    · rw [← zj_ofInt x, h2]; exact z_eqC_mono (fun _ => gfM_rotate) zgk_8_7
    · rw [← zj_ofInt x, h2]; exact z_eqC_mono (fun _ => gfM_rotate) zgk_8_8
    · rw [← zj_ofInt x, h2]; exact z_eqC_mono (fun _ => gfM_rotate) zgk_8_9
    · rw [← zj_ofInt x, h2]; exact z_eqC_mono (fun _ => gfM_rotate) zgk_8_10
    · rw [← zj_ofInt x, h2]; exact z_eqC_mono (fun _ => gfM_rotate) zgk_8_11
    · rw [← zj_ofInt x, h2]; exact z_eqC_mono (fun _ => gfM_rotate) zgk_8_12
    · rw [← zj_ofInt x, h2]; exact z_eqC_mono (fun _ => gfM_rotate) zgk_8_13
    · rw [← zj_ofInt x, h2]; exact z_eqC_mono (fun _ => gfM_rotate) zgk_8_14
