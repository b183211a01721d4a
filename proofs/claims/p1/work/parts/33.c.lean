/-! THE FIRST CALL: cases that write. -/
set_option linter.unusedSimpArgs false
theorem zgk_5_97 : z_eqC Int32.toInt64 (fun h => fL_appendLetter 3000 0 (Int32.ofInt (97)) 243 h) (fun h => gM_appendLetter 3000 232 (Int32.ofInt (97)) h) (fun h => fM_thrown 3000 232 h) 243 za_h2 = true := by decide +kernel
theorem zgk_5_98 : z_eqC Int32.toInt64 (fun h => fL_appendLetter 3000 0 (Int32.ofInt (98)) 243 h) (fun h => gM_appendLetter 3000 232 (Int32.ofInt (98)) h) (fun h => fM_thrown 3000 232 h) 243 za_h2 = true := by decide +kernel
theorem zgk_5_99 : z_eqC Int32.toInt64 (fun h => fL_appendLetter 3000 0 (Int32.ofInt (99)) 243 h) (fun h => gM_appendLetter 3000 232 (Int32.ofInt (99)) h) (fun h => fM_thrown 3000 232 h) 243 za_h2 = true := by decide +kernel
theorem z_f5 (x : Int32) : z_eqC Int32.toInt64 (fun h => fL_appendLetter 3000 0 x 243 h) (fun h => fM_appendLetter 3000 232 x h) (fun h => fM_thrown 3000 232 h) 243 za_h2 = true := by
  by_cases h0 : x.toInt < 97 ∨ 99 < x.toInt
  · refine zqk_out (y := Int32.ofInt 0) (h2 := za_h2e) (h3 := za_h2e) ?_ ?_ zf_thrown
    · show fL_appendLetter 3000 0 x 243 za_h2 = _
      unfold fL_appendLetter fB_appendLetter
      rw [zf_T0, cond_true, zf_letter x h0]
      rfl
    · show fM_appendLetter 3000 232 x za_h2 = _
      unfold fM_appendLetter
      rw [zf_T5, cond_true, zf_letterM x h0, b2, show z_cmp .ne (Int32.ofInt 0) (Int32.ofInt 0) = false from rfl, cond_false]
      unfold fM_appendLetter_14
      rw [zf_w, b1, zf_len, b1, show z_cmp .ne (Int32.ofInt 14) (Int32.ofInt 120) = true from rfl, cond_true]
      unfold fM_appendLetter_30
      rw [zf_thr2]
      rfl
  · have h2 : x.toInt = 97 ∨ x.toInt = 98 ∨ x.toInt = 99 := by omega
    rcases h2 with h2 | h2 | h2
    · rw [← zj_ofInt x, h2]; exact z_eqC_mono (fun _ => gfM_appendLetter) zgk_5_97
    · rw [← zj_ofInt x, h2]; exact z_eqC_mono (fun _ => gfM_appendLetter) zgk_5_98
    · rw [← zj_ofInt x, h2]; exact z_eqC_mono (fun _ => gfM_appendLetter) zgk_5_99
theorem zgk_3_2 : z_eqC Int32.toInt64 (fun h => fL_setLetters 3000 0 (Int32.ofInt (2)) 243 h) (fun h => gM_setLetters 3000 232 (Int32.ofInt (2)) h) (fun h => fM_thrown 3000 232 h) 243 za_h2 = true := by decide +kernel
theorem zgk_3_3 : z_eqC Int32.toInt64 (fun h => fL_setLetters 3000 0 (Int32.ofInt (3)) 243 h) (fun h => gM_setLetters 3000 232 (Int32.ofInt (3)) h) (fun h => fM_thrown 3000 232 h) 243 za_h2 = true := by decide +kernel
theorem zgk_3_4 : z_eqC Int32.toInt64 (fun h => fL_setLetters 3000 0 (Int32.ofInt (4)) 243 h) (fun h => gM_setLetters 3000 232 (Int32.ofInt (4)) h) (fun h => fM_thrown 3000 232 h) 243 za_h2 = true := by decide +kernel
theorem zgk_3_5 : z_eqC Int32.toInt64 (fun h => fL_setLetters 3000 0 (Int32.ofInt (5)) 243 h) (fun h => gM_setLetters 3000 232 (Int32.ofInt (5)) h) (fun h => fM_thrown 3000 232 h) 243 za_h2 = true := by decide +kernel
theorem zgk_3_6 : z_eqC Int32.toInt64 (fun h => fL_setLetters 3000 0 (Int32.ofInt (6)) 243 h) (fun h => gM_setLetters 3000 232 (Int32.ofInt (6)) h) (fun h => fM_thrown 3000 232 h) 243 za_h2 = true := by decide +kernel
theorem zgk_3_7 : z_eqC Int32.toInt64 (fun h => fL_setLetters 3000 0 (Int32.ofInt (7)) 243 h) (fun h => gM_setLetters 3000 232 (Int32.ofInt (7)) h) (fun h => fM_thrown 3000 232 h) 243 za_h2 = true := by decide +kernel
theorem zgk_3_8 : z_eqC Int32.toInt64 (fun h => fL_setLetters 3000 0 (Int32.ofInt (8)) 243 h) (fun h => gM_setLetters 3000 232 (Int32.ofInt (8)) h) (fun h => fM_thrown 3000 232 h) 243 za_h2 = true := by decide +kernel
theorem zgk_3_9 : z_eqC Int32.toInt64 (fun h => fL_setLetters 3000 0 (Int32.ofInt (9)) 243 h) (fun h => gM_setLetters 3000 232 (Int32.ofInt (9)) h) (fun h => fM_thrown 3000 232 h) 243 za_h2 = true := by decide +kernel
theorem z_f3 (x : Int32) : z_eqC Int32.toInt64 (fun h => fL_setLetters 3000 0 x 243 h) (fun h => fM_setLetters 3000 232 x h) (fun h => fM_thrown 3000 232 h) 243 za_h2 = true := by
  by_cases h0 : x.toInt < 2 ∨ 9 < x.toInt
  · refine zqk_out (y := Int32.ofInt 0) (h2 := za_h2e) (h3 := za_h2e) ?_ ?_ zf_thrown
    · show fL_setLetters 3000 0 x 243 za_h2 = _
      unfold fL_setLetters fB_setLetters
      rw [zf_T0, cond_true, zj_lt x 2 (by decide), zj_le x 9 (by decide)]
      cases h1 : decide (x.toInt < 2) with
      | true => rfl
      | false =>
        have h2 := of_decide_eq_false h1
        rw [cond_false, decide_eq_false (by omega)]
        rfl
    · show fM_setLetters 3000 232 x za_h2 = _
      unfold fM_setLetters
      rw [zf_T5, cond_true, zqk_in2 x _ 2 9 (by decide) (by decide) h0, b2, show z_cmp .ne (Int32.ofInt 0) (Int32.ofInt 0) = false from rfl, cond_false]
      unfold fM_setLetters_15
      rw [show z_cmp .ne (Int32.ofInt 1) (Int32.ofInt 0) = true from rfl, cond_true]
      unfold fM_setLetters_34 fM_setLetters_35
      rw [zf_thr2]
      rfl
  · have h2 : x.toInt = 2 ∨ x.toInt = 3 ∨ x.toInt = 4 ∨ x.toInt = 5 ∨ x.toInt = 6 ∨ x.toInt = 7 ∨ x.toInt = 8 ∨ x.toInt = 9 := by omega
    rcases h2 with h2 | h2 | h2 | h2 | h2 | h2 | h2 | h2
    · rw [← zj_ofInt x, h2]; exact z_eqC_mono (fun _ => gfM_setLetters) zgk_3_2
    · rw [← zj_ofInt x, h2]; exact z_eqC_mono (fun _ => gfM_setLetters) zgk_3_3
    · rw [← zj_ofInt x, h2]; exact z_eqC_mono (fun _ => gfM_setLetters) zgk_3_4
    · rw [← zj_ofInt x, h2]; exact z_eqC_mono (fun _ => gfM_setLetters) zgk_3_5
    · rw [← zj_ofInt x, h2]; exact z_eqC_mono (fun _ => gfM_setLetters) zgk_3_6
    · rw [← zj_ofInt x, h2]; exact z_eqC_mono (fun _ => gfM_setLetters) zgk_3_7
    · rw [← zj_ofInt x, h2]; exact z_eqC_mono (fun _ => gfM_setLetters) zgk_3_8
    · rw [← zj_ofInt x, h2]; exact z_eqC_mono (fun _ => gfM_setLetters) zgk_3_9
theorem zgk_14_0 : z_eqC Int32.toInt64 (fun h => fL_removeKept 3000 0 (Int32.ofInt (0)) 243 h) (fun h => gM_removeKept 3000 232 (Int32.ofInt (0)) h) (fun h => fM_thrown 3000 232 h) 243 za_h2 = true := by decide +kernel
theorem zgk_14_1 : z_eqC Int32.toInt64 (fun h => fL_removeKept 3000 0 (Int32.ofInt (1)) 243 h) (fun h => gM_removeKept 3000 232 (Int32.ofInt (1)) h) (fun h => fM_thrown 3000 232 h) 243 za_h2 = true := by decide +kernel
theorem z_f14 (x : Int32) : z_eqC Int32.toInt64 (fun h => fL_removeKept 3000 0 x 243 h) (fun h => fM_removeKept 3000 232 x h) (fun h => fM_thrown 3000 232 h) 243 za_h2 = true := by
  by_cases h0 : x.toInt < 0 ∨ 1 < x.toInt
  · refine zqk_out (y := Int32.ofInt 0) (h2 := za_h2e) (h3 := za_h2e) ?_ ?_ zf_thrown
    · show fL_removeKept 3000 0 x 243 za_h2 = _
      unfold fL_removeKept fB_removeKept
      rw [zf_T0, cond_true, zf_now, b1, zf_keptB x h0]
      rfl
    · show fM_removeKept 3000 232 x za_h2 = _
      unfold fM_removeKept
      rw [zf_T5, cond_true, zf_keptS x h0, b2, show z_cmp .ne (Int32.ofInt 0) (Int32.ofInt 0) = false from rfl, cond_false]
      unfold fM_removeKept_14
      rw [zf_thr]
      rfl
  · have h2 : x.toInt = 0 ∨ x.toInt = 1 := by omega
    rcases h2 with h2 | h2
    · rw [← zj_ofInt x, h2]; exact z_eqC_mono (fun _ => gfM_removeKept) zgk_14_0
    · rw [← zj_ofInt x, h2]; exact z_eqC_mono (fun _ => gfM_removeKept) zgk_14_1
