/-! THE FIRST CALL: cases that write. -/
set_option linter.unusedSimpArgs false
theorem z_g5_97 : z_eqC Int32.toInt64 (fun h => fL_appendLetter 3000 0 (Int32.ofInt (97)) 243 h) (fun h => gM_appendLetter 3000 232 (Int32.ofInt (97)) h) (fun h => fM_thrown 3000 232 h) 243 za_h2 = true := by decide +kernel
theorem z_g5_98 : z_eqC Int32.toInt64 (fun h => fL_appendLetter 3000 0 (Int32.ofInt (98)) 243 h) (fun h => gM_appendLetter 3000 232 (Int32.ofInt (98)) h) (fun h => fM_thrown 3000 232 h) 243 za_h2 = true := by decide +kernel
theorem z_g5_99 : z_eqC Int32.toInt64 (fun h => fL_appendLetter 3000 0 (Int32.ofInt (99)) 243 h) (fun h => gM_appendLetter 3000 232 (Int32.ofInt (99)) h) (fun h => fM_thrown 3000 232 h) 243 za_h2 = true := by decide +kernel
theorem z_f5 (x : Int32) : z_eqC Int32.toInt64 (fun h => fL_appendLetter 3000 0 x 243 h) (fun h => fM_appendLetter 3000 232 x h) (fun h => fM_thrown 3000 232 h) 243 za_h2 = true := by
  by_cases h0 : x.toInt < 97
  · have a1 : z_cmp .lt x (Int32.ofInt (97)) = true := by rw [zj_lt x (97) (by decide)]; exact decide_eq_true (by omega)
    have a2 : z_cmp .gt x (Int32.ofInt (99)) = false := by rw [zj_gt x (99) (by decide)]; exact decide_eq_false (by omega)
    have a3 : z_cmp .ge x (Int32.ofInt (100)) = false := by rw [zj_ge x (100) (by decide)]; exact decide_eq_false (by omega)
    have a4 : z_cmp .le x (Int32.ofInt (99)) = true := by rw [zj_le x (99) (by decide)]; exact decide_eq_true (by omega)
    have a5 : z_cmp .gt x (Int32.ofInt (100) - Int32.ofInt 1) = false := by rw [show Int32.ofInt (100) - Int32.ofInt 1 = Int32.ofInt (99) from rfl, zj_gt x (99) (by decide)]; exact decide_eq_false (by omega)
    have a6 : z_cmp .ge x (Int32.ofInt (97)) = false := by rw [zj_ge x (97) (by decide)]; exact decide_eq_false (by omega)
    simp only [z_eqA, z_eqC, fB_appendLetter, fB_checkLetter, fL_appendLetter, fM_appendLetter, fM_appendLetter_14, fM_appendLetter_30, fM_in, fM_in_14, fM_in_15, fM_isLetter, fM_thrown, fM_throwsOne2, fM_throwsOne2_18, fM_throwsOne2_29, fM_throwsOne2_34, fS_isLetter, fS_isLetter_21, fS_isLetter_22, b1, b2, bX, zf_T0, zf_T1, zf_T2, zf_T5, zf_now, zf_txt, zf_sz, zf_th0, zf_th1, zf_w, zf_len, zf_kept, zf_keptM, zf_rep, zf_repT, zf_repsz, zf_repszM, zf_letB, zf_letM, zf_scr, zf_src, zf_srcsz, zf_srcszM, zf_th1r, zf_T5e, zf_e1, zf_n00, zf_e00, zf_n10, zf_e10, zf_bH0, zf_bH0b, zf_bH2, zf_bH03, zf_bH13, zf_bH22, a1, a2, a3, a4, a5, a6, cond_true, cond_false, decide_true, Bool.true_or, Bool.or_true]
    rfl
  · by_cases h1 : x.toInt < 100
    · have h2 : x.toInt = 97 ∨ x.toInt = 98 ∨ x.toInt = 99 := by omega
      rcases h2 with h2 | h2 | h2
      · rw [← zj_ofInt x, h2]; exact z_eqC_mono (fun _ => gfM_appendLetter) z_g5_97
      · rw [← zj_ofInt x, h2]; exact z_eqC_mono (fun _ => gfM_appendLetter) z_g5_98
      · rw [← zj_ofInt x, h2]; exact z_eqC_mono (fun _ => gfM_appendLetter) z_g5_99
    · have a1 : z_cmp .lt x (Int32.ofInt (97)) = false := by rw [zj_lt x (97) (by decide)]; exact decide_eq_false (by omega)
      have a2 : z_cmp .gt x (Int32.ofInt (99)) = true := by rw [zj_gt x (99) (by decide)]; exact decide_eq_true (by omega)
      have a3 : z_cmp .ge x (Int32.ofInt (100)) = true := by rw [zj_ge x (100) (by decide)]; exact decide_eq_true (by omega)
      have a4 : z_cmp .le x (Int32.ofInt (99)) = false := by rw [zj_le x (99) (by decide)]; exact decide_eq_false (by omega)
      have a5 : z_cmp .gt x (Int32.ofInt (100) - Int32.ofInt 1) = true := by rw [show Int32.ofInt (100) - Int32.ofInt 1 = Int32.ofInt (99) from rfl, zj_gt x (99) (by decide)]; exact decide_eq_true (by omega)
      have a6 : z_cmp .ge x (Int32.ofInt (97)) = true := by rw [zj_ge x (97) (by decide)]; exact decide_eq_true (by omega)
      simp only [z_eqA, z_eqC, fB_appendLetter, fB_checkLetter, fL_appendLetter, fM_appendLetter, fM_appendLetter_14, fM_appendLetter_30, fM_in, fM_in_14, fM_in_15, fM_isLetter, fM_thrown, fM_throwsOne2, fM_throwsOne2_18, fM_throwsOne2_29, fM_throwsOne2_34, fS_isLetter, fS_isLetter_21, fS_isLetter_22, b1, b2, bX, zf_T0, zf_T1, zf_T2, zf_T5, zf_now, zf_txt, zf_sz, zf_th0, zf_th1, zf_w, zf_len, zf_kept, zf_keptM, zf_rep, zf_repT, zf_repsz, zf_repszM, zf_letB, zf_letM, zf_scr, zf_src, zf_srcsz, zf_srcszM, zf_th1r, zf_T5e, zf_e1, zf_n00, zf_e00, zf_n10, zf_e10, zf_bH0, zf_bH0b, zf_bH2, zf_bH03, zf_bH13, zf_bH22, a1, a2, a3, a4, a5, a6, cond_true, cond_false, decide_true, Bool.true_or, Bool.or_true]
      rfl
theorem z_g3_2 : z_eqC Int32.toInt64 (fun h => fL_setLetters 3000 0 (Int32.ofInt (2)) 243 h) (fun h => gM_setLetters 3000 232 (Int32.ofInt (2)) h) (fun h => fM_thrown 3000 232 h) 243 za_h2 = true := by decide +kernel
theorem z_g3_3 : z_eqC Int32.toInt64 (fun h => fL_setLetters 3000 0 (Int32.ofInt (3)) 243 h) (fun h => gM_setLetters 3000 232 (Int32.ofInt (3)) h) (fun h => fM_thrown 3000 232 h) 243 za_h2 = true := by decide +kernel
theorem z_g3_4 : z_eqC Int32.toInt64 (fun h => fL_setLetters 3000 0 (Int32.ofInt (4)) 243 h) (fun h => gM_setLetters 3000 232 (Int32.ofInt (4)) h) (fun h => fM_thrown 3000 232 h) 243 za_h2 = true := by decide +kernel
theorem z_g3_5 : z_eqC Int32.toInt64 (fun h => fL_setLetters 3000 0 (Int32.ofInt (5)) 243 h) (fun h => gM_setLetters 3000 232 (Int32.ofInt (5)) h) (fun h => fM_thrown 3000 232 h) 243 za_h2 = true := by decide +kernel
theorem z_g3_6 : z_eqC Int32.toInt64 (fun h => fL_setLetters 3000 0 (Int32.ofInt (6)) 243 h) (fun h => gM_setLetters 3000 232 (Int32.ofInt (6)) h) (fun h => fM_thrown 3000 232 h) 243 za_h2 = true := by decide +kernel
theorem z_g3_7 : z_eqC Int32.toInt64 (fun h => fL_setLetters 3000 0 (Int32.ofInt (7)) 243 h) (fun h => gM_setLetters 3000 232 (Int32.ofInt (7)) h) (fun h => fM_thrown 3000 232 h) 243 za_h2 = true := by decide +kernel
theorem z_g3_8 : z_eqC Int32.toInt64 (fun h => fL_setLetters 3000 0 (Int32.ofInt (8)) 243 h) (fun h => gM_setLetters 3000 232 (Int32.ofInt (8)) h) (fun h => fM_thrown 3000 232 h) 243 za_h2 = true := by decide +kernel
theorem z_g3_9 : z_eqC Int32.toInt64 (fun h => fL_setLetters 3000 0 (Int32.ofInt (9)) 243 h) (fun h => gM_setLetters 3000 232 (Int32.ofInt (9)) h) (fun h => fM_thrown 3000 232 h) 243 za_h2 = true := by decide +kernel
theorem z_f3 (x : Int32) : z_eqC Int32.toInt64 (fun h => fL_setLetters 3000 0 x 243 h) (fun h => fM_setLetters 3000 232 x h) (fun h => fM_thrown 3000 232 h) 243 za_h2 = true := by
  by_cases h0 : x.toInt < 2
  · have a1 : z_cmp .lt x (Int32.ofInt (2)) = true := by rw [zj_lt x (2) (by decide)]; exact decide_eq_true (by omega)
    have a2 : z_cmp .gt x (Int32.ofInt (9)) = false := by rw [zj_gt x (9) (by decide)]; exact decide_eq_false (by omega)
    have a3 : z_cmp .ge x (Int32.ofInt (10)) = false := by rw [zj_ge x (10) (by decide)]; exact decide_eq_false (by omega)
    have a4 : z_cmp .le x (Int32.ofInt (9)) = true := by rw [zj_le x (9) (by decide)]; exact decide_eq_true (by omega)
    have a5 : z_cmp .gt x (Int32.ofInt (10) - Int32.ofInt 1) = false := by rw [show Int32.ofInt (10) - Int32.ofInt 1 = Int32.ofInt (9) from rfl, zj_gt x (9) (by decide)]; exact decide_eq_false (by omega)
    have a6 : z_cmp .ge x (Int32.ofInt (2)) = false := by rw [zj_ge x (2) (by decide)]; exact decide_eq_false (by omega)
    simp only [z_eqA, z_eqC, fB_setLetters, fB_setLetters_11, fL_setLetters, fM_in, fM_in_14, fM_in_15, fM_setLetters, fM_setLetters_15, fM_setLetters_34, fM_setLetters_35, fM_thrown, fM_throwsOne2, fM_throwsOne2_18, fM_throwsOne2_29, fM_throwsOne2_34, b1, b2, bX, zf_T0, zf_T1, zf_T2, zf_T5, zf_now, zf_txt, zf_sz, zf_th0, zf_th1, zf_w, zf_len, zf_kept, zf_keptM, zf_rep, zf_repT, zf_repsz, zf_repszM, zf_letB, zf_letM, zf_scr, zf_src, zf_srcsz, zf_srcszM, zf_th1r, zf_T5e, zf_e1, zf_n00, zf_e00, zf_n10, zf_e10, zf_bH0, zf_bH0b, zf_bH2, zf_bH03, zf_bH13, zf_bH22, a1, a2, a3, a4, a5, a6, cond_true, cond_false, decide_true, Bool.true_or, Bool.or_true]
    rfl
  · by_cases h1 : x.toInt < 10
    · have h2 : x.toInt = 2 ∨ x.toInt = 3 ∨ x.toInt = 4 ∨ x.toInt = 5 ∨ x.toInt = 6 ∨ x.toInt = 7 ∨ x.toInt = 8 ∨ x.toInt = 9 := by omega
      rcases h2 with h2 | h2 | h2 | h2 | h2 | h2 | h2 | h2
      · rw [← zj_ofInt x, h2]; exact z_eqC_mono (fun _ => gfM_setLetters) z_g3_2
      · rw [← zj_ofInt x, h2]; exact z_eqC_mono (fun _ => gfM_setLetters) z_g3_3
      · rw [← zj_ofInt x, h2]; exact z_eqC_mono (fun _ => gfM_setLetters) z_g3_4
      · rw [← zj_ofInt x, h2]; exact z_eqC_mono (fun _ => gfM_setLetters) z_g3_5
      · rw [← zj_ofInt x, h2]; exact z_eqC_mono (fun _ => gfM_setLetters) z_g3_6
      · rw [← zj_ofInt x, h2]; exact z_eqC_mono (fun _ => gfM_setLetters) z_g3_7
      · rw [← zj_ofInt x, h2]; exact z_eqC_mono (fun _ => gfM_setLetters) z_g3_8
      · rw [← zj_ofInt x, h2]; exact z_eqC_mono (fun _ => gfM_setLetters) z_g3_9
    · have a1 : z_cmp .lt x (Int32.ofInt (2)) = false := by rw [zj_lt x (2) (by decide)]; exact decide_eq_false (by omega)
      have a2 : z_cmp .gt x (Int32.ofInt (9)) = true := by rw [zj_gt x (9) (by decide)]; exact decide_eq_true (by omega)
      have a3 : z_cmp .ge x (Int32.ofInt (10)) = true := by rw [zj_ge x (10) (by decide)]; exact decide_eq_true (by omega)
      have a4 : z_cmp .le x (Int32.ofInt (9)) = false := by rw [zj_le x (9) (by decide)]; exact decide_eq_false (by omega)
      have a5 : z_cmp .gt x (Int32.ofInt (10) - Int32.ofInt 1) = true := by rw [show Int32.ofInt (10) - Int32.ofInt 1 = Int32.ofInt (9) from rfl, zj_gt x (9) (by decide)]; exact decide_eq_true (by omega)
      have a6 : z_cmp .ge x (Int32.ofInt (2)) = true := by rw [zj_ge x (2) (by decide)]; exact decide_eq_true (by omega)
      simp only [z_eqA, z_eqC, fB_setLetters, fB_setLetters_11, fL_setLetters, fM_in, fM_in_14, fM_in_15, fM_setLetters, fM_setLetters_15, fM_setLetters_34, fM_setLetters_35, fM_thrown, fM_throwsOne2, fM_throwsOne2_18, fM_throwsOne2_29, fM_throwsOne2_34, b1, b2, bX, zf_T0, zf_T1, zf_T2, zf_T5, zf_now, zf_txt, zf_sz, zf_th0, zf_th1, zf_w, zf_len, zf_kept, zf_keptM, zf_rep, zf_repT, zf_repsz, zf_repszM, zf_letB, zf_letM, zf_scr, zf_src, zf_srcsz, zf_srcszM, zf_th1r, zf_T5e, zf_e1, zf_n00, zf_e00, zf_n10, zf_e10, zf_bH0, zf_bH0b, zf_bH2, zf_bH03, zf_bH13, zf_bH22, a1, a2, a3, a4, a5, a6, cond_true, cond_false, decide_true, Bool.true_or, Bool.or_true]
      rfl
theorem z_g14_0 : z_eqC Int32.toInt64 (fun h => fL_removeKept 3000 0 (Int32.ofInt (0)) 243 h) (fun h => gM_removeKept 3000 232 (Int32.ofInt (0)) h) (fun h => fM_thrown 3000 232 h) 243 za_h2 = true := by decide +kernel
theorem z_g14_1 : z_eqC Int32.toInt64 (fun h => fL_removeKept 3000 0 (Int32.ofInt (1)) 243 h) (fun h => gM_removeKept 3000 232 (Int32.ofInt (1)) h) (fun h => fM_thrown 3000 232 h) 243 za_h2 = true := by decide +kernel
theorem z_f14 (x : Int32) : z_eqC Int32.toInt64 (fun h => fL_removeKept 3000 0 x 243 h) (fun h => fM_removeKept 3000 232 x h) (fun h => fM_thrown 3000 232 h) 243 za_h2 = true := by
  by_cases h0 : x.toInt < 0
  · have a1 : z_cmp .lt x (Int32.ofInt (0)) = true := by rw [zj_lt x (0) (by decide)]; exact decide_eq_true (by omega)
    have a2 : z_cmp .gt x (Int32.ofInt (1)) = false := by rw [zj_gt x (1) (by decide)]; exact decide_eq_false (by omega)
    have a3 : z_cmp .ge x (Int32.ofInt (2)) = false := by rw [zj_ge x (2) (by decide)]; exact decide_eq_false (by omega)
    have a4 : z_cmp .le x (Int32.ofInt (1)) = true := by rw [zj_le x (1) (by decide)]; exact decide_eq_true (by omega)
    have a5 : z_cmp .gt x (Int32.ofInt (2) - Int32.ofInt 1) = false := by rw [show Int32.ofInt (2) - Int32.ofInt 1 = Int32.ofInt (1) from rfl, zj_gt x (1) (by decide)]; exact decide_eq_false (by omega)
    have a6 : z_cmp .ge x (Int32.ofInt (0)) = false := by rw [zj_ge x (0) (by decide)]; exact decide_eq_false (by omega)
    simp only [z_eqA, z_eqC, fB_removeKept, fL_removeKept, fM_in, fM_in_14, fM_in_15, fM_isShelved, fM_removeKept, fM_removeKept_14, fM_thrown, fM_throwsOne, fM_throwsOne_10, fS_keptAt, fS_keptAt_30, fS_keptAt_31, b1, b2, bX, zf_T0, zf_T1, zf_T2, zf_T5, zf_now, zf_txt, zf_sz, zf_th0, zf_th1, zf_w, zf_len, zf_kept, zf_keptM, zf_rep, zf_repT, zf_repsz, zf_repszM, zf_letB, zf_letM, zf_scr, zf_src, zf_srcsz, zf_srcszM, zf_th1r, zf_T5e, zf_e1, zf_n00, zf_e00, zf_n10, zf_e10, zf_bH0, zf_bH0b, zf_bH2, zf_bH03, zf_bH13, zf_bH22, a1, a2, a3, a4, a5, a6, cond_true, cond_false, decide_true, Bool.true_or, Bool.or_true]
    rfl
  · by_cases h1 : x.toInt < 2
    · have h2 : x.toInt = 0 ∨ x.toInt = 1 := by omega
      rcases h2 with h2 | h2
      · rw [← zj_ofInt x, h2]; exact z_eqC_mono (fun _ => gfM_removeKept) z_g14_0
      · rw [← zj_ofInt x, h2]; exact z_eqC_mono (fun _ => gfM_removeKept) z_g14_1
    · have a1 : z_cmp .lt x (Int32.ofInt (0)) = false := by rw [zj_lt x (0) (by decide)]; exact decide_eq_false (by omega)
      have a2 : z_cmp .gt x (Int32.ofInt (1)) = true := by rw [zj_gt x (1) (by decide)]; exact decide_eq_true (by omega)
      have a3 : z_cmp .ge x (Int32.ofInt (2)) = true := by rw [zj_ge x (2) (by decide)]; exact decide_eq_true (by omega)
      have a4 : z_cmp .le x (Int32.ofInt (1)) = false := by rw [zj_le x (1) (by decide)]; exact decide_eq_false (by omega)
      have a5 : z_cmp .gt x (Int32.ofInt (2) - Int32.ofInt 1) = true := by rw [show Int32.ofInt (2) - Int32.ofInt 1 = Int32.ofInt (1) from rfl, zj_gt x (1) (by decide)]; exact decide_eq_true (by omega)
      have a6 : z_cmp .ge x (Int32.ofInt (0)) = true := by rw [zj_ge x (0) (by decide)]; exact decide_eq_true (by omega)
      simp only [z_eqA, z_eqC, fB_removeKept, fL_removeKept, fM_in, fM_in_14, fM_in_15, fM_isShelved, fM_removeKept, fM_removeKept_14, fM_thrown, fM_throwsOne, fM_throwsOne_10, fS_keptAt, fS_keptAt_30, fS_keptAt_31, b1, b2, bX, zf_T0, zf_T1, zf_T2, zf_T5, zf_now, zf_txt, zf_sz, zf_th0, zf_th1, zf_w, zf_len, zf_kept, zf_keptM, zf_rep, zf_repT, zf_repsz, zf_repszM, zf_letB, zf_letM, zf_scr, zf_src, zf_srcsz, zf_srcszM, zf_th1r, zf_T5e, zf_e1, zf_n00, zf_e00, zf_n10, zf_e10, zf_bH0, zf_bH0b, zf_bH2, zf_bH03, zf_bH13, zf_bH22, a1, a2, a3, a4, a5, a6, cond_true, cond_false, decide_true, Bool.true_or, Bool.or_true]
      rfl
