/-! THE FIRST CALL: cases with one argument, what the factors would be. -/
set_option linter.unusedSimpArgs false
theorem zf_e1 : Int32.ofInt 97 + Int32.ofInt 3 = Int32.ofInt 100 := rfl
theorem zf_n00 : z_cmp .ne (Int32.ofInt 0) (Int32.ofInt 0) = false := rfl
theorem zf_e00 : z_cmp .eq (Int32.ofInt 0) (Int32.ofInt 0) = true := rfl
theorem zf_n10 : z_cmp .ne (Int32.ofInt 1) (Int32.ofInt 0) = true := rfl
theorem zf_e10 : z_cmp .eq (Int32.ofInt 1) (Int32.ofInt 0) = false := rfl
theorem z_f32i_97 : z_eqC Int32.toInt64 (fun h => fL_factorsIfAppended 3000 0 (Int32.ofInt (97)) 243 h) (fun h => fM_factorsIfAppended 3000 232 (Int32.ofInt (97)) h) (fun h => fM_thrown 3000 232 h) 243 za_h2 = true := by decide +kernel
theorem z_f32i_98 : z_eqC Int32.toInt64 (fun h => fL_factorsIfAppended 3000 0 (Int32.ofInt (98)) 243 h) (fun h => fM_factorsIfAppended 3000 232 (Int32.ofInt (98)) h) (fun h => fM_thrown 3000 232 h) 243 za_h2 = true := by decide +kernel
theorem z_f32i_99 : z_eqC Int32.toInt64 (fun h => fL_factorsIfAppended 3000 0 (Int32.ofInt (99)) 243 h) (fun h => fM_factorsIfAppended 3000 232 (Int32.ofInt (99)) h) (fun h => fM_thrown 3000 232 h) 243 za_h2 = true := by decide +kernel
theorem z_f32 (x : Int32) : z_eqC Int32.toInt64 (fun h => fL_factorsIfAppended 3000 0 x 243 h) (fun h => fM_factorsIfAppended 3000 232 x h) (fun h => fM_thrown 3000 232 h) 243 za_h2 = true := by
  by_cases h0 : x.toInt < 97
  · have a1 : z_cmp .lt x (Int32.ofInt (97)) = true := by rw [zj_lt x (97) (by decide)]; exact decide_eq_true (by omega)
    have a2 : z_cmp .gt x (Int32.ofInt (99)) = false := by rw [zj_gt x (99) (by decide)]; exact decide_eq_false (by omega)
    have a3 : z_cmp .ge x (Int32.ofInt (100)) = false := by rw [zj_ge x (100) (by decide)]; exact decide_eq_false (by omega)
    have a4 : z_cmp .le x (Int32.ofInt (99)) = true := by rw [zj_le x (99) (by decide)]; exact decide_eq_true (by omega)
    have a5 : z_cmp .gt x (Int32.ofInt (100) - Int32.ofInt 1) = false := by rw [show Int32.ofInt (100) - Int32.ofInt 1 = Int32.ofInt (99) from rfl, zj_gt x (99) (by decide)]; exact decide_eq_false (by omega)
    have a6 : z_cmp .ge x (Int32.ofInt (97)) = false := by rw [zj_ge x (97) (by decide)]; exact decide_eq_false (by omega)
    simp only [z_eqA, z_eqC, fB_checkLetter, fB_factorsIfAppended, fL_factorsIfAppended, fM_adds, fM_cuts, fM_factorsIfAppended, fM_factorsIfAppended_14, fM_in, fM_in_14, fM_in_15, fM_isLetter, fM_loads, fM_thrown, fM_throwsOne, fM_throwsOne_10, fS_isLetter, fS_isLetter_21, fS_isLetter_22, fW_add, fW_addPart, fW_clear, fW_copyFrom, fW_countFactors, b1, b2, bX, zf_T0, zf_T1, zf_T2, zf_T5, zf_now, zf_txt, zf_sz, zf_th0, zf_th1, zf_w, zf_len, zf_kept, zf_keptM, zf_rep, zf_repT, zf_repsz, zf_repszM, zf_letB, zf_letM, zf_scr, zf_src, zf_srcsz, zf_srcszM, zf_th1r, zf_T5e, zf_e1, zf_n00, zf_e00, zf_n10, zf_e10, zf_bH0, zf_bH0b, zf_bH2, a1, a2, a3, a4, a5, a6, cond_true, cond_false, decide_true, Bool.true_or, Bool.or_true]
    rfl
  · by_cases h1 : x.toInt < 100
    · have h2 : x.toInt = 97 ∨ x.toInt = 98 ∨ x.toInt = 99 := by omega
      rcases h2 with h2 | h2 | h2
      · rw [← zj_ofInt x, h2]; exact z_f32i_97
      · rw [← zj_ofInt x, h2]; exact z_f32i_98
      · rw [← zj_ofInt x, h2]; exact z_f32i_99
    · have a1 : z_cmp .lt x (Int32.ofInt (97)) = false := by rw [zj_lt x (97) (by decide)]; exact decide_eq_false (by omega)
      have a2 : z_cmp .gt x (Int32.ofInt (99)) = true := by rw [zj_gt x (99) (by decide)]; exact decide_eq_true (by omega)
      have a3 : z_cmp .ge x (Int32.ofInt (100)) = true := by rw [zj_ge x (100) (by decide)]; exact decide_eq_true (by omega)
      have a4 : z_cmp .le x (Int32.ofInt (99)) = false := by rw [zj_le x (99) (by decide)]; exact decide_eq_false (by omega)
      have a5 : z_cmp .gt x (Int32.ofInt (100) - Int32.ofInt 1) = true := by rw [show Int32.ofInt (100) - Int32.ofInt 1 = Int32.ofInt (99) from rfl, zj_gt x (99) (by decide)]; exact decide_eq_true (by omega)
      have a6 : z_cmp .ge x (Int32.ofInt (97)) = true := by rw [zj_ge x (97) (by decide)]; exact decide_eq_true (by omega)
      simp only [z_eqA, z_eqC, fB_checkLetter, fB_factorsIfAppended, fL_factorsIfAppended, fM_adds, fM_cuts, fM_factorsIfAppended, fM_factorsIfAppended_14, fM_in, fM_in_14, fM_in_15, fM_isLetter, fM_loads, fM_thrown, fM_throwsOne, fM_throwsOne_10, fS_isLetter, fS_isLetter_21, fS_isLetter_22, fW_add, fW_addPart, fW_clear, fW_copyFrom, fW_countFactors, b1, b2, bX, zf_T0, zf_T1, zf_T2, zf_T5, zf_now, zf_txt, zf_sz, zf_th0, zf_th1, zf_w, zf_len, zf_kept, zf_keptM, zf_rep, zf_repT, zf_repsz, zf_repszM, zf_letB, zf_letM, zf_scr, zf_src, zf_srcsz, zf_srcszM, zf_th1r, zf_T5e, zf_e1, zf_n00, zf_e00, zf_n10, zf_e10, zf_bH0, zf_bH0b, zf_bH2, a1, a2, a3, a4, a5, a6, cond_true, cond_false, decide_true, Bool.true_or, Bool.or_true]
      rfl
theorem z_f33i_0 : z_eqC Int32.toInt64 (fun h => fL_factorsIfRotated 3000 0 (Int32.ofInt (0)) 243 h) (fun h => fM_factorsIfRotated 3000 232 (Int32.ofInt (0)) h) (fun h => fM_thrown 3000 232 h) 243 za_h2 = true := by decide +kernel
theorem z_f33i_1 : z_eqC Int32.toInt64 (fun h => fL_factorsIfRotated 3000 0 (Int32.ofInt (1)) 243 h) (fun h => fM_factorsIfRotated 3000 232 (Int32.ofInt (1)) h) (fun h => fM_thrown 3000 232 h) 243 za_h2 = true := by decide +kernel
theorem z_f33i_2 : z_eqC Int32.toInt64 (fun h => fL_factorsIfRotated 3000 0 (Int32.ofInt (2)) 243 h) (fun h => fM_factorsIfRotated 3000 232 (Int32.ofInt (2)) h) (fun h => fM_thrown 3000 232 h) 243 za_h2 = true := by decide +kernel
theorem z_f33i_3 : z_eqC Int32.toInt64 (fun h => fL_factorsIfRotated 3000 0 (Int32.ofInt (3)) 243 h) (fun h => fM_factorsIfRotated 3000 232 (Int32.ofInt (3)) h) (fun h => fM_thrown 3000 232 h) 243 za_h2 = true := by decide +kernel
theorem z_f33i_4 : z_eqC Int32.toInt64 (fun h => fL_factorsIfRotated 3000 0 (Int32.ofInt (4)) 243 h) (fun h => fM_factorsIfRotated 3000 232 (Int32.ofInt (4)) h) (fun h => fM_thrown 3000 232 h) 243 za_h2 = true := by decide +kernel
theorem z_f33i_5 : z_eqC Int32.toInt64 (fun h => fL_factorsIfRotated 3000 0 (Int32.ofInt (5)) 243 h) (fun h => fM_factorsIfRotated 3000 232 (Int32.ofInt (5)) h) (fun h => fM_thrown 3000 232 h) 243 za_h2 = true := by decide +kernel
theorem z_f33i_6 : z_eqC Int32.toInt64 (fun h => fL_factorsIfRotated 3000 0 (Int32.ofInt (6)) 243 h) (fun h => fM_factorsIfRotated 3000 232 (Int32.ofInt (6)) h) (fun h => fM_thrown 3000 232 h) 243 za_h2 = true := by decide +kernel
theorem z_f33i_7 : z_eqC Int32.toInt64 (fun h => fL_factorsIfRotated 3000 0 (Int32.ofInt (7)) 243 h) (fun h => fM_factorsIfRotated 3000 232 (Int32.ofInt (7)) h) (fun h => fM_thrown 3000 232 h) 243 za_h2 = true := by decide +kernel
theorem z_f33i_8 : z_eqC Int32.toInt64 (fun h => fL_factorsIfRotated 3000 0 (Int32.ofInt (8)) 243 h) (fun h => fM_factorsIfRotated 3000 232 (Int32.ofInt (8)) h) (fun h => fM_thrown 3000 232 h) 243 za_h2 = true := by decide +kernel
theorem z_f33i_9 : z_eqC Int32.toInt64 (fun h => fL_factorsIfRotated 3000 0 (Int32.ofInt (9)) 243 h) (fun h => fM_factorsIfRotated 3000 232 (Int32.ofInt (9)) h) (fun h => fM_thrown 3000 232 h) 243 za_h2 = true := by decide +kernel
theorem z_f33i_10 : z_eqC Int32.toInt64 (fun h => fL_factorsIfRotated 3000 0 (Int32.ofInt (10)) 243 h) (fun h => fM_factorsIfRotated 3000 232 (Int32.ofInt (10)) h) (fun h => fM_thrown 3000 232 h) 243 za_h2 = true := by decide +kernel
theorem z_f33i_11 : z_eqC Int32.toInt64 (fun h => fL_factorsIfRotated 3000 0 (Int32.ofInt (11)) 243 h) (fun h => fM_factorsIfRotated 3000 232 (Int32.ofInt (11)) h) (fun h => fM_thrown 3000 232 h) 243 za_h2 = true := by decide +kernel
theorem z_f33i_12 : z_eqC Int32.toInt64 (fun h => fL_factorsIfRotated 3000 0 (Int32.ofInt (12)) 243 h) (fun h => fM_factorsIfRotated 3000 232 (Int32.ofInt (12)) h) (fun h => fM_thrown 3000 232 h) 243 za_h2 = true := by decide +kernel
theorem z_f33i_13 : z_eqC Int32.toInt64 (fun h => fL_factorsIfRotated 3000 0 (Int32.ofInt (13)) 243 h) (fun h => fM_factorsIfRotated 3000 232 (Int32.ofInt (13)) h) (fun h => fM_thrown 3000 232 h) 243 za_h2 = true := by decide +kernel
theorem z_f33i_14 : z_eqC Int32.toInt64 (fun h => fL_factorsIfRotated 3000 0 (Int32.ofInt (14)) 243 h) (fun h => fM_factorsIfRotated 3000 232 (Int32.ofInt (14)) h) (fun h => fM_thrown 3000 232 h) 243 za_h2 = true := by decide +kernel
theorem z_f33 (x : Int32) : z_eqC Int32.toInt64 (fun h => fL_factorsIfRotated 3000 0 x 243 h) (fun h => fM_factorsIfRotated 3000 232 x h) (fun h => fM_thrown 3000 232 h) 243 za_h2 = true := by
  by_cases h0 : x.toInt < 0
  · have a1 : z_cmp .lt x (Int32.ofInt (0)) = true := by rw [zj_lt x (0) (by decide)]; exact decide_eq_true (by omega)
    have a2 : z_cmp .gt x (Int32.ofInt (14)) = false := by rw [zj_gt x (14) (by decide)]; exact decide_eq_false (by omega)
    have a3 : z_cmp .ge x (Int32.ofInt (15)) = false := by rw [zj_ge x (15) (by decide)]; exact decide_eq_false (by omega)
    have a4 : z_cmp .le x (Int32.ofInt (14)) = true := by rw [zj_le x (14) (by decide)]; exact decide_eq_true (by omega)
    have a5 : z_cmp .gt x (Int32.ofInt (15) - Int32.ofInt 1) = false := by rw [show Int32.ofInt (15) - Int32.ofInt 1 = Int32.ofInt (14) from rfl, zj_gt x (14) (by decide)]; exact decide_eq_false (by omega)
    have a6 : z_cmp .ge x (Int32.ofInt (0)) = false := by rw [zj_ge x (0) (by decide)]; exact decide_eq_false (by omega)
    simp only [z_eqA, z_eqC, fB_checkCount, fB_checkCount_18, fB_factorsIfRotated, fL_factorsIfRotated, fM_cuts, fM_factorsIfRotated, fM_factorsIfRotated_20, fM_factorsIfRotated_35, fM_in, fM_in_14, fM_in_15, fM_loadsRotated, fM_thrown, fM_throwsOne, fM_throwsOne_10, fW_addPart, fW_clear, fW_copyFrom, fW_countFactors, fW_mirror, fW_turn, b1, b2, bX, zf_T0, zf_T1, zf_T2, zf_T5, zf_now, zf_txt, zf_sz, zf_th0, zf_th1, zf_w, zf_len, zf_kept, zf_keptM, zf_rep, zf_repT, zf_repsz, zf_repszM, zf_letB, zf_letM, zf_scr, zf_src, zf_srcsz, zf_srcszM, zf_th1r, zf_T5e, zf_e1, zf_n00, zf_e00, zf_n10, zf_e10, zf_bH0, zf_bH0b, zf_bH2, a1, a2, a3, a4, a5, a6, cond_true, cond_false, decide_true, Bool.true_or, Bool.or_true]
    rfl
  · by_cases h1 : x.toInt < 15
    · have h2 : x.toInt = 0 ∨ x.toInt = 1 ∨ x.toInt = 2 ∨ x.toInt = 3 ∨ x.toInt = 4 ∨ x.toInt = 5 ∨ x.toInt = 6 ∨ x.toInt = 7 ∨ x.toInt = 8 ∨ x.toInt = 9 ∨ x.toInt = 10 ∨ x.toInt = 11 ∨ x.toInt = 12 ∨ x.toInt = 13 ∨ x.toInt = 14 := by omega
      rcases h2 with h2 | h2 | h2 | h2 | h2 | h2 | h2 | h2 | h2 | h2 | h2 | h2 | h2 | h2 | h2
      · rw [← zj_ofInt x, h2]; exact z_f33i_0
      · rw [← zj_ofInt x, h2]; exact z_f33i_1
      · rw [← zj_ofInt x, h2]; exact z_f33i_2
      · rw [← zj_ofInt x, h2]; exact z_f33i_3
      · rw [← zj_ofInt x, h2]; exact z_f33i_4
      · rw [← zj_ofInt x, h2]; exact z_f33i_5
      · rw [← zj_ofInt x, h2]; exact z_f33i_6
      · rw [← zj_ofInt x, h2]; exact z_f33i_7
      · rw [← zj_ofInt x, h2]; exact z_f33i_8
      · rw [← zj_ofInt x, h2]; exact z_f33i_9
      · rw [← zj_ofInt x, h2]; exact z_f33i_10
      · rw [← zj_ofInt x, h2]; exact z_f33i_11
      · rw [← zj_ofInt x, h2]; exact z_f33i_12
      · rw [← zj_ofInt x, h2]; exact z_f33i_13
      · rw [← zj_ofInt x, h2]; exact z_f33i_14
    · have a1 : z_cmp .lt x (Int32.ofInt (0)) = false := by rw [zj_lt x (0) (by decide)]; exact decide_eq_false (by omega)
      have a2 : z_cmp .gt x (Int32.ofInt (14)) = true := by rw [zj_gt x (14) (by decide)]; exact decide_eq_true (by omega)
      have a3 : z_cmp .ge x (Int32.ofInt (15)) = true := by rw [zj_ge x (15) (by decide)]; exact decide_eq_true (by omega)
      have a4 : z_cmp .le x (Int32.ofInt (14)) = false := by rw [zj_le x (14) (by decide)]; exact decide_eq_false (by omega)
      have a5 : z_cmp .gt x (Int32.ofInt (15) - Int32.ofInt 1) = true := by rw [show Int32.ofInt (15) - Int32.ofInt 1 = Int32.ofInt (14) from rfl, zj_gt x (14) (by decide)]; exact decide_eq_true (by omega)
      have a6 : z_cmp .ge x (Int32.ofInt (0)) = true := by rw [zj_ge x (0) (by decide)]; exact decide_eq_true (by omega)
      simp only [z_eqA, z_eqC, fB_checkCount, fB_checkCount_18, fB_factorsIfRotated, fL_factorsIfRotated, fM_cuts, fM_factorsIfRotated, fM_factorsIfRotated_20, fM_factorsIfRotated_35, fM_in, fM_in_14, fM_in_15, fM_loadsRotated, fM_thrown, fM_throwsOne, fM_throwsOne_10, fW_addPart, fW_clear, fW_copyFrom, fW_countFactors, fW_mirror, fW_turn, b1, b2, bX, zf_T0, zf_T1, zf_T2, zf_T5, zf_now, zf_txt, zf_sz, zf_th0, zf_th1, zf_w, zf_len, zf_kept, zf_keptM, zf_rep, zf_repT, zf_repsz, zf_repszM, zf_letB, zf_letM, zf_scr, zf_src, zf_srcsz, zf_srcszM, zf_th1r, zf_T5e, zf_e1, zf_n00, zf_e00, zf_n10, zf_e10, zf_bH0, zf_bH0b, zf_bH2, a1, a2, a3, a4, a5, a6, cond_true, cond_false, decide_true, Bool.true_or, Bool.or_true]
      rfl
