/-! THE FIRST CALL: cases that write. -/
set_option linter.unusedSimpArgs false
theorem zf_bH03 {α : Type} {h : zH} {g : α → zH → Option (Int32 × zH)} : bH [((0, 9, 12, 13), 0, 1), ((0, 9, 15, 18), 1, 2)] 4 (some (.inr 0, h)) g = some (Int32.ofInt 1, h) := rfl
theorem zf_bH13 {α : Type} {h : zH} {g : α → zH → Option (Int32 × zH)} : bH [((0, 9, 12, 13), 0, 1), ((0, 9, 15, 18), 1, 2)] 4 (some (.inr 1, h)) g = some (Int32.ofInt 2, h) := rfl
theorem zf_bH22 {α : Type} {h : zH} {g : α → zH → Option (Int32 × zH)} : bH [((0, 9, 12, 46), 2, 1), ((0, 9, 15, 18), 1, 2)] 4 (some (.inr 2, h)) g = some (Int32.ofInt 1, h) := rfl
theorem z_g6_0 : z_eqC Int32.toInt64 (fun h => fL_dropLast 3000 0 (Int32.ofInt (0)) 243 h) (fun h => gM_dropLast 3000 232 (Int32.ofInt (0)) h) (fun h => fM_thrown 3000 232 h) 243 za_h2 = true := by decide +kernel
theorem z_g6_1 : z_eqC Int32.toInt64 (fun h => fL_dropLast 3000 0 (Int32.ofInt (1)) 243 h) (fun h => gM_dropLast 3000 232 (Int32.ofInt (1)) h) (fun h => fM_thrown 3000 232 h) 243 za_h2 = true := by decide +kernel
theorem z_g6_2 : z_eqC Int32.toInt64 (fun h => fL_dropLast 3000 0 (Int32.ofInt (2)) 243 h) (fun h => gM_dropLast 3000 232 (Int32.ofInt (2)) h) (fun h => fM_thrown 3000 232 h) 243 za_h2 = true := by decide +kernel
theorem z_g6_3 : z_eqC Int32.toInt64 (fun h => fL_dropLast 3000 0 (Int32.ofInt (3)) 243 h) (fun h => gM_dropLast 3000 232 (Int32.ofInt (3)) h) (fun h => fM_thrown 3000 232 h) 243 za_h2 = true := by decide +kernel
theorem z_g6_4 : z_eqC Int32.toInt64 (fun h => fL_dropLast 3000 0 (Int32.ofInt (4)) 243 h) (fun h => gM_dropLast 3000 232 (Int32.ofInt (4)) h) (fun h => fM_thrown 3000 232 h) 243 za_h2 = true := by decide +kernel
theorem z_g6_5 : z_eqC Int32.toInt64 (fun h => fL_dropLast 3000 0 (Int32.ofInt (5)) 243 h) (fun h => gM_dropLast 3000 232 (Int32.ofInt (5)) h) (fun h => fM_thrown 3000 232 h) 243 za_h2 = true := by decide +kernel
theorem z_g6_6 : z_eqC Int32.toInt64 (fun h => fL_dropLast 3000 0 (Int32.ofInt (6)) 243 h) (fun h => gM_dropLast 3000 232 (Int32.ofInt (6)) h) (fun h => fM_thrown 3000 232 h) 243 za_h2 = true := by decide +kernel
theorem z_g6_7 : z_eqC Int32.toInt64 (fun h => fL_dropLast 3000 0 (Int32.ofInt (7)) 243 h) (fun h => gM_dropLast 3000 232 (Int32.ofInt (7)) h) (fun h => fM_thrown 3000 232 h) 243 za_h2 = true := by decide +kernel
theorem z_g6_8 : z_eqC Int32.toInt64 (fun h => fL_dropLast 3000 0 (Int32.ofInt (8)) 243 h) (fun h => gM_dropLast 3000 232 (Int32.ofInt (8)) h) (fun h => fM_thrown 3000 232 h) 243 za_h2 = true := by decide +kernel
theorem z_g6_9 : z_eqC Int32.toInt64 (fun h => fL_dropLast 3000 0 (Int32.ofInt (9)) 243 h) (fun h => gM_dropLast 3000 232 (Int32.ofInt (9)) h) (fun h => fM_thrown 3000 232 h) 243 za_h2 = true := by decide +kernel
theorem z_g6_10 : z_eqC Int32.toInt64 (fun h => fL_dropLast 3000 0 (Int32.ofInt (10)) 243 h) (fun h => gM_dropLast 3000 232 (Int32.ofInt (10)) h) (fun h => fM_thrown 3000 232 h) 243 za_h2 = true := by decide +kernel
theorem z_g6_11 : z_eqC Int32.toInt64 (fun h => fL_dropLast 3000 0 (Int32.ofInt (11)) 243 h) (fun h => gM_dropLast 3000 232 (Int32.ofInt (11)) h) (fun h => fM_thrown 3000 232 h) 243 za_h2 = true := by decide +kernel
theorem z_g6_12 : z_eqC Int32.toInt64 (fun h => fL_dropLast 3000 0 (Int32.ofInt (12)) 243 h) (fun h => gM_dropLast 3000 232 (Int32.ofInt (12)) h) (fun h => fM_thrown 3000 232 h) 243 za_h2 = true := by decide +kernel
theorem z_g6_13 : z_eqC Int32.toInt64 (fun h => fL_dropLast 3000 0 (Int32.ofInt (13)) 243 h) (fun h => gM_dropLast 3000 232 (Int32.ofInt (13)) h) (fun h => fM_thrown 3000 232 h) 243 za_h2 = true := by decide +kernel
theorem z_g6_14 : z_eqC Int32.toInt64 (fun h => fL_dropLast 3000 0 (Int32.ofInt (14)) 243 h) (fun h => gM_dropLast 3000 232 (Int32.ofInt (14)) h) (fun h => fM_thrown 3000 232 h) 243 za_h2 = true := by decide +kernel
theorem z_f6 (x : Int32) : z_eqC Int32.toInt64 (fun h => fL_dropLast 3000 0 x 243 h) (fun h => fM_dropLast 3000 232 x h) (fun h => fM_thrown 3000 232 h) 243 za_h2 = true := by
  by_cases h0 : x.toInt < 0
  · have a1 : z_cmp .lt x (Int32.ofInt (0)) = true := by rw [zj_lt x (0) (by decide)]; exact decide_eq_true (by omega)
    have a2 : z_cmp .gt x (Int32.ofInt (14)) = false := by rw [zj_gt x (14) (by decide)]; exact decide_eq_false (by omega)
    have a3 : z_cmp .ge x (Int32.ofInt (15)) = false := by rw [zj_ge x (15) (by decide)]; exact decide_eq_false (by omega)
    have a4 : z_cmp .le x (Int32.ofInt (14)) = true := by rw [zj_le x (14) (by decide)]; exact decide_eq_true (by omega)
    have a5 : z_cmp .gt x (Int32.ofInt (15) - Int32.ofInt 1) = false := by rw [show Int32.ofInt (15) - Int32.ofInt 1 = Int32.ofInt (14) from rfl, zj_gt x (14) (by decide)]; exact decide_eq_false (by omega)
    have a6 : z_cmp .ge x (Int32.ofInt (0)) = false := by rw [zj_ge x (0) (by decide)]; exact decide_eq_false (by omega)
    simp only [z_eqA, z_eqC, fB_checkCount, fB_checkCount_18, fB_dropLast, fL_dropLast, fM_dropLast, fM_dropLast_20, fM_in, fM_in_14, fM_in_15, fM_thrown, fM_throwsOne, fM_throwsOne_10, b1, b2, bX, zf_T0, zf_T1, zf_T2, zf_T5, zf_now, zf_txt, zf_sz, zf_th0, zf_th1, zf_w, zf_len, zf_kept, zf_keptM, zf_rep, zf_repT, zf_repsz, zf_repszM, zf_letB, zf_letM, zf_scr, zf_src, zf_srcsz, zf_srcszM, zf_th1r, zf_T5e, zf_e1, zf_n00, zf_e00, zf_n10, zf_e10, zf_bH0, zf_bH0b, zf_bH2, zf_bH03, zf_bH13, zf_bH22, a1, a2, a3, a4, a5, a6, cond_true, cond_false, decide_true, Bool.true_or, Bool.or_true]
    rfl
  · by_cases h1 : x.toInt < 15
    · have h2 : x.toInt = 0 ∨ x.toInt = 1 ∨ x.toInt = 2 ∨ x.toInt = 3 ∨ x.toInt = 4 ∨ x.toInt = 5 ∨ x.toInt = 6 ∨ x.toInt = 7 ∨ x.toInt = 8 ∨ x.toInt = 9 ∨ x.toInt = 10 ∨ x.toInt = 11 ∨ x.toInt = 12 ∨ x.toInt = 13 ∨ x.toInt = 14 := by omega
      rcases h2 with h2 | h2 | h2 | h2 | h2 | h2 | h2 | h2 | h2 | h2 | h2 | h2 | h2 | h2 | h2
      · rw [← zj_ofInt x, h2]; exact z_eqC_mono (fun _ => gfM_dropLast) z_g6_0
      · rw [← zj_ofInt x, h2]; exact z_eqC_mono (fun _ => gfM_dropLast) z_g6_1
      · rw [← zj_ofInt x, h2]; exact z_eqC_mono (fun _ => gfM_dropLast) z_g6_2
      · rw [← zj_ofInt x, h2]; exact z_eqC_mono (fun _ => gfM_dropLast) z_g6_3
      · rw [← zj_ofInt x, h2]; exact z_eqC_mono (fun _ => gfM_dropLast) z_g6_4
      · rw [← zj_ofInt x, h2]; exact z_eqC_mono (fun _ => gfM_dropLast) z_g6_5
      · rw [← zj_ofInt x, h2]; exact z_eqC_mono (fun _ => gfM_dropLast) z_g6_6
      · rw [← zj_ofInt x, h2]; exact z_eqC_mono (fun _ => gfM_dropLast) z_g6_7
      · rw [← zj_ofInt x, h2]; exact z_eqC_mono (fun _ => gfM_dropLast) z_g6_8
      · rw [← zj_ofInt x, h2]; exact z_eqC_mono (fun _ => gfM_dropLast) z_g6_9
      · rw [← zj_ofInt x, h2]; exact z_eqC_mono (fun _ => gfM_dropLast) z_g6_10
      · rw [← zj_ofInt x, h2]; exact z_eqC_mono (fun _ => gfM_dropLast) z_g6_11
      · rw [← zj_ofInt x, h2]; exact z_eqC_mono (fun _ => gfM_dropLast) z_g6_12
      · rw [← zj_ofInt x, h2]; exact z_eqC_mono (fun _ => gfM_dropLast) z_g6_13
      · rw [← zj_ofInt x, h2]; exact z_eqC_mono (fun _ => gfM_dropLast) z_g6_14
    · have a1 : z_cmp .lt x (Int32.ofInt (0)) = false := by rw [zj_lt x (0) (by decide)]; exact decide_eq_false (by omega)
      have a2 : z_cmp .gt x (Int32.ofInt (14)) = true := by rw [zj_gt x (14) (by decide)]; exact decide_eq_true (by omega)
      have a3 : z_cmp .ge x (Int32.ofInt (15)) = true := by rw [zj_ge x (15) (by decide)]; exact decide_eq_true (by omega)
      have a4 : z_cmp .le x (Int32.ofInt (14)) = false := by rw [zj_le x (14) (by decide)]; exact decide_eq_false (by omega)
      have a5 : z_cmp .gt x (Int32.ofInt (15) - Int32.ofInt 1) = true := by rw [show Int32.ofInt (15) - Int32.ofInt 1 = Int32.ofInt (14) from rfl, zj_gt x (14) (by decide)]; exact decide_eq_true (by omega)
      have a6 : z_cmp .ge x (Int32.ofInt (0)) = true := by rw [zj_ge x (0) (by decide)]; exact decide_eq_true (by omega)
      simp only [z_eqA, z_eqC, fB_checkCount, fB_checkCount_18, fB_dropLast, fL_dropLast, fM_dropLast, fM_dropLast_20, fM_in, fM_in_14, fM_in_15, fM_thrown, fM_throwsOne, fM_throwsOne_10, b1, b2, bX, zf_T0, zf_T1, zf_T2, zf_T5, zf_now, zf_txt, zf_sz, zf_th0, zf_th1, zf_w, zf_len, zf_kept, zf_keptM, zf_rep, zf_repT, zf_repsz, zf_repszM, zf_letB, zf_letM, zf_scr, zf_src, zf_srcsz, zf_srcszM, zf_th1r, zf_T5e, zf_e1, zf_n00, zf_e00, zf_n10, zf_e10, zf_bH0, zf_bH0b, zf_bH2, zf_bH03, zf_bH13, zf_bH22, a1, a2, a3, a4, a5, a6, cond_true, cond_false, decide_true, Bool.true_or, Bool.or_true]
      rfl
theorem z_g8_0 : z_eqC Int32.toInt64 (fun h => fL_rotate 3000 0 (Int32.ofInt (0)) 243 h) (fun h => gM_rotate 3000 232 (Int32.ofInt (0)) h) (fun h => fM_thrown 3000 232 h) 243 za_h2 = true := by decide +kernel
theorem z_g8_1 : z_eqC Int32.toInt64 (fun h => fL_rotate 3000 0 (Int32.ofInt (1)) 243 h) (fun h => gM_rotate 3000 232 (Int32.ofInt (1)) h) (fun h => fM_thrown 3000 232 h) 243 za_h2 = true := by decide +kernel
theorem z_g8_2 : z_eqC Int32.toInt64 (fun h => fL_rotate 3000 0 (Int32.ofInt (2)) 243 h) (fun h => gM_rotate 3000 232 (Int32.ofInt (2)) h) (fun h => fM_thrown 3000 232 h) 243 za_h2 = true := by decide +kernel
theorem z_g8_3 : z_eqC Int32.toInt64 (fun h => fL_rotate 3000 0 (Int32.ofInt (3)) 243 h) (fun h => gM_rotate 3000 232 (Int32.ofInt (3)) h) (fun h => fM_thrown 3000 232 h) 243 za_h2 = true := by decide +kernel
theorem z_g8_4 : z_eqC Int32.toInt64 (fun h => fL_rotate 3000 0 (Int32.ofInt (4)) 243 h) (fun h => gM_rotate 3000 232 (Int32.ofInt (4)) h) (fun h => fM_thrown 3000 232 h) 243 za_h2 = true := by decide +kernel
theorem z_g8_5 : z_eqC Int32.toInt64 (fun h => fL_rotate 3000 0 (Int32.ofInt (5)) 243 h) (fun h => gM_rotate 3000 232 (Int32.ofInt (5)) h) (fun h => fM_thrown 3000 232 h) 243 za_h2 = true := by decide +kernel
theorem z_g8_6 : z_eqC Int32.toInt64 (fun h => fL_rotate 3000 0 (Int32.ofInt (6)) 243 h) (fun h => gM_rotate 3000 232 (Int32.ofInt (6)) h) (fun h => fM_thrown 3000 232 h) 243 za_h2 = true := by decide +kernel
theorem z_g8_7 : z_eqC Int32.toInt64 (fun h => fL_rotate 3000 0 (Int32.ofInt (7)) 243 h) (fun h => gM_rotate 3000 232 (Int32.ofInt (7)) h) (fun h => fM_thrown 3000 232 h) 243 za_h2 = true := by decide +kernel
theorem z_g8_8 : z_eqC Int32.toInt64 (fun h => fL_rotate 3000 0 (Int32.ofInt (8)) 243 h) (fun h => gM_rotate 3000 232 (Int32.ofInt (8)) h) (fun h => fM_thrown 3000 232 h) 243 za_h2 = true := by decide +kernel
theorem z_g8_9 : z_eqC Int32.toInt64 (fun h => fL_rotate 3000 0 (Int32.ofInt (9)) 243 h) (fun h => gM_rotate 3000 232 (Int32.ofInt (9)) h) (fun h => fM_thrown 3000 232 h) 243 za_h2 = true := by decide +kernel
theorem z_g8_10 : z_eqC Int32.toInt64 (fun h => fL_rotate 3000 0 (Int32.ofInt (10)) 243 h) (fun h => gM_rotate 3000 232 (Int32.ofInt (10)) h) (fun h => fM_thrown 3000 232 h) 243 za_h2 = true := by decide +kernel
theorem z_g8_11 : z_eqC Int32.toInt64 (fun h => fL_rotate 3000 0 (Int32.ofInt (11)) 243 h) (fun h => gM_rotate 3000 232 (Int32.ofInt (11)) h) (fun h => fM_thrown 3000 232 h) 243 za_h2 = true := by decide +kernel
theorem z_g8_12 : z_eqC Int32.toInt64 (fun h => fL_rotate 3000 0 (Int32.ofInt (12)) 243 h) (fun h => gM_rotate 3000 232 (Int32.ofInt (12)) h) (fun h => fM_thrown 3000 232 h) 243 za_h2 = true := by decide +kernel
theorem z_g8_13 : z_eqC Int32.toInt64 (fun h => fL_rotate 3000 0 (Int32.ofInt (13)) 243 h) (fun h => gM_rotate 3000 232 (Int32.ofInt (13)) h) (fun h => fM_thrown 3000 232 h) 243 za_h2 = true := by decide +kernel
theorem z_g8_14 : z_eqC Int32.toInt64 (fun h => fL_rotate 3000 0 (Int32.ofInt (14)) 243 h) (fun h => gM_rotate 3000 232 (Int32.ofInt (14)) h) (fun h => fM_thrown 3000 232 h) 243 za_h2 = true := by decide +kernel
theorem z_f8 (x : Int32) : z_eqC Int32.toInt64 (fun h => fL_rotate 3000 0 x 243 h) (fun h => fM_rotate 3000 232 x h) (fun h => fM_thrown 3000 232 h) 243 za_h2 = true := by
  by_cases h0 : x.toInt < 0
  · have a1 : z_cmp .lt x (Int32.ofInt (0)) = true := by rw [zj_lt x (0) (by decide)]; exact decide_eq_true (by omega)
    have a2 : z_cmp .gt x (Int32.ofInt (14)) = false := by rw [zj_gt x (14) (by decide)]; exact decide_eq_false (by omega)
    have a3 : z_cmp .ge x (Int32.ofInt (15)) = false := by rw [zj_ge x (15) (by decide)]; exact decide_eq_false (by omega)
    have a4 : z_cmp .le x (Int32.ofInt (14)) = true := by rw [zj_le x (14) (by decide)]; exact decide_eq_true (by omega)
    have a5 : z_cmp .gt x (Int32.ofInt (15) - Int32.ofInt 1) = false := by rw [show Int32.ofInt (15) - Int32.ofInt 1 = Int32.ofInt (14) from rfl, zj_gt x (14) (by decide)]; exact decide_eq_false (by omega)
    have a6 : z_cmp .ge x (Int32.ofInt (0)) = false := by rw [zj_ge x (0) (by decide)]; exact decide_eq_false (by omega)
    simp only [z_eqA, z_eqC, fB_checkCount, fB_checkCount_18, fB_rotate, fL_rotate, fM_in, fM_in_14, fM_in_15, fM_rotate, fM_rotate_20, fM_thrown, fM_throwsOne, fM_throwsOne_10, b1, b2, bX, zf_T0, zf_T1, zf_T2, zf_T5, zf_now, zf_txt, zf_sz, zf_th0, zf_th1, zf_w, zf_len, zf_kept, zf_keptM, zf_rep, zf_repT, zf_repsz, zf_repszM, zf_letB, zf_letM, zf_scr, zf_src, zf_srcsz, zf_srcszM, zf_th1r, zf_T5e, zf_e1, zf_n00, zf_e00, zf_n10, zf_e10, zf_bH0, zf_bH0b, zf_bH2, zf_bH03, zf_bH13, zf_bH22, a1, a2, a3, a4, a5, a6, cond_true, cond_false, decide_true, Bool.true_or, Bool.or_true]
    rfl
  · by_cases h1 : x.toInt < 15
    · have h2 : x.toInt = 0 ∨ x.toInt = 1 ∨ x.toInt = 2 ∨ x.toInt = 3 ∨ x.toInt = 4 ∨ x.toInt = 5 ∨ x.toInt = 6 ∨ x.toInt = 7 ∨ x.toInt = 8 ∨ x.toInt = 9 ∨ x.toInt = 10 ∨ x.toInt = 11 ∨ x.toInt = 12 ∨ x.toInt = 13 ∨ x.toInt = 14 := by omega
      rcases h2 with h2 | h2 | h2 | h2 | h2 | h2 | h2 | h2 | h2 | h2 | h2 | h2 | h2 | h2 | h2
      · rw [← zj_ofInt x, h2]; exact z_eqC_mono (fun _ => gfM_rotate) z_g8_0
      · rw [← zj_ofInt x, h2]; exact z_eqC_mono (fun _ => gfM_rotate) z_g8_1
      · rw [← zj_ofInt x, h2]; exact z_eqC_mono (fun _ => gfM_rotate) z_g8_2
      · rw [← zj_ofInt x, h2]; exact z_eqC_mono (fun _ => gfM_rotate) z_g8_3
      · rw [← zj_ofInt x, h2]; exact z_eqC_mono (fun _ => gfM_rotate) z_g8_4
      · rw [← zj_ofInt x, h2]; exact z_eqC_mono (fun _ => gfM_rotate) z_g8_5
      · rw [← zj_ofInt x, h2]; exact z_eqC_mono (fun _ => gfM_rotate) z_g8_6
      · rw [← zj_ofInt x, h2]; exact z_eqC_mono (fun _ => gfM_rotate) z_g8_7
      · rw [← zj_ofInt x, h2]; exact z_eqC_mono (fun _ => gfM_rotate) z_g8_8
      · rw [← zj_ofInt x, h2]; exact z_eqC_mono (fun _ => gfM_rotate) z_g8_9
      · rw [← zj_ofInt x, h2]; exact z_eqC_mono (fun _ => gfM_rotate) z_g8_10
      · rw [← zj_ofInt x, h2]; exact z_eqC_mono (fun _ => gfM_rotate) z_g8_11
      · rw [← zj_ofInt x, h2]; exact z_eqC_mono (fun _ => gfM_rotate) z_g8_12
      · rw [← zj_ofInt x, h2]; exact z_eqC_mono (fun _ => gfM_rotate) z_g8_13
      · rw [← zj_ofInt x, h2]; exact z_eqC_mono (fun _ => gfM_rotate) z_g8_14
    · have a1 : z_cmp .lt x (Int32.ofInt (0)) = false := by rw [zj_lt x (0) (by decide)]; exact decide_eq_false (by omega)
      have a2 : z_cmp .gt x (Int32.ofInt (14)) = true := by rw [zj_gt x (14) (by decide)]; exact decide_eq_true (by omega)
      have a3 : z_cmp .ge x (Int32.ofInt (15)) = true := by rw [zj_ge x (15) (by decide)]; exact decide_eq_true (by omega)
      have a4 : z_cmp .le x (Int32.ofInt (14)) = false := by rw [zj_le x (14) (by decide)]; exact decide_eq_false (by omega)
      have a5 : z_cmp .gt x (Int32.ofInt (15) - Int32.ofInt 1) = true := by rw [show Int32.ofInt (15) - Int32.ofInt 1 = Int32.ofInt (14) from rfl, zj_gt x (14) (by decide)]; exact decide_eq_true (by omega)
      have a6 : z_cmp .ge x (Int32.ofInt (0)) = true := by rw [zj_ge x (0) (by decide)]; exact decide_eq_true (by omega)
      simp only [z_eqA, z_eqC, fB_checkCount, fB_checkCount_18, fB_rotate, fL_rotate, fM_in, fM_in_14, fM_in_15, fM_rotate, fM_rotate_20, fM_thrown, fM_throwsOne, fM_throwsOne_10, b1, b2, bX, zf_T0, zf_T1, zf_T2, zf_T5, zf_now, zf_txt, zf_sz, zf_th0, zf_th1, zf_w, zf_len, zf_kept, zf_keptM, zf_rep, zf_repT, zf_repsz, zf_repszM, zf_letB, zf_letM, zf_scr, zf_src, zf_srcsz, zf_srcszM, zf_th1r, zf_T5e, zf_e1, zf_n00, zf_e00, zf_n10, zf_e10, zf_bH0, zf_bH0b, zf_bH2, zf_bH03, zf_bH13, zf_bH22, a1, a2, a3, a4, a5, a6, cond_true, cond_false, decide_true, Bool.true_or, Bool.or_true]
      rfl
