/-! THE FIRST CALL: cases with one argument. -/
set_option linter.unusedSimpArgs false
theorem z_f24i : ((List.range 14).all fun i => z_eqA (fun h => fB_letterAt 3000 0 (Int32.ofInt (i + (0))) h) (fun h => fM_letterAt 3000 232 (Int32.ofInt (i + (0))) h) za_h2) = true := by decide +kernel
theorem z_f24 (x : Int32) : z_eqA (fun h => fB_letterAt 3000 0 x h) (fun h => fM_letterAt 3000 232 x h) za_h2 = true := by
  by_cases h0 : x.toInt < 0
  · have a1 : z_cmp .lt x (Int32.ofInt (0)) = true := by rw [zj_lt x (0) (by decide)]; exact decide_eq_true (by omega)
    have a2 : z_cmp .gt x (Int32.ofInt (13)) = false := by rw [zj_gt x (13) (by decide)]; exact decide_eq_false (by omega)
    have a3 : z_cmp .ge x (Int32.ofInt (14)) = false := by rw [zj_ge x (14) (by decide)]; exact decide_eq_false (by omega)
    have a4 : z_cmp .le x (Int32.ofInt (13)) = true := by rw [zj_le x (13) (by decide)]; exact decide_eq_true (by omega)
    have a5 : z_cmp .gt x (Int32.ofInt (14) - Int32.ofInt 1) = false := by rw [show Int32.ofInt (14) - Int32.ofInt 1 = Int32.ofInt (13) from rfl, zj_gt x (13) (by decide)]; exact decide_eq_false (by omega)
    have a6 : z_cmp .ge x (Int32.ofInt (0)) = false := by rw [zj_ge x (0) (by decide)]; exact decide_eq_false (by omega)
    simp only [z_eqA, z_eqC, fB_letterAt, fM_in, fM_in_14, fM_in_15, fM_letterAt, fM_letterAt_36, fW_at, fW_at_34, fW_at_35, b1, b2, bX, zf_T0, zf_T1, zf_T2, zf_T5, zf_now, zf_txt, zf_sz, zf_th0, zf_th1, zf_w, zf_len, zf_kept, zf_keptM, zf_rep, zf_repT, zf_repsz, zf_repszM, zf_letB, zf_letM, zf_scr, zf_src, zf_srcsz, zf_srcszM, zf_th1r, zf_T5e, zf_bH0, zf_bH0b, zf_bH2, a1, a2, a3, a4, a5, a6, cond_true, cond_false]
    rfl
  · by_cases h1 : x.toInt < 14
    · exact zj_all (f := fun x => z_eqA (fun h => fB_letterAt 3000 0 x h) (fun h => fM_letterAt 3000 232 x h) za_h2) (lo := 0) z_f24i x (by omega) (by omega)
    · have a1 : z_cmp .lt x (Int32.ofInt (0)) = false := by rw [zj_lt x (0) (by decide)]; exact decide_eq_false (by omega)
      have a2 : z_cmp .gt x (Int32.ofInt (13)) = true := by rw [zj_gt x (13) (by decide)]; exact decide_eq_true (by omega)
      have a3 : z_cmp .ge x (Int32.ofInt (14)) = true := by rw [zj_ge x (14) (by decide)]; exact decide_eq_true (by omega)
      have a4 : z_cmp .le x (Int32.ofInt (13)) = false := by rw [zj_le x (13) (by decide)]; exact decide_eq_false (by omega)
      have a5 : z_cmp .gt x (Int32.ofInt (14) - Int32.ofInt 1) = true := by rw [show Int32.ofInt (14) - Int32.ofInt 1 = Int32.ofInt (13) from rfl, zj_gt x (13) (by decide)]; exact decide_eq_true (by omega)
      have a6 : z_cmp .ge x (Int32.ofInt (0)) = true := by rw [zj_ge x (0) (by decide)]; exact decide_eq_true (by omega)
      simp only [z_eqA, z_eqC, fB_letterAt, fM_in, fM_in_14, fM_in_15, fM_letterAt, fM_letterAt_36, fW_at, fW_at_34, fW_at_35, b1, b2, bX, zf_T0, zf_T1, zf_T2, zf_T5, zf_now, zf_txt, zf_sz, zf_th0, zf_th1, zf_w, zf_len, zf_kept, zf_keptM, zf_rep, zf_repT, zf_repsz, zf_repszM, zf_letB, zf_letM, zf_scr, zf_src, zf_srcsz, zf_srcszM, zf_th1r, zf_T5e, zf_bH0, zf_bH0b, zf_bH2, a1, a2, a3, a4, a5, a6, cond_true, cond_false]
      rfl
theorem z_f58 (x : Int32) : z_eqA (fun h => fB_reportByte 3000 0 x h) (fun h => fM_reportByte 3000 232 x h) za_h2 = true := by
  by_cases h0 : x.toInt < 0
  · have a1 : z_cmp .lt x (Int32.ofInt (0)) = true := by rw [zj_lt x (0) (by decide)]; exact decide_eq_true (by omega)
    have a2 : z_cmp .gt x (Int32.ofInt (-1)) = false := by rw [zj_gt x (-1) (by decide)]; exact decide_eq_false (by omega)
    have a3 : z_cmp .ge x (Int32.ofInt (0)) = false := by rw [zj_ge x (0) (by decide)]; exact decide_eq_false (by omega)
    have a4 : z_cmp .le x (Int32.ofInt (-1)) = true := by rw [zj_le x (-1) (by decide)]; exact decide_eq_true (by omega)
    have a5 : z_cmp .gt x (Int32.ofInt (0) - Int32.ofInt 1) = false := by rw [show Int32.ofInt (0) - Int32.ofInt 1 = Int32.ofInt (-1) from rfl, zj_gt x (-1) (by decide)]; exact decide_eq_false (by omega)
    have a6 : z_cmp .ge x (Int32.ofInt (0)) = false := by rw [zj_ge x (0) (by decide)]; exact decide_eq_false (by omega)
    simp only [z_eqA, z_eqC, fB_reportByte, fM_in, fM_in_14, fM_in_15, fM_reportByte, fM_reportByte_29, fW_at, fW_at_34, fW_at_35, b1, b2, bX, zf_T0, zf_T1, zf_T2, zf_T5, zf_now, zf_txt, zf_sz, zf_th0, zf_th1, zf_w, zf_len, zf_kept, zf_keptM, zf_rep, zf_repT, zf_repsz, zf_repszM, zf_letB, zf_letM, zf_scr, zf_src, zf_srcsz, zf_srcszM, zf_th1r, zf_T5e, zf_bH0, zf_bH0b, zf_bH2, a1, a2, a3, a4, a5, a6, cond_true, cond_false]
    rfl
  · have a1 : z_cmp .lt x (Int32.ofInt (0)) = false := by rw [zj_lt x (0) (by decide)]; exact decide_eq_false (by omega)
    have a2 : z_cmp .gt x (Int32.ofInt (-1)) = true := by rw [zj_gt x (-1) (by decide)]; exact decide_eq_true (by omega)
    have a3 : z_cmp .ge x (Int32.ofInt (0)) = true := by rw [zj_ge x (0) (by decide)]; exact decide_eq_true (by omega)
    have a4 : z_cmp .le x (Int32.ofInt (-1)) = false := by rw [zj_le x (-1) (by decide)]; exact decide_eq_false (by omega)
    have a5 : z_cmp .gt x (Int32.ofInt (0) - Int32.ofInt 1) = true := by rw [show Int32.ofInt (0) - Int32.ofInt 1 = Int32.ofInt (-1) from rfl, zj_gt x (-1) (by decide)]; exact decide_eq_true (by omega)
    have a6 : z_cmp .ge x (Int32.ofInt (0)) = true := by rw [zj_ge x (0) (by decide)]; exact decide_eq_true (by omega)
    simp only [z_eqA, z_eqC, fB_reportByte, fM_in, fM_in_14, fM_in_15, fM_reportByte, fM_reportByte_29, fW_at, fW_at_34, fW_at_35, b1, b2, bX, zf_T0, zf_T1, zf_T2, zf_T5, zf_now, zf_txt, zf_sz, zf_th0, zf_th1, zf_w, zf_len, zf_kept, zf_keptM, zf_rep, zf_repT, zf_repsz, zf_repszM, zf_letB, zf_letM, zf_scr, zf_src, zf_srcsz, zf_srcszM, zf_th1r, zf_T5e, zf_bH0, zf_bH0b, zf_bH2, a1, a2, a3, a4, a5, a6, cond_true, cond_false]
    rfl
theorem z_f50i : ((List.range 2).all fun i => z_eqC Int32.toInt64 (fun h => fL_keptLength 3000 0 (Int32.ofInt (i + (0))) 243 h) (fun h => fM_keptLength 3000 232 (Int32.ofInt (i + (0))) h) (fun h => fM_thrown 3000 232 h) 243 za_h2) = true := by decide +kernel
theorem z_f50 (x : Int32) : z_eqC Int32.toInt64 (fun h => fL_keptLength 3000 0 x 243 h) (fun h => fM_keptLength 3000 232 x h) (fun h => fM_thrown 3000 232 h) 243 za_h2 = true := by
  by_cases h0 : x.toInt < 0
  · have a1 : z_cmp .lt x (Int32.ofInt (0)) = true := by rw [zj_lt x (0) (by decide)]; exact decide_eq_true (by omega)
    have a2 : z_cmp .gt x (Int32.ofInt (1)) = false := by rw [zj_gt x (1) (by decide)]; exact decide_eq_false (by omega)
    have a3 : z_cmp .ge x (Int32.ofInt (2)) = false := by rw [zj_ge x (2) (by decide)]; exact decide_eq_false (by omega)
    have a4 : z_cmp .le x (Int32.ofInt (1)) = true := by rw [zj_le x (1) (by decide)]; exact decide_eq_true (by omega)
    have a5 : z_cmp .gt x (Int32.ofInt (2) - Int32.ofInt 1) = false := by rw [show Int32.ofInt (2) - Int32.ofInt 1 = Int32.ofInt (1) from rfl, zj_gt x (1) (by decide)]; exact decide_eq_false (by omega)
    have a6 : z_cmp .ge x (Int32.ofInt (0)) = false := by rw [zj_ge x (0) (by decide)]; exact decide_eq_false (by omega)
    simp only [z_eqA, z_eqC, fB_keptLength, fL_keptLength, fM_in, fM_in_14, fM_in_15, fM_isShelved, fM_keptLength, fM_keptLength_14, fM_keptLength_33, fM_thrown, fM_throwsOne, fM_throwsOne_10, fS_keptAt, fS_keptAt_30, fS_keptAt_31, b1, b2, bX, zf_T0, zf_T1, zf_T2, zf_T5, zf_now, zf_txt, zf_sz, zf_th0, zf_th1, zf_w, zf_len, zf_kept, zf_keptM, zf_rep, zf_repT, zf_repsz, zf_repszM, zf_letB, zf_letM, zf_scr, zf_src, zf_srcsz, zf_srcszM, zf_th1r, zf_T5e, zf_bH0, zf_bH0b, zf_bH2, a1, a2, a3, a4, a5, a6, cond_true, cond_false]
    rfl
  · by_cases h1 : x.toInt < 2
    · exact zj_all (f := fun x => z_eqC Int32.toInt64 (fun h => fL_keptLength 3000 0 x 243 h) (fun h => fM_keptLength 3000 232 x h) (fun h => fM_thrown 3000 232 h) 243 za_h2) (lo := 0) z_f50i x (by omega) (by omega)
    · have a1 : z_cmp .lt x (Int32.ofInt (0)) = false := by rw [zj_lt x (0) (by decide)]; exact decide_eq_false (by omega)
      have a2 : z_cmp .gt x (Int32.ofInt (1)) = true := by rw [zj_gt x (1) (by decide)]; exact decide_eq_true (by omega)
      have a3 : z_cmp .ge x (Int32.ofInt (2)) = true := by rw [zj_ge x (2) (by decide)]; exact decide_eq_true (by omega)
      have a4 : z_cmp .le x (Int32.ofInt (1)) = false := by rw [zj_le x (1) (by decide)]; exact decide_eq_false (by omega)
      have a5 : z_cmp .gt x (Int32.ofInt (2) - Int32.ofInt 1) = true := by rw [show Int32.ofInt (2) - Int32.ofInt 1 = Int32.ofInt (1) from rfl, zj_gt x (1) (by decide)]; exact decide_eq_true (by omega)
      have a6 : z_cmp .ge x (Int32.ofInt (0)) = true := by rw [zj_ge x (0) (by decide)]; exact decide_eq_true (by omega)
      simp only [z_eqA, z_eqC, fB_keptLength, fL_keptLength, fM_in, fM_in_14, fM_in_15, fM_isShelved, fM_keptLength, fM_keptLength_14, fM_keptLength_33, fM_thrown, fM_throwsOne, fM_throwsOne_10, fS_keptAt, fS_keptAt_30, fS_keptAt_31, b1, b2, bX, zf_T0, zf_T1, zf_T2, zf_T5, zf_now, zf_txt, zf_sz, zf_th0, zf_th1, zf_w, zf_len, zf_kept, zf_keptM, zf_rep, zf_repT, zf_repsz, zf_repszM, zf_letB, zf_letM, zf_scr, zf_src, zf_srcsz, zf_srcszM, zf_th1r, zf_T5e, zf_bH0, zf_bH0b, zf_bH2, a1, a2, a3, a4, a5, a6, cond_true, cond_false]
      rfl
theorem z_f46i : ((List.range 18).all fun i => z_eqC id (fun h => fL_lyndonWords 3000 0 (Int32.ofInt (i + (1))) 243 h) (fun h => fM_lyndonWords 3000 232 (Int32.ofInt (i + (1))) h) (fun h => fM_thrown 3000 232 h) 243 za_h2) = true := by decide +kernel
theorem z_f46 (x : Int32) : z_eqC id (fun h => fL_lyndonWords 3000 0 x 243 h) (fun h => fM_lyndonWords 3000 232 x h) (fun h => fM_thrown 3000 232 h) 243 za_h2 = true := by
  by_cases h0 : x.toInt < 1
  · have a1 : z_cmp .lt x (Int32.ofInt (1)) = true := by rw [zj_lt x (1) (by decide)]; exact decide_eq_true (by omega)
    have a2 : z_cmp .gt x (Int32.ofInt (18)) = false := by rw [zj_gt x (18) (by decide)]; exact decide_eq_false (by omega)
    have a3 : z_cmp .ge x (Int32.ofInt (19)) = false := by rw [zj_ge x (19) (by decide)]; exact decide_eq_false (by omega)
    have a4 : z_cmp .le x (Int32.ofInt (18)) = true := by rw [zj_le x (18) (by decide)]; exact decide_eq_true (by omega)
    have a5 : z_cmp .gt x (Int32.ofInt (19) - Int32.ofInt 1) = false := by rw [show Int32.ofInt (19) - Int32.ofInt 1 = Int32.ofInt (18) from rfl, zj_gt x (18) (by decide)]; exact decide_eq_false (by omega)
    have a6 : z_cmp .ge x (Int32.ofInt (1)) = false := by rw [zj_ge x (1) (by decide)]; exact decide_eq_false (by omega)
    simp only [z_eqA, z_eqC, fB_checkCountedLength, fB_checkCountedLength_11, fB_lyndonWords, fB_weighPowers, fL_lyndonWords, fM_in, fM_in_14, fM_in_15, fM_lyndonWords, fM_lyndonWords_16, fM_lyndonWords_34, fM_thrown, fM_throwsOne, fM_throwsOne_10, b1, b2, bX, zf_T0, zf_T1, zf_T2, zf_T5, zf_now, zf_txt, zf_sz, zf_th0, zf_th1, zf_w, zf_len, zf_kept, zf_keptM, zf_rep, zf_repT, zf_repsz, zf_repszM, zf_letB, zf_letM, zf_scr, zf_src, zf_srcsz, zf_srcszM, zf_th1r, zf_T5e, zf_bH0, zf_bH0b, zf_bH2, a1, a2, a3, a4, a5, a6, cond_true, cond_false]
    rfl
  · by_cases h1 : x.toInt < 19
    · exact zj_all (f := fun x => z_eqC id (fun h => fL_lyndonWords 3000 0 x 243 h) (fun h => fM_lyndonWords 3000 232 x h) (fun h => fM_thrown 3000 232 h) 243 za_h2) (lo := 1) z_f46i x (by omega) (by omega)
    · have a1 : z_cmp .lt x (Int32.ofInt (1)) = false := by rw [zj_lt x (1) (by decide)]; exact decide_eq_false (by omega)
      have a2 : z_cmp .gt x (Int32.ofInt (18)) = true := by rw [zj_gt x (18) (by decide)]; exact decide_eq_true (by omega)
      have a3 : z_cmp .ge x (Int32.ofInt (19)) = true := by rw [zj_ge x (19) (by decide)]; exact decide_eq_true (by omega)
      have a4 : z_cmp .le x (Int32.ofInt (18)) = false := by rw [zj_le x (18) (by decide)]; exact decide_eq_false (by omega)
      have a5 : z_cmp .gt x (Int32.ofInt (19) - Int32.ofInt 1) = true := by rw [show Int32.ofInt (19) - Int32.ofInt 1 = Int32.ofInt (18) from rfl, zj_gt x (18) (by decide)]; exact decide_eq_true (by omega)
      have a6 : z_cmp .ge x (Int32.ofInt (1)) = true := by rw [zj_ge x (1) (by decide)]; exact decide_eq_true (by omega)
      simp only [z_eqA, z_eqC, fB_checkCountedLength, fB_checkCountedLength_11, fB_lyndonWords, fB_weighPowers, fL_lyndonWords, fM_in, fM_in_14, fM_in_15, fM_lyndonWords, fM_lyndonWords_16, fM_lyndonWords_34, fM_thrown, fM_throwsOne, fM_throwsOne_10, b1, b2, bX, zf_T0, zf_T1, zf_T2, zf_T5, zf_now, zf_txt, zf_sz, zf_th0, zf_th1, zf_w, zf_len, zf_kept, zf_keptM, zf_rep, zf_repT, zf_repsz, zf_repszM, zf_letB, zf_letM, zf_scr, zf_src, zf_srcsz, zf_srcszM, zf_th1r, zf_T5e, zf_bH0, zf_bH0b, zf_bH2, a1, a2, a3, a4, a5, a6, cond_true, cond_false]
      rfl
theorem z_f47i : ((List.range 18).all fun i => z_eqC id (fun h => fL_necklaces 3000 0 (Int32.ofInt (i + (1))) 243 h) (fun h => fM_necklaces 3000 232 (Int32.ofInt (i + (1))) h) (fun h => fM_thrown 3000 232 h) 243 za_h2) = true := by decide +kernel
theorem z_f47 (x : Int32) : z_eqC id (fun h => fL_necklaces 3000 0 x 243 h) (fun h => fM_necklaces 3000 232 x h) (fun h => fM_thrown 3000 232 h) 243 za_h2 = true := by
  by_cases h0 : x.toInt < 1
  · have a1 : z_cmp .lt x (Int32.ofInt (1)) = true := by rw [zj_lt x (1) (by decide)]; exact decide_eq_true (by omega)
    have a2 : z_cmp .gt x (Int32.ofInt (18)) = false := by rw [zj_gt x (18) (by decide)]; exact decide_eq_false (by omega)
    have a3 : z_cmp .ge x (Int32.ofInt (19)) = false := by rw [zj_ge x (19) (by decide)]; exact decide_eq_false (by omega)
    have a4 : z_cmp .le x (Int32.ofInt (18)) = true := by rw [zj_le x (18) (by decide)]; exact decide_eq_true (by omega)
    have a5 : z_cmp .gt x (Int32.ofInt (19) - Int32.ofInt 1) = false := by rw [show Int32.ofInt (19) - Int32.ofInt 1 = Int32.ofInt (18) from rfl, zj_gt x (18) (by decide)]; exact decide_eq_false (by omega)
    have a6 : z_cmp .ge x (Int32.ofInt (1)) = false := by rw [zj_ge x (1) (by decide)]; exact decide_eq_false (by omega)
    simp only [z_eqA, z_eqC, fB_checkCountedLength, fB_checkCountedLength_11, fB_necklaces, fB_weighPowers, fL_necklaces, fM_in, fM_in_14, fM_in_15, fM_necklaces, fM_necklaces_16, fM_necklaces_31, fM_rings, fM_thrown, fM_throwsOne, fM_throwsOne_10, b1, b2, bX, zf_T0, zf_T1, zf_T2, zf_T5, zf_now, zf_txt, zf_sz, zf_th0, zf_th1, zf_w, zf_len, zf_kept, zf_keptM, zf_rep, zf_repT, zf_repsz, zf_repszM, zf_letB, zf_letM, zf_scr, zf_src, zf_srcsz, zf_srcszM, zf_th1r, zf_T5e, zf_bH0, zf_bH0b, zf_bH2, a1, a2, a3, a4, a5, a6, cond_true, cond_false]
    rfl
  · by_cases h1 : x.toInt < 19
    · exact zj_all (f := fun x => z_eqC id (fun h => fL_necklaces 3000 0 x 243 h) (fun h => fM_necklaces 3000 232 x h) (fun h => fM_thrown 3000 232 h) 243 za_h2) (lo := 1) z_f47i x (by omega) (by omega)
    · have a1 : z_cmp .lt x (Int32.ofInt (1)) = false := by rw [zj_lt x (1) (by decide)]; exact decide_eq_false (by omega)
      have a2 : z_cmp .gt x (Int32.ofInt (18)) = true := by rw [zj_gt x (18) (by decide)]; exact decide_eq_true (by omega)
      have a3 : z_cmp .ge x (Int32.ofInt (19)) = true := by rw [zj_ge x (19) (by decide)]; exact decide_eq_true (by omega)
      have a4 : z_cmp .le x (Int32.ofInt (18)) = false := by rw [zj_le x (18) (by decide)]; exact decide_eq_false (by omega)
      have a5 : z_cmp .gt x (Int32.ofInt (19) - Int32.ofInt 1) = true := by rw [show Int32.ofInt (19) - Int32.ofInt 1 = Int32.ofInt (18) from rfl, zj_gt x (18) (by decide)]; exact decide_eq_true (by omega)
      have a6 : z_cmp .ge x (Int32.ofInt (1)) = true := by rw [zj_ge x (1) (by decide)]; exact decide_eq_true (by omega)
      simp only [z_eqA, z_eqC, fB_checkCountedLength, fB_checkCountedLength_11, fB_necklaces, fB_weighPowers, fL_necklaces, fM_in, fM_in_14, fM_in_15, fM_necklaces, fM_necklaces_16, fM_necklaces_31, fM_rings, fM_thrown, fM_throwsOne, fM_throwsOne_10, b1, b2, bX, zf_T0, zf_T1, zf_T2, zf_T5, zf_now, zf_txt, zf_sz, zf_th0, zf_th1, zf_w, zf_len, zf_kept, zf_keptM, zf_rep, zf_repT, zf_repsz, zf_repszM, zf_letB, zf_letM, zf_scr, zf_src, zf_srcsz, zf_srcszM, zf_th1r, zf_T5e, zf_bH0, zf_bH0b, zf_bH2, a1, a2, a3, a4, a5, a6, cond_true, cond_false]
      rfl
theorem z_f1i : ((List.range 1).all fun i => z_eqC Int32.toInt64 (fun h => fL_truncateInput 3000 0 (Int32.ofInt (i + (0))) 243 h) (fun h => fM_truncateInput 3000 232 (Int32.ofInt (i + (0))) h) (fun h => fM_thrown 3000 232 h) 243 za_h2) = true := by decide +kernel
theorem z_f1 (x : Int32) : z_eqC Int32.toInt64 (fun h => fL_truncateInput 3000 0 x 243 h) (fun h => fM_truncateInput 3000 232 x h) (fun h => fM_thrown 3000 232 h) 243 za_h2 = true := by
  by_cases h0 : x.toInt < 0
  · have a1 : z_cmp .lt x (Int32.ofInt (0)) = true := by rw [zj_lt x (0) (by decide)]; exact decide_eq_true (by omega)
    have a2 : z_cmp .gt x (Int32.ofInt (0)) = false := by rw [zj_gt x (0) (by decide)]; exact decide_eq_false (by omega)
    have a3 : z_cmp .ge x (Int32.ofInt (1)) = false := by rw [zj_ge x (1) (by decide)]; exact decide_eq_false (by omega)
    have a4 : z_cmp .le x (Int32.ofInt (0)) = true := by rw [zj_le x (0) (by decide)]; exact decide_eq_true (by omega)
    have a5 : z_cmp .gt x (Int32.ofInt (1) - Int32.ofInt 1) = false := by rw [show Int32.ofInt (1) - Int32.ofInt 1 = Int32.ofInt (0) from rfl, zj_gt x (0) (by decide)]; exact decide_eq_false (by omega)
    have a6 : z_cmp .ge x (Int32.ofInt (0)) = false := by rw [zj_ge x (0) (by decide)]; exact decide_eq_false (by omega)
    simp only [z_eqA, z_eqC, fB_truncateInput, fB_truncateInput_18, fL_truncateInput, fM_in, fM_in_14, fM_in_15, fM_thrown, fM_throwsOne, fM_throwsOne_10, fM_truncateInput, fM_truncateInput_18, fW_shortenTo, b1, b2, bX, zf_T0, zf_T1, zf_T2, zf_T5, zf_now, zf_txt, zf_sz, zf_th0, zf_th1, zf_w, zf_len, zf_kept, zf_keptM, zf_rep, zf_repT, zf_repsz, zf_repszM, zf_letB, zf_letM, zf_scr, zf_src, zf_srcsz, zf_srcszM, zf_th1r, zf_T5e, zf_bH0, zf_bH0b, zf_bH2, a1, a2, a3, a4, a5, a6, cond_true, cond_false]
    rfl
  · by_cases h1 : x.toInt < 1
    · exact zj_all (f := fun x => z_eqC Int32.toInt64 (fun h => fL_truncateInput 3000 0 x 243 h) (fun h => fM_truncateInput 3000 232 x h) (fun h => fM_thrown 3000 232 h) 243 za_h2) (lo := 0) z_f1i x (by omega) (by omega)
    · have a1 : z_cmp .lt x (Int32.ofInt (0)) = false := by rw [zj_lt x (0) (by decide)]; exact decide_eq_false (by omega)
      have a2 : z_cmp .gt x (Int32.ofInt (0)) = true := by rw [zj_gt x (0) (by decide)]; exact decide_eq_true (by omega)
      have a3 : z_cmp .ge x (Int32.ofInt (1)) = true := by rw [zj_ge x (1) (by decide)]; exact decide_eq_true (by omega)
      have a4 : z_cmp .le x (Int32.ofInt (0)) = false := by rw [zj_le x (0) (by decide)]; exact decide_eq_false (by omega)
      have a5 : z_cmp .gt x (Int32.ofInt (1) - Int32.ofInt 1) = true := by rw [show Int32.ofInt (1) - Int32.ofInt 1 = Int32.ofInt (0) from rfl, zj_gt x (0) (by decide)]; exact decide_eq_true (by omega)
      have a6 : z_cmp .ge x (Int32.ofInt (0)) = true := by rw [zj_ge x (0) (by decide)]; exact decide_eq_true (by omega)
      simp only [z_eqA, z_eqC, fB_truncateInput, fB_truncateInput_18, fL_truncateInput, fM_in, fM_in_14, fM_in_15, fM_thrown, fM_throwsOne, fM_throwsOne_10, fM_truncateInput, fM_truncateInput_18, fW_shortenTo, b1, b2, bX, zf_T0, zf_T1, zf_T2, zf_T5, zf_now, zf_txt, zf_sz, zf_th0, zf_th1, zf_w, zf_len, zf_kept, zf_keptM, zf_rep, zf_repT, zf_repsz, zf_repszM, zf_letB, zf_letM, zf_scr, zf_src, zf_srcsz, zf_srcszM, zf_th1r, zf_T5e, zf_bH0, zf_bH0b, zf_bH2, a1, a2, a3, a4, a5, a6, cond_true, cond_false]
      rfl
