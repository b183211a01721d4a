/-! THE FIRST CALL: cases about factors. -/
set_option linter.unusedSimpArgs false
theorem zqk_of {o : Option (Int32 × zH)} {x : Int32} (e : o.map Prod.fst = some x) : o = some (x, (o.getD (x, [])).2) := by
  cases o with
  | none => cases e
  | some p => cases e; rfl
theorem zqk_of1 {o : Option zH} (e : o.isSome = true) : o = some (o.getD []) := by
  cases o with
  | none => cases e
  | some p => rfl
def zqk_h : zH := ((fM_factors 3000 232 za_h2).getD (Int32.ofInt 3, [])).2
theorem zqk_fac : fM_factors 3000 232 za_h2 = some (Int32.ofInt 3, zqk_h) := zqk_of (by decide +kernel)
theorem zqk_T : fT zqk_h 232 5 = true := by decide +kernel
def zqk_0 : zH := (fS zqk_h 232 5 17 (.int (Int32.ofInt 0))).getD []
def zqk_1 : zH := (fS zqk_h 232 5 17 (.int (Int32.ofInt 1))).getD []
theorem zqk_S0 : fS zqk_h 232 5 17 (.int (Int32.ofInt 0)) = some zqk_0 := zqk_of1 (by decide +kernel)
theorem zqk_S1 : fS zqk_h 232 5 17 (.int (Int32.ofInt 1)) = some zqk_1 := zqk_of1 (by decide +kernel)
theorem zqk_1T : fT zqk_1 232 5 = true := by decide +kernel
theorem zqk_1t : fI zqk_1 232 5 17 = some (Int32.ofInt 1) := by decide +kernel
theorem zqk_R : fR zqk_h 232 5 9 = some 240 := by decide +kernel
theorem zj_geL (x : Int32) (c : Int) (hc : -2147483648 ≤ c ∧ c < 2147483648) : z_cmp .ge (Int32.ofInt c) x = decide (x.toInt ≤ c) := by
  refine decide_eq_decide.mpr ?_
  rw [Int32.le_iff_toInt_le, Int32.toInt_ofInt_of_le hc.1 hc.2]
theorem zj_gtL (x : Int32) (c : Int) (hc : -2147483648 ≤ c ∧ c < 2147483648) : z_cmp .gt (Int32.ofInt c) x = decide (x.toInt < c) := by
  refine decide_eq_decide.mpr ?_
  rw [Int32.lt_iff_toInt_lt, Int32.toInt_ofInt_of_le hc.1 hc.2]
theorem zqk_s0 : fAI zqk_h 240 100 (Int32.ofInt 0) = some (Int32.ofInt 0) := by decide +kernel
theorem zqk_s1 : fAI zqk_h 240 100 (Int32.ofInt 1) = some (Int32.ofInt 2) := by decide +kernel
theorem zqk_s2 : fAI zqk_h 240 100 (Int32.ofInt 2) = some (Int32.ofInt 4) := by decide +kernel
theorem zqk_s3 : fAI zqk_h 240 100 (Int32.ofInt 3) = some (Int32.ofInt 14) := by decide +kernel
theorem zqk_e0 : fW_factorEnd 3000 2 (Int32.ofInt 0) (Int32.ofInt 0) za_h2 = some (Int32.ofInt 2, za_h2) := by decide +kernel
theorem zqk_e1 : fW_factorEnd 3000 2 (Int32.ofInt 0) (Int32.ofInt 2) za_h2 = some (Int32.ofInt 4, za_h2) := by decide +kernel
theorem zqk_e2 : fW_factorEnd 3000 2 (Int32.ofInt 2) (Int32.ofInt 4) za_h2 = some (Int32.ofInt 14, za_h2) := by decide +kernel
theorem zqk_g0 : z_cmp .ge (Int32.ofInt 0) (Int32.ofInt 14) = false := rfl
theorem zqk_g1 : z_cmp .ge (Int32.ofInt 2) (Int32.ofInt 14) = false := rfl
theorem zqk_g2 : z_cmp .ge (Int32.ofInt 4) (Int32.ofInt 14) = false := rfl
theorem zqk_g3 : z_cmp .ge (Int32.ofInt 14) (Int32.ofInt 14) = true := rfl
theorem zqk_i0 : Int32.ofInt 0 + Int32.ofInt 1 = Int32.ofInt 1 := rfl
theorem zqk_i1 : Int32.ofInt 1 + Int32.ofInt 1 = Int32.ofInt 2 := rfl
theorem zqk_i2 : Int32.ofInt 2 + Int32.ofInt 1 = Int32.ofInt 3 := rfl
theorem zqk_begin (x : Int32) (hx : x.toInt < 0 ∨ 3 ≤ x.toInt) : fW_beginOfFactor 3000 2 x za_h2 = some (Int32.ofInt (-1), za_h2) := by
  rcases hx with hx | hx
  · unfold fW_beginOfFactor
    rw [zf_T2, cond_true, fW_beginOfFactor_7, zj_geL x 0 (by decide), decide_eq_true (by omega), cond_true]
    unfold fW_beginOfFactor_40
    rw [zj_lt x 0 (by decide), decide_eq_true (by omega), cond_true]
    rfl
  · have h4 : fW_beginOfFactor_40 3000 2 x (Int32.ofInt 14) za_h2 = some (Int32.ofInt (-1), za_h2) := by
      unfold fW_beginOfFactor_40
      rw [zj_lt x 0 (by decide), decide_eq_false (by omega), cond_false, zf_sz, b1, show z_cmp .ge (Int32.ofInt 14) (Int32.ofInt 14) = true from rfl, cond_true]
      rfl
    unfold fW_beginOfFactor
    rw [zf_T2, cond_true]
    rw [fW_beginOfFactor_7, zj_geL x 0 (by decide), decide_eq_false (by omega), cond_false, zf_sz, b1, zqk_g0, cond_false, zqk_e0, b2, zqk_i0]
    rw [fW_beginOfFactor_7, zj_geL x 1 (by decide), decide_eq_false (by omega), cond_false, zf_sz, b1, zqk_g1, cond_false, zqk_e1, b2, zqk_i1]
    rw [fW_beginOfFactor_7, zj_geL x 2 (by decide), decide_eq_false (by omega), cond_false, zf_sz, b1, zqk_g2, cond_false, zqk_e2, b2, zqk_i2]
    rw [fW_beginOfFactor_7]
    cases z_cmp .ge (Int32.ofInt 3) x with
    | true => rw [cond_true, h4]
    | false => rw [cond_false, zf_sz, b1, zqk_g3, cond_true, h4]
theorem zqk_in (x : Int32) (h : zH) (hx : x.toInt < 0 ∨ 3 ≤ x.toInt) : fM_in 3000 x (Int32.ofInt 0) (Int32.ofInt 3 - Int32.ofInt 1) h = some (Int32.ofInt 0, h) := by
  unfold fM_in
  rw [show Int32.ofInt 3 - Int32.ofInt 1 = Int32.ofInt 2 from rfl, zj_lt x 0 (by decide), zj_gt x 2 (by decide)]
  rcases hx with hx | hx
  · rw [decide_eq_true (by omega), cond_true]
    rfl
  · rw [decide_eq_false (by omega), cond_false, decide_eq_true (by omega), cond_true]
    rfl
theorem zqk_checked (x : Int32) (hx : x.toInt < 0 ∨ 3 ≤ x.toInt) : fB_checkedBegin 3000 0 x za_h2 = some (.inr 2, za_h2) := by
  unfold fB_checkedBegin
  rw [zf_T0, cond_true, zf_now, b1, zf_txt, b1, zqk_begin x hx, b2]
  rfl
theorem zqk_throws (x : Int32) (hx : x.toInt < 0 ∨ 3 ≤ x.toInt) : fM_throwsFactor 3000 232 x za_h2 = some (Int32.ofInt 1, zqk_1) := by
  unfold fM_throwsFactor
  rw [zf_T5, cond_true, zqk_fac, b2, zqk_in x _ hx, b2, show z_cmp .ne (Int32.ofInt 0) (Int32.ofInt 0) = false from rfl, cond_false]
  unfold fM_throwsFactor_20 fM_throwsOne
  rw [zqk_T, cond_true, show z_cmp .eq (Int32.ofInt 1) (Int32.ofInt 0) = false from rfl, cond_false]
  unfold fM_throwsOne_10
  rw [zqk_S1]
  rfl
theorem zqk_thrown : fM_thrown 3000 232 zqk_1 = some (Int32.ofInt 1, zqk_1) := by
  unfold fM_thrown
  rw [zqk_1T, cond_true, zqk_1t]
  rfl
theorem zgk_27_0 : z_eqC Int32.toInt64 (fun h => fL_factorStart 3000 0 (Int32.ofInt 0) 243 h) (fun h => fM_factorStart 3000 232 (Int32.ofInt 0) h) (fun h => fM_thrown 3000 232 h) 243 za_h2 = true := by decide +kernel
theorem zgk_27_1 : z_eqC Int32.toInt64 (fun h => fL_factorStart 3000 0 (Int32.ofInt 1) 243 h) (fun h => fM_factorStart 3000 232 (Int32.ofInt 1) h) (fun h => fM_thrown 3000 232 h) 243 za_h2 = true := by decide +kernel
theorem zgk_27_2 : z_eqC Int32.toInt64 (fun h => fL_factorStart 3000 0 (Int32.ofInt 2) 243 h) (fun h => fM_factorStart 3000 232 (Int32.ofInt 2) h) (fun h => fM_thrown 3000 232 h) 243 za_h2 = true := by decide +kernel
theorem z_f27 (x : Int32) : z_eqC Int32.toInt64 (fun h => fL_factorStart 3000 0 x 243 h) (fun h => fM_factorStart 3000 232 x h) (fun h => fM_thrown 3000 232 h) 243 za_h2 = true := by
  by_cases h0 : x.toInt < 0 ∨ 3 ≤ x.toInt
  · refine zqk_out (y := Int32.ofInt 0) (h2 := zqk_1) (h3 := zqk_1) ?_ ?_ zqk_thrown
    · show fL_factorStart 3000 0 x 243 za_h2 = _
      unfold fL_factorStart fB_factorStart
      rw [zf_T0, cond_true, zqk_checked x h0]
      rfl
    · show fM_factorStart 3000 232 x za_h2 = _
      unfold fM_factorStart
      rw [zf_T5, cond_true, zqk_throws x h0]
      rfl
  · have h2 : x.toInt = 0 ∨ x.toInt = 1 ∨ x.toInt = 2 := by omega
    rcases h2 with h2 | h2 | h2
    · rw [← zj_ofInt x, h2]; exact zgk_27_0
    · rw [← zj_ofInt x, h2]; exact zgk_27_1
    · rw [← zj_ofInt x, h2]; exact zgk_27_2
theorem zgk_28_0 : z_eqC Int32.toInt64 (fun h => fL_factorLength 3000 0 (Int32.ofInt 0) 243 h) (fun h => fM_factorLength 3000 232 (Int32.ofInt 0) h) (fun h => fM_thrown 3000 232 h) 243 za_h2 = true := by decide +kernel
theorem zgk_28_1 : z_eqC Int32.toInt64 (fun h => fL_factorLength 3000 0 (Int32.ofInt 1) 243 h) (fun h => fM_factorLength 3000 232 (Int32.ofInt 1) h) (fun h => fM_thrown 3000 232 h) 243 za_h2 = true := by decide +kernel
theorem zgk_28_2 : z_eqC Int32.toInt64 (fun h => fL_factorLength 3000 0 (Int32.ofInt 2) 243 h) (fun h => fM_factorLength 3000 232 (Int32.ofInt 2) h) (fun h => fM_thrown 3000 232 h) 243 za_h2 = true := by decide +kernel
theorem z_f28 (x : Int32) : z_eqC Int32.toInt64 (fun h => fL_factorLength 3000 0 x 243 h) (fun h => fM_factorLength 3000 232 x h) (fun h => fM_thrown 3000 232 h) 243 za_h2 = true := by
  by_cases h0 : x.toInt < 0 ∨ 3 ≤ x.toInt
  · refine zqk_out (y := Int32.ofInt 0) (h2 := zqk_1) (h3 := zqk_1) ?_ ?_ zqk_thrown
    · show fL_factorLength 3000 0 x 243 za_h2 = _
      unfold fL_factorLength fB_factorLength
      rw [zf_T0, cond_true, zqk_checked x h0]
      rfl
    · show fM_factorLength 3000 232 x za_h2 = _
      unfold fM_factorLength
      rw [zf_T5, cond_true, zqk_throws x h0]
      rfl
  · have h2 : x.toInt = 0 ∨ x.toInt = 1 ∨ x.toInt = 2 := by omega
    rcases h2 with h2 | h2 | h2
    · rw [← zj_ofInt x, h2]; exact zgk_28_0
    · rw [← zj_ofInt x, h2]; exact zgk_28_1
    · rw [← zj_ofInt x, h2]; exact zgk_28_2
theorem zgk_29_0 : z_eqC Int32.toInt64 (fun h => fL_factorPower 3000 0 (Int32.ofInt 0) 243 h) (fun h => fM_factorPower 3000 232 (Int32.ofInt 0) h) (fun h => fM_thrown 3000 232 h) 243 za_h2 = true := by decide +kernel
theorem zgk_29_1 : z_eqC Int32.toInt64 (fun h => fL_factorPower 3000 0 (Int32.ofInt 1) 243 h) (fun h => fM_factorPower 3000 232 (Int32.ofInt 1) h) (fun h => fM_thrown 3000 232 h) 243 za_h2 = true := by decide +kernel
theorem zgk_29_2 : z_eqC Int32.toInt64 (fun h => fL_factorPower 3000 0 (Int32.ofInt 2) 243 h) (fun h => fM_factorPower 3000 232 (Int32.ofInt 2) h) (fun h => fM_thrown 3000 232 h) 243 za_h2 = true := by decide +kernel
theorem z_f29 (x : Int32) : z_eqC Int32.toInt64 (fun h => fL_factorPower 3000 0 x 243 h) (fun h => fM_factorPower 3000 232 x h) (fun h => fM_thrown 3000 232 h) 243 za_h2 = true := by
  by_cases h0 : x.toInt < 0 ∨ 3 ≤ x.toInt
  · refine zqk_out (y := Int32.ofInt 0) (h2 := zqk_1) (h3 := zqk_1) ?_ ?_ zqk_thrown
    · show fL_factorPower 3000 0 x 243 za_h2 = _
      unfold fL_factorPower fB_factorPower
      rw [zf_T0, cond_true, zqk_checked x h0]
      rfl
    · show fM_factorPower 3000 232 x za_h2 = _
      unfold fM_factorPower
      rw [zf_T5, cond_true, zqk_fac, b2, zqk_in x _ h0, b2, show z_cmp .ne (Int32.ofInt 0) (Int32.ofInt 0) = false from rfl, cond_false]
      unfold fM_factorPower_22 fM_throwsOne
      rw [zqk_T, cond_true, show z_cmp .eq (Int32.ofInt 1) (Int32.ofInt 0) = false from rfl, cond_false]
      unfold fM_throwsOne_10
      rw [zqk_S1]
      rfl
  · have h2 : x.toInt = 0 ∨ x.toInt = 1 ∨ x.toInt = 2 := by omega
    rcases h2 with h2 | h2 | h2
    · rw [← zj_ofInt x, h2]; exact zgk_29_0
    · rw [← zj_ofInt x, h2]; exact zgk_29_1
    · rw [← zj_ofInt x, h2]; exact zgk_29_2
theorem zgk_34_0 : z_eqC Int32.toInt64 (fun h => fL_rankOf 3000 0 (Int32.ofInt 0) 243 h) (fun h => fM_rankOf 3000 232 (Int32.ofInt 0) h) (fun h => fM_thrown 3000 232 h) 243 za_h2 = true := by decide +kernel
theorem zgk_34_1 : z_eqC Int32.toInt64 (fun h => fL_rankOf 3000 0 (Int32.ofInt 1) 243 h) (fun h => fM_rankOf 3000 232 (Int32.ofInt 1) h) (fun h => fM_thrown 3000 232 h) 243 za_h2 = true := by decide +kernel
theorem zgk_34_2 : z_eqC Int32.toInt64 (fun h => fL_rankOf 3000 0 (Int32.ofInt 2) 243 h) (fun h => fM_rankOf 3000 232 (Int32.ofInt 2) h) (fun h => fM_thrown 3000 232 h) 243 za_h2 = true := by decide +kernel
theorem z_f34 (x : Int32) : z_eqC Int32.toInt64 (fun h => fL_rankOf 3000 0 x 243 h) (fun h => fM_rankOf 3000 232 x h) (fun h => fM_thrown 3000 232 h) 243 za_h2 = true := by
  by_cases h0 : x.toInt < 0 ∨ 3 ≤ x.toInt
  · refine zqk_out (y := Int32.ofInt 0) (h2 := zqk_1) (h3 := zqk_1) ?_ ?_ zqk_thrown
    · show fL_rankOf 3000 0 x 243 za_h2 = _
      unfold fL_rankOf fB_rankOf
      rw [zf_T0, cond_true, zqk_checked x h0]
      rfl
    · show fM_rankOf 3000 232 x za_h2 = _
      unfold fM_rankOf
      rw [zf_T5, cond_true, zqk_throws x h0]
      rfl
  · have h2 : x.toInt = 0 ∨ x.toInt = 1 ∨ x.toInt = 2 := by omega
    rcases h2 with h2 | h2 | h2
    · rw [← zj_ofInt x, h2]; exact zgk_34_0
    · rw [← zj_ofInt x, h2]; exact zgk_34_1
    · rw [← zj_ofInt x, h2]; exact zgk_34_2
theorem zgk_12_0 : z_eqC Int32.toInt64 (fun h => fL_keepFactor 3000 0 (Int32.ofInt 0) 243 h) (fun h => gM_keepFactor 3000 232 (Int32.ofInt 0) h) (fun h => fM_thrown 3000 232 h) 243 za_h2 = true := by decide +kernel
theorem zgk_12_1 : z_eqC Int32.toInt64 (fun h => fL_keepFactor 3000 0 (Int32.ofInt 1) 243 h) (fun h => gM_keepFactor 3000 232 (Int32.ofInt 1) h) (fun h => fM_thrown 3000 232 h) 243 za_h2 = true := by decide +kernel
theorem zgk_12_2 : z_eqC Int32.toInt64 (fun h => fL_keepFactor 3000 0 (Int32.ofInt 2) 243 h) (fun h => gM_keepFactor 3000 232 (Int32.ofInt 2) h) (fun h => fM_thrown 3000 232 h) 243 za_h2 = true := by decide +kernel
theorem z_f12 (x : Int32) : z_eqC Int32.toInt64 (fun h => fL_keepFactor 3000 0 x 243 h) (fun h => fM_keepFactor 3000 232 x h) (fun h => fM_thrown 3000 232 h) 243 za_h2 = true := by
  by_cases h0 : x.toInt < 0 ∨ 3 ≤ x.toInt
  · refine zqk_out (y := Int32.ofInt 0) (h2 := zqk_1) (h3 := zqk_1) ?_ ?_ zqk_thrown
    · show fL_keepFactor 3000 0 x 243 za_h2 = _
      unfold fL_keepFactor fB_keepFactor
      rw [zf_T0, cond_true, zqk_checked x h0]
      rfl
    · show fM_keepFactor 3000 232 x za_h2 = _
      unfold fM_keepFactor
      rw [zf_T5, cond_true, zqk_fac, b2, zqk_in x _ h0, b2, show z_cmp .ne (Int32.ofInt 0) (Int32.ofInt 0) = false from rfl, cond_false]
      unfold fM_keepFactor_22
      rw [show z_cmp .eq (Int32.ofInt 0) (Int32.ofInt 0) = true from rfl, cond_true]
      unfold fM_keepFactor_38 fM_keepFactor_39 fM_throwsOne2
      rw [zqk_T, cond_true, show z_cmp .eq (Int32.ofInt 1) (Int32.ofInt 0) = false from rfl, cond_false]
      unfold fM_throwsOne2_18
      rw [zqk_S1]
      rfl
  · have h2 : x.toInt = 0 ∨ x.toInt = 1 ∨ x.toInt = 2 := by omega
    rcases h2 with h2 | h2 | h2
    · rw [← zj_ofInt x, h2]; exact z_eqC_mono (fun _ => gfM_keepFactor) zgk_12_0
    · rw [← zj_ofInt x, h2]; exact z_eqC_mono (fun _ => gfM_keepFactor) zgk_12_1
    · rw [← zj_ofInt x, h2]; exact z_eqC_mono (fun _ => gfM_keepFactor) zgk_12_2
theorem zgk_30 : ((List.range 14).all fun i => z_eqA (fun h => fB_factorOf 3000 0 (Int32.ofInt (i + (0))) h) (fun h => fM_factorOf 3000 232 (Int32.ofInt (i + (0))) h) za_h2) = true := by decide +kernel
theorem z_f30 (x : Int32) : z_eqA (fun h => fB_factorOf 3000 0 x h) (fun h => fM_factorOf 3000 232 x h) za_h2 = true := by
  by_cases h0 : x.toInt < 0 ∨ 14 ≤ x.toInt
  · have e1 : fB_factorOf 3000 0 x za_h2 = some (Int32.ofInt (-1), za_h2) := by
      unfold fB_factorOf
      rw [zf_T0, cond_true, zf_now, b1, zf_txt, b1]
      unfold fW_factorWith
      rw [zf_T2, cond_true, zj_lt x 0 (by decide), zf_sz, b1, zj_lt x 14 (by decide)]
      cases h1 : decide (x.toInt < 0) with
      | true => rfl
      | false =>
        have h2 := of_decide_eq_false h1
        rw [cond_false, decide_eq_false (by omega)]
        rfl
    have e2 : fM_factorOf 3000 232 x za_h2 = some (Int32.ofInt (-1), zqk_h) := by
      unfold fM_factorOf
      rw [zf_T5, cond_true, zf_th0, b1, zqk_fac, b2]
      rw [fM_factorOf_12, show z_cmp .ge (Int32.ofInt 0) (Int32.ofInt 3) = false from rfl, cond_false, zqk_R, b1, zqk_s0, b1, b1, zqk_i0, zqk_s1, b1, show Int32.ofInt 2 - Int32.ofInt 1 = Int32.ofInt 1 from rfl, zqk_in2 x _ 0 1 (by decide) (by decide) (by omega), b2, show z_cmp .eq (Int32.ofInt 0) (Int32.ofInt 0) = true from rfl, cond_true]
      rw [fM_factorOf_12, show z_cmp .ge (Int32.ofInt 1) (Int32.ofInt 3) = false from rfl, cond_false, zqk_R, b1, zqk_s1, b1, b1, zqk_i1, zqk_s2, b1, show Int32.ofInt 4 - Int32.ofInt 1 = Int32.ofInt 3 from rfl, zqk_in2 x _ 2 3 (by decide) (by decide) (by omega), b2, show z_cmp .eq (Int32.ofInt 0) (Int32.ofInt 0) = true from rfl, cond_true]
      rw [fM_factorOf_12, show z_cmp .ge (Int32.ofInt 2) (Int32.ofInt 3) = false from rfl, cond_false, zqk_R, b1, zqk_s2, b1, b1, zqk_i2, zqk_s3, b1, show Int32.ofInt 14 - Int32.ofInt 1 = Int32.ofInt 13 from rfl, zqk_in2 x _ 4 13 (by decide) (by decide) (by omega), b2, show z_cmp .eq (Int32.ofInt 0) (Int32.ofInt 0) = true from rfl, cond_true]
      rw [fM_factorOf_12, show z_cmp .ge (Int32.ofInt 3) (Int32.ofInt 3) = true from rfl, cond_true]
    unfold z_eqA
    simp only [e1, e2]
    rfl
  · exact zj_all (f := fun x => z_eqA (fun h => fB_factorOf 3000 0 x h) (fun h => fM_factorOf 3000 232 x h) za_h2) (lo := 0) zgk_30 x (by omega) (by omega)
