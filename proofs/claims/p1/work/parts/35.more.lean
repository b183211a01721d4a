/-! THE FIRST CALL: nextLyndon, keptLetter, append. -/
theorem zqk_out2 {cv : Int32 → Int64} {L M T : zH → Option (Int32 × zH)} {h1 h3 : zH} {v y : Int32} {h2 : zH} (hv : z_cmp .ne v (Int32.ofInt 0) = true) (e1 : L h1 = some (v, h1)) (e2 : M h1 = some (y, h2)) (e3 : T h2 = some (v, h3)) {l : Nat} : z_eqC cv L M T l h1 = true := by
  unfold z_eqC
  rw [e1]
  simp only [e2, e3, hv, Bool.true_or, Bool.and_true]
  exact decide_eq_true rfl
/-- both answer -/
theorem zqk_both {cv : Int32 → Int64} {L M T : zH → Option (Int32 × zH)} {h0 h1 h2 h3 : zH} {y : Int32} {w : Int64} {l : Nat} (e1 : L h0 = some (Int32.ofInt 0, h1)) (e2 : M h1 = some (y, h2)) (e3 : T h2 = some (Int32.ofInt 0, h3)) (e4 : fAL h3 l 103 (Int32.ofInt 0) = some w) (e5 : z_cmp .eq (lg_cmp w (cv y)) (Int32.ofInt 0) = true) : z_eqC cv L M T l h0 = true := by
  unfold z_eqC
  rw [e1]
  simp only [e2, e3, e4, e5, Bool.or_true, Bool.and_true]
  rfl
def zqn_h : zH := ((fM_why 3000 232 za_h2).getD (Int32.ofInt 3, [])).2
theorem zqn_why : fM_why 3000 232 za_h2 = some (Int32.ofInt 3, zqn_h) := zqk_of (by decide +kernel)
theorem zqn_T : fT zqn_h 232 5 = true := by decide +kernel
def zqn_2 : zH := (fS zqn_h 232 5 17 (.int (Int32.ofInt 2))).getD []
theorem zqn_S2 : fS zqn_h 232 5 17 (.int (Int32.ofInt 2)) = some zqn_2 := zqk_of1 (by decide +kernel)
theorem zqn_2T : fT zqn_2 232 5 = true := by decide +kernel
theorem zqn_2t : fI zqn_2 232 5 17 = some (Int32.ofInt 2) := by decide +kernel
theorem zqn_one : fW_isOneFactor 3000 2 za_h2 = some (Int32.ofInt 0, za_h2) := by decide +kernel
theorem zqn_hasB (x : Int32) : fS_hasNext 3000 1 x za_h2 = some (Int32.ofInt 0, za_h2) := by
  unfold fS_hasNext
  rw [zf_T1, cond_true, zf_txt, b1, zf_sz, b1]
  cases z_cmp .gt (Int32.ofInt 14) x with
  | true => rfl
  | false =>
    rw [cond_false, b1, zqn_one, b2]
    rfl
theorem zqn_hasM (x : Int32) : fM_hasNext 3000 232 x za_h2 = some (Int32.ofInt 0, zqn_h) := by
  unfold fM_hasNext
  rw [zf_T5, cond_true, zqn_why, b2, show z_cmp .ne (Int32.ofInt 3) (Int32.ofInt 0) = true from rfl, cond_true]
  rfl
theorem zqn_in (x : Int32) (h : zH) (a b : Int) (ha : -2147483648 ≤ a ∧ a < 2147483648) (hb : -2147483648 ≤ b ∧ b < 2147483648) (h1 : a ≤ x.toInt) (h2 : x.toInt ≤ b) : fM_in 3000 x (Int32.ofInt a) (Int32.ofInt b) h = some (Int32.ofInt 1, h) := by
  unfold fM_in
  rw [zj_lt x a ha, zj_gt x b hb, decide_eq_false (by omega), cond_false, decide_eq_false (by omega), cond_false]
  rfl
theorem z_f11 (x : Int32) : z_eqC Int32.toInt64 (fun h => fL_nextLyndon 3000 0 x 243 h) (fun h => fM_nextLyndon 3000 232 x h) (fun h => fM_thrown 3000 232 h) 243 za_h2 = true := by
  by_cases h0 : x.toInt < 1 ∨ 120 < x.toInt
  · refine zqk_out (y := Int32.ofInt 0) (h2 := za_h2e) (h3 := za_h2e) ?_ ?_ zf_thrown
    · show fL_nextLyndon 3000 0 x 243 za_h2 = _
      unfold fL_nextLyndon fB_nextLyndon
      rw [zf_T0, cond_true, zj_lt x 1 (by decide), zj_le x 120 (by decide)]
      cases h1 : decide (x.toInt < 1) with
      | true => rfl
      | false =>
        have h2 := of_decide_eq_false h1
        rw [cond_false, decide_eq_false (by omega)]
        rfl
    · show fM_nextLyndon 3000 232 x za_h2 = _
      unfold fM_nextLyndon
      rw [zf_T5, cond_true, zqk_in2 x _ 1 120 (by decide) (by decide) h0, b2, show z_cmp .ne (Int32.ofInt 0) (Int32.ofInt 0) = false from rfl, cond_false]
      unfold fM_nextLyndon_15
      rw [show z_cmp .ne (Int32.ofInt 1) (Int32.ofInt 0) = true from rfl, cond_true]
      unfold fM_nextLyndon_34 fM_nextLyndon_35
      rw [zf_thr2]
      rfl
  · refine zqk_out2 (v := Int32.ofInt 2) (y := Int32.ofInt 0) (h2 := zqn_2) (h3 := zqn_2) rfl ?_ ?_ ?_
    · show fL_nextLyndon 3000 0 x 243 za_h2 = _
      unfold fL_nextLyndon fB_nextLyndon
      rw [zf_T0, cond_true, zj_lt x 1 (by decide), zj_le x 120 (by decide), decide_eq_false (by omega), cond_false, decide_eq_true (by omega), cond_true, zf_now, b1, zqn_hasB, b2]
      rfl
    · show fM_nextLyndon 3000 232 x za_h2 = _
      unfold fM_nextLyndon
      rw [zf_T5, cond_true, zqn_in x _ 1 120 (by decide) (by decide) (by omega) (by omega), b2, show z_cmp .ne (Int32.ofInt 1) (Int32.ofInt 0) = true from rfl, cond_true]
      unfold fM_nextLyndon_15
      rw [show z_cmp .ne (Int32.ofInt 0) (Int32.ofInt 0) = false from rfl, cond_false, zqn_hasM, b2, show z_cmp .ne (Int32.ofInt 0) (Int32.ofInt 0) = false from rfl, cond_false]
      unfold fM_nextLyndon_35 fM_throwsOne2
      rw [zqn_T, cond_true, show z_cmp .eq (Int32.ofInt 0) (Int32.ofInt 0) = true from rfl, cond_true, show z_cmp .eq (Int32.ofInt 1) (Int32.ofInt 0) = false from rfl, cond_false]
      unfold fM_throwsOne2_18
      rw [zqn_S2]
      rfl
    · show fM_thrown 3000 232 zqn_2 = _
      unfold fM_thrown
      rw [zqn_2T, cond_true, zqn_2t]
      rfl
/-- the answer's cell written with NONE -/
def zqn_n : zH := (fAS za_h2 243 103 (Int32.ofInt 0) (.long (Int32.ofInt (-1)).toInt64)).getD []
theorem zqn_nS : fAS za_h2 243 103 (Int32.ofInt 0) (.long (Int32.ofInt (-1)).toInt64) = some zqn_n := zqk_of1 (by decide +kernel)
theorem zqn_nT : fT zqn_n 232 5 = true := by decide +kernel
theorem zqn_n0 : fM_throwsOne 3000 232 (Int32.ofInt 0) zqn_n = some (Int32.ofInt 0, zqn_n) := by decide +kernel
theorem zqn_nt : fM_thrown 3000 232 zqn_n = some (Int32.ofInt 0, zqn_n) := by decide +kernel
theorem zqn_nL : fAL zqn_n 243 103 (Int32.ofInt 0) = some (Int32.ofInt (-1)).toInt64 := by decide +kernel
theorem zqn_nw : fR zqn_n 232 5 0 = some 233 := by decide +kernel
theorem zqn_k0 : fS_keptAt 3000 1 (Int32.ofInt 0) za_h2 = some (some 5, za_h2) := by decide +kernel
theorem zqn_k1 : fS_keptAt 3000 1 (Int32.ofInt 1) za_h2 = some (some 7, za_h2) := by decide +kernel
theorem zqn_X5 : fX za_h2 5 = true := by decide +kernel
theorem zqn_X7 : fX za_h2 7 = true := by decide +kernel
theorem zqn_T5 : fT za_h2 5 4 = true := by decide +kernel
theorem zqn_T7 : fT za_h2 7 4 = true := by decide +kernel
theorem zqn_z5 : fI za_h2 5 4 1 = some (Int32.ofInt 4) := by decide +kernel
theorem zqn_z7 : fI za_h2 7 4 1 = some (Int32.ofInt 2) := by decide +kernel
theorem zqn_s0 : fM_isShelved 3000 232 (Int32.ofInt 0) zqn_n = some (Int32.ofInt 1, zqn_n) := by decide +kernel
theorem zqn_s1 : fM_isShelved 3000 232 (Int32.ofInt 1) zqn_n = some (Int32.ofInt 1, zqn_n) := by decide +kernel
theorem zqn_l0 : fAI zqn_n 233 100 (Int32.ofInt 123 + Int32.ofInt 0) = some (Int32.ofInt 4) := by decide +kernel
theorem zqn_l1 : fAI zqn_n 233 100 (Int32.ofInt 123 + Int32.ofInt 1) = some (Int32.ofInt 2) := by decide +kernel
theorem zqn_at {q : Nat} {n : Int} (hn : 0 ≤ n ∧ n < 2147483648) (eT : fT za_h2 q 4 = true) (eI : fI za_h2 q 4 1 = some (Int32.ofInt n)) (x : Int32) (hx : x.toInt < 0 ∨ n ≤ x.toInt) : fW_at 3000 q x za_h2 = some (Int32.ofInt (-1), za_h2) := by
  unfold fW_at
  rw [eT, cond_true, zj_lt x 0 (by decide), eI, b1, zj_ge x n ⟨by omega, by omega⟩]
  cases h1 : decide (x.toInt < 0) with
  | true => rfl
  | false =>
    have h2 := of_decide_eq_false h1
    rw [cond_false, decide_eq_true (by omega)]
    rfl
theorem zqn_g0 : ((List.range 4).all fun i => z_eqC Int32.toInt64 (fun h => fL_keptLetter 3000 0 (Int32.ofInt 0) (Int32.ofInt (i + (0))) 243 h) (fun h => fM_keptLetter 3000 232 (Int32.ofInt 0) (Int32.ofInt (i + (0))) h) (fun h => fM_thrown 3000 232 h) 243 za_h2) = true := by decide +kernel
theorem zqn_g1 : ((List.range 2).all fun i => z_eqC Int32.toInt64 (fun h => fL_keptLetter 3000 0 (Int32.ofInt 1) (Int32.ofInt (i + (0))) 243 h) (fun h => fM_keptLetter 3000 232 (Int32.ofInt 1) (Int32.ofInt (i + (0))) h) (fun h => fM_thrown 3000 232 h) 243 za_h2) = true := by decide +kernel
theorem z_f51 (x y : Int32) : z_eqC Int32.toInt64 (fun h => fL_keptLetter 3000 0 x y 243 h) (fun h => fM_keptLetter 3000 232 x y h) (fun h => fM_thrown 3000 232 h) 243 za_h2 = true := by
  by_cases h0 : x.toInt < 0 ∨ 1 < x.toInt
  · refine zqk_out (y := Int32.ofInt 0) (h2 := za_h2e) (h3 := za_h2e) ?_ ?_ zf_thrown
    · show fL_keptLetter 3000 0 x y 243 za_h2 = _
      unfold fL_keptLetter fB_keptLetter
      rw [zf_T0, cond_true, zf_now, b1, zf_keptB x h0]
      rfl
    · show fM_keptLetter 3000 232 x y za_h2 = _
      unfold fM_keptLetter
      rw [zf_T5, cond_true, zf_keptS x h0, b2, show z_cmp .ne (Int32.ofInt 0) (Int32.ofInt 0) = false from rfl, cond_false]
      unfold fM_keptLetter_14
      rw [zf_thr]
      rfl
  · have h2 : x.toInt = 0 ∨ x.toInt = 1 := by omega
    rcases h2 with h2 | h2
    · rw [← zj_ofInt x, h2]
      by_cases h3 : y.toInt < 0 ∨ 4 ≤ y.toInt
      · refine zqk_both (h1 := zqn_n) (y := Int32.ofInt (-1)) (h2 := zqn_n) (h3 := zqn_n) ?_ ?_ zqn_nt zqn_nL rfl
        · show fL_keptLetter 3000 0 (Int32.ofInt 0) y 243 za_h2 = _
          unfold fL_keptLetter fB_keptLetter
          rw [zf_T0, cond_true, zf_now, b1, zqn_k0, b2]
          show bH _ 5 (cond (fX za_h2 5) (b2 (fW_at 3000 5 y za_h2) fun x5 h6 => some (Sum.inl x5, h6)) none) _ = _
          rw [zqn_X5, cond_true, zqn_at (by decide) zqn_T5 zqn_z5 y h3, b2]
          show (b1 (fAS za_h2 243 103 (Int32.ofInt 0) (.long (Int32.ofInt (-1)).toInt64)) fun h3 => some (Int32.ofInt 0, h3)) = _
          rw [zqn_nS]
          rfl
        · show fM_keptLetter 3000 232 (Int32.ofInt 0) y zqn_n = _
          unfold fM_keptLetter
          rw [zqn_nT, cond_true, zqn_s0, b2, show z_cmp .ne (Int32.ofInt 1) (Int32.ofInt 0) = true from rfl, cond_true]
          unfold fM_keptLetter_14
          rw [zqn_n0, b2, show z_cmp .eq (Int32.ofInt 0) (Int32.ofInt 0) = true from rfl, cond_true, zqn_nw, b1, zqn_l0, b1, show Int32.ofInt 4 - Int32.ofInt 1 = Int32.ofInt 3 from rfl, zqk_in2 y _ 0 3 (by decide) (by decide) (by omega)]
          rfl
      · exact zj_all (f := fun y => z_eqC Int32.toInt64 (fun h => fL_keptLetter 3000 0 (Int32.ofInt 0) y 243 h) (fun h => fM_keptLetter 3000 232 (Int32.ofInt 0) y h) (fun h => fM_thrown 3000 232 h) 243 za_h2) (lo := 0) zqn_g0 y (by omega) (by omega)
    · rw [← zj_ofInt x, h2]
      by_cases h3 : y.toInt < 0 ∨ 2 ≤ y.toInt
      · refine zqk_both (h1 := zqn_n) (y := Int32.ofInt (-1)) (h2 := zqn_n) (h3 := zqn_n) ?_ ?_ zqn_nt zqn_nL rfl
        · show fL_keptLetter 3000 0 (Int32.ofInt 1) y 243 za_h2 = _
          unfold fL_keptLetter fB_keptLetter
          rw [zf_T0, cond_true, zf_now, b1, zqn_k1, b2]
          show bH _ 5 (cond (fX za_h2 7) (b2 (fW_at 3000 7 y za_h2) fun x5 h6 => some (Sum.inl x5, h6)) none) _ = _
          rw [zqn_X7, cond_true, zqn_at (by decide) zqn_T7 zqn_z7 y h3, b2]
          show (b1 (fAS za_h2 243 103 (Int32.ofInt 0) (.long (Int32.ofInt (-1)).toInt64)) fun h3 => some (Int32.ofInt 0, h3)) = _
          rw [zqn_nS]
          rfl
        · show fM_keptLetter 3000 232 (Int32.ofInt 1) y zqn_n = _
          unfold fM_keptLetter
          rw [zqn_nT, cond_true, zqn_s1, b2, show z_cmp .ne (Int32.ofInt 1) (Int32.ofInt 0) = true from rfl, cond_true]
          unfold fM_keptLetter_14
          rw [zqn_n0, b2, show z_cmp .eq (Int32.ofInt 0) (Int32.ofInt 0) = true from rfl, cond_true, zqn_nw, b1, zqn_l1, b1, show Int32.ofInt 2 - Int32.ofInt 1 = Int32.ofInt 1 from rfl, zqk_in2 y _ 0 1 (by decide) (by decide) (by omega)]
          rfl
      · exact zj_all (f := fun y => z_eqC Int32.toInt64 (fun h => fL_keptLetter 3000 0 (Int32.ofInt 1) y 243 h) (fun h => fM_keptLetter 3000 232 (Int32.ofInt 1) y h) (fun h => fM_thrown 3000 232 h) 243 za_h2) (lo := 0) zqn_g1 y (by omega) (by omega)
