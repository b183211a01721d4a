/-! THE FIRST CALL: bruijnLetter, every order. -/
theorem zb_B1 : zb_B 1 (([97, 98, 97, 99, 97, 98, 0], 1) :: zb_L1.tail) = (zb_RB 1 (3 ^ 1) 0).map fun (t : Nat) => 97 + (t : Int) := by decide +kernel
theorem zb_R1 : (zb_RB 1 (3 ^ 1) 0).length = 3 ^ 1 := by decide +kernel
theorem zb_m1 (y : Int32) : z_eqC Int32.toInt64 (fun h => fL_bruijnLetter 3000 0 (Int32.ofInt ((1 : Nat) : Int)) y 243 h) (fun h => fM_bruijnLetter 3000 232 (Int32.ofInt ((1 : Nat) : Int)) y h) (fun h => fM_thrown 3000 232 h) 243 za_h2 = true := zb_main (n := 1) (l := zb_L1.tail) (by decide) zb_K1 (by decide +kernel) (by decide +kernel) zb_B1 zb_R1 y
theorem zb_B2 : zb_B 2 (([97, 98, 97, 99, 97, 98, 0], 1) :: zb_L2.tail) = (zb_RB 2 (3 ^ 2) 0).map fun (t : Nat) => 97 + (t : Int) := by decide +kernel
theorem zb_R2 : (zb_RB 2 (3 ^ 2) 0).length = 3 ^ 2 := by decide +kernel
theorem zb_m2 (y : Int32) : z_eqC Int32.toInt64 (fun h => fL_bruijnLetter 3000 0 (Int32.ofInt ((2 : Nat) : Int)) y 243 h) (fun h => fM_bruijnLetter 3000 232 (Int32.ofInt ((2 : Nat) : Int)) y h) (fun h => fM_thrown 3000 232 h) 243 za_h2 = true := zb_main (n := 2) (l := zb_L2.tail) (by decide) zb_K2 (by decide +kernel) (by decide +kernel) zb_B2 zb_R2 y
theorem zb_B3 : zb_B 3 (([97, 98, 97, 99, 97, 98, 0], 1) :: zb_L3.tail) = (zb_RB 3 (3 ^ 3) 0).map fun (t : Nat) => 97 + (t : Int) := by decide +kernel
theorem zb_R3 : (zb_RB 3 (3 ^ 3) 0).length = 3 ^ 3 := by decide +kernel
theorem zb_m3 (y : Int32) : z_eqC Int32.toInt64 (fun h => fL_bruijnLetter 3000 0 (Int32.ofInt ((3 : Nat) : Int)) y 243 h) (fun h => fM_bruijnLetter 3000 232 (Int32.ofInt ((3 : Nat) : Int)) y h) (fun h => fM_thrown 3000 232 h) 243 za_h2 = true := zb_main (n := 3) (l := zb_L3.tail) (by decide) zb_K3 (by decide +kernel) (by decide +kernel) zb_B3 zb_R3 y
theorem zb_B4 : zb_B 4 (([97, 98, 97, 99, 97, 98, 0], 1) :: zb_L4.tail) = (zb_RB 4 (3 ^ 4) 0).map fun (t : Nat) => 97 + (t : Int) := by decide +kernel
theorem zb_R4 : (zb_RB 4 (3 ^ 4) 0).length = 3 ^ 4 := by decide +kernel
theorem zb_m4 (y : Int32) : z_eqC Int32.toInt64 (fun h => fL_bruijnLetter 3000 0 (Int32.ofInt ((4 : Nat) : Int)) y 243 h) (fun h => fM_bruijnLetter 3000 232 (Int32.ofInt ((4 : Nat) : Int)) y h) (fun h => fM_thrown 3000 232 h) 243 za_h2 = true := zb_main (n := 4) (l := zb_L4.tail) (by decide) zb_K4 (by decide +kernel) (by decide +kernel) zb_B4 zb_R4 y
theorem zb_B5 : zb_B 5 (([97, 98, 97, 99, 97, 98, 0], 1) :: zb_L5.tail) = (zb_RB 5 (3 ^ 5) 0).map fun (t : Nat) => 97 + (t : Int) := by decide +kernel
theorem zb_R5 : (zb_RB 5 (3 ^ 5) 0).length = 3 ^ 5 := by decide +kernel
theorem zb_m5 (y : Int32) : z_eqC Int32.toInt64 (fun h => fL_bruijnLetter 3000 0 (Int32.ofInt ((5 : Nat) : Int)) y 243 h) (fun h => fM_bruijnLetter 3000 232 (Int32.ofInt ((5 : Nat) : Int)) y h) (fun h => fM_thrown 3000 232 h) 243 za_h2 = true := zb_main (n := 5) (l := zb_L5.tail) (by decide) zb_K5 (by decide +kernel) (by decide +kernel) zb_B5 zb_R5 y
theorem zb_B6 : zb_B 6 (([97, 98, 97, 99, 97, 98, 0], 1) :: zb_L6.tail) = (zb_RB 6 (3 ^ 6) 0).map fun (t : Nat) => 97 + (t : Int) := by decide +kernel
theorem zb_R6 : (zb_RB 6 (3 ^ 6) 0).length = 3 ^ 6 := by decide +kernel
theorem zb_m6 (y : Int32) : z_eqC Int32.toInt64 (fun h => fL_bruijnLetter 3000 0 (Int32.ofInt ((6 : Nat) : Int)) y 243 h) (fun h => fM_bruijnLetter 3000 232 (Int32.ofInt ((6 : Nat) : Int)) y h) (fun h => fM_thrown 3000 232 h) 243 za_h2 = true := zb_main (n := 6) (l := zb_L6.tail) (by decide) zb_K6 (by decide +kernel) (by decide +kernel) zb_B6 zb_R6 y
theorem zb_B7 : zb_B 7 (([97, 98, 97, 99, 97, 98, 0], 1) :: zb_L7.tail) = (zb_RB 7 (3 ^ 7) 0).map fun (t : Nat) => 97 + (t : Int) := by decide +kernel
theorem zb_R7 : (zb_RB 7 (3 ^ 7) 0).length = 3 ^ 7 := by decide +kernel
theorem zb_m7 (y : Int32) : z_eqC Int32.toInt64 (fun h => fL_bruijnLetter 3000 0 (Int32.ofInt ((7 : Nat) : Int)) y 243 h) (fun h => fM_bruijnLetter 3000 232 (Int32.ofInt ((7 : Nat) : Int)) y h) (fun h => fM_thrown 3000 232 h) 243 za_h2 = true := zb_main (n := 7) (l := zb_L7.tail) (by decide) zb_K7 (by decide +kernel) (by decide +kernel) zb_B7 zb_R7 y
theorem z_f48 (x y : Int32) : z_eqC Int32.toInt64 (fun h => fL_bruijnLetter 3000 0 x y 243 h) (fun h => fM_bruijnLetter 3000 232 x y h) (fun h => fM_thrown 3000 232 h) 243 za_h2 = true := by
  by_cases h0 : x.toInt < 1 ∨ 12 < x.toInt
  · refine zqk_out (y := Int32.ofInt 0) (h2 := za_h2e) (h3 := za_h2e) ?_ ?_ zf_thrown
    · show fL_bruijnLetter 3000 0 x y 243 za_h2 = _
      unfold fL_bruijnLetter fB_bruijnLetter
      rw [zf_T0, cond_true, zj_lt x 1 (by decide), zj_gt x 12 (by decide)]
      cases h1 : decide (x.toInt < 1) with
      | true => exact zb_noB x y _
      | false =>
        have h2 := of_decide_eq_false h1
        rw [cond_false, decide_eq_true (by omega), cond_true]
        exact zb_noB x y _
    · show fM_bruijnLetter 3000 232 x y za_h2 = _
      unfold fM_bruijnLetter
      rw [zf_T5, cond_true, zqk_in2 x _ 1 12 (by decide) (by decide) h0, b2, show z_cmp .eq (Int32.ofInt 0) (Int32.ofInt 0) = true from rfl, cond_true, zb_noM]
  · obtain ⟨n, hn, hn2⟩ : ∃ n : Nat, x = Int32.ofInt (n : Int) ∧ x.toInt = n := ⟨x.toInt.toNat, by rw [show ((x.toInt.toNat : Nat) : Int) = x.toInt by omega, zj_ofInt], by omega⟩
    by_cases h1 : 8 ≤ n
    · obtain ⟨p, p1, p2⟩ := zb_over n (by omega)
      refine zqk_out (y := Int32.ofInt 0) (h2 := za_h2e) (h3 := za_h2e) ?_ ?_ zf_thrown
      · show fL_bruijnLetter 3000 0 x y 243 za_h2 = _
        unfold fL_bruijnLetter fB_bruijnLetter
        rw [zf_T0, cond_true, zj_lt x 1 (by decide), zj_gt x 12 (by decide), decide_eq_false (by omega), cond_false, decide_eq_false (by omega), cond_false, zf_now, b1, zf_letB, b1, hn, zb_fit n (by omega), show Nat.ble n 7 = false from Bool.eq_false_iff.mpr (fun h => by have := Nat.le_of_ble_eq_true h; omega), cond_false, b2, show z_cmp .ne (Int32.ofInt 0) (Int32.ofInt 0) = false from rfl, cond_false]
        exact zb_noB x y _
      · show fM_bruijnLetter 3000 232 x y za_h2 = _
        unfold fM_bruijnLetter
        rw [zf_T5, cond_true, zqn_in x _ 1 12 (by decide) (by decide) (by omega) (by omega), b2, show z_cmp .eq (Int32.ofInt 1) (Int32.ofInt 0) = false from rfl, cond_false, hn, p1, b2, p2, cond_false, zb_noM]
    · rw [hn]
      have h2 : n = 1 ∨ n = 2 ∨ n = 3 ∨ n = 4 ∨ n = 5 ∨ n = 6 ∨ n = 7 := by omega
      rcases h2 with h2 | h2 | h2 | h2 | h2 | h2 | h2 <;> subst h2
      · exact zb_m1 y
      · exact zb_m2 y
      · exact zb_m3 y
      · exact zb_m4 y
      · exact zb_m5 y
      · exact zb_m6 y
      · exact zb_m7 y
