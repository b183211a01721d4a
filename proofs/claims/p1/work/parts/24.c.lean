/-! The same: put together. -/
theorem zp_clr (i : Nat) (hi : i < 451) : fAS za_m1 233 100 (Int32.ofInt i) (.int (Int32.ofInt 0)) = some za_m1 := by
  have hm : za_m1[233]? = some (100, List.replicate 451 (.int 0)) := rfl
  have h1 : (Int32.ofInt (i : Int)).toInt = (i : Int) := Int32.toInt_ofInt_of_le (by omega) (by omega)
  have h2 : ¬ (Int32.ofInt (i : Int) < 0) := by
    rw [Int32.lt_iff_toInt_lt, h1]
    show ¬ ((i : Int) < 0)
    omega
  have h3 : (Int32.ofInt (i : Int)).toNatClampNeg = i := by
    show (Int32.ofInt (i : Int)).toInt.toNat = i
    rw [h1]
    omega
  unfold fAS
  rw [decide_eq_false h2, cond_false, h3]
  unfold fS
  rw [hm]
  have h4 : Nat.blt i (List.replicate 451 (Value.int 0)).length = true := by
    rw [List.length_replicate]
    exact Nat.ble_eq.mpr hi
  simp only [h4]
  show some (za_m1.set 233 (100, (List.replicate 451 (Value.int 0)).set i (.int 0))) = some za_m1
  rw [List.set_replicate_self]
  have h5 : ∀ {l : zH} {k : Nat} {c : Nat × List Value}, l[k]? = some c → l.set k c = l := by
    intro l k c e
    obtain ⟨h6, h7⟩ := List.getElem?_eq_some_iff.mp e
    rw [← h7]
    exact List.set_getElem_self h6
  rw [h5 hm]
theorem zp_r0m : fR za_m1 232 5 0 = some 233 := by decide +kernel
theorem zp_loop (N n : Nat) : ∀ k i : Nat, i + k = 451 → fM_parses_2 N (n + k) 232 (Int32.ofInt i) za_m1 = fM_parses_2 N n 232 (Int32.ofInt 451) za_m1 := by
  intro k
  induction k with
  | zero =>
    intro i hi
    have : i = 451 := by omega
    subst this
    rfl
  | succ k ih =>
    intro i hi
    rw [show n + (k + 1) = (n + k) + 1 from rfl, fM_parses_2]
    have h1 : (Int32.ofInt (i : Int)).toInt = (i : Int) := Int32.toInt_ofInt_of_le (by omega) (by omega)
    have h2 : z_cmp .ge (Int32.ofInt (i : Int)) (Int32.ofInt 451) = false := by
      show decide (Int32.ofInt 451 ≤ Int32.ofInt (i : Int)) = false
      refine decide_eq_false ?_
      rw [Int32.le_iff_toInt_le, h1]
      show ¬ ((451 : Int) ≤ (i : Int))
      omega
    rw [h2, cond_false]
    simp only [b1, zp_r0m, zp_clr i (by omega)]
    have h3 : Int32.ofInt (i : Int) + Int32.ofInt 1 = Int32.ofInt ((i + 1 : Nat) : Int) := by
      rw [← Int32.ofInt_add]
      rfl
    rw [h3]
    exact ih (i + 1) (by omega)
theorem zp_all57 (n : Nat) : fM_readsAll_57 700 (n + 6) 232 zp_5 = some (Int32.ofInt 1, zp_15) := by
  rw [fM_readsAll_57, zp_k5, b1, show z_cmp .eq (Int32.ofInt 2) (Int32.ofInt 0) = false from rfl, cond_false, zp_f6, b2, show z_cmp .ne (Int32.ofInt 1) (Int32.ofInt 0) = true from rfl, cond_true, zp_f7, b2]
  rw [fM_readsAll_57, zp_k7, b1, show z_cmp .eq (Int32.ofInt 2) (Int32.ofInt 0) = false from rfl, cond_false, zp_f8, b2, show z_cmp .ne (Int32.ofInt 1) (Int32.ofInt 0) = true from rfl, cond_true, zp_f9, b2]
  rw [fM_readsAll_57, zp_k9, b1, show z_cmp .eq (Int32.ofInt 2) (Int32.ofInt 0) = false from rfl, cond_false, zp_f10, b2, show z_cmp .ne (Int32.ofInt 1) (Int32.ofInt 0) = true from rfl, cond_true, zp_f11, b2]
  rw [fM_readsAll_57, zp_k11, b1, show z_cmp .eq (Int32.ofInt 2) (Int32.ofInt 0) = false from rfl, cond_false, zp_f12, b2, show z_cmp .ne (Int32.ofInt 1) (Int32.ofInt 0) = true from rfl, cond_true, zp_f13, b2]
  rw [fM_readsAll_57, zp_k13, b1, show z_cmp .eq (Int32.ofInt 2) (Int32.ofInt 0) = false from rfl, cond_false, zp_f14, b2, show z_cmp .ne (Int32.ofInt 1) (Int32.ofInt 0) = true from rfl, cond_true, zp_f15, b2]
  rw [fM_readsAll_57, zp_k15, b1]
  rfl
theorem zp_all : fM_readsAll 700 232 zp_1 = some (Int32.ofInt 1, zp_15) := by
  unfold fM_readsAll
  rw [zp_t, cond_true, zp_f1, b2, show z_cmp .ne (Int32.ofInt 1) (Int32.ofInt 0) = true from rfl, cond_true, zp_f2, b2, zp_f3, b2, show z_cmp .eq (Int32.ofInt 1) (Int32.ofInt 0) = false from rfl, cond_false, zp_f4, b2, show z_cmp .ne (Int32.ofInt 1) (Int32.ofInt 0) = true from rfl, cond_true, zp_r0, b1, zp_r23, b1, zp_r3, b1, zp_w0, b1, zp_f5, b2]
  exact zp_all57 694
theorem z_parse : fM_parses 700 232 za_m1 = some (Int32.ofInt 1, zp_15) := by
  unfold fM_parses
  rw [zp_t0, cond_true]
  refine (zp_loop 700 249 451 0 rfl).trans ?_
  rw [fM_parses_2, show z_cmp .ge (Int32.ofInt 451) (Int32.ofInt 451) = true from rfl, cond_true, zp_sa, b1, zp_sb, b1, zp_sc, b1, zp_sd, b1, zp_f0, b2, zp_all, b2]
  rfl
theorem zp_end : fS zp_15 232 5 17 (.int (Int32.ofInt 0)) = some za_m2 := by decide +kernel
