/-! THE FIRST CALL: what the cases with arguments read. -/
def za_h2e : zH := za_h2.set 232 ((za_h2[232]?.getD (0, [])).1, (za_h2[232]?.getD (0, [])).2.set 17 (.int 1))
theorem zf_T0 : fT za_h2 0 0 = true := by decide +kernel
theorem zf_T1 : fT za_h2 1 3 = true := by decide +kernel
theorem zf_T2 : fT za_h2 2 4 = true := by decide +kernel
theorem zf_T5 : fT za_h2 232 5 = true := by decide +kernel
theorem zf_T5e : fT za_h2e 232 5 = true := by decide +kernel
theorem zf_now : fR za_h2 0 0 0 = some 1 := by decide +kernel
theorem zf_txt : fR za_h2 1 3 1 = some 2 := by decide +kernel
theorem zf_sz : fI za_h2 2 4 1 = some (Int32.ofInt 14) := by decide +kernel
theorem zf_kept : fI za_h2 1 3 3 = some (Int32.ofInt 2) := by decide +kernel
theorem zf_letB : fI za_h2 1 3 0 = some (Int32.ofInt 3) := by decide +kernel
theorem zf_letM : fAI za_h2 233 100 (Int32.ofInt 0) = some (Int32.ofInt 3) := by decide +kernel
theorem zf_keptM : fAI za_h2 233 100 (Int32.ofInt 2) = some (Int32.ofInt 2) := by decide +kernel
theorem zf_rep : fR za_h2 0 0 5 = some 228 := by decide +kernel
theorem zf_repT : fT za_h2 228 4 = true := by decide +kernel
theorem zf_repsz : fI za_h2 228 4 1 = some (Int32.ofInt 0) := by decide +kernel
theorem zf_repszM : fI za_h2 232 5 16 = some (Int32.ofInt 0) := by decide +kernel
theorem zf_scr : fR za_h2 0 0 4 = some 203 := by decide +kernel
theorem zf_src : fR za_h2 203 2 0 = some 204 := by decide +kernel
theorem zf_srcsz : fI za_h2 204 4 1 = some (Int32.ofInt 0) := by decide +kernel
theorem zf_srcszM : fI za_h2 232 5 10 = some (Int32.ofInt 0) := by decide +kernel
theorem zf_th0 : fS za_h2 232 5 17 (.int (Int32.ofInt 0)) = some za_h2 := by decide +kernel
theorem zf_th1 : fS za_h2 232 5 17 (.int (Int32.ofInt 1)) = some za_h2e := by decide +kernel
theorem zf_th1r : fI za_h2e 232 5 17 = some (Int32.ofInt 1) := by decide +kernel
theorem zf_w : fR za_h2 232 5 0 = some 233 := by decide +kernel
theorem zf_len : fAI za_h2 233 100 (Int32.ofInt 1) = some (Int32.ofInt 14) := by decide +kernel
theorem zf_bH0 {α : Type} {h : zH} {g : α → zH → Option (Int32 × zH)} : bH [((0, 9, 12, 13), 0, 1)] 4 (some (.inr 0, h)) g = some (Int32.ofInt 1, h) := rfl
theorem zf_bH0b {α : Type} {h : zH} {g : α → zH → Option (Int32 × zH)} : bH [((0, 8, 11, 13), 0, 1)] 4 (some (.inr 0, h)) g = some (Int32.ofInt 1, h) := rfl
theorem zf_bH2 {α : Type} {h : zH} {g : α → zH → Option (Int32 × zH)} : bH [((0, 9, 12, 46), 2, 1)] 4 (some (.inr 2, h)) g = some (Int32.ofInt 1, h) := rfl
/-- a comparison by the whole numbers -/
theorem zj_lt (x : Int32) (c : Int) (hc : -2147483648 ≤ c ∧ c < 2147483648) : z_cmp .lt x (Int32.ofInt c) = decide (x.toInt < c) := by
  refine decide_eq_decide.mpr ?_
  rw [Int32.lt_iff_toInt_lt, Int32.toInt_ofInt_of_le hc.1 hc.2]
theorem zj_gt (x : Int32) (c : Int) (hc : -2147483648 ≤ c ∧ c < 2147483648) : z_cmp .gt x (Int32.ofInt c) = decide (c < x.toInt) := by
  refine decide_eq_decide.mpr ?_
  rw [Int32.lt_iff_toInt_lt, Int32.toInt_ofInt_of_le hc.1 hc.2]
theorem zj_ge (x : Int32) (c : Int) (hc : -2147483648 ≤ c ∧ c < 2147483648) : z_cmp .ge x (Int32.ofInt c) = decide (c ≤ x.toInt) := by
  refine decide_eq_decide.mpr ?_
  rw [Int32.le_iff_toInt_le, Int32.toInt_ofInt_of_le hc.1 hc.2]
theorem zj_le (x : Int32) (c : Int) (hc : -2147483648 ≤ c ∧ c < 2147483648) : z_cmp .le x (Int32.ofInt c) = decide (x.toInt ≤ c) := by
  refine decide_eq_decide.mpr ?_
  rw [Int32.le_iff_toInt_le, Int32.toInt_ofInt_of_le hc.1 hc.2]
theorem zj_ofInt (x : Int32) : Int32.ofInt x.toInt = x := Int32.ofInt_toInt x
/-- all arguments of a stretch at once -/
theorem zj_all {f : Int32 → Bool} {n : Nat} {lo : Int} (e : ((List.range n).all fun i => f (Int32.ofInt (i + lo))) = true) (x : Int32) (h0 : lo ≤ x.toInt) (h1 : x.toInt < n + lo) : f x = true := by
  have h2 := List.all_eq_true.mp e (x.toInt - lo).toNat (List.mem_range.mpr (by omega))
  rw [show (((x.toInt - lo).toNat : Nat) : Int) + lo = x.toInt by omega, zj_ofInt] at h2
  exact h2
