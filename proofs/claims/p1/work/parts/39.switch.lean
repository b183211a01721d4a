/-! THE FIRST CALL: the cases with arguments, the switch, the script. -/
theorem zs_s1 {x0 x1 x2 x3 x4 x5 : Int32} : fScr [x0, x1, x2, x3, x4, x5] (Int32.ofInt 0 + Int32.ofInt 1) = some x1 := rfl
theorem zs_s2 {x0 x1 x2 x3 x4 x5 : Int32} : fScr [x0, x1, x2, x3, x4, x5] (Int32.ofInt 0 + Int32.ofInt 2) = some x2 := rfl
theorem zs_s3 {x0 x1 x2 x3 x4 x5 : Int32} : fScr [x0, x1, x2, x3, x4, x5] (Int32.ofInt 0 + Int32.ofInt 3) = some x3 := rfl
theorem zs_s4 {x0 x1 x2 x3 x4 x5 : Int32} : fScr [x0, x1, x2, x3, x4, x5] (Int32.ofInt 0 + Int32.ofInt 4) = some x4 := rfl
theorem zs_s5 {x0 x1 x2 x3 x4 x5 : Int32} : fScr [x0, x1, x2, x3, x4, x5] (Int32.ofInt 0 + Int32.ofInt 5) = some x5 := rfl
theorem zs_s0 {x0 x1 x2 x3 x4 x5 : Int32} : fScr [x0, x1, x2, x3, x4, x5] (Int32.ofInt 0) = some x0 := rfl
theorem z_c0 {x0 x1 x2 x3 x4 x5 : Int32} {k23 : Nat → Nat → Nat → Int32 → zH → Option (Int32 × zH)} (hk : ∀ h, k23 0 232 243 (Int32.ofInt 0 + Int32.ofInt 6) h = some (Int32.ofInt 1, h)) : ∃ h, fL_law_292 [x0, x1, x2, x3, x4, x5] 3000 k23 0 232 243 (Int32.ofInt 0) za_h2 = some (Int32.ofInt 1, h) := by
  unfold fL_law_292
  simp only [zs_s1, zs_s2, zs_s3, zs_s4, zs_s5, b1_s]
  exact z_caseA hk (z_f0 x1 x2 x3 x4 x5)
theorem z_c1 {x0 x1 x2 x3 x4 x5 : Int32} {k23 : Nat → Nat → Nat → Int32 → zH → Option (Int32 × zH)} (hk : ∀ h, k23 0 232 243 (Int32.ofInt 0 + Int32.ofInt 6) h = some (Int32.ofInt 1, h)) : ∃ h, fL_law_365 [x0, x1, x2, x3, x4, x5] 3000 k23 0 232 243 (Int32.ofInt 0) za_h2 = some (Int32.ofInt 1, h) := by
  unfold fL_law_365
  simp only [zs_s1, zs_s2, zs_s3, zs_s4, zs_s5, b1_s]
  exact z_caseC hk hk (z_f1 x1)
theorem z_c3 {x0 x1 x2 x3 x4 x5 : Int32} {k23 : Nat → Nat → Nat → Int32 → zH → Option (Int32 × zH)} (hk : ∀ h, k23 0 232 243 (Int32.ofInt 0 + Int32.ofInt 6) h = some (Int32.ofInt 1, h)) : ∃ h, fL_law_434 [x0, x1, x2, x3, x4, x5] 3000 k23 0 232 243 (Int32.ofInt 0) za_h2 = some (Int32.ofInt 1, h) := by
  unfold fL_law_434
  simp only [zs_s1, zs_s2, zs_s3, zs_s4, zs_s5, b1_s]
  exact z_caseC hk hk (z_f3 x1)
theorem z_c5 {x0 x1 x2 x3 x4 x5 : Int32} {k23 : Nat → Nat → Nat → Int32 → zH → Option (Int32 × zH)} (hk : ∀ h, k23 0 232 243 (Int32.ofInt 0 + Int32.ofInt 6) h = some (Int32.ofInt 1, h)) : ∃ h, fL_law_534 [x0, x1, x2, x3, x4, x5] 3000 k23 0 232 243 (Int32.ofInt 0) za_h2 = some (Int32.ofInt 1, h) := by
  unfold fL_law_534
  simp only [zs_s1, zs_s2, zs_s3, zs_s4, zs_s5, b1_s]
  exact z_caseC hk hk (z_f5 x1)
theorem z_c6 {x0 x1 x2 x3 x4 x5 : Int32} {k23 : Nat → Nat → Nat → Int32 → zH → Option (Int32 × zH)} (hk : ∀ h, k23 0 232 243 (Int32.ofInt 0 + Int32.ofInt 6) h = some (Int32.ofInt 1, h)) : ∃ h, fL_law_590 [x0, x1, x2, x3, x4, x5] 3000 k23 0 232 243 (Int32.ofInt 0) za_h2 = some (Int32.ofInt 1, h) := by
  unfold fL_law_590
  simp only [zs_s1, zs_s2, zs_s3, zs_s4, zs_s5, b1_s]
  exact z_caseC hk hk (z_f6 x1)
theorem z_c7 {x0 x1 x2 x3 x4 x5 : Int32} {k23 : Nat → Nat → Nat → Int32 → zH → Option (Int32 × zH)} (hk : ∀ h, k23 0 232 243 (Int32.ofInt 0 + Int32.ofInt 6) h = some (Int32.ofInt 1, h)) : ∃ h, fL_law_646 [x0, x1, x2, x3, x4, x5] 3000 k23 0 232 243 (Int32.ofInt 0) za_h2 = some (Int32.ofInt 1, h) := by
  unfold fL_law_646
  simp only [zs_s1, zs_s2, zs_s3, zs_s4, zs_s5, b1_s]
  exact z_caseC hk hk (z_f7 x1 x2)
theorem z_c8 {x0 x1 x2 x3 x4 x5 : Int32} {k23 : Nat → Nat → Nat → Int32 → zH → Option (Int32 × zH)} (hk : ∀ h, k23 0 232 243 (Int32.ofInt 0 + Int32.ofInt 6) h = some (Int32.ofInt 1, h)) : ∃ h, fL_law_714 [x0, x1, x2, x3, x4, x5] 3000 k23 0 232 243 (Int32.ofInt 0) za_h2 = some (Int32.ofInt 1, h) := by
  unfold fL_law_714
  simp only [zs_s1, zs_s2, zs_s3, zs_s4, zs_s5, b1_s]
  exact z_caseC hk hk (z_f8 x1)
theorem z_c11 {x0 x1 x2 x3 x4 x5 : Int32} {k23 : Nat → Nat → Nat → Int32 → zH → Option (Int32 × zH)} (hk : ∀ h, k23 0 232 243 (Int32.ofInt 0 + Int32.ofInt 6) h = some (Int32.ofInt 1, h)) : ∃ h, fL_law_827 [x0, x1, x2, x3, x4, x5] 3000 k23 0 232 243 (Int32.ofInt 0) za_h2 = some (Int32.ofInt 1, h) := by
  unfold fL_law_827
  simp only [zs_s1, zs_s2, zs_s3, zs_s4, zs_s5, b1_s]
  exact z_caseC hk hk (z_f11 x1)
theorem z_c12 {x0 x1 x2 x3 x4 x5 : Int32} {k23 : Nat → Nat → Nat → Int32 → zH → Option (Int32 × zH)} (hk : ∀ h, k23 0 232 243 (Int32.ofInt 0 + Int32.ofInt 6) h = some (Int32.ofInt 1, h)) : ∃ h, fL_law_883 [x0, x1, x2, x3, x4, x5] 3000 k23 0 232 243 (Int32.ofInt 0) za_h2 = some (Int32.ofInt 1, h) := by
  unfold fL_law_883
  simp only [zs_s1, zs_s2, zs_s3, zs_s4, zs_s5, b1_s]
  exact z_caseC hk hk (z_f12 x1)
theorem z_c14 {x0 x1 x2 x3 x4 x5 : Int32} {k23 : Nat → Nat → Nat → Int32 → zH → Option (Int32 × zH)} (hk : ∀ h, k23 0 232 243 (Int32.ofInt 0 + Int32.ofInt 6) h = some (Int32.ofInt 1, h)) : ∃ h, fL_law_983 [x0, x1, x2, x3, x4, x5] 3000 k23 0 232 243 (Int32.ofInt 0) za_h2 = some (Int32.ofInt 1, h) := by
  unfold fL_law_983
  simp only [zs_s1, zs_s2, zs_s3, zs_s4, zs_s5, b1_s]
  exact z_caseC hk hk (z_f14 x1)
theorem z_c24 {x0 x1 x2 x3 x4 x5 : Int32} {k23 : Nat → Nat → Nat → Int32 → zH → Option (Int32 × zH)} (hk : ∀ h, k23 0 232 243 (Int32.ofInt 0 + Int32.ofInt 6) h = some (Int32.ofInt 1, h)) : ∃ h, fL_law_1218 [x0, x1, x2, x3, x4, x5] 3000 k23 0 232 243 (Int32.ofInt 0) za_h2 = some (Int32.ofInt 1, h) := by
  unfold fL_law_1218
  simp only [zs_s1, zs_s2, zs_s3, zs_s4, zs_s5, b1_s]
  exact z_caseA hk (z_f24 x1)
theorem z_c25 {x0 x1 x2 x3 x4 x5 : Int32} {k23 : Nat → Nat → Nat → Int32 → zH → Option (Int32 × zH)} (hk : ∀ h, k23 0 232 243 (Int32.ofInt 0 + Int32.ofInt 6) h = some (Int32.ofInt 1, h)) : ∃ h, fL_law_1243 [x0, x1, x2, x3, x4, x5] 3000 k23 0 232 243 (Int32.ofInt 0) za_h2 = some (Int32.ofInt 1, h) := by
  unfold fL_law_1243
  simp only [zs_s1, zs_s2, zs_s3, zs_s4, zs_s5, b1_s]
  exact z_caseC hk hk (z_f25 x1 x2 x3 x4)
theorem z_c27 {x0 x1 x2 x3 x4 x5 : Int32} {k23 : Nat → Nat → Nat → Int32 → zH → Option (Int32 × zH)} (hk : ∀ h, k23 0 232 243 (Int32.ofInt 0 + Int32.ofInt 6) h = some (Int32.ofInt 1, h)) : ∃ h, fL_law_1348 [x0, x1, x2, x3, x4, x5] 3000 k23 0 232 243 (Int32.ofInt 0) za_h2 = some (Int32.ofInt 1, h) := by
  unfold fL_law_1348
  simp only [zs_s1, zs_s2, zs_s3, zs_s4, zs_s5, b1_s]
  exact z_caseC hk hk (z_f27 x1)
theorem z_c28 {x0 x1 x2 x3 x4 x5 : Int32} {k23 : Nat → Nat → Nat → Int32 → zH → Option (Int32 × zH)} (hk : ∀ h, k23 0 232 243 (Int32.ofInt 0 + Int32.ofInt 6) h = some (Int32.ofInt 1, h)) : ∃ h, fL_law_1404 [x0, x1, x2, x3, x4, x5] 3000 k23 0 232 243 (Int32.ofInt 0) za_h2 = some (Int32.ofInt 1, h) := by
  unfold fL_law_1404
  simp only [zs_s1, zs_s2, zs_s3, zs_s4, zs_s5, b1_s]
  exact z_caseC hk hk (z_f28 x1)
theorem z_c29 {x0 x1 x2 x3 x4 x5 : Int32} {k23 : Nat → Nat → Nat → Int32 → zH → Option (Int32 × zH)} (hk : ∀ h, k23 0 232 243 (Int32.ofInt 0 + Int32.ofInt 6) h = some (Int32.ofInt 1, h)) : ∃ h, fL_law_1460 [x0, x1, x2, x3, x4, x5] 3000 k23 0 232 243 (Int32.ofInt 0) za_h2 = some (Int32.ofInt 1, h) := by
  unfold fL_law_1460
  simp only [zs_s1, zs_s2, zs_s3, zs_s4, zs_s5, b1_s]
  exact z_caseC hk hk (z_f29 x1)
theorem z_c30 {x0 x1 x2 x3 x4 x5 : Int32} {k23 : Nat → Nat → Nat → Int32 → zH → Option (Int32 × zH)} (hk : ∀ h, k23 0 232 243 (Int32.ofInt 0 + Int32.ofInt 6) h = some (Int32.ofInt 1, h)) : ∃ h, fL_law_1516 [x0, x1, x2, x3, x4, x5] 3000 k23 0 232 243 (Int32.ofInt 0) za_h2 = some (Int32.ofInt 1, h) := by
  unfold fL_law_1516
  simp only [zs_s1, zs_s2, zs_s3, zs_s4, zs_s5, b1_s]
  exact z_caseA hk (z_f30 x1)
theorem z_c32 {x0 x1 x2 x3 x4 x5 : Int32} {k23 : Nat → Nat → Nat → Int32 → zH → Option (Int32 × zH)} (hk : ∀ h, k23 0 232 243 (Int32.ofInt 0 + Int32.ofInt 6) h = some (Int32.ofInt 1, h)) : ∃ h, fL_law_1554 [x0, x1, x2, x3, x4, x5] 3000 k23 0 232 243 (Int32.ofInt 0) za_h2 = some (Int32.ofInt 1, h) := by
  unfold fL_law_1554
  simp only [zs_s1, zs_s2, zs_s3, zs_s4, zs_s5, b1_s]
  exact z_caseC hk hk (z_f32 x1)
theorem z_c33 {x0 x1 x2 x3 x4 x5 : Int32} {k23 : Nat → Nat → Nat → Int32 → zH → Option (Int32 × zH)} (hk : ∀ h, k23 0 232 243 (Int32.ofInt 0 + Int32.ofInt 6) h = some (Int32.ofInt 1, h)) : ∃ h, fL_law_1610 [x0, x1, x2, x3, x4, x5] 3000 k23 0 232 243 (Int32.ofInt 0) za_h2 = some (Int32.ofInt 1, h) := by
  unfold fL_law_1610
  simp only [zs_s1, zs_s2, zs_s3, zs_s4, zs_s5, b1_s]
  exact z_caseC hk hk (z_f33 x1)
theorem z_c34 {x0 x1 x2 x3 x4 x5 : Int32} {k23 : Nat → Nat → Nat → Int32 → zH → Option (Int32 × zH)} (hk : ∀ h, k23 0 232 243 (Int32.ofInt 0 + Int32.ofInt 6) h = some (Int32.ofInt 1, h)) : ∃ h, fL_law_1666 [x0, x1, x2, x3, x4, x5] 3000 k23 0 232 243 (Int32.ofInt 0) za_h2 = some (Int32.ofInt 1, h) := by
  unfold fL_law_1666
  simp only [zs_s1, zs_s2, zs_s3, zs_s4, zs_s5, b1_s]
  exact z_caseC hk hk (z_f34 x1)
theorem z_c46 {x0 x1 x2 x3 x4 x5 : Int32} {k23 : Nat → Nat → Nat → Int32 → zH → Option (Int32 × zH)} (hk : ∀ h, k23 0 232 243 (Int32.ofInt 0 + Int32.ofInt 6) h = some (Int32.ofInt 1, h)) : ∃ h, fL_law_1865 [x0, x1, x2, x3, x4, x5] 3000 k23 0 232 243 (Int32.ofInt 0) za_h2 = some (Int32.ofInt 1, h) := by
  unfold fL_law_1865
  simp only [zs_s1, zs_s2, zs_s3, zs_s4, zs_s5, b1_s]
  exact z_caseC hk hk (z_f46 x1)
theorem z_c47 {x0 x1 x2 x3 x4 x5 : Int32} {k23 : Nat → Nat → Nat → Int32 → zH → Option (Int32 × zH)} (hk : ∀ h, k23 0 232 243 (Int32.ofInt 0 + Int32.ofInt 6) h = some (Int32.ofInt 1, h)) : ∃ h, fL_law_1920 [x0, x1, x2, x3, x4, x5] 3000 k23 0 232 243 (Int32.ofInt 0) za_h2 = some (Int32.ofInt 1, h) := by
  unfold fL_law_1920
  simp only [zs_s1, zs_s2, zs_s3, zs_s4, zs_s5, b1_s]
  exact z_caseC hk hk (z_f47 x1)
theorem z_c48 {x0 x1 x2 x3 x4 x5 : Int32} {k23 : Nat → Nat → Nat → Int32 → zH → Option (Int32 × zH)} (hk : ∀ h, k23 0 232 243 (Int32.ofInt 0 + Int32.ofInt 6) h = some (Int32.ofInt 1, h)) : ∃ h, fL_law_1975 [x0, x1, x2, x3, x4, x5] 3000 k23 0 232 243 (Int32.ofInt 0) za_h2 = some (Int32.ofInt 1, h) := by
  unfold fL_law_1975
  simp only [zs_s1, zs_s2, zs_s3, zs_s4, zs_s5, b1_s]
  exact z_caseC hk hk (z_f48 x1 x2)
theorem z_c50 {x0 x1 x2 x3 x4 x5 : Int32} {k23 : Nat → Nat → Nat → Int32 → zH → Option (Int32 × zH)} (hk : ∀ h, k23 0 232 243 (Int32.ofInt 0 + Int32.ofInt 6) h = some (Int32.ofInt 1, h)) : ∃ h, fL_law_2056 [x0, x1, x2, x3, x4, x5] 3000 k23 0 232 243 (Int32.ofInt 0) za_h2 = some (Int32.ofInt 1, h) := by
  unfold fL_law_2056
  simp only [zs_s1, zs_s2, zs_s3, zs_s4, zs_s5, b1_s]
  exact z_caseC hk hk (z_f50 x1)
theorem z_c51 {x0 x1 x2 x3 x4 x5 : Int32} {k23 : Nat → Nat → Nat → Int32 → zH → Option (Int32 × zH)} (hk : ∀ h, k23 0 232 243 (Int32.ofInt 0 + Int32.ofInt 6) h = some (Int32.ofInt 1, h)) : ∃ h, fL_law_2112 [x0, x1, x2, x3, x4, x5] 3000 k23 0 232 243 (Int32.ofInt 0) za_h2 = some (Int32.ofInt 1, h) := by
  unfold fL_law_2112
  simp only [zs_s1, zs_s2, zs_s3, zs_s4, zs_s5, b1_s]
  exact z_caseC hk hk (z_f51 x1 x2)
theorem z_c58 {x0 x1 x2 x3 x4 x5 : Int32} {k23 : Nat → Nat → Nat → Int32 → zH → Option (Int32 × zH)} (hk : ∀ h, k23 0 232 243 (Int32.ofInt 0 + Int32.ofInt 6) h = some (Int32.ofInt 1, h)) : ∃ h, fL_law_2316 [x0, x1, x2, x3, x4, x5] 3000 k23 0 232 243 (Int32.ofInt 0) za_h2 = some (Int32.ofInt 1, h) := by
  unfold fL_law_2316
  simp only [zs_s1, zs_s2, zs_s3, zs_s4, zs_s5, b1_s]
  exact z_caseA hk (z_f58 x1)
theorem zs_nil {α : Type} {P : α → Prop} : ∀ b ∈ ([] : List α), P b := fun b hb => by cases hb
theorem zs_cons {α : Type} {P : α → Prop} {a : α} {l : List α} (h1 : P a) (h2 : ∀ b ∈ l, P b) : ∀ b ∈ a :: l, P b := fun b hb => by
  cases hb with
  | head => exact h1
  | tail _ hb => exact h2 b hb
theorem zs_nth {α : Type} {P : α → Prop} {d : α} : ∀ {l : List α} {i : Nat}, i < l.length → (∀ b ∈ l, P b) → P (z_nth l i d) := by
  intro l
  induction l with
  | nil => intro i h; exact absurd h (Nat.not_lt_zero _)
  | cons a l ih =>
    intro i h hp
    cases i with
    | zero => exact hp a List.mem_cons_self
    | succ i => exact ih (Nat.lt_of_succ_lt_succ h) fun b hb => hp b (List.mem_cons_of_mem _ hb)
theorem zs_end {xs : List Int32} (h6 : xs.length = 6) (h : zH) : fL_law_23 xs 3000 1 0 232 243 (Int32.ofInt 0 + Int32.ofInt 6) h = some (Int32.ofInt 1, h) := by
  rw [fL_law_23, h6, show z_cmp .gt (Int32.ofInt 0 + Int32.ofInt 6) (Int32.ofNat 6 - Int32.ofInt 6) = true from rfl, cond_true]
theorem zs_six (x0 x1 x2 x3 x4 x5 : Int32) : ∃ h, fL_law_23 [x0, x1, x2, x3, x4, x5] 3000 2 0 232 243 (Int32.ofInt 0) za_h2 = some (Int32.ofInt 1, h) := by
  have hk : ∀ h, fL_law_23 [x0, x1, x2, x3, x4, x5] 3000 1 0 232 243 (Int32.ofInt 0 + Int32.ofInt 6) h = some (Int32.ofInt 1, h) := zs_end rfl
  rw [fL_law_23, show List.length [x0, x1, x2, x3, x4, x5] = 6 from rfl, show z_cmp .gt (Int32.ofInt 0) (Int32.ofNat 6 - Int32.ofInt 6) = false from rfl, cond_false, zs_s0, b1_s]
  by_cases hr : (x0 &&& Int32.ofInt 63).toInt < 0 ∨ 58 < (x0 &&& Int32.ofInt 63).toInt
  · refine ⟨za_h2, ?_⟩
    have h1 : (decide ((x0 &&& Int32.ofInt 63).toInt < 0) || decide (58 < (x0 &&& Int32.ofInt 63).toInt)) = true := by
      rw [Bool.or_eq_true, decide_eq_true_iff, decide_eq_true_iff]
      exact hr
    rw [h1, cond_true]
    exact hk za_h2
  · have h1 : (decide ((x0 &&& Int32.ofInt 63).toInt < 0) || decide (58 < (x0 &&& Int32.ofInt 63).toInt)) = false := by
      rw [Bool.or_eq_false_iff, decide_eq_false_iff_not, decide_eq_false_iff_not]
      omega
    rw [h1, cond_false]
    exact zs_nth (P := fun o => ∃ h, o = some (Int32.ofInt 1, h)) (show ((x0 &&& Int32.ofInt 63).toInt - 0).toNat < 59 by omega) ((zs_cons (z_c0 hk) (zs_cons (z_c1 hk) (zs_cons (z_c2 hk) (zs_cons (z_c3 hk) (zs_cons (z_c4 hk) (zs_cons (z_c5 hk) (zs_cons (z_c6 hk) (zs_cons (z_c7 hk) (zs_cons (z_c8 hk) (zs_cons (z_c9 hk) (zs_cons (z_c10 hk) (zs_cons (z_c11 hk) (zs_cons (z_c12 hk) (zs_cons (z_c13 hk) (zs_cons (z_c14 hk) (zs_cons (z_c15 hk) (zs_cons (z_c16 hk) (zs_cons (z_c17 hk) (zs_cons (z_c18 hk) (zs_cons (z_c19 hk) (zs_cons (z_c20 hk) (zs_cons (z_c21 hk) (zs_cons (z_c22 hk) (zs_cons (z_c23 hk) (zs_cons (z_c24 hk) (zs_cons (z_c25 hk) (zs_cons (z_c26 hk) (zs_cons (z_c27 hk) (zs_cons (z_c28 hk) (zs_cons (z_c29 hk) (zs_cons (z_c30 hk) (zs_cons (z_c31 hk) (zs_cons (z_c32 hk) (zs_cons (z_c33 hk) (zs_cons (z_c34 hk) (zs_cons (z_c35 hk) (zs_cons (z_c36 hk) (zs_cons (z_c37 hk) (zs_cons (z_c38 hk) (zs_cons (z_c39 hk) (zs_cons (z_c40 hk) (zs_cons (z_c41 hk) (zs_cons (z_c42 hk) (zs_cons (z_c43 hk) (zs_cons (z_c44 hk) (zs_cons (z_c45 hk) (zs_cons (z_c46 hk) (zs_cons (z_c47 hk) (zs_cons (z_c48 hk) (zs_cons (z_c49 hk) (zs_cons (z_c50 hk) (zs_cons (z_c51 hk) (zs_cons (z_c52 hk) (zs_cons (z_c53 hk) (zs_cons (z_c54 hk) (zs_cons (z_c55 hk) (zs_cons (z_c56 hk) (zs_cons (z_c57 hk) (zs_cons (z_c58 hk) zs_nil))))))))))))))))))))))))))))))))))))))))))))))))))))))))))))
theorem zs_all (xs : List Int32) (hl : xs.length ≤ 6) : ∃ h, fL_law_23 xs 3000 2 0 232 243 (Int32.ofInt 0) za_h2 = some (Int32.ofInt 1, h) := by
  have short : ∀ n : Nat, xs.length = n → z_cmp .gt (Int32.ofInt 0) (Int32.ofNat n - Int32.ofInt 6) = true → ∃ h, fL_law_23 xs 3000 2 0 232 243 (Int32.ofInt 0) za_h2 = some (Int32.ofInt 1, h) := by
    intro n hn he
    exact ⟨za_h2, by rw [fL_law_23, hn, he, cond_true]⟩
  have h1 : xs.length = 0 ∨ xs.length = 1 ∨ xs.length = 2 ∨ xs.length = 3 ∨ xs.length = 4 ∨ xs.length = 5 ∨ xs.length = 6 := by omega
  rcases h1 with h1 | h1 | h1 | h1 | h1 | h1 | h1
  · exact short 0 h1 rfl
  · exact short 1 h1 rfl
  · exact short 2 h1 rfl
  · exact short 3 h1 rfl
  · exact short 4 h1 rfl
  · exact short 5 h1 rfl
  · match xs, h1 with
    | [x0, x1, x2, x3, x4, x5], _ => exact zs_six x0 x1 x2 x3 x4 x5
