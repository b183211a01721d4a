/-! THE REFERENCE'S QUESTIONS, four. -/
/-- a factor by its place -/
theorem zr_fk2 {a : Nat → Nat → Int} {T : List Nat} (f : zr_fs a T) {k : Nat} (hk : k < (zw_fs T).length) : a 240 k = (((zw_fs T).getD k (0, 0)).1 : Int) ∧ a 240 (k + 1) = (((zw_fs T).getD k (0, 0)).2 : Int) ∧ ((zw_fs T).getD k (0, 0)).1 < ((zw_fs T).getD k (0, 0)).2 ∧ ((zw_fs T).getD k (0, 0)).2 ≤ T.length := by
  have hf := zm_fs T
  obtain ⟨i1, _, _⟩ := zm_itc (l := T) T.length 0 (Nat.zero_le _) (by omega)
  rw [← hf] at i1
  obtain ⟨j1, j2, j3, j4⟩ := i1 k hk
  have b := zw_lEb (l := T) (s := ((zw_fs T).getD k (0, 0)).1) j2
  refine ⟨f.1 k hk, ?_, by omega, by omega⟩
  by_cases e : k + 1 < (zw_fs T).length
  · rw [f.1 _ e, j3 e]
  · have e : k + 1 = (zw_fs T).length := by omega
    rw [e, f.2, j4 e]
section ZYT
variable {N : Nat} {h : zH} {fl fl' : Nat → Int} {a a' : Nat → Nat → Int} {bef now snap : zA} {hist : List zA} {sv t : Int} {inp : List Nat} {rep : zvP} {T : List Nat}
/-- two parts of the text -/
theorem zr_cmpT (hN : 1000 ≤ N) (H : zr h fl a) (tx : zr_tx a T) (hT : T.length ≤ 120) (hv : ∀ v ∈ T, v < 256) {x y z w : Nat} (hx : x ≤ y) (hy : y ≤ T.length) (hz : z ≤ w) (hw : w ≤ T.length) : ∃ q : Int, fM_compares N 232 (Int32.ofInt (3 + (x : Int))) (Int32.ofInt ((y : Int) - (x : Int))) (Int32.ofInt (3 + (z : Int))) (Int32.ofInt ((w : Int) - (z : Int))) h = some (Int32.ofInt q, h) ∧ (-1000 ≤ q ∧ q ≤ 1000) ∧ (q < 0 ↔ zw_cmp (zw_p T x y) (zw_p T z w) = -1) ∧ (q = 0 ↔ zw_cmp (zw_p T x y) (zw_p T z w) = 0) := by
  have l1 := zw_pl T x y hy
  have l2 := zw_pl T z w hw
  have d1 : ∀ i, (zw_p T x y).getD i 0 < 256 := zd_lt (fun v h => hv v (List.mem_of_mem_drop (List.mem_of_mem_take h)))
  have d2 : ∀ i, (zw_p T z w).getD i 0 < 256 := zd_lt (fun v h => hv v (List.mem_of_mem_drop (List.mem_of_mem_take h)))
  obtain ⟨q, q1, q2, q3⟩ := zr_compares3 (N := N) H (u := zw_p T x y) (v := zw_p T z w) (p := 3 + x) (q := 3 + z) (by omega) (by omega) (by omega) (by omega) d1 d2 (fun i hi => by rw [zw_pd (by omega), show 3 + x + i = 3 + (x + i) by omega, tx.2 _ (by omega)]) (fun i hi => by rw [zw_pd (by omega), show 3 + z + i = 3 + (z + i) by omega, tx.2 _ (by omega)]) (zw_p T x y).length N 0 (Nat.zero_add _) (Nat.zero_le _) (by omega)
  rw [zw_pall, zw_pall] at q3
  refine ⟨q, ?_, q2, q3⟩
  unfold fM_compares
  rw [zr_T H, cond_true, show 3 + (x : Int) = ((3 + x : Nat) : Int) by omega, show 3 + (z : Int) = ((3 + z : Nat) : Int) by omega, show (y : Int) - (x : Int) = ((zw_p T x y).length : Int) by omega, show (w : Int) - (z : Int) = ((zw_p T z w).length : Int) by omega]
  exact q1
theorem zr_isPart (H : zr h fl a) (tx : zr_tx a T) (hT : T.length ≤ 120) (x y : Int) (hx : -2147483648 ≤ x ∧ x < 2147483648) (hy : -2147483648 ≤ y ∧ y < 2147483648) : fM_isPart N 232 (Int32.ofInt x) (Int32.ofInt y) h = some (cond (zc_part T x y) (Int32.ofInt 1) (Int32.ofInt 0), h) := by
  have g1 : fAI h 233 100 (Int32.ofInt 1) = some (Int32.ofInt (a 233 1)) := zr_w H 1 (by decide)
  unfold fM_isPart zc_part
  rw [zr_T H, cond_true, zqo_lt _ _ hx (by decide), zqo_lt _ _ hy hx]
  by_cases e1 : x < 0
  · rw [decide_eq_true e1, cond_true, decide_eq_false (by omega)]
    rfl
  rw [decide_eq_false e1, cond_false]
  by_cases e2 : y < x
  · rw [decide_eq_true e2, cond_true, decide_eq_false (by omega)]
    rfl
  rw [decide_eq_false e2, cond_false, zr_r0 H, b1_s, g1, b1_s, tx.1, zqo_gt _ _ hy (by omega)]
  by_cases e3 : (T.length : Int) < y
  · rw [decide_eq_true e3, cond_true, decide_eq_false (by omega)]
    rfl
  · rw [decide_eq_false e3, cond_false, decide_eq_true (by omega)]
    rfl
theorem zn_compareParts (Y : zy h now hist snap sv inp rep t) (ok : zv_ok now) (hN : 4000 ≤ N) (x y z w : Int) (hx : -2147483648 ≤ x ∧ x < 2147483648) (hy : -2147483648 ≤ y ∧ y < 2147483648) (hz : -2147483648 ≤ z ∧ z < 2147483648) (hw : -2147483648 ≤ w ∧ w < 2147483648) : ((zc_part now.2.1 x y && zc_part now.2.1 z w) = false ∧ ∃ h', fM_compareParts N 232 (Int32.ofInt x) (Int32.ofInt y) (Int32.ofInt z) (Int32.ofInt w) h = some (Int32.ofInt 0, h') ∧ zy h' now hist snap sv inp rep 1 ∧ zr_F h h') ∨ ((zc_part now.2.1 x y && zc_part now.2.1 z w) = true ∧ ∃ h', fM_compareParts N 232 (Int32.ofInt x) (Int32.ofInt y) (Int32.ofInt z) (Int32.ofInt w) h = some (Int32.ofInt (zw_cmp (zw_p now.2.1 x.toNat y.toNat) (zw_p now.2.1 z.toNat w.toNat)), h') ∧ zy h' now hist snap sv inp rep 0 ∧ zr_F h h') := by
  have o2 := ok.2.1
  obtain ⟨fl0, a0, H0, R0⟩ := id Y
  have k : ∃ h', fM_compareParts_20 N 232 (Int32.ofInt x) (Int32.ofInt y) (Int32.ofInt z) (Int32.ofInt w) 232 h = some (Int32.ofInt 0, h') ∧ zy h' now hist snap sv inp rep 1 ∧ zr_F h h' := by
    obtain ⟨h1, e1, Y1, F1⟩ := zy_one1 (N := N) Y
    refine ⟨h1, ?_, Y1, F1⟩
    unfold fM_compareParts_20 fM_compareParts_25
    rw [e1]
    rfl
  unfold fM_compareParts
  rw [zr_T H0, cond_true, zr_isPart H0 (zyR_tx R0) o2 x y hx hy, b2]
  cases c1 : zc_part now.2.1 x y with
  | false => exact Or.inl ⟨rfl, k⟩
  | true =>
    show (_ ∧ ∃ h', b2 (fM_isPart N 232 (Int32.ofInt z) (Int32.ofInt w) h) _ = _ ∧ _) ∨ (_ ∧ ∃ h', b2 (fM_isPart N 232 (Int32.ofInt z) (Int32.ofInt w) h) _ = _ ∧ _)
    rw [zr_isPart H0 (zyR_tx R0) o2 z w hz hw, b2]
    cases c2 : zc_part now.2.1 z w with
    | false => exact Or.inl ⟨rfl, k⟩
    | true =>
      refine Or.inr ⟨rfl, ?_⟩
      have d1 := of_decide_eq_true c1
      have d2 := of_decide_eq_true c2
      obtain ⟨x, rfl⟩ : ∃ v : Nat, x = (v : Int) := ⟨x.toNat, by omega⟩
      obtain ⟨y, rfl⟩ : ∃ v : Nat, y = (v : Int) := ⟨y.toNat, by omega⟩
      obtain ⟨z, rfl⟩ : ∃ v : Nat, z = (v : Int) := ⟨z.toNat, by omega⟩
      obtain ⟨w, rfl⟩ : ∃ v : Nat, w = (v : Int) := ⟨w.toNat, by omega⟩
      obtain ⟨h1, e1, ⟨fl, a, H, R⟩, F1⟩ := zy_one0 (N := N) Y
      obtain ⟨q, q1, q2, q3, q4⟩ := zr_cmpT (N := N) (by omega) H (zyR_tx R) o2 (zv_256 ok) (x := x) (y := y) (z := z) (w := w) (by omega) (by omega) (by omega) (by omega)
      refine ⟨h1, ?_, ⟨fl, a, H, R⟩, F1⟩
      show fM_compareParts_25 N 232 (Int32.ofInt (x : Int)) (Int32.ofInt (y : Int)) (Int32.ofInt (z : Int)) (Int32.ofInt (w : Int)) (Int32.ofInt 0) 232 h = some (Int32.ofInt (zw_cmp (zw_p now.2.1 x y) (zw_p now.2.1 z w)), h1)
      unfold fM_compareParts_25
      rw [e1, b2]
      show b2 (fM_compares N 232 _ _ _ _ h1) _ = _
      rw [zw_add, zw_sub, zw_add, zw_sub, q1, b2, zqo_ge _ _ (by omega) (by decide), zqo_le _ _ (by omega) (by decide)]
      rcases zw_cmpb (zw_p now.2.1 x y) (zw_p now.2.1 z w) with v | v | v
      · have := q3.mpr v
        rw [decide_eq_false (by omega), v]
        rfl
      · have := q4.mpr v
        rw [decide_eq_true (by omega : (0 : Int) ≤ q), decide_eq_true (by omega : q ≤ 0), v]
        rfl
      · have n1 : ¬ q < 0 := fun y => by rw [q3.mp y] at v; exact absurd v (by decide)
        have n2 : ¬ q = 0 := fun y => by rw [q4.mp y] at v; exact absurd v (by decide)
        rw [decide_eq_true (by omega : (0 : Int) ≤ q), decide_eq_false (by omega : ¬ q ≤ 0), v]
        rfl
theorem zr_long14 (hN : 1000 ≤ N) (H : zr h fl a) (S : zr_fs a T) (hT : T.length ≤ 120) : ∀ (c f i : Nat) (g : Int) (m : Nat), i + c = (zw_fs T).length → c < f → ((g = -1 ∧ m = 0) ∨ ∃ j : Nat, g = (j : Int) ∧ j < i ∧ m = ((zw_fs T).getD j (0, 0)).2 - ((zw_fs T).getD j (0, 0)).1) → fM_longestFactor_14 N f 232 (Int32.ofInt ((zw_fs T).length : Int)) (Int32.ofInt g) (Int32.ofInt (i : Int)) h = some (Int32.ofInt (zw_long ((zw_fs T).drop i) i g m), h) := by
  have fl := zm_fsl T
  intro c
  induction c with
  | zero =>
    intro f i g m h1 h2 h3
    obtain ⟨y, rfl⟩ : ∃ y, f = y + 1 := ⟨f - 1, by omega⟩
    rw [fM_longestFactor_14, zqo_ge _ _ (by omega) (by omega), decide_eq_true (by omega), cond_true, List.drop_eq_nil_of_le (by omega)]
    rfl
  | succ c ih =>
    intro f i g m h1 h2 h3
    obtain ⟨y, rfl⟩ : ∃ y, f = y + 1 := ⟨f - 1, by omega⟩
    have hi : i < (zw_fs T).length := by omega
    obtain ⟨s1, s2, s3, s4⟩ := zr_fk2 S hi
    have ei : (zw_fs T)[i] = (zw_fs T).getD i (0, 0) := by
      rw [List.getD_eq_getElem?_getD, List.getElem?_eq_getElem hi]
      rfl
    have gi : fAI h 240 100 (Int32.ofInt ((i : Int) + 1)) = some (Int32.ofInt (a 240 (i + 1))) := zr_st H (i + 1) (by omega)
    rw [fM_longestFactor_14, zqo_ge _ _ (by omega) (by omega), decide_eq_false (by omega), cond_false, List.drop_eq_getElem_cons hi, zw_long, ei]
    unfold fM_longestFactor_57 fM_longestFactor_59
    rcases h3 with ⟨rfl, rfl⟩ | ⟨j, rfl, hj, rfl⟩
    · rw [zqo_eq _ _ (by decide) (by decide), decide_eq_true rfl, cond_true, if_pos (by omega), zh_inc]
      exact ih y (i + 1) (i : Int) _ (by omega) (by omega) (Or.inr ⟨i, rfl, by omega, rfl⟩)
    · obtain ⟨t1, t2, t3, t4⟩ := zr_fk2 S (show j < (zw_fs T).length by omega)
      have gj : fAI h 240 100 (Int32.ofInt ((j : Int) + 1)) = some (Int32.ofInt (a 240 (j + 1))) := zr_st H (j + 1) (by omega)
      rw [zqo_eq _ _ (by omega) (by decide), decide_eq_false (by omega), cond_false, zr_r9 H, b1_s, zw_add, gi, b1_s, b1_s, zr_st H i (by omega), b1_s, b1_s, zw_add, gj, b1_s, b1_s, zr_st H j (by omega), b1_s, s1, s2, t1, t2, zw_sub, zw_sub, zqo_le _ _ (by omega) (by omega)]
      by_cases e : ((zw_fs T).getD j (0, 0)).2 - ((zw_fs T).getD j (0, 0)).1 < ((zw_fs T).getD i (0, 0)).2 - ((zw_fs T).getD i (0, 0)).1
      · rw [decide_eq_false (by omega), cond_false, if_pos e]
        exact ih y (i + 1) (i : Int) _ (by omega) (by omega) (Or.inr ⟨i, rfl, by omega, rfl⟩)
      · rw [decide_eq_true (by omega), cond_true, if_neg e]
        exact ih y (i + 1) (j : Int) _ (by omega) (by omega) (Or.inr ⟨j, rfl, by omega, rfl⟩)
theorem zn_longestFactor (Y : zy h now hist snap sv inp rep t) (ok : zv_ok now) (hN : 4000 ≤ N) : ∃ h', fM_longestFactor N 232 h = some (Int32.ofInt (zw_long (zw_fs now.2.1) 0 (-1) 0), h') ∧ zy h' now hist snap sv inp rep 0 ∧ zr_F h h' := by
  have o2 := ok.2.1
  have fb := zm_fsl now.2.1
  obtain ⟨h1, e1, Y1, F1⟩ := zy_throw Y 0
  obtain ⟨h2, e2, ⟨fl, a, H, R, S⟩, Y2, F2⟩ := zy_factors (N := N) (by omega) Y1 ok
  obtain ⟨fl0, a0, H0, R0⟩ := Y
  refine ⟨h2, ?_, Y2, zr_Ft F1 F2⟩
  have q := zr_long14 (N := N) (by omega) H S o2 (zw_fs now.2.1).length N 0 (-1) 0 (Nat.zero_add _) (by omega) (Or.inl ⟨rfl, rfl⟩)
  rw [List.drop_zero] at q
  unfold fM_longestFactor
  rw [zr_T H0, cond_true, e1, b1_s, e2, b2]
  exact q
end ZYT
