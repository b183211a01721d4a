/-! THE CLASS'S CHANGES, as they are seen. -/
def zv_L (A : zA) (w : List Nat) : Prop := ∀ v ∈ w, 97 ≤ v ∧ v < 97 + A.1
section ZVC
variable {N : Nat} {h : zH} {now snap : zA} {hist : List zA} {sv : Int} {inp : List Nat} {rep : zvP}
theorem zv_T0 (V : zv h now hist snap sv inp rep) : fT h 0 0 = true := by
  obtain ⟨sL, sT, sS, sK, wd, nu, hs, C, _⟩ := V
  exact zc_T0 C
theorem zv_r00 (V : zv h now hist snap sv inp rep) : fR h 0 0 0 = some 1 := by
  obtain ⟨sL, sT, sS, sK, wd, nu, hs, C, _⟩ := V
  exact zc_r00 C
theorem zv_r01 (V : zv h now hist snap sv inp rep) : fR h 0 0 1 = some 21 := by
  obtain ⟨sL, sT, sS, sK, wd, nu, hs, C, _⟩ := V
  exact zc_r01 C
theorem zv_r04 (V : zv h now hist snap sv inp rep) : fR h 0 0 4 = some 203 := by
  obtain ⟨sL, sT, sS, sK, wd, nu, hs, C, _⟩ := V
  exact zc_r04 C
theorem zv_r20 (V : zv h now hist snap sv inp rep) : fR h 203 2 0 = some 204 := by
  obtain ⟨sL, sT, sS, sK, wd, nu, hs, C, _⟩ := V
  exact zc_r20 C
theorem zv_t (V : zv h now hist snap sv inp rep) : fR h 1 3 1 = some (1 + 1) := by
  obtain ⟨ok, S, H, _⟩ := zv_open V
  exact zs_t H
theorem zv_txt (V : zv h now hist snap sv inp rep) : zw_W h (1 + 1) 120 now.2.1 := by
  obtain ⟨ok, S, H, _⟩ := zv_open V
  exact H.2.2.2.1
/-- the text changed -/
theorem zv_text {h' : zH} {T : List Nat} (V : zv h now hist snap sv inp rep) (W : zw_W h' (1 + 1) 120 T) (F : zw_F h h' (1 + 1)) (hT : zv_L now T) : zv h' (now.1, T, now.2.2) hist snap sv inp rep ∧ zc_F h h' := by
  obtain ⟨ok, S, H, hS, cl⟩ := zv_open V
  obtain ⟨H2, F2⟩ := zs_text H W F
  have := cl h' _ _ _ _ H2 F2 ⟨ok.1, W.2.2.2.1, hT, by rw [hS]; exact ok.2.2.2.1, by rw [hS]; exact ok.2.2.2.2⟩
  rw [hS] at this
  exact this
theorem zv_count (V : zv h now hist snap sv inp rep) (x : Int) (hx : -2147483648 ≤ x ∧ x < 2147483648) : fB_checkCount N 0 (Int32.ofInt x) h = cond (decide (0 ≤ x ∧ x ≤ (now.2.1.length : Int))) (some (.inl (), h)) (some (.inr 0, h)) := by
  obtain ⟨sL, sT, sS, sK, wd, nu, hs, C, v1, _⟩ := V
  have := zq_checkCount (N := N) C x hx
  rw [← v1]
  exact this
theorem zv_letter (V : zv h now hist snap sv inp rep) (x : Int) (hx : -2147483648 ≤ x ∧ x < 2147483648) : fB_checkLetter N 0 (Int32.ofInt x) h = cond (decide (97 ≤ x ∧ x < 97 + (now.1 : Int))) (some (.inl (), h)) (some (.inr 0, h)) := by
  obtain ⟨sL, sT, sS, sK, wd, nu, hs, C, v1, _⟩ := V
  have := zq_checkLetter (N := N) C x hx
  rw [← v1]
  exact this
theorem zv_part (V : zv h now hist snap sv inp rep) (x y : Int) (hx : -2147483648 ≤ x ∧ x < 2147483648) (hy : -2147483648 ≤ y ∧ y < 2147483648) : fB_checkPart N 0 (Int32.ofInt x) (Int32.ofInt y) h = cond (zc_part now.2.1 x y) (some (.inl (), h)) (some (.inr 0, h)) := by
  obtain ⟨sL, sT, sS, sK, wd, nu, hs, C, v1, _⟩ := V
  have := zq_checkPart (N := N) C x y hx hy
  rw [← v1]
  exact this
theorem zk_appendLetter (V : zv h now hist snap sv inp rep) (hN : 3000 ≤ N) (x : Int) (hx : -2147483648 ≤ x ∧ x < 2147483648) : (¬ (97 ≤ x ∧ x < 97 + (now.1 : Int)) ∧ fB_appendLetter N 0 (Int32.ofInt x) h = some (.inr 0, h)) ∨ ((97 ≤ x ∧ x < 97 + (now.1 : Int)) ∧ now.2.1.length = 120 ∧ fB_appendLetter N 0 (Int32.ofInt x) h = some (.inr 1, h)) ∨ ((97 ≤ x ∧ x < 97 + (now.1 : Int)) ∧ now.2.1.length < 120 ∧ ∃ h', fB_appendLetter N 0 (Int32.ofInt x) h = some (.inl (Int32.ofInt ((zw_fs (now.2.1 ++ [x.toNat])).length : Int)), h') ∧ zv h' (now.1, now.2.1 ++ [x.toNat], now.2.2) (zv_push hist now) snap sv inp rep ∧ zc_F h h') := by
  have ok := (zv_open V).1
  have W := zv_txt V
  unfold fB_appendLetter
  rw [zv_T0 V, cond_true, zv_letter V x hx]
  by_cases e : 97 ≤ x ∧ x < 97 + (now.1 : Int)
  · refine Or.inr ?_
    rw [decide_eq_true e, cond_true]
    by_cases e2 : now.2.1.length = 120
    · refine Or.inl ⟨e, e2, ?_⟩
      show b1 (fR h 0 0 0) _ = _
      rw [zv_r00 V, b1_s, zv_t V, b1_s, zw_z W, b1_s, zqo_lt _ _ (by omega) (by decide), decide_eq_false (by omega), cond_false]
    · have h120 := ok.2.1
      obtain ⟨v, rfl⟩ : ∃ v : Nat, x = (v : Int) := ⟨x.toNat, by omega⟩
      have h9 := ok.1.2
      obtain ⟨h1, e1, V1, F1⟩ := zv_remember (N := N) V (by omega)
      have W1 := zv_txt V1
      obtain ⟨h2, e3, W2, F2⟩ := zw_addN (N := N) W1 v (by omega) (by omega)
      obtain ⟨V2, G2⟩ := zv_text V1 W2 F2 (fun u hu => by
        rw [List.mem_append, List.mem_singleton] at hu
        rcases hu with hu | hu
        · exact ok.2.2.1 u hu
        · omega)
      refine Or.inr ⟨e, by omega, h2, ?_, V2, zc_Ft F1 G2⟩
      show b1 (fR h 0 0 0) _ = _
      rw [zv_r00 V, b1_s, zv_t V, b1_s, zw_z W, b1_s, zqo_lt _ _ (by omega) (by decide), decide_eq_true (by omega), cond_true, zv_r01 V, b1_s, b1_s, e1, b2, zv_r00 V1, b1_s, zv_t V1, b1_s, e3, b2, zv_r00 V2, b1_s, zv_t V2, b1_s, zw_count W2 (by omega), b2]
      rfl
  · refine Or.inl ⟨e, ?_⟩
    rw [decide_eq_false e, cond_false]
    rfl
theorem zk_dropLast (V : zv h now hist snap sv inp rep) (hN : 3000 ≤ N) (x : Int) (hx : -2147483648 ≤ x ∧ x < 2147483648) : (¬ (0 ≤ x ∧ x ≤ (now.2.1.length : Int)) ∧ fB_dropLast N 0 (Int32.ofInt x) h = some (.inr 0, h)) ∨ ((0 ≤ x ∧ x ≤ (now.2.1.length : Int)) ∧ ∃ h', fB_dropLast N 0 (Int32.ofInt x) h = some (.inl (Int32.ofInt ((zw_fs (now.2.1.take (now.2.1.length - x.toNat))).length : Int)), h') ∧ zv h' (now.1, now.2.1.take (now.2.1.length - x.toNat), now.2.2) (zv_push hist now) snap sv inp rep ∧ zc_F h h') := by
  have ok := (zv_open V).1
  unfold fB_dropLast
  rw [zv_T0 V, cond_true, zv_count V x hx]
  by_cases e : 0 ≤ x ∧ x ≤ (now.2.1.length : Int)
  · refine Or.inr ⟨e, ?_⟩
    have h120 := ok.2.1
    obtain ⟨v, rfl⟩ : ∃ v : Nat, x = (v : Int) := ⟨x.toNat, by omega⟩
    obtain ⟨h1, e1, V1, F1⟩ := zv_remember (N := N) V (by omega)
    have W1 := zv_txt V1
    obtain ⟨h2, e3, W2, F2⟩ := zw_shorten (N := N) W1 ((now.2.1.length - v : Nat) : Int) (by omega)
    rw [if_pos (by omega), show ((now.2.1.length - v : Nat) : Int).toNat = now.2.1.length - v by omega] at W2
    obtain ⟨V2, G2⟩ := zv_text V1 W2 F2 (fun u hu => ok.2.2.1 u (List.mem_of_mem_take hu))
    refine ⟨h2, ?_, V2, zc_Ft F1 G2⟩
    rw [decide_eq_true e, cond_true]
    show b1 (fR h 0 0 1) _ = _
    rw [zv_r01 V, b1_s, zv_r00 V, b1_s, e1, b2, zv_r00 V1, b1_s, zv_t V1, b1_s, b1_s, zv_t V1, b1_s, zw_z W1, b1_s, zw_sub, show (now.2.1.length : Int) - (v : Int) = ((now.2.1.length - v : Nat) : Int) by omega, e3, b2, zv_r00 V2, b1_s, zv_t V2, b1_s, zw_count W2 (by omega), b2]
    rfl
  · refine Or.inl ⟨e, ?_⟩
    rw [decide_eq_false e, cond_false]
    rfl
theorem zk_cutPart (V : zv h now hist snap sv inp rep) (hN : 3000 ≤ N) (x y : Int) (hx : -2147483648 ≤ x ∧ x < 2147483648) (hy : -2147483648 ≤ y ∧ y < 2147483648) : (zc_part now.2.1 x y = false ∧ fB_cutPart N 0 (Int32.ofInt x) (Int32.ofInt y) h = some (.inr 0, h)) ∨ (zc_part now.2.1 x y = true ∧ ∃ h', fB_cutPart N 0 (Int32.ofInt x) (Int32.ofInt y) h = some (.inl (Int32.ofInt ((zw_p now.2.1 x.toNat y.toNat).length : Int)), h') ∧ zv h' (now.1, zw_p now.2.1 x.toNat y.toNat, now.2.2) (zv_push hist now) snap sv inp rep ∧ zc_F h h') := by
  have ok := (zv_open V).1
  unfold fB_cutPart
  rw [zv_T0 V, cond_true, zv_part V x y hx hy]
  cases e : zc_part now.2.1 x y with
  | true =>
    refine Or.inr ⟨rfl, ?_⟩
    have e := of_decide_eq_true e
    have h120 := ok.2.1
    obtain ⟨a, rfl⟩ : ∃ v : Nat, x = (v : Int) := ⟨x.toNat, by omega⟩
    obtain ⟨b, rfl⟩ : ∃ v : Nat, y = (v : Int) := ⟨y.toNat, by omega⟩
    obtain ⟨h1, e1, V1, F1⟩ := zv_remember (N := N) V (by omega)
    have W1 := zv_txt V1
    obtain ⟨h2, e3, W2, F2⟩ := zw_cut (N := N) W1 (by omega) (show a ≤ b by omega) (by omega)
    rw [zm_cut (by omega) (by omega)] at W2
    obtain ⟨V2, G2⟩ := zv_text V1 W2 F2 (fun u hu => ok.2.2.1 u (List.mem_of_mem_drop (List.mem_of_mem_take hu)))
    refine ⟨h2, ?_, V2, zc_Ft F1 G2⟩
    rw [cond_true]
    show b1 (fR h 0 0 1) _ = _
    rw [zv_r01 V, b1_s, zv_r00 V, b1_s, e1, b2, zv_r00 V1, b1_s, zv_t V1, b1_s, e3, b2, zv_r00 V2, b1_s, zv_t V2, b1_s, zw_z W2, b1_s]
    rfl
  | false => exact Or.inl ⟨rfl, rfl⟩
theorem zv_trnL {c : Nat} (hT : zv_L now now.2.1) (hc : c ≤ now.2.1.length) : zv_L now (zw_trn now.2.1 c) := by
  refine zm_mem (P := fun v => 97 ≤ v ∧ v < 97 + now.1) (fun j hj => ?_)
  rw [zw_trnl] at hj
  rw [zm_trn hc hj]
  exact zm_cget (P := fun v => 97 ≤ v ∧ v < 97 + now.1) hT (by omega) _
theorem zk_rotate (V : zv h now hist snap sv inp rep) (hN : 3000 ≤ N) (x : Int) (hx : -2147483648 ≤ x ∧ x < 2147483648) : (¬ (0 ≤ x ∧ x ≤ (now.2.1.length : Int)) ∧ fB_rotate N 0 (Int32.ofInt x) h = some (.inr 0, h)) ∨ ((0 ≤ x ∧ x ≤ (now.2.1.length : Int)) ∧ ∃ h', fB_rotate N 0 (Int32.ofInt x) h = some (.inl (Int32.ofInt ((zw_fs (zw_trn now.2.1 x.toNat)).length : Int)), h') ∧ zv h' (now.1, zw_trn now.2.1 x.toNat, now.2.2) (zv_push hist now) snap sv inp rep ∧ zc_F h h') := by
  have ok := (zv_open V).1
  unfold fB_rotate
  rw [zv_T0 V, cond_true, zv_count V x hx]
  by_cases e : 0 ≤ x ∧ x ≤ (now.2.1.length : Int)
  · refine Or.inr ⟨e, ?_⟩
    have h120 := ok.2.1
    obtain ⟨v, rfl⟩ : ∃ v : Nat, x = (v : Int) := ⟨x.toNat, by omega⟩
    obtain ⟨h1, e1, V1, F1⟩ := zv_remember (N := N) V (by omega)
    have W1 := zv_txt V1
    obtain ⟨h2, e3, W2, F2⟩ := zw_turn (N := N) W1 (by omega) (c := v) (by omega)
    obtain ⟨V2, G2⟩ := zv_text V1 W2 F2 (zv_trnL ok.2.2.1 (by omega))
    refine ⟨h2, ?_, V2, zc_Ft F1 G2⟩
    rw [decide_eq_true e, cond_true]
    show b1 (fR h 0 0 1) _ = _
    rw [zv_r01 V, b1_s, zv_r00 V, b1_s, e1, b2, zv_r00 V1, b1_s, zv_t V1, b1_s, e3, b2, zv_r00 V2, b1_s, zv_t V2, b1_s, zw_count W2 (by omega), b2]
    rfl
  · refine Or.inl ⟨e, ?_⟩
    rw [decide_eq_false e, cond_false]
    rfl
theorem zk_reverse (V : zv h now hist snap sv inp rep) (hN : 3000 ≤ N) : ∃ h', fB_reverse N 0 h = some (Int32.ofInt ((zw_fs (zw_mir now.2.1 0 now.2.1.length)).length : Int), h') ∧ zv h' (now.1, zw_mir now.2.1 0 now.2.1.length, now.2.2) (zv_push hist now) snap sv inp rep ∧ zc_F h h' := by
  have ok := (zv_open V).1
  obtain ⟨h1, e1, V1, F1⟩ := zv_remember (N := N) V (by omega)
  have W1 := zv_txt V1
  obtain ⟨h2, e3, W2, F2⟩ := zw_mirror (N := N) W1 (by omega) (Nat.zero_le now.2.1.length) (Nat.le_refl _)
  obtain ⟨V2, G2⟩ := zv_text V1 W2 F2 (zm_mem (P := fun v => 97 ≤ v ∧ v < 97 + now.1) (fun j hj => by
    rw [zm_mirl] at hj
    rw [zm_rev hj]
    exact zm_get (P := fun v => 97 ≤ v ∧ v < 97 + now.1) ok.2.2.1 (by omega)))
  refine ⟨h2, ?_, V2, zc_Ft F1 G2⟩
  unfold fB_reverse
  rw [zv_T0 V, cond_true, zv_r01 V, b1_s, zv_r00 V, b1_s, e1, b2, zv_r00 V1, b1_s, zv_t V1, b1_s, b1_s, zv_t V1, b1_s, zw_z W1, b1_s, show Int32.ofInt 0 = Int32.ofInt ((0 : Nat) : Int) from rfl, e3, b2, zv_r00 V2, b1_s, zv_t V2, b1_s, zw_count W2 (by omega), b2]
theorem zk_rotateToLeast (V : zv h now hist snap sv inp rep) (hN : 3000 ≤ N) : (now.2.1.length = 0 ∧ fB_rotateToLeast N 0 h = some (.inr 1, h)) ∨ (now.2.1.length ≠ 0 ∧ ∃ h', fB_rotateToLeast N 0 h = some (.inl (Int32.ofInt ((zm_least now.2.1 : Nat) : Int)), h') ∧ zv h' (now.1, zw_trn now.2.1 (zm_least now.2.1), now.2.2) (zv_push hist now) snap sv inp rep ∧ zc_F h h') := by
  have ok := (zv_open V).1
  have W := zv_txt V
  have h120 := ok.2.1
  unfold fB_rotateToLeast
  rw [zv_T0 V, cond_true, zv_r00 V, b1_s, zv_t V, b1_s, zw_z W, b1_s, zqo_ne _ _ (by omega) (by decide)]
  by_cases e : now.2.1.length = 0
  · refine Or.inl ⟨e, ?_⟩
    rw [decide_eq_true (by omega), Bool.not_true, cond_false]
  · refine Or.inr ⟨e, ?_⟩
    obtain ⟨h1, e1, V1, F1⟩ := zv_remember (N := N) V (by omega)
    have W1 := zv_txt V1
    have lt := (zm_leastM (l := now.2.1) (by omega)).1
    have hl := zw_lturn (N := N) W1 hN
    rw [zm_lT (show 0 < now.2.1.length by omega)] at hl
    obtain ⟨h2, e3, W2, F2⟩ := zw_turn (N := N) W1 (by omega) (c := zm_least now.2.1) (by omega)
    obtain ⟨V2, G2⟩ := zv_text V1 W2 F2 (zv_trnL ok.2.2.1 (by omega))
    refine ⟨h2, ?_, V2, zc_Ft F1 G2⟩
    rw [decide_eq_false (by omega), Bool.not_false, cond_true, zv_r01 V, b1_s, b1_s, e1, b2, zv_r00 V1, b1_s, zv_t V1, b1_s, hl, b2, zv_r00 V1, b1_s, zv_t V1, b1_s, e3, b2]
end ZVC
