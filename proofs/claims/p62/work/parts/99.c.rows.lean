/-! p62: THE LAW'S ROWS: order, isLyndon, word. -/
theorem yO_cmp (N a b : Nat) (h : zH) (ha : a < 2147483648) (hb : b < 2147483648) : fJI_compare N (Int32.ofInt (a : Int)) (Int32.ofInt (b : Int)) h = some (Int32.ofInt (if a < b then -1 else if a = b then 0 else 1), h) := by
  unfold fJI_compare
  rw [zqo_ge _ _ (by omega) (by omega), zqo_ne _ _ (by omega) (by omega)]
  by_cases h1 : a < b
  · rw [decide_eq_false (by omega), cond_false, if_pos h1]
    rfl
  · rw [decide_eq_true (by omega), cond_true, if_neg h1]
    by_cases h2 : a = b
    · rw [decide_eq_true (by omega), if_pos h2]
      rfl
    · rw [decide_eq_false (by omega), if_neg h2]
      rfl
/-- the text as a row of numbers -/
def yT (T : List Nat) : List Int := T.map fun v : Nat => (v : Int)
theorem yT_len (T : List Nat) : (yT T).length = T.length := List.length_map _
theorem yT_get {T : List Nat} {i : Nat} : (yT T).getD i 0 = ((T.getD i 0 : Nat) : Int) := by
  unfold yT
  rw [List.getD_eq_getElem?_getD, List.getD_eq_getElem?_getD, List.getElem?_map]
  cases T[i]? <;> rfl
section YOO
variable {N q : Nat} {h : zH} {T : List Nat}
theorem yO_at (R : yR h q (yT T)) (hv : ∀ v ∈ T, v < 256) {i k : Nat} (hi : i + k < T.length) : fAI h q 100 (Int32.ofInt (i : Int) + Int32.ofInt (k : Int)) = some (Int32.ofInt (T.getD (i + k) 0 : Int)) := by
  rw [zw_add, show (i : Int) + (k : Int) = ((i + k : Nat) : Int) by omega, yR_get R (by rw [yT_len]; exact hi), yT_get]
theorem yO_3 (R : yR h q (yT T)) (hv : ∀ v ∈ T, v < 256) (hT : T.length ≤ 200) {i j n m : Nat} (hi : i + n ≤ T.length) (hj : j + m ≤ T.length) : ∀ f k : Nat, k ≤ n → k ≤ m → n < k + f → fL_order_3 N f q (Int32.ofInt (i : Int)) (Int32.ofInt (n : Int)) q (Int32.ofInt (j : Int)) (Int32.ofInt (m : Int)) (Int32.ofInt (k : Int)) h = some (Int32.ofInt (zw_cmp (zw_p T (i + k) (i + n)) (zw_p T (j + k) (j + m))), h) := by
  intro f
  induction f with
  | zero => intro k h1 h2 h3; omega
  | succ f ih =>
    intro k h1 h2 h3
    rw [fL_order_3, zqo_ge _ _ (by omega) (by omega), zqo_ge _ _ (by omega) (by omega)]
    by_cases e1 : n ≤ k
    · have e1 : k = n := by omega
      subst e1
      rw [decide_eq_true (Int.le_refl _), cond_true, fL_order_60, yO_cmp N k m h (by omega) (by omega), b2_s, zw_p0 (Nat.le_refl _)]
      by_cases e2 : k = m
      · subst e2
        rw [zw_p0 (Nat.le_refl _), if_neg (by omega), if_pos rfl]
        rfl
      · rw [zw_pc (show j + k < j + m by omega) hj, if_pos (by omega)]
        rfl
    · rw [decide_eq_false (by omega), cond_false, zw_pc (show i + k < i + n by omega) hi]
      by_cases e2 : m ≤ k
      · have e2 : k = m := by omega
        subst e2
        rw [decide_eq_true (Int.le_refl _), cond_true, fL_order_60, yO_cmp N n k h (by omega) (by omega), b2_s, zw_p0 (Nat.le_refl _), if_neg (by omega), if_neg (by omega)]
        rfl
      · have g1 := zw_gD hv (i + k)
        have g2 := zw_gD hv (j + k)
        rw [decide_eq_false (by omega), cond_false, zw_pc (show j + k < j + m by omega) hj, yO_at R hv (by omega), b1_s, yO_at R hv (by omega), b1_s, zqo_eq _ _ (by omega) (by omega)]
        by_cases e3 : T.getD (i + k) 0 = T.getD (j + k) 0
        · rw [decide_eq_true (by omega), cond_true, zw_add, show (k : Int) + 1 = ((k + 1 : Nat) : Int) by omega, ih (k + 1) (by omega) (by omega) (by omega), zw_cmp, if_pos e3]
          rfl
        · rw [decide_eq_false (by omega), cond_false, b1_s, b1_s, zqo_ge _ _ (by omega) (by omega), zw_cmp, if_neg e3]
          by_cases e4 : T.getD (i + k) 0 < T.getD (j + k) 0
          · rw [decide_eq_false (by omega), cond_false, if_pos e4]
            rfl
          · rw [decide_eq_true (by omega), cond_true, if_neg e4]
            rfl
theorem yO_order (R : yR h q (yT T)) (hv : ∀ v ∈ T, v < 256) (hT : T.length ≤ 200) (hN : 1000 ≤ N) {i j n m : Nat} (hi : i + n ≤ T.length) (hj : j + m ≤ T.length) : fL_order N q (Int32.ofInt (i : Int)) (Int32.ofInt (n : Int)) q (Int32.ofInt (j : Int)) (Int32.ofInt (m : Int)) h = some (Int32.ofInt (zw_cmp (zw_p T i (i + n)) (zw_p T j (j + m))), h) := by
  unfold fL_order
  exact yO_3 R hv hT hi hj N 0 (Nat.zero_le _) (Nat.zero_le _) (by omega)
theorem yO_lyn2 (R : yR h q (yT T)) (hv : ∀ v ∈ T, v < 256) (hT : T.length ≤ 200) (hN : 1000 ≤ N) {s n : Nat} (hn : 0 < n) (hs : s + n ≤ T.length) (ho : ∀ k, 0 < k → k < n → zw_cmp (zw_p T s (s + n)) (zw_p T (s + k) (s + n)) = -1) : ∀ f k : Nat, 1 ≤ k → k ≤ n → n < k + f → fL_isLyndon_2 N f q (Int32.ofInt (s : Int)) (Int32.ofInt (n : Int)) (Int32.ofInt (k : Int)) h = some (Int32.ofInt 1, h) := by
  intro f
  induction f with
  | zero => intro k h1 h2 h3; omega
  | succ f ih =>
    intro k h1 h2 h3
    rw [fL_isLyndon_2, zqo_ge _ _ (by omega) (by omega)]
    by_cases e1 : n ≤ k
    · rw [decide_eq_true (by omega), cond_true, zqo_le _ _ (by omega) (by omega), decide_eq_false (by omega), cond_false]
      rfl
    · rw [decide_eq_false (by omega), cond_false, zw_add, zw_sub, show (s : Int) + (k : Int) = ((s + k : Nat) : Int) by omega, show (n : Int) - (k : Int) = ((n - k : Nat) : Int) by omega, yO_order R hv hT hN hs (show s + k + (n - k) ≤ T.length by omega), b2_s, show s + k + (n - k) = s + n by omega, ho k (by omega) (by omega)]
      show fL_isLyndon_2 N f q _ _ (Int32.ofInt (k : Int) + Int32.ofInt 1) h = _
      rw [zw_add, show (k : Int) + 1 = ((k + 1 : Nat) : Int) by omega]
      exact ih (k + 1) (by omega) (by omega) (by omega)
theorem yO_lyn (R : yR h q (yT T)) (hv : ∀ v ∈ T, v < 256) (hT : T.length ≤ 200) (hN : 1000 ≤ N) {s n : Nat} (hn : 0 < n) (hs : s + n ≤ T.length) (ho : ∀ k, 0 < k → k < n → zw_cmp (zw_p T s (s + n)) (zw_p T (s + k) (s + n)) = -1) : fL_isLyndon N q (Int32.ofInt (s : Int)) (Int32.ofInt (n : Int)) h = some (Int32.ofInt 1, h) := by
  unfold fL_isLyndon
  exact yO_lyn2 R hv hT hN hn hs ho N 1 (Nat.le_refl 1) (by omega) (by omega)
end YOO
theorem yT_all {T : List Nat} {l : List Int} (h1 : l.length = T.length) (h2 : ∀ i, i < T.length → l.getD i 0 = (T.getD i 0 : Int)) : l = yT T := by
  refine List.ext_getElem (by rw [h1, yT_len]) (fun i a b => ?_)
  have e := h2 i (by omega)
  rw [← yT_get, List.getD_eq_getElem?_getD, List.getD_eq_getElem?_getD, List.getElem?_eq_getElem a, List.getElem?_eq_getElem b] at e
  exact e
section YWW
variable {N q : Nat} {now snap : zA} {hist : List zA} {sv : Int} {inp : List Nat} {rep : zvP}
theorem yW_9 (hq : 232 ≤ q) : ∀ (c f : Nat) (h : zH) (l : List Int) (k : Nat), zv h now hist snap sv inp rep → yR h q l → l.length = now.2.1.length → k + c = now.2.1.length → (∀ i, i < k → l.getD i 0 = (now.2.1.getD i 0 : Int)) → c < f → now.2.1.length ≤ 200 → ∃ h', fL_word_9 N f 0 q (Int32.ofInt (k : Int)) h = some (some q, h') ∧ yR h' q (yT now.2.1) ∧ h'.length = h.length ∧ ∀ p, p ≠ q → h'[p]? = h[p]? := by
  intro c
  induction c with
  | zero =>
    intro f h l k V R h1 h2 h3 h4 h5
    obtain ⟨f, rfl⟩ : ∃ f', f = f' + 1 := ⟨f - 1, by omega⟩
    rw [fL_word_9, yR_len R, b1_s, zqo_ge _ _ (by omega) (by omega), decide_eq_true (by omega), cond_true]
    exact ⟨h, rfl, by rw [← yT_all h1 (fun i hi => h3 i (by omega))]; exact R, rfl, fun _ _ => rfl⟩
  | succ c ih =>
    intro f h l k V R h1 h2 h3 h4 h5
    obtain ⟨f, rfl⟩ : ∃ f', f = f' + 1 := ⟨f - 1, by omega⟩
    rw [fL_word_9, yR_len R, b1_s, zqo_ge _ _ (by omega) (by omega), decide_eq_false (by omega), cond_false, zV_letterAt V (k : Int) (by omega), b2_s, zw_gi (by omega), Int.toNat_natCast]
    obtain ⟨g, e1, R1, L1, F1⟩ := yR_set R (show k < l.length by omega) (now.2.1.getD k 0 : Int)
    rw [e1, b1_s, zw_add, show (k : Int) + 1 = ((k + 1 : Nat) : Int) by omega]
    obtain ⟨h', e2, R2, L2, F2⟩ := ih f g _ (k + 1) (zv_frame V (fun p hp => F1 p (by omega))) R1 (by rw [List.length_set]; exact h1) (by omega) (fun i hi => by
      by_cases e : i = k
      · subst e
        rw [List.getD_eq_getElem?_getD, List.getElem?_set_self (by omega)]
        rfl
      · rw [List.getD_eq_getElem?_getD, List.getElem?_set_ne (by omega), ← List.getD_eq_getElem?_getD]
        exact h3 i (by omega)) (by omega) h5
    exact ⟨h', e2, R2, L2.trans L1, fun p hp => (F2 p hp).trans (F1 p hp)⟩
/-- what a method of the law may do: a row more, the cells before it as they were -/
def yG (h h' : zH) (n : Nat) : Prop := h'.length ≤ h.length + n ∧ h.length ≤ h'.length ∧ ∀ p, 232 ≤ p → p < h.length → h'[p]? = h[p]?
theorem yG_t {h1 h2 h3 : zH} {n m : Nat} (a : yG h1 h2 n) (b : yG h2 h3 m) : yG h1 h3 (n + m) := ⟨by have := a.1; have := b.1; omega, Nat.le_trans a.2.1 b.2.1, fun p hp hl => (b.2.2 p hp (Nat.lt_of_lt_of_le hl a.2.1)).trans (a.2.2 p hp hl)⟩
theorem yG_F {h h' : zH} (F : zc_F h h') : yG h h' 0 := ⟨by rw [F.1]; omega, by rw [F.1]; exact Nat.le_refl _, fun p hp _ => F.2 p hp⟩
theorem yG_r (h : zH) : yG h h 0 := ⟨Nat.le_refl _, Nat.le_refl _, fun _ _ _ => rfl⟩
theorem yG_R {h h' : zH} {n q : Nat} {l : List Int} (G : yG h h' n) (R : yR h q l) : yR h' q l := ⟨R.1, R.2.1, R.2.2.1, by rw [G.2.2 q R.1 (List.getElem?_eq_some_iff.mp R.2.2.2).1]; exact R.2.2.2⟩
theorem yW_word {h : zH} (V : zv h now hist snap sv inp rep) (hN : 1000 ≤ N) (hl : h.length < 900000) : ∃ h', fL_word N 0 h = some (some h.length, h') ∧ yR h' h.length (yT now.2.1) ∧ zv h' now hist snap sv inp rep ∧ yG h h' 1 := by
  have ok := (zv_open V).1
  have hT : now.2.1.length ≤ 120 := ok.2.1
  have h232 := zV_len V
  obtain ⟨g, e1, R1, L1, F1⟩ := yR_new (h := h) (n := now.2.1.length) (by omega) ⟨h232, by omega⟩
  have V1 := zv_frame V (h' := g) (fun p hp => F1 p (by omega))
  obtain ⟨h', e2, R2, L2, F2⟩ := yW_9 (N := N) h232 now.2.1.length N g _ 0 V1 R1 List.length_replicate (by omega) (fun i hi => absurd hi (Nat.not_lt_zero i)) (by omega) (by omega)
  refine ⟨h', ?_, R2, zv_frame V1 (fun p hp => F2 p (by omega)), by omega, by omega, fun p hp hl => (F2 p (by omega)).trans (F1 p hl)⟩
  unfold fL_word
  rw [zV_length V, b2_s, e1, b1_s]
  exact e2
end YWW
