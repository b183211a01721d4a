/-! THE FIRST CALL: compareParts. -/
theorem zqo_i (p : Int) (hp : -2147483648 ≤ p ∧ p < 2147483648) : (Int32.ofInt p).toInt = p := Int32.toInt_ofInt_of_le (by omega) (by omega)
theorem zqo_eq (p q : Int) (hp : -2147483648 ≤ p ∧ p < 2147483648) (hq : -2147483648 ≤ q ∧ q < 2147483648) : z_cmp .eq (Int32.ofInt p) (Int32.ofInt q) = decide (p = q) := by
  refine decide_eq_decide.mpr ?_
  constructor
  · intro h
    have h1 := congrArg Int32.toInt h
    rw [zqo_i p hp, zqo_i q hq] at h1
    exact h1
  · intro h
    rw [h]
theorem zqo_ne (p q : Int) (hp : -2147483648 ≤ p ∧ p < 2147483648) (hq : -2147483648 ≤ q ∧ q < 2147483648) : z_cmp .ne (Int32.ofInt p) (Int32.ofInt q) = !decide (p = q) := by
  rw [← zqo_eq p q hp hq]
  rfl
theorem zqo_ge (p q : Int) (hp : -2147483648 ≤ p ∧ p < 2147483648) (hq : -2147483648 ≤ q ∧ q < 2147483648) : z_cmp .ge (Int32.ofInt p) (Int32.ofInt q) = decide (q ≤ p) := by
  rw [zj_ge _ q hq, zqo_i p hp]
theorem zqo_le (p q : Int) (hp : -2147483648 ≤ p ∧ p < 2147483648) (hq : -2147483648 ≤ q ∧ q < 2147483648) : z_cmp .le (Int32.ofInt p) (Int32.ofInt q) = decide (p ≤ q) := by
  rw [zj_le _ q hq, zqo_i p hp]
def zqo_t (j : Nat) : Int := ([0, 2, 0, 1, 0, 0, 1, 0, 2, 2, 0, 1, 0, 1] : List Int).getD j 0
theorem zqo_tr (j : Nat) (hj : j < 14) : 0 ≤ zqo_t j ∧ zqo_t j ≤ 2 := by
  have h := List.all_eq_true.mp (show ((List.range 14).all fun j => decide (0 ≤ zqo_t j ∧ zqo_t j ≤ 2)) = true by decide) j (List.mem_range.mpr hj)
  exact of_decide_eq_true h
theorem zqo_at (j : Nat) (hj : j < 14) : fW_at 3000 2 (Int32.ofInt (j : Int)) za_h2 = some (Int32.ofInt (97 + zqo_t j), za_h2) := by
  have h := List.all_eq_true.mp (show ((List.range 14).all fun j => decide (fW_at 3000 2 (Int32.ofInt ((j : Nat) : Int)) za_h2 = some (Int32.ofInt (97 + zqo_t j), za_h2))) = true by decide +kernel) j (List.mem_range.mpr hj)
  exact of_decide_eq_true h
def zqo_W : List Value := (za_h2[233]?.getD (0, [])).2
theorem zqo_w : za_h2[233]? = some (100, zqo_W) := by decide +kernel
theorem zqo_m (j : Nat) (hj : j < 14) : zqo_W[3 + j]? = some (.int (Int32.ofInt (zqo_t j))) := by
  have h := List.all_eq_true.mp (show ((List.range 14).all fun j => decide (zqo_W[3 + j]? = some (.int (Int32.ofInt (zqo_t j))))) = true by decide +kernel) j (List.mem_range.mpr hj)
  exact of_decide_eq_true h
theorem zqo_len : zqo_W[1]? = some (.int (Int32.ofInt 14)) := by decide +kernel
def zqo_s (e : Int) : Int := if e < 0 then -1 else if 0 < e then 1 else 0
theorem zqo_end {N m n : Nat} {h : zH} (hm : m ≤ 14) (hn : n ≤ 14) : fW_order_76 N (Int32.ofInt (m : Int)) (Int32.ofInt (n : Int)) za_h2 = some (Int32.ofInt (zqo_s ((m : Int) - (n : Int))), za_h2) ∧ fM_compares_63 N (Int32.ofInt (m : Int)) (Int32.ofInt (n : Int)) h = some (Int32.ofInt ((m : Int) - (n : Int)), h) := by
  constructor
  · unfold fW_order_76
    rw [zqo_ne _ _ (by omega) (by omega), zqo_ge _ _ (by omega) (by omega)]
    unfold zqo_s
    by_cases h1 : (m : Int) = (n : Int)
    · rw [decide_eq_true h1, Bool.not_true, cond_false, if_neg (by omega), if_neg (by omega)]
    · rw [decide_eq_false h1, Bool.not_false, cond_true]
      by_cases h2 : (n : Int) ≤ (m : Int)
      · rw [decide_eq_true h2, cond_true, if_neg (by omega), if_pos (by omega)]
        rfl
      · rw [decide_eq_false h2, cond_false, if_pos (by omega)]
        rfl
  · unfold fM_compares_63
    rw [Int32.ofInt_sub]
/-- what the loops read of the reference -/
def zqo_H (h : zH) : Prop := ∃ vs, h[232]? = some (5, vs) ∧ vs[0]? = some (.ref 233) ∧ h[233]? = some (100, zqo_W)
theorem zqo_loop {a m b n : Nat} (ha : a + m ≤ 14) (hb : b + n ≤ 14) : ∀ k i : Nat, i ≤ m → i ≤ n → m < i + k → ∃ e : Int, (-100 ≤ e ∧ e ≤ 100) ∧ fW_order_15 3000 k 2 (Int32.ofInt (a : Int)) 2 (Int32.ofInt (b : Int)) (Int32.ofInt (m : Int)) (Int32.ofInt (n : Int)) (Int32.ofInt (i : Int)) za_h2 = some (Int32.ofInt (zqo_s e), za_h2) ∧ ∀ h, zqo_H h → fM_compares_3 3000 k 232 (Int32.ofInt 3 + Int32.ofInt (a : Int)) (Int32.ofInt (m : Int)) (Int32.ofInt 3 + Int32.ofInt (b : Int)) (Int32.ofInt (n : Int)) (Int32.ofInt (i : Int)) h = some (Int32.ofInt e, h) := by
  intro k
  induction k with
  | zero => intro i h1 h2 h3; omega
  | succ k ih =>
    intro i h1 h2 h3
    rw [fW_order_15, zqo_ge _ _ (by omega) (by omega), zqo_ge _ _ (by omega) (by omega)]
    by_cases hm : (m : Int) ≤ (i : Int)
    · refine ⟨(m : Int) - (n : Int), by omega, ?_, ?_⟩
      · rw [decide_eq_true hm, cond_true]
        exact (zqo_end (h := []) (by omega) (by omega)).1
      · intro h hh
        rw [fM_compares_3, zqo_ge _ _ (by omega) (by omega), decide_eq_true hm, cond_true]
        exact (zqo_end (by omega) (by omega)).2
    · rw [decide_eq_false hm, cond_false]
      by_cases hn : (n : Int) ≤ (i : Int)
      · refine ⟨(m : Int) - (n : Int), by omega, ?_, ?_⟩
        · rw [decide_eq_true hn, cond_true]
          exact (zqo_end (h := []) (by omega) (by omega)).1
        · intro h hh
          rw [fM_compares_3, zqo_ge _ _ (by omega) (by omega), decide_eq_false hm, cond_false, zqo_ge _ _ (by omega) (by omega), decide_eq_true hn, cond_true]
          exact (zqo_end (by omega) (by omega)).2
      · rw [decide_eq_false hn, cond_false]
        have xa : Int32.ofInt (a : Int) + Int32.ofInt (i : Int) = Int32.ofInt ((a + i : Nat) : Int) := by rw [← Int32.ofInt_add]; rfl
        have xb : Int32.ofInt (b : Int) + Int32.ofInt (i : Int) = Int32.ofInt ((b + i : Nat) : Int) := by rw [← Int32.ofInt_add]; rfl
        have ya : Int32.ofInt 3 + Int32.ofInt (a : Int) + Int32.ofInt (i : Int) = Int32.ofInt ((3 + (a + i) : Nat) : Int) := by
          rw [← Int32.ofInt_add, ← Int32.ofInt_add]
          congr 1
          omega
        have yb : Int32.ofInt 3 + Int32.ofInt (b : Int) + Int32.ofInt (i : Int) = Int32.ofInt ((3 + (b + i) : Nat) : Int) := by
          rw [← Int32.ofInt_add, ← Int32.ofInt_add]
          congr 1
          omega
        have ta := zqo_tr (a + i) (by omega)
        have tb := zqo_tr (b + i) (by omega)
        rw [xa, xb, zqo_at _ (by omega), b2, zqo_at _ (by omega), b2, zqo_eq _ _ (by omega) (by omega)]
        have hM : ∀ h, zqo_H h → fM_compares_3 3000 (k + 1) 232 (Int32.ofInt 3 + Int32.ofInt (a : Int)) (Int32.ofInt (m : Int)) (Int32.ofInt 3 + Int32.ofInt (b : Int)) (Int32.ofInt (n : Int)) (Int32.ofInt (i : Int)) h = cond (decide (zqo_t (a + i) = zqo_t (b + i))) (fM_compares_3 3000 k 232 (Int32.ofInt 3 + Int32.ofInt (a : Int)) (Int32.ofInt (m : Int)) (Int32.ofInt 3 + Int32.ofInt (b : Int)) (Int32.ofInt (n : Int)) (Int32.ofInt ((i + 1 : Nat) : Int)) h) (some (Int32.ofInt (zqo_t (a + i) - zqo_t (b + i)), h)) := by
          intro h hh
          obtain ⟨vs, eq, e0, ew⟩ := hh
          rw [fM_compares_3, zqo_ge _ _ (by omega) (by omega), decide_eq_false hm, cond_false, zqo_ge _ _ (by omega) (by omega), decide_eq_false hn, cond_false, zh_R (by decide) eq e0]
          simp only [b1]
          rw [ya, zh_AI (by decide) ew (zqo_m _ (by omega)) (by omega), yb, zh_AI (by decide) ew (zqo_m _ (by omega)) (by omega)]
          simp only [b1]
          rw [zqo_eq _ _ (by omega) (by omega), zh_inc, Int32.ofInt_sub]
        by_cases ht : zqo_t (a + i) = zqo_t (b + i)
        · obtain ⟨e, g1, g2, g3⟩ := ih (i + 1) (by omega) (by omega) (by omega)
          refine ⟨e, g1, ?_, ?_⟩
          · rw [decide_eq_true (by omega), cond_true, zh_inc]
            exact g2
          · intro h hh
            rw [hM h hh, decide_eq_true ht, cond_true]
            exact g3 h hh
        · refine ⟨zqo_t (a + i) - zqo_t (b + i), by omega, ?_, ?_⟩
          · rw [decide_eq_false (by omega), cond_false, zqo_ge _ _ (by omega) (by omega)]
            unfold zqo_s
            by_cases h5 : 97 + zqo_t (b + i) ≤ 97 + zqo_t (a + i)
            · rw [decide_eq_true h5, cond_true, if_neg (by omega), if_pos (by omega)]
              rfl
            · rw [decide_eq_false h5, cond_false, if_pos (by omega)]
              rfl
          · intro h hh
            rw [hM h hh, decide_eq_false ht, cond_false]
theorem zqo_checkB (x y : Int32) (h1 : 0 ≤ x.toInt) (h2 : x.toInt ≤ y.toInt) (h3 : y.toInt ≤ 14) : fB_checkPart 3000 0 x y za_h2 = some (.inl (), za_h2) := by
  unfold fB_checkPart
  rw [zf_T0, cond_true, zj_lt x 0 (by decide), zc_lt2, zf_now, b1, zf_txt, b1, zf_sz, b1, zj_le y 14 (by decide), decide_eq_false (by omega), cond_false, decide_eq_false (by omega), cond_false, decide_eq_true (by omega), cond_true]
theorem zqo_isPart {h : zH} {vs W : List Value} (eq : h[232]? = some (5, vs)) (e0 : vs[0]? = some (.ref 233)) (ew : h[233]? = some (100, W)) (e1 : W[1]? = some (.int (Int32.ofInt 14))) (x y : Int32) : fM_isPart 3000 232 x y h = some (cond (decide (0 ≤ x.toInt ∧ x.toInt ≤ y.toInt ∧ y.toInt ≤ 14)) (Int32.ofInt 1) (Int32.ofInt 0), h) := by
  unfold fM_isPart
  rw [zi_T (by decide) eq, cond_true, zj_lt x 0 (by decide), zc_lt2, zh_R (by decide) eq e0, b1, show Int32.ofInt 1 = Int32.ofInt ((1 : Nat) : Int) from rfl, zh_AI (by decide) ew e1 (by decide), b1, zj_gt y 14 (by decide)]
  by_cases h1 : x.toInt < 0
  · rw [decide_eq_true h1, cond_true, decide_eq_false (by omega)]
    rfl
  · rw [decide_eq_false h1, cond_false]
    by_cases h2 : y.toInt < x.toInt
    · rw [decide_eq_true h2, cond_true, decide_eq_false (by omega)]
      rfl
    · rw [decide_eq_false h2, cond_false]
      by_cases h3 : 14 < y.toInt
      · rw [decide_eq_true h3, cond_true, decide_eq_false (by omega)]
        rfl
      · rw [decide_eq_false h3, cond_false, decide_eq_true (by omega)]
        rfl
theorem zqo_throw (x y z w : Int32) : fM_compareParts_20 3000 232 x y z w 232 za_h2 = some (Int32.ofInt 0, za_h2e) := by
  unfold fM_compareParts_20 fM_compareParts_25
  rw [zf_thr]
  rfl
theorem zh_AL {h : zH} {q t i : Nat} {x : Int64} {vs : List Value} (hq : q < 1000000) (e : h[q]? = some (t, vs)) (e2 : vs[i]? = some (.long x)) (hi : i < 2147483648) : fAL h q t (Int32.ofInt i) = some x := by
  unfold fAL
  rw [decide_eq_false (zh_nat hi).1, cond_false, (zh_nat hi).2]
  unfold fL fV
  rw [zh_hg hq e]
  simp [e2]
theorem zqo_l : za_h2.length = 244 := by decide +kernel
theorem zqo_lg (x : Int64) : z_cmp .eq (lg_cmp x x) (Int32.ofInt 0) = true := by
  unfold lg_cmp
  simp
  rfl
theorem z_f25 (x y z w : Int32) : z_eqC Int32.toInt64 (fun h => fL_compareParts 3000 0 x y z w 243 h) (fun h => fM_compareParts 3000 232 x y z w h) (fun h => fM_thrown 3000 232 h) 243 za_h2 = true := by
  obtain ⟨vs, v1, v2, v3, v4⟩ : ∃ vs, za_h2[232]? = some (5, vs) ∧ vs[0]? = some (.ref 233) ∧ vs[17]? = some (.int (Int32.ofInt 0)) ∧ vs.length = 24 := ⟨_, rfl, rfl, rfl, rfl⟩
  by_cases p1 : 0 ≤ x.toInt ∧ x.toInt ≤ y.toInt ∧ y.toInt ≤ 14
  · by_cases p2 : 0 ≤ z.toInt ∧ z.toInt ≤ w.toInt ∧ w.toInt ≤ 14
    · obtain ⟨a, ha⟩ : ∃ a : Nat, x = Int32.ofInt (a : Int) ∧ x.toInt = a := ⟨x.toInt.toNat, by rw [show ((x.toInt.toNat : Nat) : Int) = x.toInt by omega, zj_ofInt], by omega⟩
      obtain ⟨b, hb⟩ : ∃ b : Nat, z = Int32.ofInt (b : Int) ∧ z.toInt = b := ⟨z.toInt.toNat, by rw [show ((z.toInt.toNat : Nat) : Int) = z.toInt by omega, zj_ofInt], by omega⟩
      obtain ⟨m, hm⟩ : ∃ m : Nat, y = Int32.ofInt ((a : Int) + (m : Int)) ∧ y.toInt = (a : Int) + (m : Int) := ⟨(y.toInt - x.toInt).toNat, by rw [show (a : Int) + (((y.toInt - x.toInt).toNat : Nat) : Int) = y.toInt by omega, zj_ofInt], by omega⟩
      obtain ⟨n, hn⟩ : ∃ n : Nat, w = Int32.ofInt ((b : Int) + (n : Int)) ∧ w.toInt = (b : Int) + (n : Int) := ⟨(w.toInt - z.toInt).toNat, by rw [show (b : Int) + (((w.toInt - z.toInt).toNat : Nat) : Int) = w.toInt by omega, zj_ofInt], by omega⟩
      have ym : y - x = Int32.ofInt (m : Int) := by
        rw [hm.1, ha.1, ← Int32.ofInt_sub]
        congr 1
        omega
      have wn : w - z = Int32.ofInt (n : Int) := by
        rw [hn.1, hb.1, ← Int32.ofInt_sub]
        congr 1
        omega
      have c0 : za_h2[243]? = some (103, [.long 0]) := by decide +kernel
      obtain ⟨e, g1, g2, g3⟩ := zqo_loop (a := a) (m := m) (b := b) (n := n) (by omega) (by omega) 3000 0 (by omega) (by omega) (by omega)
      obtain ⟨v, hv⟩ : ∃ v : Int64, v = (Int32.ofInt (zqo_s e)).toInt64 := ⟨_, rfl⟩
      obtain ⟨h1, hh1⟩ : ∃ h1 : zH, h1 = za_h2.set 243 (103, [.long v]) := ⟨_, rfl⟩
      have q1 : h1[232]? = some (5, vs) := by rw [hh1, zh_set (by decide)]; exact v1
      have q2 : h1[233]? = some (100, zqo_W) := by rw [hh1, zh_set (by decide)]; exact zqo_w
      have q3 : h1[243]? = some (103, [.long v]) := by rw [hh1]; exact List.getElem?_set_self (by rw [zqo_l]; decide)
      have q4 : h1.length = 244 := by rw [hh1, List.length_set, zqo_l]
      obtain ⟨h4, hh4⟩ : ∃ h4 : zH, h4 = h1.set 232 (5, vs.set 17 (.int (Int32.ofInt 0))) := ⟨_, rfl⟩
      have r1 : h4[232]? = some (5, vs.set 17 (.int (Int32.ofInt 0))) := by rw [hh4]; exact List.getElem?_set_self (by omega)
      have r2 : h4[233]? = some (100, zqo_W) := by rw [hh4, zh_set (by decide)]; exact q2
      have r3 : h4[243]? = some (103, [.long v]) := by rw [hh4, zh_set (by decide)]; exact q3
      have r0 : (vs.set 17 (.int (Int32.ofInt 0)))[0]? = some (.ref 233) := by rw [List.getElem?_set_ne (by decide)]; exact v2
      have r17 : (vs.set 17 (.int (Int32.ofInt 0)))[17]? = some (.int (Int32.ofInt 0)) := List.getElem?_set_self (by omega)
      have hT : fM_throwsOne 3000 232 (Int32.ofInt 0) h1 = some (Int32.ofInt 0, h4) := by
        unfold fM_throwsOne
        rw [zi_T (by decide) q1, cond_true, show z_cmp .eq (Int32.ofInt 0) (Int32.ofInt 0) = true from rfl, cond_true]
        unfold fM_throwsOne_10
        rw [zh_S q1 (by omega), b1, ← hh4]
        rfl
      have s1 : -1 ≤ zqo_s e ∧ zqo_s e ≤ 1 := by
        unfold zqo_s
        split
        · omega
        · split <;> omega
      refine zqk_both (h1 := h1) (y := Int32.ofInt (zqo_s e)) (w := v) (h2 := h4) (h3 := h4) ?_ ?_ ?_ ?_ ?_
      · show fL_compareParts 3000 0 x y z w 243 za_h2 = _
        unfold fL_compareParts fB_compareParts
        rw [zf_T0, cond_true, zqo_checkB x y p1.1 p1.2.1 p1.2.2]
        show bH _ 9 (bX (fB_checkPart 3000 0 z w za_h2) _) _ = _
        rw [zqo_checkB z w p2.1 p2.2.1 p2.2.2]
        show bH _ 9 (b1 (fR za_h2 0 0 0) fun x5 => b1 (fR za_h2 x5 3 1) fun x6 => b1 (fR za_h2 0 0 0) fun x7 => b1 (fR za_h2 x7 3 1) fun x8 => b2 (fW_order 3000 x6 x y x8 z w za_h2) fun x9 h10 => some (Sum.inl x9, h10)) _ = _
        rw [zf_now, b1, zf_txt, b1, b1, zf_txt, b1]
        unfold fW_order
        rw [zf_T2, cond_true, ym, wn, ha.1, hb.1, show (Int32.ofInt 0) = Int32.ofInt ((0 : Nat) : Int) from rfl, g2, b2]
        show (b1 (fAS za_h2 243 103 (Int32.ofInt ((0 : Nat) : Int)) (.long (Int32.ofInt (zqo_s e)).toInt64)) fun h3 => some (Int32.ofInt 0, h3)) = some (Int32.ofInt 0, h1)
        rw [← hv, zh_AS c0 (by decide) (by decide), b1, hh1]
        rfl
      · show fM_compareParts 3000 232 x y z w h1 = _
        unfold fM_compareParts
        rw [zi_T (by decide) q1, cond_true, zqo_isPart q1 v2 q2 zqo_len, b2, decide_eq_true p1, cond_true, show z_cmp .eq (Int32.ofInt 1) (Int32.ofInt 0) = false from rfl, cond_false, zqo_isPart q1 v2 q2 zqo_len, b2, decide_eq_true p2, cond_true, show z_cmp .ne (Int32.ofInt 1) (Int32.ofInt 0) = true from rfl, cond_true]
        unfold fM_compareParts_25
        rw [hT, b2, show z_cmp .eq (Int32.ofInt 0) (Int32.ofInt 0) = true from rfl, cond_true]
        unfold fM_compares
        rw [zi_T (by decide) r1, cond_true, ym, wn, ha.1, hb.1]
        have g4 := g3 h4 ⟨_, r1, r0, r2⟩
        rw [show Int32.ofInt ((0 : Nat) : Int) = Int32.ofInt 0 from rfl] at g4
        rw [g4, b2, show (Int32.ofInt 0) = Int32.ofInt (0 : Int) from rfl, zqo_ge _ _ (by omega) (by omega), zqo_le _ _ (by omega) (by omega)]
        unfold zqo_s fM_compareParts_71
        by_cases t1 : e < 0
        · rw [decide_eq_false (by omega), cond_false, if_pos t1]
        · rw [decide_eq_true (by omega), cond_true, if_neg t1]
          by_cases t2 : 0 < e
          · rw [decide_eq_false (by omega), cond_false, if_pos t2]
          · rw [decide_eq_true (by omega), cond_true, if_neg t2]
      · show fM_thrown 3000 232 h4 = _
        unfold fM_thrown
        rw [zi_T (by decide) r1, cond_true, zh_I (by decide) r1 r17]
        rfl
      · exact zh_AL (i := 0) (by decide) r3 rfl (by decide)
      · rw [hv]
        exact zqo_lg _
    · refine zqk_out (y := Int32.ofInt 0) (h2 := za_h2e) (h3 := za_h2e) ?_ ?_ zf_thrown
      · show fL_compareParts 3000 0 x y z w 243 za_h2 = _
        unfold fL_compareParts fB_compareParts
        rw [zf_T0, cond_true, zqo_checkB x y p1.1 p1.2.1 p1.2.2]
        show bH _ 9 (bX (fB_checkPart 3000 0 z w za_h2) _) _ = _
        rw [zc_checkB z w (by unfold zc_no; omega)]
        rfl
      · show fM_compareParts 3000 232 x y z w za_h2 = _
        unfold fM_compareParts
        rw [zf_T5, cond_true, zqo_isPart v1 v2 zqo_w zqo_len, b2, decide_eq_true p1, cond_true, show z_cmp .eq (Int32.ofInt 1) (Int32.ofInt 0) = false from rfl, cond_false, zqo_isPart v1 v2 zqo_w zqo_len, b2, decide_eq_false p2, cond_false, show z_cmp .ne (Int32.ofInt 0) (Int32.ofInt 0) = false from rfl, cond_false, zqo_throw]
  · refine zqk_out (y := Int32.ofInt 0) (h2 := za_h2e) (h3 := za_h2e) ?_ ?_ zf_thrown
    · show fL_compareParts 3000 0 x y z w 243 za_h2 = _
      unfold fL_compareParts fB_compareParts
      rw [zf_T0, cond_true, zc_checkB x y (by unfold zc_no; omega)]
      rfl
    · show fM_compareParts 3000 232 x y z w za_h2 = _
      unfold fM_compareParts
      rw [zf_T5, cond_true, zqo_isPart v1 v2 zqo_w zqo_len, b2, decide_eq_false p1, cond_false, show z_cmp .eq (Int32.ofInt 0) (Int32.ofInt 0) = true from rfl, cond_true, zqo_throw]
