/-! THE FIRST CALL: bruijnLetter, put together. -/
/-- a word's letters in the reference's row -/
def zb_blk (n k : Nat) : List Nat := if zb_pL (zb_dg n k) n (n - 1) = true then (zb_dg n k).take (zb_pR (zb_dg n k) n (n - 1)) else []
def zb_RB (n : Nat) : Nat → Nat → List Nat
  | 0, _ => []
  | c + 1, k => zb_blk n k ++ zb_RB n c (k + 1)
theorem zb_p7 {n : Nat} (hn : n ≤ 7) : 3 ^ n ≤ 2187 := Nat.le_trans (Nat.pow_le_pow_right (by decide) hn) (by decide)
theorem zb_ref {n : Nat} {w : Int64} (hn : 1 ≤ n ∧ n ≤ 7) : ∀ c f k y t : Nat, ∀ h, k + c = 3 ^ n → c < f → y < 100000 → zb_q h w → (zb_RB n c k)[y]? = some t → ∃ h', fM_bruijnLetter_67 3000 f 232 (Int32.ofInt (n : Int)) (Int32.ofInt (y : Int)) (Int32.ofInt (k : Int)) h = some (Int32.ofInt (97 + (t : Int)), h') ∧ zb_q h' w := by
  have hp := zb_p7 hn.2
  intro c
  induction c with
  | zero => intro f k y t h h1 h2 hy h3 h4; cases h4
  | succ c ih =>
    intro f k y t h h1 h2 hy h3 h4
    obtain ⟨m, rfl⟩ : ∃ m, f = m + 1 := ⟨f - 1, by omega⟩
    obtain ⟨g, g1, g2⟩ := zb_spells hn.2 (show k < 2187 by omega) h3
    have hd := zb_dgl n k
    have hb := zb_dgb n k
    rw [fM_bruijnLetter_67, zb_power hn.2 h3, b2]
    generalize hv : 3 ^ n = v at h1 hp ⊢
    rw [zqo_ge _ _ (by omega) (by omega), decide_eq_false (by omega), cond_false, g1, b2, zb_least hn hb hd g2, b2]
    rw [zb_RB] at h4
    cases hL : zb_pL (zb_dg n k) n (n - 1) with
    | false =>
      have e0 : zb_blk n k = [] := by
        unfold zb_blk
        rw [hL]
        rfl
      rw [e0, List.nil_append] at h4
      rw [cond_false, show z_cmp .eq (Int32.ofInt 0) (Int32.ofInt 0) = true from rfl, cond_true]
      unfold fM_bruijnLetter_99
      rw [zqo_ge _ _ (by omega) (by decide), decide_eq_true (by omega), cond_true, ← Int32.ofInt_sub, show (y : Int) - 0 = (y : Int) by omega, zh_inc]
      exact ih m (k + 1) y t g (by omega) (by omega) hy (zb_qkq g2) h4
    | true =>
      have e0 : zb_blk n k = (zb_dg n k).take (zb_pR (zb_dg n k) n (n - 1)) := by
        unfold zb_blk
        rw [hL]
        rfl
      rw [e0] at h4
      have hr := zb_pRb (zb_dg n k) n (n - 1)
      rw [cond_true, show z_cmp .eq (Int32.ofInt 1) (Int32.ofInt 0) = false from rfl, cond_false, zb_root hn hb hd g2, b2]
      generalize zb_pR (zb_dg n k) n (n - 1) = s at h4 hr ⊢
      have tl : ((zb_dg n k).take s).length = s := by rw [List.length_take, hd]; omega
      unfold fM_bruijnLetter_99
      rw [zqo_ge _ _ (by omega) (by omega)]
      by_cases hs : (s : Int) ≤ (y : Int)
      · rw [decide_eq_true hs, cond_true, ← Int32.ofInt_sub, show (y : Int) - (s : Int) = ((y - s : Nat) : Int) by omega, zh_inc]
        rw [List.getElem?_append_right (by omega), tl] at h4
        exact ih m (k + 1) (y - s) t g (by omega) (by omega) (by omega) (zb_qkq g2) h4
      · rw [decide_eq_false hs, cond_false]
        rw [List.getElem?_append_left (by omega), List.getElem?_take_of_lt (by omega)] at h4
        have q2 := zb_qkq g2
        obtain ⟨vs, R, a1, a2, a3, a4, a5, a6, a7, a8, a9, a10, a11⟩ := g2
        refine ⟨g, ?_, q2⟩
        have e1 : (zb_dg n k).getD y 0 = t := by
          rw [List.getD_eq_getElem?_getD, h4]
          rfl
        rw [zh_R (by decide) a1 a3, b1, zh_AI (by decide) a7 (zb_row (by omega)) (by omega), b1, e1, ← Int32.ofInt_add]
theorem zb_RBb (n : Nat) : ∀ c k : Nat, ∀ t ∈ zb_RB n c k, t ≤ 2 := by
  intro c
  induction c with
  | zero => intro k t h; cases h
  | succ c ih =>
    intro k t h
    rw [zb_RB, List.mem_append] at h
    rcases h with h | h
    · unfold zb_blk at h
      split at h
      · exact zb_dgb n k t (List.mem_of_mem_take h)
      · cases h
    · exact ih _ _ h
/-- the fresh heap but for the trial word and the answer's cell -/
def zb_f (h : zH) : Prop := h[232]? = za_h2[232]? ∧ h[233]? = za_h2[233]? ∧ h[239]? = za_h2[239]? ∧ h[243]? = za_h2[243]? ∧ h.length = 244
theorem zb_f0 : zb_f za_h2 := ⟨rfl, rfl, rfl, rfl, zqo_l⟩
theorem zb_fH (st : List Int × Nat) : zb_f (zb_H st) := by
  unfold zb_H
  refine ⟨?_, ?_, ?_, ?_, ?_⟩
  · rw [zh_set (by decide), zh_set (by decide)]
  · rw [zh_set (by decide), zh_set (by decide)]
  · rw [zh_set (by decide), zh_set (by decide)]
  · rw [zh_set (by decide), zh_set (by decide)]
  · rw [List.length_set, List.length_set]
    exact zb_f0.2.2.2.2
theorem zb_fq {h : zH} (H : zb_f h) (w : Int64) : fAS h 243 103 (Int32.ofInt 0) (.long w) = some (h.set 243 (103, [.long w])) ∧ zb_q (h.set 243 (103, [.long w])) w := by
  obtain ⟨h1, h2, h3, h4, h5⟩ := H
  obtain ⟨vs, v1, v2, v3, v4, v5⟩ : ∃ vs, za_h2[232]? = some (5, vs) ∧ vs[0]? = some (.ref 233) ∧ vs[8]? = some (.ref 239) ∧ vs[17]? = some (.int (Int32.ofInt 0)) ∧ vs.length = 24 := ⟨_, rfl, rfl, rfl, rfl, rfl⟩
  obtain ⟨R, r1, r2⟩ : ∃ R, za_h2[239]? = some (100, R) ∧ R.length = 130 := ⟨(za_h2[239]?.getD (0, [])).2, by decide +kernel, by decide +kernel⟩
  have c0 : za_h2[243]? = some (103, [.long 0]) := by decide +kernel
  refine ⟨?_, vs, R, ?_, v2, v3, v4, v5, ?_, ?_, r2, List.getElem?_set_self (by omega), by rw [List.length_set]; exact h5⟩
  · exact zh_AS (i := 0) (h4.trans c0) (Nat.lt_succ_self 0) (by decide)
  · rw [zh_set (by decide)]; exact h1.trans v1
  · rw [zh_set (by decide)]; exact h2.trans zqo_w
  · rw [zh_set (by decide)]; exact h3.trans r1
theorem zb_fq0 {h : zH} (H : zb_f h) : zb_q h 0 := by
  obtain ⟨h1, h2, h3, h4, h5⟩ := H
  obtain ⟨vs, v1, v2, v3, v4, v5⟩ : ∃ vs, za_h2[232]? = some (5, vs) ∧ vs[0]? = some (.ref 233) ∧ vs[8]? = some (.ref 239) ∧ vs[17]? = some (.int (Int32.ofInt 0)) ∧ vs.length = 24 := ⟨_, rfl, rfl, rfl, rfl, rfl⟩
  obtain ⟨R, r1, r2⟩ : ∃ R, za_h2[239]? = some (100, R) ∧ R.length = 130 := ⟨(za_h2[239]?.getD (0, [])).2, by decide +kernel, by decide +kernel⟩
  have c0 : za_h2[243]? = some (103, [.long 0]) := by decide +kernel
  exact ⟨vs, R, h1.trans v1, v2, v3, v4, v5, h2.trans zqo_w, h3.trans r1, r2, h4.trans c0, h5⟩
/-- thrown 0, 1 or 2 -/
theorem zb_thr {h : zH} {w : Int64} (H : zb_q h w) (a b c d : Int32) (e : fM_throwsOne2_18 3000 a b c 232 h = b1 (fS h 232 5 17 (.int c)) fun h1 => some (d, h1)) : ∃ h', fM_throwsOne2_18 3000 a b c 232 h = some (d, h') ∧ fM_thrown 3000 232 h' = some (c, h') := by
  obtain ⟨vs, R, a1, a2, a3, a4, a5, a6, a7, a8, a9, a10⟩ := H
  refine ⟨h.set 232 (5, vs.set 17 (.int c)), ?_, ?_⟩
  · rw [e, zh_S a1 (by omega)]
    rfl
  · have h2 : (h.set 232 (5, vs.set 17 (.int c)))[232]? = some (5, vs.set 17 (.int c)) := List.getElem?_set_self (by omega)
    unfold fM_thrown
    rw [zi_T (by decide) h2, cond_true, zh_I (x := c) (by decide) h2 (List.getElem?_set_self (by omega))]
    rfl
theorem zb_thr0 {h : zH} {w : Int64} (H : zb_q h w) : ∃ h', fM_throwsOne2 3000 232 (Int32.ofInt 0) (Int32.ofInt 0) h = some (Int32.ofInt 0, h') ∧ zb_q h' w := by
  obtain ⟨vs, R, a1, a2, a3, a4, a5, a6, a7, a8, a9, a10⟩ := H
  refine ⟨h.set 232 (5, vs.set 17 (.int (Int32.ofInt 0))), ?_, vs.set 17 (.int (Int32.ofInt 0)), R, List.getElem?_set_self (by omega), ?_, ?_, List.getElem?_set_self (by omega), by rw [List.length_set]; exact a5, (zh_set (by decide)).trans a6, (zh_set (by decide)).trans a7, a8, (zh_set (by decide)).trans a9, by rw [List.length_set]; exact a10⟩
  · unfold fM_throwsOne2
    rw [zi_T (by decide) a1, cond_true, show z_cmp .eq (Int32.ofInt 0) (Int32.ofInt 0) = true from rfl, cond_true, cond_true]
    unfold fM_throwsOne2_18
    rw [zh_S a1 (by omega)]
    rfl
  · rw [List.getElem?_set_ne (by decide)]; exact a2
  · rw [List.getElem?_set_ne (by decide)]; exact a3
theorem zb_thr2 {h : zH} {w : Int64} (H : zb_q h w) : ∃ h', fM_throwsOne2 3000 232 (Int32.ofInt 0) (Int32.ofInt 1) h = some (Int32.ofInt 1, h') ∧ fM_thrown 3000 232 h' = some (Int32.ofInt 2, h') := by
  have H0 := H
  obtain ⟨vs, R, a1, _⟩ := H
  unfold fM_throwsOne2
  rw [zi_T (by decide) a1, cond_true, show z_cmp .eq (Int32.ofInt 0) (Int32.ofInt 0) = true from rfl, cond_true, show z_cmp .eq (Int32.ofInt 1) (Int32.ofInt 0) = false from rfl, cond_false]
  exact zb_thr H0 _ _ _ _ rfl
theorem zqk_out3 {cv : Int32 → Int64} {L M T : zH → Option (Int32 × zH)} {h0 h1 h2 h3 : zH} {v y : Int32} {l : Nat} (hv : z_cmp .ne v (Int32.ofInt 0) = true) (e1 : L h0 = some (v, h1)) (e2 : M h1 = some (y, h2)) (e3 : T h2 = some (v, h3)) : z_eqC cv L M T l h0 = true := by
  unfold z_eqC
  rw [e1]
  simp only [e2, e3, hv, Bool.true_or, Bool.and_true]
  exact decide_eq_true rfl
/-- the list of an order -/
theorem zb_cls {n : Nat} (hn : 1 ≤ n ∧ n ≤ 7) {l : List (List Int × Nat)} (hc : zb_chain n (([97, 98, 97, 99, 97, 98, 0], 1) :: l) = true) (hlast : (l.getLastD ([97, 98, 97, 99, 97, 98, 0], 1)).2 = 0) (hlen : l.length ≤ 600) {B : List Int} (hB : zb_B n (([97, 98, 97, 99, 97, 98, 0], 1) :: l) = B) (hBl : B.length ≤ 5000) (y : Nat) (hy : y < 2147483648) :
    (∀ t, B[y]? = some t → ∃ st, fB_findRowLetter 3000 0 (Int32.ofInt (n : Int)) (Int32.ofInt (y : Int)) za_h2 = some (Int32.ofInt t, zb_H st)) ∧
    (B[y]? = none → ∃ st, fB_findRowLetter 3000 0 (Int32.ofInt (n : Int)) (Int32.ofInt (y : Int)) za_h2 = some (Int32.ofInt (-1), zb_H st)) := by
  have hs : fB_startListing 3000 0 za_h2 = some ((), zb_H ([97, 98, 97, 99, 97, 98, 0], 1)) := by decide +kernel
  have h1 := zb_loop hn l _ hc hlast 3000 0 0 y (by omega) (by omega) (by rw [hB]; omega) hy (Nat.zero_le y)
  rw [hB, Nat.sub_zero] at h1
  have e : fB_findRowLetter 3000 0 (Int32.ofInt (n : Int)) (Int32.ofInt (y : Int)) za_h2 = fB_findRowLetter_9 3000 3000 0 (Int32.ofInt (n : Int)) (Int32.ofInt (y : Int)) (Int32.ofInt ((0 : Nat) : Int)) (Int32.ofInt ((0 : Nat) : Int)) (zb_H ([97, 98, 97, 99, 97, 98, 0], 1)) := by
    unfold fB_findRowLetter
    rw [zf_T0, cond_true, hs, b2]
    rfl
  rw [e]
  exact h1
theorem zb_fits : ((List.range 13).all fun n => Nat.beq n 0 || decide (fB_fitsRow 3000 (Int32.ofInt 3) (Int32.ofInt ((n : Nat) : Int)) za_h2 = some (cond (Nat.ble n 7) (Int32.ofInt 1) (Int32.ofInt 0), za_h2))) = true := by decide +kernel
theorem zb_fit (n : Nat) (hn : 1 ≤ n ∧ n ≤ 12) : fB_fitsRow 3000 (Int32.ofInt 3) (Int32.ofInt (n : Int)) za_h2 = some (cond (Nat.ble n 7) (Int32.ofInt 1) (Int32.ofInt 0), za_h2) := by
  have h := List.all_eq_true.mp zb_fits n (List.mem_range.mpr (by omega))
  rw [Bool.or_eq_true] at h
  rcases h with h | h
  · have := Nat.eq_of_beq_eq_true h
    omega
  · exact of_decide_eq_true h
theorem zb_big : ((List.range 13).all fun n => Nat.ble n 7 || match fM_power 3000 232 (Int32.ofInt ((n : Nat) : Int)) za_h2 with
  | some (p, h) => !z_cmp .le p (Int32.ofInt 4096) && decide (h = za_h2)
  | none => false) = true := by decide +kernel
theorem zb_over (n : Nat) (hn : 8 ≤ n ∧ n ≤ 12) : ∃ p : Int32, fM_power 3000 232 (Int32.ofInt (n : Int)) za_h2 = some (p, za_h2) ∧ z_cmp .le p (Int32.ofInt 4096) = false := by
  have h := List.all_eq_true.mp zb_big n (List.mem_range.mpr (by omega))
  rw [Bool.or_eq_true] at h
  rcases h with h | h
  · have := Nat.le_of_ble_eq_true h
    omega
  · cases hc : fM_power 3000 232 (Int32.ofInt (n : Int)) za_h2 with
    | none => rw [hc] at h; cases h
    | some r =>
      obtain ⟨p, g⟩ := r
      rw [hc] at h
      simp only [Bool.and_eq_true, Bool.not_eq_true', decide_eq_true_eq] at h
      exact ⟨p, by rw [h.2], h.1⟩
/-- no row of this order -/
theorem zb_noM (x y : Int32) : fM_bruijnLetter_21 3000 232 x y za_h2 = some (Int32.ofInt 0, za_h2e) := by
  unfold fM_bruijnLetter_21 fM_bruijnLetter_26
  rw [show z_cmp .ne (Int32.ofInt 1) (Int32.ofInt 0) = true from rfl, cond_true]
  unfold fM_bruijnLetter_52 fM_bruijnLetter_53
  rw [zf_thr2]
  rfl
theorem zb_noB (x y : Int32) (g : Int32 → zH → Option (Int32 × zH)) : bH [((0, 10, 13, 13), 0, 1), ((0, 10, 17, 46), 2, 2)] 5 (fB_bruijnLetter_25 3000 za_h2) g = some (Int32.ofInt 1, za_h2) := rfl
/-- the order fits: what both sides answer -/
theorem zb_main {n : Nat} (hn : 1 ≤ n ∧ n ≤ 7) {l : List (List Int × Nat)} (hc : zb_chain n (([97, 98, 97, 99, 97, 98, 0], 1) :: l) = true) (hlast : (l.getLastD ([97, 98, 97, 99, 97, 98, 0], 1)).2 = 0) (hlen : l.length ≤ 600) (hB : zb_B n (([97, 98, 97, 99, 97, 98, 0], 1) :: l) = (zb_RB n (3 ^ n) 0).map fun (t : Nat) => 97 + (t : Int)) (hRl : (zb_RB n (3 ^ n) 0).length = 3 ^ n) (y : Int32) : z_eqC Int32.toInt64 (fun h => fL_bruijnLetter 3000 0 (Int32.ofInt (n : Int)) y 243 h) (fun h => fM_bruijnLetter 3000 232 (Int32.ofInt (n : Int)) y h) (fun h => fM_thrown 3000 232 h) 243 za_h2 = true := by
  have hp := zb_p7 hn.2
  have hp0 : 1 ≤ 3 ^ n := Nat.pos_of_ne_zero (by
    intro h
    have := Nat.pow_eq_zero.mp h
    omega)
  -- the class, to the row's letter
  have hL : ∀ o : Option (Int32 × zH), fL_bruijnLetter 3000 0 (Int32.ofInt (n : Int)) y 243 za_h2 = bH [((0, 10, 13, 13), 0, 1), ((0, 10, 17, 46), 2, 2)] 5 (cond (z_cmp .ge y (Int32.ofInt 0)) (b2 (fB_findRowLetter 3000 0 (Int32.ofInt (n : Int)) y za_h2) fun x5 h6 => fB_bruijnLetter_50 3000 x5 h6) (fB_bruijnLetter_50 3000 (Int32.ofInt (-1)) za_h2)) fun x1 h2 => b1 (fAS h2 243 103 (Int32.ofInt 0) (.long (x1).toInt64)) fun h3 => some ((Int32.ofInt 0), h3) := by
    intro _
    unfold fL_bruijnLetter fB_bruijnLetter
    rw [zf_T0, cond_true, zj_lt _ 1 (by decide), zqo_i _ (by omega), decide_eq_false (by omega), cond_false, zj_gt _ 12 (by decide), zqo_i _ (by omega), decide_eq_false (by omega), cond_false, zf_now, b1, zf_letB, b1, zb_fit n (by omega), show Nat.ble n 7 = true from Nat.ble_eq.mpr hn.2, cond_true, b2, show z_cmp .ne (Int32.ofInt 1) (Int32.ofInt 0) = true from rfl, cond_true]
  -- the reference, to the index's test
  have hM : ∀ h w, zb_q h w → fM_bruijnLetter 3000 232 (Int32.ofInt (n : Int)) y h = b2 (fM_in 3000 y (Int32.ofInt 0) (Int32.ofInt (((3 ^ n : Nat) : Int) - 1)) h) fun x5 h6 => cond (z_cmp .ne x5 (Int32.ofInt 0)) (fM_bruijnLetter_52 3000 232 (Int32.ofInt (n : Int)) y (Int32.ofInt 0) 232 h6) (fM_bruijnLetter_53 3000 232 (Int32.ofInt (n : Int)) y (Int32.ofInt 1) (Int32.ofInt 0) 232 h6) := by
    intro h w H
    have H0 := H
    obtain ⟨vs, R, a1, _⟩ := H
    unfold fM_bruijnLetter
    rw [zi_T (by decide) a1, cond_true, zqn_in _ _ 1 12 (by decide) (by decide) (by rw [zqo_i _ (by omega)]; omega) (by rw [zqo_i _ (by omega)]; omega), b2, show z_cmp .eq (Int32.ofInt 1) (Int32.ofInt 0) = false from rfl, cond_false, zb_power hn.2 H0, b2]
    have hle : z_cmp .le (Int32.ofInt ((3 ^ n : Nat) : Int)) (Int32.ofInt 4096) = true := by
      generalize 3 ^ n = v at hp ⊢
      rw [zqo_le _ _ (by omega) (by decide)]
      exact decide_eq_true (by omega)
    rw [hle, cond_true]
    unfold fM_bruijnLetter_26
    rw [show z_cmp .ne (Int32.ofInt 0) (Int32.ofInt 0) = false from rfl, cond_false, zb_power hn.2 H0, b2, ← Int32.ofInt_sub]
  -- no such letter
  have hout : ∀ h1, zb_f h1 → (y.toInt < 0 ∨ ((3 ^ n : Nat) : Int) - 1 < y.toInt) → fL_bruijnLetter 3000 0 (Int32.ofInt (n : Int)) y 243 za_h2 = some (Int32.ofInt 2, h1) → z_eqC Int32.toInt64 (fun h => fL_bruijnLetter 3000 0 (Int32.ofInt (n : Int)) y 243 h) (fun h => fM_bruijnLetter 3000 232 (Int32.ofInt (n : Int)) y h) (fun h => fM_thrown 3000 232 h) 243 za_h2 = true := by
    intro h1 hf hy e1
    have q := zb_fq0 hf
    obtain ⟨h2, t1, t2⟩ := zb_thr2 q
    refine zqk_out3 (v := Int32.ofInt 2) (y := Int32.ofInt 0) rfl e1 (h2 := h2) (h3 := h2) ?_ t2
    show fM_bruijnLetter 3000 232 (Int32.ofInt (n : Int)) y h1 = _
    rw [hM h1 0 q, zqk_in2 y _ 0 _ (by decide) (by generalize 3 ^ n = v at hp hp0 ⊢; omega) hy, b2, show z_cmp .ne (Int32.ofInt 0) (Int32.ofInt 0) = false from rfl, cond_false]
    unfold fM_bruijnLetter_53
    rw [t1]
    rfl
  by_cases y0 : y.toInt < 0
  · refine hout za_h2 zb_f0 (Or.inl y0) ?_
    rw [hL none, zj_ge y 0 (by decide), decide_eq_false (by omega), cond_false]
    rfl
  · have hge : z_cmp .ge y (Int32.ofInt 0) = true := by
      rw [zj_ge y 0 (by decide)]
      exact decide_eq_true (by omega)
    obtain ⟨m, hm, hm2⟩ : ∃ m : Nat, y = Int32.ofInt (m : Int) ∧ y.toInt = m := ⟨y.toInt.toNat, by rw [show ((y.toInt.toNat : Nat) : Int) = y.toInt by omega, zj_ofInt], by omega⟩
    have hm3 : m < 2147483648 := by
      have := Int32.toInt_lt y
      omega
    have hcls := zb_cls hn hc hlast hlen hB (by rw [List.length_map, hRl]; omega) m hm3
    by_cases y1 : ((3 ^ n : Nat) : Int) - 1 < y.toInt
    · have e2 : ((zb_RB n (3 ^ n) 0).map fun (t : Nat) => 97 + (t : Int))[m]? = none := by
        rw [List.getElem?_eq_none]
        rw [List.length_map, hRl]
        generalize 3 ^ n = v at y1 ⊢
        omega
      obtain ⟨st, e3⟩ := hcls.2 e2
      refine hout (zb_H st) (zb_fH st) (Or.inr y1) ?_
      rw [hL none, hge, cond_true, hm, e3, b2]
      rfl
    · have hlt : m < (zb_RB n (3 ^ n) 0).length := by
        rw [hRl]
        generalize 3 ^ n = v at y1 ⊢
        omega
      have e2 : (zb_RB n (3 ^ n) 0)[m]? = some (zb_RB n (3 ^ n) 0)[m] := List.getElem?_eq_getElem hlt
      generalize (zb_RB n (3 ^ n) 0)[m] = t at e2
      obtain ⟨st, e3⟩ := hcls.1 (97 + (t : Int)) (by rw [List.getElem?_map, e2]; rfl)
      obtain ⟨s1, s2⟩ := zb_fq (zb_fH st) (Int32.ofInt (97 + (t : Int))).toInt64
      have t2 : t ≤ 2 := zb_RBb n (3 ^ n) 0 t (List.mem_of_getElem? e2)
      obtain ⟨h2, u1, u2⟩ := zb_thr0 s2
      obtain ⟨h3, u3, u4⟩ := zb_ref hn (3 ^ n) 3000 0 m t h2 (by omega) (by omega) (by rw [hRl] at hlt; omega) u2 e2
      have u5 := u4
      obtain ⟨vs, R, a1, a2, a3, a4, a5, a6, a7, a8, a9, a10⟩ := u4
      refine zqk_both (h1 := (zb_H st).set 243 (103, [.long (Int32.ofInt (97 + (t : Int))).toInt64])) (y := Int32.ofInt (97 + (t : Int))) (h2 := h3) (h3 := h3) (w := (Int32.ofInt (97 + (t : Int))).toInt64) ?_ ?_ ?_ ?_ ?_
      · show fL_bruijnLetter 3000 0 (Int32.ofInt (n : Int)) y 243 za_h2 = _
        rw [hL none, hge, cond_true, hm, e3, b2]
        unfold fB_bruijnLetter_50
        rw [zqo_ne _ _ (by omega) (by decide), decide_eq_false (by omega), Bool.not_false, cond_true]
        show (b1 (fAS (zb_H st) 243 103 (Int32.ofInt 0) (.long (Int32.ofInt (97 + (t : Int))).toInt64)) fun h3 => some ((Int32.ofInt 0), h3)) = _
        rw [s1]
        rfl
      · show fM_bruijnLetter 3000 232 (Int32.ofInt (n : Int)) y ((zb_H st).set 243 (103, [.long (Int32.ofInt (97 + (t : Int))).toInt64])) = _
        rw [hM _ _ s2, zqn_in y _ 0 _ (by decide) (by generalize 3 ^ n = v at hp hp0 ⊢; omega) (by omega) (by omega), b2, show z_cmp .ne (Int32.ofInt 1) (Int32.ofInt 0) = true from rfl, cond_true]
        unfold fM_bruijnLetter_52 fM_bruijnLetter_53
        rw [u1, b2, show z_cmp .eq (Int32.ofInt 0) (Int32.ofInt 0) = true from rfl, cond_true, hm]
        exact u3
      · show fM_thrown 3000 232 h3 = _
        unfold fM_thrown
        rw [zi_T (by decide) a1, cond_true, zh_I (by decide) a1 a4]
        rfl
      · exact zh_AL (i := 0) (by decide) a9 rfl (by decide)
      · exact zqo_lg _
