/-! p62: THE LAW'S LOOP. -/
section YLL
variable {xs : List Int32} {N : Nat} {A snap : zA} {sv : Int} {inp : List Nat} {rep : zvP}
theorem yl_cell (hx : xs.length < 100000) {k : Nat} (hk : k < 100) (h : zH) : ∃ c : Int32, fL_cell xs N (Int32.ofInt (k : Int)) h = some (c, h) := by
  unfold fL_cell
  rw [show Int32.ofNat xs.length = Int32.ofInt (xs.length : Int) from Int32.ofInt_eq_ofNat.symm, zqo_ge _ _ (by omega) (by omega)]
  by_cases e : xs.length ≤ k
  · rw [decide_eq_true (by omega), cond_true]
    exact ⟨_, rfl⟩
  · obtain ⟨z1, z2⟩ := zh_nat (show k < 2147483648 by omega)
    rw [decide_eq_false (by omega), cond_false]
    unfold fScr
    rw [z2, decide_eq_false z1, cond_false, List.getElem?_eq_getElem (by omega), b1_s]
    exact ⟨_, rfl⟩
/-- what the loop's next round wants -/
def yL (k19 : Nat → Int32 → zH → Option (Int32 × zH)) (k M : Nat) : Prop := ∀ (h : zH) (A snap : zA) (hist : List zA) (sv : Int) (inp : List Nat) (rep : zvP), zv h A hist snap sv inp rep → h.length ≤ M → ∃ h', k19 0 (Int32.ofInt (k : Int)) h = some (Int32.ofInt 1, h')
theorem yl_149 {k19 : Nat → Int32 → zH → Option (Int32 × zH)} {k M : Nat} (K : yL k19 (k + 1) (M + 2)) (hN : 3000 ≤ N) (hM : M < 600000) (hk : k < 100) (c : Int32) {h : zH} {hist : List zA} (V : zv h A hist snap sv inp rep) (hh : h.length ≤ M) : ∃ h', fL_law_149 xs N k19 0 (Int32.ofInt (k : Int)) c h = some (Int32.ofInt 1, h') := by
  have o1 := (zv_open V).1.1
  obtain ⟨y, hy, ey⟩ := zw_bits ((c.toUInt32 >>> ((Int32.ofInt 7).toUInt32 &&& Int32.toUInt32 31)).toInt32) 4 (by decide)
  have ey : (c.toUInt32 >>> ((Int32.ofInt 7).toUInt32 &&& Int32.toUInt32 31)).toInt32 &&& Int32.ofInt 15 = Int32.ofInt (y : Int) := ey
  have hy : y < 16 := hy
  have hm := Nat.mod_lt y (show 0 < A.1 by omega)
  obtain ⟨g, hist', e, V2, G⟩ := ya_app (N := N) V hN (w := 97 + y % A.1) (by omega) (by omega)
  unfold fL_law_149
  rw [zV_letters V, b2_s, if_neg (zw_n0 _ (by omega) (by omega)), ey, zw_modi _ _ (by omega) (by omega), zw_add, show 97 + ((y % A.1 : Nat) : Int) = ((97 + y % A.1 : Nat) : Int) by omega, e, b2_s]
  show ∃ h', k19 0 (Int32.ofInt (k : Int) + Int32.ofInt 1) g = _
  rw [zw_add, show (k : Int) + 1 = ((k + 1 : Nat) : Int) by omega]
  exact K g A snap hist' sv inp rep V2 (by have := G.1; omega)
theorem yl_95 {k19 : Nat → Int32 → zH → Option (Int32 × zH)} {k M : Nat} (K : yL k19 (k + 1) (M + 2)) (hN : 3000 ≤ N) (hM : M < 600000) (hk : k < 100) (c l7 : Int32) {H0 hist : List zA} {A0 : zA} {h : zH} {n : Nat} {v : Int64} (hv : ∀ (h : zH) (snap : zA) (hist : List zA) (sv : Int) (inp : List Nat) (rep : zvP), zv h A0 hist snap sv inp rep → fL_sum N 0 h = some (v, h)) (V : zv h A hist snap sv inp rep) (Y : yK H0 A0 hist A n) (h0 : H0.length ≤ 8) (hh : h.length ≤ M) : ∃ h', fL_law_95 xs N k19 0 (Int32.ofInt (k : Int)) c (Int32.ofInt (H0.length : Int)) v l7 h = some (Int32.ofInt 1, h') := by
  have e149 := yl_149 (xs := xs) K hN hM hk c V hh
  have h8 := zV_h8 V
  unfold fL_law_95
  cases z_cmp .eq l7 (Int32.ofInt 0) with
  | true => exact e149
  | false =>
    rw [cond_false, zqo_ge _ _ (by omega) (by omega)]
    by_cases e7 : 7 ≤ H0.length
    · rw [decide_eq_true (by omega), cond_true]
      exact e149
    · rw [decide_eq_false (by omega), cond_false, zV_undoCount V, b2_s, zw_add, zqo_ne _ _ (by omega) (by omega)]
      by_cases e1 : hist.length = H0.length + 1
      · rw [decide_eq_true (by omega), Bool.not_true, cond_false]
        cases z_cmp .ne ((c.toUInt32 >>> ((Int32.ofInt 29).toUInt32 &&& Int32.toUInt32 31)).toInt32 &&& Int32.ofInt 3) (Int32.ofInt 1) with
        | true => exact e149
        | false =>
          have hist1 : hist = H0 ++ [A0] := by
            rw [Y.2.2 (by have := Y.1; omega)]
            unfold zv_push
            rw [if_neg (by omega)]
          rcases zk_undo (N := N) V hN with ⟨z, -⟩ | ⟨A1, r, z1, g, e2, V', F⟩
          · rw [hist1] at z
            exact absurd z (by simp)
          · rw [hist1] at z1
            obtain ⟨r1, r2⟩ := List.append_inj' z1 rfl
            cases r2
            subst r1
            rw [cond_false, e2, b2_s, zqo_ne _ _ (by omega) (by omega), decide_eq_true rfl, Bool.not_true, cond_false, hv _ _ _ _ _ _ V', b2_s, zqo_lg, cond_true]
            exact yl_149 (xs := xs) K hN hM hk c V' (by rw [F.1]; exact hh)
      · rw [decide_eq_false (by omega), Bool.not_false, cond_true]
        exact e149
theorem yl_62 {k19 : Nat → Int32 → zH → Option (Int32 × zH)} {k M : Nat} (K : yL k19 (k + 1) (M + 3)) (hN : 3000 ≤ N) (hM : M < 500000) (hk : k < 100) (c : Int32) {H0 hist : List zA} {A0 : zA} {h : zH} {n : Nat} {v : Int64} (hv : ∀ (h : zH) (snap : zA) (hist : List zA) (sv : Int) (inp : List Nat) (rep : zvP), zv h A0 hist snap sv inp rep → fL_sum N 0 h = some (v, h)) (V : zv h A hist snap sv inp rep) (Y : yK H0 A0 hist A n) (h0 : H0.length ≤ 8) (hh : h.length ≤ M) {b : Int} (hb : (b = 1 ∧ H0.length < hist.length) ∨ (b = 0 ∧ hist.length ≤ H0.length)) : ∃ h', fL_law_62 xs N k19 0 (Int32.ofInt (k : Int)) c (Int32.ofInt (H0.length : Int)) v (Int32.ofInt b) h = some (Int32.ofInt 1, h') := by
  obtain ⟨g, e, V2, G⟩ := yh_holds (N := N) V hN (by omega)
  have e95 := yl_95 (xs := xs) (M := M + 1) (l7 := Int32.ofInt b) K hN (by omega) hk c hv V2 Y h0 (by have := G.1; omega)
  have h8 := zV_h8 V
  unfold fL_law_62
  rw [e, b2_s]
  show ∃ h', cond (z_cmp .ne (Int32.ofInt b) (Int32.ofInt 0)) _ _ = _
  rw [zqo_ne _ _ (by omega) (by omega)]
  rcases hb with ⟨rfl, b2'⟩ | ⟨rfl, b2'⟩
  · exact e95
  · show ∃ h', cond (z_cmp .ge (Int32.ofInt (H0.length : Int)) (Int32.ofInt 8)) _ _ = _
    rw [zqo_ge _ _ (by omega) (by omega)]
    by_cases e8 : 8 ≤ H0.length
    · rw [decide_eq_true (by omega), cond_true]
      exact e95
    · obtain ⟨y1, y2⟩ := Y.2.1 (by have := Y.1; omega)
      subst y1
      rw [decide_eq_false (by omega), cond_false, hv _ _ _ _ _ _ V2, b2_s, zqo_lg, cond_true]
      exact e95
theorem yl_19 (hN : 3000 ≤ N) (hx : xs.length < 100000) : ∀ c f k : Nat, k + c = 14 → c < f → yL (fL_law_19 xs N f) k (1000 + 3 * k) := by
  intro c
  induction c with
  | zero =>
    intro f k h1 h2 h A snap hist sv inp rep V hh
    obtain ⟨f, rfl⟩ : ∃ f', f = f' + 1 := ⟨f - 1, by omega⟩
    rw [fL_law_19, zqo_ge _ _ (by omega) (by omega), decide_eq_true (by omega), cond_true]
    exact ⟨h, rfl⟩
  | succ c ih =>
    intro f k h1 h2 h A snap hist sv inp rep V hh
    obtain ⟨f, rfl⟩ : ∃ f', f = f' + 1 := ⟨f - 1, by omega⟩
    have K := ih f (k + 1) (by omega) (by omega)
    rw [show 1000 + 3 * (k + 1) = 1000 + 3 * k + 3 by omega] at K
    obtain ⟨w, ew⟩ := yl_cell (xs := xs) (N := N) hx (show k < 100 by omega) h
    obtain ⟨v, hv⟩ := yS_sum (N := N) (A := A) hN (zv_open V).1
    obtain ⟨g, A', hist', n, ed, V2, F, Y⟩ := yd_deed (N := N) V hN w
    have h8 := zV_h8 V
    have h82 := zV_h8 V2
    rw [fL_law_19, zqo_ge _ _ (by omega) (by omega), decide_eq_false (by omega), cond_false, ew, b2_s, zV_undoCount V, b2_s, hv _ _ _ _ _ _ V, b2_s, ed, b2_s, zV_undoCount V2, b2_s, zqo_le _ _ (by omega) (by omega)]
    by_cases e : hist'.length ≤ hist.length
    · rw [decide_eq_true (by omega), cond_true]
      exact yl_62 (xs := xs) K hN (by omega) (by omega) w hv V2 Y h8 (by rw [F.1]; exact hh) (b := 0) (Or.inr ⟨rfl, e⟩)
    · rw [decide_eq_false (by omega), cond_false]
      exact yl_62 (xs := xs) K hN (by omega) (by omega) w hv V2 Y h8 (by rw [F.1]; exact hh) (b := 1) (Or.inl ⟨rfl, by omega⟩)
theorem yl_8 (hN : 3000 ≤ N) (hx : xs.length < 100000) {h : zH} {hist : List zA} (V : zv h A hist snap sv inp rep) (hh : h.length ≤ 500) : ∃ h', fL_law_8 xs N 0 h = some (Int32.ofInt 1, h') := by
  obtain ⟨g, e, V2, G⟩ := yh_holds (N := N) V hN (by omega)
  unfold fL_law_8
  rw [e, b2_s]
  exact yl_19 hN hx 14 20 0 (by omega) (by omega) g A snap hist sv inp rep V2 (by have := G.1; omega)
end YLL
