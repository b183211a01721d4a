/-! THE REFERENCE'S CALLS THAT CHANGE THE TEXT. -/
/-- what is known of all that is kept -/
def zo (now : zA) (hist : List zA) (snap : zA) : Prop := zv_ok now ∧ (∀ (i : Nat) (A : zA), hist[i]? = some A → zv_ok A) ∧ hist.length ≤ 8 ∧ zv_ok snap
section ZYF
variable {N : Nat} {h : zH} {fl fl' : Nat → Int} {a a' : Nat → Nat → Int} {bef now snap : zA} {hist : List zA} {sv t : Int} {inp : List Nat} {rep : zvP} {T : List Nat}
theorem zv_o (V : zv h now hist snap sv inp rep) : zo now hist snap := by
  obtain ⟨sL, sT, sS, sK, wd, nu, hs, C, v1, v2, v3, v4, v5, v6, v7, v8, v9⟩ := V
  refine ⟨by rw [← v1]; exact v9 1 (Or.inl rfl), fun i A hA => ?_, v3, by rw [← v5]; exact v9 183 (Or.inr (Or.inl ⟨8, by decide, rfl⟩))⟩
  have hi : i < hist.length := (List.getElem?_eq_some_iff.mp hA).1
  rw [v4 i hi] at hA
  rw [← Option.some.inj hA]
  obtain ⟨k, k1, k2⟩ := C.2.2.2.2.2.2.2.2.1 i (by omega)
  exact v9 _ (Or.inr (Or.inl ⟨k, by omega, k2⟩))
theorem zn_appendLetter (Y : zy h now hist snap sv inp rep t) (o : zo now hist snap) (hN : 4000 ≤ N) (x : Int) (hx : -2147483648 ≤ x ∧ x < 2147483648) : (¬ (97 ≤ x ∧ x < 97 + (now.1 : Int)) ∧ ∃ h', fM_appendLetter N 232 (Int32.ofInt x) h = some (Int32.ofInt 0, h') ∧ zy h' now hist snap sv inp rep 1 ∧ zr_F h h') ∨ ((97 ≤ x ∧ x < 97 + (now.1 : Int)) ∧ now.2.1.length = 120 ∧ ∃ h', fM_appendLetter N 232 (Int32.ofInt x) h = some (Int32.ofInt 0, h') ∧ zy h' now hist snap sv inp rep 2 ∧ zr_F h h') ∨ ((97 ≤ x ∧ x < 97 + (now.1 : Int)) ∧ now.2.1.length < 120 ∧ ∃ h', fM_appendLetter N 232 (Int32.ofInt x) h = some (Int32.ofInt ((zw_fs (now.2.1 ++ [x.toNat])).length : Int), h') ∧ zy h' (now.1, now.2.1 ++ [x.toNat], now.2.2) (zv_push hist now) snap sv inp rep 0 ∧ zr_F h h') := by
  obtain ⟨ok, okh, h8, oks⟩ := o
  have o1 := ok.1
  have o2 := ok.2.1
  obtain ⟨fl, a, H, R⟩ := id Y
  have g1 : fAI h 233 100 (Int32.ofInt 1) = some (Int32.ofInt (a 233 1)) := zr_w H 1 (by decide)
  have tx := zyR_tx R
  unfold fM_appendLetter
  rw [zr_T H, cond_true, zr_isLetter H R.1.1 o1.2 x hx, b2]
  by_cases e : 97 ≤ x ∧ x < 97 + (now.1 : Int)
  · rw [decide_eq_true e, cond_true]
    refine Or.inr ?_
    show (_ ∧ _ ∧ ∃ h', fM_appendLetter_14 N 232 (Int32.ofInt x) (Int32.ofInt 0) 232 h = _ ∧ _) ∨ (_ ∧ _ ∧ ∃ h', fM_appendLetter_14 N 232 (Int32.ofInt x) (Int32.ofInt 0) 232 h = _ ∧ _)
    unfold fM_appendLetter_14
    rw [zr_r0 H, b1_s, g1, b1_s, tx.1, zqo_ne _ _ (by omega) (by decide)]
    by_cases e2 : now.2.1.length = 120
    · rw [decide_eq_true (by omega)]
      refine Or.inl ⟨e, e2, ?_⟩
      obtain ⟨h1, e1, Y1, F1⟩ := zy_two01 (N := N) Y
      refine ⟨h1, ?_, Y1, F1⟩
      show fM_appendLetter_30 N 232 (Int32.ofInt x) (Int32.ofInt 1) (Int32.ofInt 0) 232 h = _
      unfold fM_appendLetter_30
      rw [e1]
      rfl
    · rw [decide_eq_false (by omega)]
      obtain ⟨v, rfl⟩ : ∃ v : Nat, x = (v : Int) := ⟨x.toNat, by omega⟩
      refine Or.inr ⟨e, by omega, ?_⟩
      obtain ⟨h1, e1, Y1, F1⟩ := zy_two00 (N := N) Y
      obtain ⟨h2, e2, Y2, F2⟩ := zy_begins (N := N) (by omega) Y1 ok
      obtain ⟨h3, e3, Y3, F3⟩ := zy_appends (N := N) (by omega) Y2 ok (by omega) v (by omega)
      obtain ⟨h4, e4, Y4, F4⟩ := zy_remember (N := N) hN Y3 ok okh h8 (Int32.ofInt ((zw_fs (now.2.1 ++ [v])).length : Int))
      refine ⟨h4, ?_, Y4, zr_Ft F1 (zr_Ft F2 (zr_Ft F3 F4))⟩
      show fM_appendLetter_30 N 232 (Int32.ofInt (v : Int)) (Int32.ofInt 0) (Int32.ofInt 0) 232 h = _
      unfold fM_appendLetter_30
      rw [e1, b2]
      show b2 (fM_begins N 232 h1) _ = _
      rw [e2, b2, zw_sub, e3, b2, e4]
      rfl
  · rw [decide_eq_false e, cond_false]
    refine Or.inl ⟨e, ?_⟩
    show ∃ h', fM_appendLetter_14 N 232 (Int32.ofInt x) (Int32.ofInt 1) 232 h = _ ∧ _
    unfold fM_appendLetter_14
    rw [zr_r0 H, b1_s, g1, b1_s, tx.1, zqo_ne _ _ (by omega) (by decide)]
    have k : ∀ y : Int32, ∃ h', fM_appendLetter_30 N 232 (Int32.ofInt x) y (Int32.ofInt 1) 232 h = some (Int32.ofInt 0, h') ∧ zy h' now hist snap sv inp rep 1 ∧ zr_F h h' := by
      intro y
      obtain ⟨h1, e1, Y1, F1⟩ := zy_two1 (N := N) Y y
      refine ⟨h1, ?_, Y1, F1⟩
      unfold fM_appendLetter_30
      rw [e1]
      rfl
    by_cases e2 : (now.2.1.length : Int) = 120
    · rw [decide_eq_true e2]
      exact k _
    · rw [decide_eq_false e2]
      exact k _
theorem zr_in01 (N : Nat) (x : Int) {l : Nat} (hl : l ≤ 100000) (hx : -2147483648 ≤ x ∧ x < 2147483648) (h : zH) : fM_in N (Int32.ofInt x) (Int32.ofInt 0) (Int32.ofInt (l : Int)) h = some (cond (decide (0 ≤ x ∧ x ≤ (l : Int))) (Int32.ofInt 1) (Int32.ofInt 0), h) := zr_in N x 0 l hx (by decide) (by omega) h
theorem zn_dropLast (Y : zy h now hist snap sv inp rep t) (o : zo now hist snap) (hN : 4000 ≤ N) (x : Int) (hx : -2147483648 ≤ x ∧ x < 2147483648) : (¬ (0 ≤ x ∧ x ≤ (now.2.1.length : Int)) ∧ ∃ h', fM_dropLast N 232 (Int32.ofInt x) h = some (Int32.ofInt 0, h') ∧ zy h' now hist snap sv inp rep 1 ∧ zr_F h h') ∨ ((0 ≤ x ∧ x ≤ (now.2.1.length : Int)) ∧ ∃ h', fM_dropLast N 232 (Int32.ofInt x) h = some (Int32.ofInt ((zw_fs (now.2.1.take (now.2.1.length - x.toNat))).length : Int), h') ∧ zy h' (now.1, now.2.1.take (now.2.1.length - x.toNat), now.2.2) (zv_push hist now) snap sv inp rep 0 ∧ zr_F h h') := by
  obtain ⟨ok, okh, h8, oks⟩ := o
  have o2 := ok.2.1
  obtain ⟨fl, a, H, R⟩ := id Y
  have g1 : fAI h 233 100 (Int32.ofInt 1) = some (Int32.ofInt (a 233 1)) := zr_w H 1 (by decide)
  have tx := zyR_tx R
  unfold fM_dropLast
  rw [zr_T H, cond_true, zr_r0 H, b1_s, g1, b1_s, tx.1, zr_in01 N x (by omega) hx, b2]
  by_cases e : 0 ≤ x ∧ x ≤ (now.2.1.length : Int)
  · rw [decide_eq_true e, cond_true]
    refine Or.inr ⟨e, ?_⟩
    obtain ⟨v, rfl⟩ : ∃ v : Nat, x = (v : Int) := ⟨x.toNat, by omega⟩
    obtain ⟨h1, e1, Y1, F1⟩ := zy_one0 (N := N) Y
    obtain ⟨h2, e2, Y2, F2⟩ := zy_begins (N := N) (by omega) Y1 ok
    obtain ⟨h3, e3, Y3, F3⟩ := zy_drops (N := N) (by omega) Y2 ok v (by omega)
    obtain ⟨h4, e4, Y4, F4⟩ := zy_remember (N := N) hN Y3 ok okh h8 (Int32.ofInt ((zw_fs (now.2.1.take (now.2.1.length - v))).length : Int))
    refine ⟨h4, ?_, Y4, zr_Ft F1 (zr_Ft F2 (zr_Ft F3 F4))⟩
    show fM_dropLast_20 N 232 (Int32.ofInt (v : Int)) (Int32.ofInt 0) 232 h = _
    unfold fM_dropLast_20
    rw [e1, b2]
    show b2 (fM_begins N 232 h1) _ = _
    rw [e2, b2, e3, b2, e4]
    rfl
  · rw [decide_eq_false e, cond_false]
    refine Or.inl ⟨e, ?_⟩
    obtain ⟨h1, e1, Y1, F1⟩ := zy_one1 (N := N) Y
    refine ⟨h1, ?_, Y1, F1⟩
    show fM_dropLast_20 N 232 (Int32.ofInt x) (Int32.ofInt 1) 232 h = _
    unfold fM_dropLast_20
    rw [e1]
    rfl
theorem zn_rotate (Y : zy h now hist snap sv inp rep t) (o : zo now hist snap) (hN : 4000 ≤ N) (x : Int) (hx : -2147483648 ≤ x ∧ x < 2147483648) : (¬ (0 ≤ x ∧ x ≤ (now.2.1.length : Int)) ∧ ∃ h', fM_rotate N 232 (Int32.ofInt x) h = some (Int32.ofInt 0, h') ∧ zy h' now hist snap sv inp rep 1 ∧ zr_F h h') ∨ ((0 ≤ x ∧ x ≤ (now.2.1.length : Int)) ∧ ∃ h', fM_rotate N 232 (Int32.ofInt x) h = some (Int32.ofInt ((zw_fs (zw_trn now.2.1 x.toNat)).length : Int), h') ∧ zy h' (now.1, zw_trn now.2.1 x.toNat, now.2.2) (zv_push hist now) snap sv inp rep 0 ∧ zr_F h h') := by
  obtain ⟨ok, okh, h8, oks⟩ := o
  have o2 := ok.2.1
  obtain ⟨fl, a, H, R⟩ := id Y
  have g1 : fAI h 233 100 (Int32.ofInt 1) = some (Int32.ofInt (a 233 1)) := zr_w H 1 (by decide)
  have tx := zyR_tx R
  unfold fM_rotate
  rw [zr_T H, cond_true, zr_r0 H, b1_s, g1, b1_s, tx.1, zr_in01 N x (by omega) hx, b2]
  by_cases e : 0 ≤ x ∧ x ≤ (now.2.1.length : Int)
  · rw [decide_eq_true e, cond_true]
    refine Or.inr ⟨e, ?_⟩
    obtain ⟨v, rfl⟩ : ∃ v : Nat, x = (v : Int) := ⟨x.toNat, by omega⟩
    obtain ⟨h1, e1, Y1, F1⟩ := zy_one0 (N := N) Y
    obtain ⟨h2, e2, Y2, F2⟩ := zy_begins (N := N) (by omega) Y1 ok
    obtain ⟨h3, e3, Y3, F3⟩ := zy_turns (N := N) (by omega) Y2 ok v (by omega)
    obtain ⟨h4, e4, Y4, F4⟩ := zy_remember (N := N) hN Y3 ok okh h8 (Int32.ofInt ((zw_fs (zw_trn now.2.1 v)).length : Int))
    refine ⟨h4, ?_, Y4, zr_Ft F1 (zr_Ft F2 (zr_Ft F3 F4))⟩
    show fM_rotate_20 N 232 (Int32.ofInt (v : Int)) (Int32.ofInt 0) 232 h = _
    unfold fM_rotate_20
    rw [e1, b2]
    show b2 (fM_begins N 232 h1) _ = _
    rw [e2, b2, e3, b2, e4]
    rfl
  · rw [decide_eq_false e, cond_false]
    refine Or.inl ⟨e, ?_⟩
    obtain ⟨h1, e1, Y1, F1⟩ := zy_one1 (N := N) Y
    refine ⟨h1, ?_, Y1, F1⟩
    show fM_rotate_20 N 232 (Int32.ofInt x) (Int32.ofInt 1) 232 h = _
    unfold fM_rotate_20
    rw [e1]
    rfl
theorem zn_cutPart (Y : zy h now hist snap sv inp rep t) (o : zo now hist snap) (hN : 4000 ≤ N) (x y : Int) (hx : -2147483648 ≤ x ∧ x < 2147483648) (hy : -2147483648 ≤ y ∧ y < 2147483648) : (zc_part now.2.1 x y = false ∧ ∃ h', fM_cutPart N 232 (Int32.ofInt x) (Int32.ofInt y) h = some (Int32.ofInt 0, h') ∧ zy h' now hist snap sv inp rep 1 ∧ zr_F h h') ∨ (zc_part now.2.1 x y = true ∧ ∃ h', fM_cutPart N 232 (Int32.ofInt x) (Int32.ofInt y) h = some (Int32.ofInt ((zw_p now.2.1 x.toNat y.toNat).length : Int), h') ∧ zy h' (now.1, zw_p now.2.1 x.toNat y.toNat, now.2.2) (zv_push hist now) snap sv inp rep 0 ∧ zr_F h h') := by
  obtain ⟨ok, okh, h8, oks⟩ := o
  have o2 := ok.2.1
  obtain ⟨fl, a, H, R⟩ := id Y
  have g1 : fAI h 233 100 (Int32.ofInt 1) = some (Int32.ofInt (a 233 1)) := zr_w H 1 (by decide)
  have tx := zyR_tx R
  have k : ∃ h', fM_cutPart_20 N 232 (Int32.ofInt x) (Int32.ofInt y) 232 h = some (Int32.ofInt 0, h') ∧ zy h' now hist snap sv inp rep 1 ∧ zr_F h h' := by
    obtain ⟨h1, e1, Y1, F1⟩ := zy_one1 (N := N) Y
    refine ⟨h1, ?_, Y1, F1⟩
    unfold fM_cutPart_20 fM_cutPart_25
    rw [e1]
    rfl
  unfold fM_cutPart
  rw [zr_T H, cond_true, zqo_lt _ _ hx (by decide), zqo_lt _ _ hy hx]
  unfold zc_part
  by_cases e1 : x < 0
  · rw [decide_eq_true e1, cond_true, decide_eq_false (by omega)]
    exact Or.inl ⟨rfl, k⟩
  rw [decide_eq_false e1, cond_false]
  by_cases e2 : y < x
  · rw [decide_eq_true e2, cond_true, decide_eq_false (by omega)]
    exact Or.inl ⟨rfl, k⟩
  rw [decide_eq_false e2, cond_false, zr_r0 H, b1_s, g1, b1_s, tx.1, zqo_le _ _ hy (by omega)]
  by_cases e3 : y ≤ (now.2.1.length : Int)
  · rw [decide_eq_true e3, cond_true, decide_eq_true (by omega)]
    refine Or.inr ⟨rfl, ?_⟩
    obtain ⟨u, rfl⟩ : ∃ v : Nat, x = (v : Int) := ⟨x.toNat, by omega⟩
    obtain ⟨v, rfl⟩ : ∃ v : Nat, y = (v : Int) := ⟨y.toNat, by omega⟩
    obtain ⟨h1, e1, Y1, F1⟩ := zy_one0 (N := N) Y
    obtain ⟨h2, e2, Y2, F2⟩ := zy_begins (N := N) (by omega) Y1 ok
    obtain ⟨h3, e3, Y3, F3⟩ := zy_parts (N := N) (by omega) Y2 ok u v (by omega) (by omega)
    obtain ⟨h4, e4, Y4, F4⟩ := zy_remember (N := N) hN Y3 ok okh h8 (Int32.ofInt ((zw_p now.2.1 u v).length : Int))
    refine ⟨h4, ?_, Y4, zr_Ft F1 (zr_Ft F2 (zr_Ft F3 F4))⟩
    unfold fM_cutPart_25
    rw [e1, b2]
    show b2 (fM_begins N 232 h1) _ = _
    rw [e2, b2, e3, b2, e4]
    rfl
  · rw [decide_eq_false e3, cond_false, decide_eq_false (by omega)]
    exact Or.inl ⟨rfl, k⟩
theorem zn_reverse (Y : zy h now hist snap sv inp rep t) (o : zo now hist snap) (hN : 4000 ≤ N) : ∃ h', fM_reverse N 232 h = some (Int32.ofInt ((zw_fs (zw_mir now.2.1 0 now.2.1.length)).length : Int), h') ∧ zy h' (now.1, zw_mir now.2.1 0 now.2.1.length, now.2.2) (zv_push hist now) snap sv inp rep 0 ∧ zr_F h h' := by
  obtain ⟨ok, okh, h8, oks⟩ := o
  obtain ⟨h1, e1, Y1, F1⟩ := zy_throw Y 0
  obtain ⟨h2, e2, Y2, F2⟩ := zy_begins (N := N) (by omega) Y1 ok
  obtain ⟨h3, e3, Y3, F3⟩ := zy_mirrors (N := N) (by omega) Y2 ok
  obtain ⟨h4, e4, Y4, F4⟩ := zy_remember (N := N) hN Y3 ok okh h8 (Int32.ofInt ((zw_fs (zw_mir now.2.1 0 now.2.1.length)).length : Int))
  refine ⟨h4, ?_, Y4, zr_Ft F1 (zr_Ft F2 (zr_Ft F3 F4))⟩
  obtain ⟨fl, a, H, R⟩ := id Y
  unfold fM_reverse
  rw [zr_T H, cond_true, e1, b1_s, e2, b2, e3, b2, e4]
  rfl
theorem zn_rotateToLeast (Y : zy h now hist snap sv inp rep t) (o : zo now hist snap) (hN : 4000 ≤ N) : (now.2.1.length = 0 ∧ ∃ h', fM_rotateToLeast N 232 h = some (Int32.ofInt 0, h') ∧ zy h' now hist snap sv inp rep 1 ∧ zr_F h h') ∨ (now.2.1.length ≠ 0 ∧ ∃ h', fM_rotateToLeast N 232 h = some (Int32.ofInt ((zm_least now.2.1 : Nat) : Int), h') ∧ zy h' (now.1, zw_trn now.2.1 (zm_least now.2.1), now.2.2) (zv_push hist now) snap sv inp rep 0 ∧ zr_F h h') := by
  obtain ⟨ok, okh, h8, oks⟩ := o
  have o2 := ok.2.1
  obtain ⟨fl, a, H, R⟩ := id Y
  have g1 : fAI h 233 100 (Int32.ofInt 1) = some (Int32.ofInt (a 233 1)) := zr_w H 1 (by decide)
  have tx := zyR_tx R
  unfold fM_rotateToLeast
  rw [zr_T H, cond_true, zr_r0 H, b1_s, g1, b1_s, tx.1, zqo_ne _ _ (by omega) (by decide)]
  by_cases e : now.2.1.length = 0
  · rw [decide_eq_true (by omega)]
    refine Or.inl ⟨e, ?_⟩
    obtain ⟨h1, e1, Y1, F1⟩ := zy_one1 (N := N) Y
    refine ⟨h1, ?_, Y1, F1⟩
    show fM_rotateToLeast_15 N 232 (Int32.ofInt 1) 232 h = _
    unfold fM_rotateToLeast_15
    rw [e1]
    rfl
  · rw [decide_eq_false (by omega)]
    refine Or.inr ⟨e, ?_⟩
    obtain ⟨h1, e1, Y1, F1⟩ := zy_one0 (N := N) Y
    obtain ⟨h2, e2, Y2, F2⟩ := zy_begins (N := N) (by omega) Y1 ok
    obtain ⟨h3, e3, Y3, F3⟩ := zy_turnsToLeast (N := N) (by omega) Y2 ok (by omega)
    obtain ⟨h4, e4, Y4, F4⟩ := zy_remember (N := N) hN Y3 ok okh h8 (Int32.ofInt ((zm_least now.2.1 : Nat) : Int))
    refine ⟨h4, ?_, Y4, zr_Ft F1 (zr_Ft F2 (zr_Ft F3 F4))⟩
    show fM_rotateToLeast_15 N 232 (Int32.ofInt 0) 232 h = _
    unfold fM_rotateToLeast_15
    rw [e1, b2]
    show b2 (fM_begins N 232 h1) _ = _
    rw [e2, b2, e3, b2, e4]
    rfl
end ZYF
