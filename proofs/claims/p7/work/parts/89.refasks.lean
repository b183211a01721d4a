/-! THE REFERENCE'S QUESTIONS, three. -/
section ZYS
variable {N : Nat} {h : zH} {fl fl' : Nat → Int} {a a' : Nat → Nat → Int} {bef now snap : zA} {hist : List zA} {sv t : Int} {inp : List Nat} {rep : zvP} {T : List Nat}
theorem zr_root2 (hN : 1000 ≤ N) (H : zr h fl a) (r : zr_rw fl a T) (hT : T.length ≤ 120) (hv : ∀ v ∈ T, v < 256) : ∀ (c f i : Nat), i + c = T.length → c < f → fM_rootLength_2 N f 232 (Int32.ofInt (i : Int)) h = some (Int32.ofInt ((zm_rt T c : Nat) : Int), h) := by
  intro c
  induction c with
  | zero =>
    intro f i h1 h2
    obtain ⟨g, rfl⟩ : ∃ g, f = g + 1 := ⟨f - 1, by omega⟩
    rw [fM_rootLength_2, zr_i H 14 rfl, b1_s, r.1, zqo_ge _ _ (by omega) (by omega), decide_eq_true (by omega), cond_true]
    rfl
  | succ c ih =>
    intro f i h1 h2
    obtain ⟨g, rfl⟩ : ∃ g, f = g + 1 := ⟨f - 1, by omega⟩
    have b := zm_rob hv i 0 T.length
    rw [fM_rootLength_2, zr_i H 14 rfl, b1_s, r.1, zqo_ge _ _ (by omega) (by omega), decide_eq_false (by omega), cond_false, zr_turned hN H r hT hv (by omega), b2, zqo_ne _ _ (by omega) (by decide), zm_rt, show T.length - (c + 1) = i by omega]
    by_cases e : zm_ro T i 0 T.length = 0
    · rw [decide_eq_true e, if_pos e]
      rfl
    · rw [decide_eq_false e, if_neg e, zh_inc]
      exact ih g (i + 1) (by omega) (by omega)
theorem zn_rotationCount (Y : zy h now hist snap sv inp rep t) (ok : zv_ok now) (hN : 4000 ≤ N) : ∃ h', fM_rotationCount N 232 h = some (Int32.ofInt ((zw_tu now.2.1 : Nat) : Int), h') ∧ zy h' now hist snap sv inp rep 0 ∧ zr_F h h' := by
  obtain ⟨h1, e1, ⟨fl, a, H, R⟩, F1⟩ := zy_throw Y 0
  obtain ⟨fl0, a0, H0, R0⟩ := Y
  have o2 := ok.2.1
  obtain ⟨h2, f2, a2, e2, H2, F2, Q2, r2⟩ := zr_loads (N := N) (by omega) H (zyR_tx R) o2
  refine ⟨h2, ?_, ⟨f2, a2, H2, zyR_Q R Q2⟩, zr_Ft F1 F2⟩
  unfold fM_rotationCount
  rw [zr_T H0, cond_true, e1, b1_s, e2, b2]
  unfold fM_rootLength
  rw [zr_T H2, cond_true]
  by_cases e : now.2.1.length = 0
  · obtain ⟨g, rfl⟩ : ∃ g, N = g + 1 := ⟨N - 1, by omega⟩
    rw [fM_rootLength_2, zr_i H2 14 rfl, b1_s, r2.1, zqo_ge _ _ (by decide) (by omega), decide_eq_true (by omega), cond_true, b1_s, List.eq_nil_of_length_eq_zero e]
    rfl
  · have q := zr_root2 (N := N) (by omega) H2 r2 o2 (zv_256 ok) (now.2.1.length - 1) N 1 (by omega) (by omega)
    have q : fM_rootLength_2 N N 232 (Int32.ofInt 1) h2 = _ := q
    rw [q, zm_tu (by omega)]
    rfl
theorem zn_keptLetter (Y : zy h now hist snap sv inp rep t) (ok : zv_ok now) (x y : Int) (hx : -2147483648 ≤ x ∧ x < 2147483648) (hy : -2147483648 ≤ y ∧ y < 2147483648) : (¬ (0 ≤ x ∧ x < (now.2.2.length : Int)) ∧ ∃ h', fM_keptLetter N 232 (Int32.ofInt x) (Int32.ofInt y) h = some (Int32.ofInt 0, h') ∧ zy h' now hist snap sv inp rep 1 ∧ zr_F h h') ∨ ((0 ≤ x ∧ x < (now.2.2.length : Int)) ∧ ∃ h', fM_keptLetter N 232 (Int32.ofInt x) (Int32.ofInt y) h = some (Int32.ofInt (zw_g (now.2.2.getD x.toNat []) y), h') ∧ zy h' now hist snap sv inp rep 0 ∧ zr_F h h') := by
  have o4 := ok.2.2.2.1
  obtain ⟨fl0, a0, H0, R0⟩ := id Y
  unfold fM_keptLetter
  rw [zr_T H0, cond_true, zr_isShelved H0 R0 ok x hx, b2]
  by_cases e : 0 ≤ x ∧ x < (now.2.2.length : Int)
  · rw [decide_eq_true e, cond_true]
    obtain ⟨v, rfl⟩ : ∃ v : Nat, x = (v : Int) := ⟨x.toNat, by omega⟩
    obtain ⟨h1, e1, ⟨fl, a, H, R⟩, F1⟩ := zy_one0 (N := N) Y
    refine Or.inr ⟨e, h1, ?_, ⟨fl, a, H, R⟩, F1⟩
    have hv : v < now.2.2.length := by omega
    have wv := ok.2.2.2.2 _ (zv_kmem hv)
    have bv := R.1.2.2.2.2 v hv
    have g1 : fAI h1 233 100 (Int32.ofInt (123 + (v : Int))) = some (Int32.ofInt ((now.2.2.getD v []).length : Int)) := by
      rw [show 123 + (v : Int) = ((123 + v : Nat) : Int) by omega, zr_w H _ (by omega), bv.1]
    show fM_keptLetter_14 N 232 (Int32.ofInt (v : Int)) (Int32.ofInt y) (Int32.ofInt 0) 232 h = some (Int32.ofInt (zw_g (now.2.2.getD v []) y), h1)
    unfold fM_keptLetter_14 zw_g
    rw [e1, b2]
    show b1 (fR h1 232 5 0) _ = _
    rw [zr_r0 H, b1_s, zw_add, g1, b1_s, zw_sub, zr_in N y 0 _ hy (by decide) (by omega), b2]
    by_cases e2 : 0 ≤ y ∧ y < ((now.2.2.getD v []).length : Int)
    · obtain ⟨j, rfl⟩ : ∃ v : Nat, y = (v : Int) := ⟨y.toNat, by omega⟩
      have g2 : fAI h1 233 100 (Int32.ofInt (((131 + 40 * v : Nat) : Int) + (j : Int))) = some (Int32.ofInt (((now.2.2.getD v []).getD j 0 : Int) - 97)) := by
        rw [show ((131 + 40 * v : Nat) : Int) + (j : Int) = ((131 + 40 * v + j : Nat) : Int) by omega, zr_w H _ (by omega), bv.2 j (by omega)]
      rw [decide_eq_true (by omega : 0 ≤ (j : Int) ∧ (j : Int) ≤ ((now.2.2.getD v []).length : Int) - 1), if_pos e2]
      show b1 (fR h1 232 5 0) _ = _
      have c1 : Int32.ofInt 131 + Int32.ofInt 40 * Int32.ofInt (v : Int) = Int32.ofInt ((131 + 40 * v : Nat) : Int) := by
        rw [← Int32.ofInt_mul, ← Int32.ofInt_add]
        rfl
      rw [zr_r0 H, b1_s, c1, zw_add, g2, b1_s, zw_add, show 97 + (((now.2.2.getD v []).getD j 0 : Int) - 97) = ((now.2.2.getD v []).getD j 0 : Int) by omega]
      rfl
    · rw [decide_eq_false (by omega : ¬ (0 ≤ y ∧ y ≤ ((now.2.2.getD v []).length : Int) - 1)), if_neg e2]
      rfl
  · rw [decide_eq_false e, cond_false]
    obtain ⟨h1, e1, Y1, F1⟩ := zy_one1 (N := N) Y
    refine Or.inl ⟨e, h1, ?_, Y1, F1⟩
    show fM_keptLetter_14 N 232 (Int32.ofInt x) (Int32.ofInt y) (Int32.ofInt 1) 232 h = _
    unfold fM_keptLetter_14
    rw [e1]
    rfl
theorem zr_fall7 (hN : 1000 ≤ N) (H : zr h fl a) (R : zyR fl a now hist snap sv inp rep t) (ok : zv_ok now) : ∀ (c f i : Nat), i + c = now.2.2.length → 1 ≤ i → c < f → fM_isShelfFalling_7 N f 232 (Int32.ofInt (i : Int)) h = some (cond (zc_fall (fun j => now.2.2.getD j []) now.2.2.length c) (Int32.ofInt 1) (Int32.ofInt 0), h) := by
  have o4 := ok.2.2.2.1
  have g2 : fAI h 233 100 (Int32.ofInt 2) = some (Int32.ofInt (a 233 2)) := zr_w H 2 (by decide)
  intro c
  induction c with
  | zero =>
    intro f i h1 h2 h3
    obtain ⟨g, rfl⟩ : ∃ g, f = g + 1 := ⟨f - 1, by omega⟩
    rw [fM_isShelfFalling_7, zr_r0 H, b1_s, g2, b1_s, R.1.2.2.2.1, zqo_ge _ _ (by omega) (by omega), decide_eq_true (by omega), cond_true]
    rfl
  | succ c ih =>
    intro f i h1 h2 h3
    obtain ⟨g, rfl⟩ : ∃ g, f = g + 1 := ⟨f - 1, by omega⟩
    obtain ⟨z, z1, z2, z3, z4⟩ := zr_shelved (N := N) hN H R ok (j := i) (k := i - 1) (by omega) (by omega)
    rw [fM_isShelfFalling_7, zr_r0 H, b1_s, g2, b1_s, R.1.2.2.2.1, zqo_ge _ _ (by omega) (by omega), decide_eq_false (by omega), cond_false, zw_sub, show (i : Int) - 1 = ((i - 1 : Nat) : Int) by omega, z1, b2, zqo_le _ _ (by omega) (by decide), zc_fall, show now.2.2.length - (c + 1) = i by omega]
    rcases zw_cmpb (now.2.2.getD i []) (now.2.2.getD (i - 1) []) with w | w | w
    · have := z3.mpr w
      rw [decide_eq_true (by omega), cond_true, if_neg (by rw [w]; decide), zh_inc]
      exact ih g (i + 1) (by omega) (by omega) (by omega)
    · have := z4.mpr w
      rw [decide_eq_true (by omega), cond_true, if_neg (by rw [w]; decide), zh_inc]
      exact ih g (i + 1) (by omega) (by omega) (by omega)
    · have n1 : ¬ z < 0 := fun y => by rw [z3.mp y] at w; exact absurd w (by decide)
      have n2 : ¬ z = 0 := fun y => by rw [z4.mp y] at w; exact absurd w (by decide)
      rw [decide_eq_false (by omega), cond_false, if_pos w]
      rfl
theorem zn_isShelfFalling (Y : zy h now hist snap sv inp rep t) (ok : zv_ok now) (hN : 4000 ≤ N) : ∃ h', fM_isShelfFalling N 232 h = some (cond (zc_fall (fun j => now.2.2.getD j []) now.2.2.length (now.2.2.length - 1)) (Int32.ofInt 1) (Int32.ofInt 0), h') ∧ zy h' now hist snap sv inp rep 0 ∧ zr_F h h' := by
  obtain ⟨h1, e1, ⟨fl, a, H, R⟩, F1⟩ := zy_throw Y 0
  obtain ⟨fl0, a0, H0, R0⟩ := Y
  have o4 := ok.2.2.2.1
  refine ⟨h1, ?_, ⟨fl, a, H, R⟩, F1⟩
  unfold fM_isShelfFalling
  rw [zr_T H0, cond_true, e1, b1_s]
  by_cases e : now.2.2.length = 0
  · obtain ⟨g, rfl⟩ : ∃ g, N = g + 1 := ⟨N - 1, by omega⟩
    have g2 : fAI h1 233 100 (Int32.ofInt 2) = some (Int32.ofInt (a 233 2)) := zr_w H 2 (by decide)
    rw [fM_isShelfFalling_7, zr_r0 H, b1_s, g2, b1_s, R.1.2.2.2.1, zqo_ge _ _ (by decide) (by omega), decide_eq_true (by omega), cond_true, e]
    rfl
  · exact zr_fall7 (by omega) H R ok (now.2.2.length - 1) N 1 (by omega) (Nat.le_refl 1) (by omega)
theorem zn_factorsIfAppended (Y : zy h now hist snap sv inp rep t) (ok : zv_ok now) (hN : 4000 ≤ N) (x : Int) (hx : -2147483648 ≤ x ∧ x < 2147483648) : ((97 ≤ x ∧ x < 97 + (now.1 : Int)) ∧ ∃ h', fM_factorsIfAppended N 232 (Int32.ofInt x) h = some (Int32.ofInt (((zw_fs (now.2.1 ++ [x.toNat])).length : Nat) : Int), h') ∧ zy h' now hist snap sv inp rep 0 ∧ zr_F h h') ∨ (¬ (97 ≤ x ∧ x < 97 + (now.1 : Int)) ∧ ∃ h', fM_factorsIfAppended N 232 (Int32.ofInt x) h = some (Int32.ofInt 0, h') ∧ zy h' now hist snap sv inp rep 1 ∧ zr_F h h') := by
  have o1 := ok.1
  have o2 := ok.2.1
  obtain ⟨fl0, a0, H0, R0⟩ := id Y
  unfold fM_factorsIfAppended
  rw [zr_T H0, cond_true, zr_isLetter H0 R0.1.1 o1.2 x hx, b2]
  by_cases e : 97 ≤ x ∧ x < 97 + (now.1 : Int)
  · rw [decide_eq_true e, cond_true]
    obtain ⟨v, rfl⟩ : ∃ v : Nat, x = (v : Int) := ⟨x.toNat, by omega⟩
    obtain ⟨h1, e1, ⟨fl, a, H, R⟩, F1⟩ := zy_one0 (N := N) Y
    obtain ⟨h2, f2, a2, e2, H2, F2, Q2, r2⟩ := zr_loads (N := N) (by omega) H (zyR_tx R) o2
    obtain ⟨h3, f3, a3, e3, H3, F3, Q3, r3⟩ := zr_adds (N := N) H2 r2 (by omega) v
    have hl : (now.2.1 ++ [v]).length = now.2.1.length + 1 := List.length_append
    obtain ⟨h4, a4, e4, H4, F4, p4, _⟩ := zr_cuts (N := N) (by omega) H3 r3 ⟨by omega, fun u hu => by
      rw [List.mem_append, List.mem_singleton] at hu
      rcases hu with hu | hu
      · exact zv_256 ok u hu
      · omega⟩
    have Q : zr_Q fl a f3 a4 := ⟨fun k hk => (zr_Qt Q2 Q3).1 k hk, fun p i h5 h6 => (p4 p i h6).trans ((zr_Qt Q2 Q3).2 p i h5 h6)⟩
    refine Or.inl ⟨e, h4, ?_, ⟨f3, a4, H4, zyR_Q R Q⟩, zr_Ft F1 (zr_Ft F2 (zr_Ft F3 F4))⟩
    show fM_factorsIfAppended_14 N 232 (Int32.ofInt (v : Int)) (Int32.ofInt 0) 232 h = _
    unfold fM_factorsIfAppended_14
    rw [e1, b2]
    show b2 (fM_loads N 232 h1) _ = _
    rw [e2, b2, zw_sub, e3, b2, e4]
    rfl
  · rw [decide_eq_false e, cond_false]
    obtain ⟨h1, e1, Y1, F1⟩ := zy_one1 (N := N) Y
    refine Or.inr ⟨e, h1, ?_, Y1, F1⟩
    show fM_factorsIfAppended_14 N 232 (Int32.ofInt x) (Int32.ofInt 1) 232 h = _
    unfold fM_factorsIfAppended_14
    rw [e1]
    rfl
theorem zn_factorsIfRotated (Y : zy h now hist snap sv inp rep t) (ok : zv_ok now) (hN : 4000 ≤ N) (x : Int) (hx : -2147483648 ≤ x ∧ x < 2147483648) : ((0 ≤ x ∧ x ≤ (now.2.1.length : Int)) ∧ ∃ h', fM_factorsIfRotated N 232 (Int32.ofInt x) h = some (Int32.ofInt (((zw_fs (zw_trn now.2.1 x.toNat)).length : Nat) : Int), h') ∧ zy h' now hist snap sv inp rep 0 ∧ zr_F h h') ∨ (¬ (0 ≤ x ∧ x ≤ (now.2.1.length : Int)) ∧ ∃ h', fM_factorsIfRotated N 232 (Int32.ofInt x) h = some (Int32.ofInt 0, h') ∧ zy h' now hist snap sv inp rep 1 ∧ zr_F h h') := by
  have o2 := ok.2.1
  obtain ⟨fl0, a0, H0, R0⟩ := id Y
  have g0 : fAI h 233 100 (Int32.ofInt 1) = some (Int32.ofInt (a0 233 1)) := zr_w H0 1 (by decide)
  unfold fM_factorsIfRotated
  rw [zr_T H0, cond_true, zr_r0 H0, b1_s, g0, b1_s, R0.1.2.1, zr_in01 N x (by omega) hx, b2]
  by_cases e : 0 ≤ x ∧ x ≤ (now.2.1.length : Int)
  · rw [decide_eq_true e, cond_true]
    obtain ⟨v, rfl⟩ : ∃ v : Nat, x = (v : Int) := ⟨x.toNat, by omega⟩
    obtain ⟨h1, e1, ⟨fl, a, H, R⟩, F1⟩ := zy_one0 (N := N) Y
    have g1 : fAI h1 233 100 (Int32.ofInt 1) = some (Int32.ofInt (a 233 1)) := zr_w H 1 (by decide)
    have hl := zw_trnl now.2.1 v
    by_cases en : now.2.1.length = 0
    · refine Or.inl ⟨e, h1, ?_, ⟨fl, a, H, R⟩, F1⟩
      show fM_factorsIfRotated_20 N 232 (Int32.ofInt (v : Int)) (Int32.ofInt 0) 232 h = some (Int32.ofInt (((zw_fs (zw_trn now.2.1 v)).length : Nat) : Int), h1)
      unfold fM_factorsIfRotated_20
      rw [e1, b2]
      show b1 (fR h1 232 5 0) _ = _
      rw [zr_r0 H, b1_s, g1, b1_s, R.1.2.1, zqo_ne _ _ (by omega) (by decide), decide_eq_true (by omega), List.eq_nil_of_length_eq_zero (hl.trans en)]
      rfl
    · obtain ⟨h2, f2, a2, e2, H2, F2, Q2, r2⟩ := zr_rotated (N := N) (by omega) H (zyR_tx R) o2 (x := v) (by omega)
      obtain ⟨h3, a3, e3, H3, F3, p3, _⟩ := zr_cuts (N := N) (by omega) H2 r2 ⟨by omega, zw_trn256 (zv_256 ok) (by omega)⟩
      have Q : zr_Q fl a f2 a3 := ⟨Q2.1, fun p i h5 h6 => (p3 p i h6).trans (Q2.2 p i h5 h6)⟩
      refine Or.inl ⟨e, h3, ?_, ⟨f2, a3, H3, zyR_Q R Q⟩, zr_Ft F1 (zr_Ft F2 F3)⟩
      show fM_factorsIfRotated_20 N 232 (Int32.ofInt (v : Int)) (Int32.ofInt 0) 232 h = some (Int32.ofInt (((zw_fs (zw_trn now.2.1 v)).length : Nat) : Int), h3)
      unfold fM_factorsIfRotated_20
      rw [e1, b2]
      show b1 (fR h1 232 5 0) _ = _
      rw [zr_r0 H, b1_s, g1, b1_s, R.1.2.1, zqo_ne _ _ (by omega) (by decide), decide_eq_false (by omega), Bool.not_false, cond_true, e2, b2, e3]
      rfl
  · rw [decide_eq_false e, cond_false]
    obtain ⟨h1, e1, Y1, F1⟩ := zy_one1 (N := N) Y
    refine Or.inr ⟨e, h1, ?_, Y1, F1⟩
    show fM_factorsIfRotated_20 N 232 (Int32.ofInt x) (Int32.ofInt 1) 232 h = _
    unfold fM_factorsIfRotated_20
    rw [e1]
    rfl
end ZYS
