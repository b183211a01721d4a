/-! THE REFERENCE'S keepFactor AND removeKept. -/
section ZYJ
variable {N : Nat} {h : zH} {fl fl' : Nat → Int} {a a' : Nat → Nat → Int} {bef now snap : zA} {hist : List zA} {sv t : Int} {inp : List Nat} {rep : zvP} {T : List Nat}
theorem zn_keepFactor (Y : zy h now hist snap sv inp rep t) (o : zo now hist snap) (hN : 4000 ≤ N) (x : Int) (hx : -2147483648 ≤ x ∧ x < 2147483648) : (zw_bF now.2.1 x = -1 ∧ ∃ h', fM_keepFactor N 232 (Int32.ofInt x) h = some (Int32.ofInt 0, h') ∧ zy h' now hist snap sv inp rep 1 ∧ zr_F h h') ∨ ∃ b : Nat, zw_bF now.2.1 x = (b : Int) ∧ b < now.2.1.length ∧ ((¬ (zw_lE now.2.1 b - b ≤ 40 ∧ now.2.2.length < 8) ∧ ∃ h', fM_keepFactor N 232 (Int32.ofInt x) h = some (Int32.ofInt 0, h') ∧ zy h' now hist snap sv inp rep 2 ∧ zr_F h h') ∨ ((zw_lE now.2.1 b - b ≤ 40 ∧ now.2.2.length < 8) ∧ ∃ h', fM_keepFactor N 232 (Int32.ofInt x) h = some (Int32.ofInt ((now.2.2.length + 1 : Nat) : Int), h') ∧ zy h' (now.1, now.2.1, now.2.2 ++ [zw_p now.2.1 b (zw_lE now.2.1 b)]) (zv_push hist now) snap sv inp rep 0 ∧ zr_F h h')) := by
  obtain ⟨ok, okh, h8, oks⟩ := o
  have o2 := ok.2.1
  have o5 := zm_fsl now.2.1
  obtain ⟨h0, e0, ⟨fl, a, H, R, S⟩, Y0, F0⟩ := zy_factors (N := N) (by omega) Y ok
  obtain ⟨fl0, a0, H0, R0⟩ := id Y
  unfold fM_keepFactor
  rw [zr_T H0, cond_true, e0, b2, zw_sub, zr_in N x 0 _ hx (by decide) (by omega), b2]
  by_cases e : 0 ≤ x ∧ x ≤ ((zw_fs now.2.1).length : Int) - 1
  · obtain ⟨k, rfl⟩ : ∃ v : Nat, x = (v : Int) := ⟨x.toNat, by omega⟩
    have hk : k < (zw_fs now.2.1).length := by omega
    obtain ⟨b, b1, b2', b3, b4, b5, b6⟩ := zr_fk S hk
    rw [decide_eq_true e, cond_true]
    refine Or.inr ⟨b, b1, b2', ?_⟩
    by_cases e2 : zw_lE now.2.1 b - b ≤ 40 ∧ now.2.2.length < 8
    · refine Or.inr ⟨e2, ?_⟩
      obtain ⟨h1, e1, Y1, F1⟩ := zy_two00 (N := N) Y0
      obtain ⟨h2, e3, Y2, F2⟩ := zy_begins (N := N) (by omega) Y1 ok
      obtain ⟨h3, e4, Y3, F3⟩ := zy_keepsFactor (N := N) (by omega) Y2 ok hk b1 e2.1 e2.2
      obtain ⟨h4, e5, Y4, F4⟩ := zy_remember (N := N) hN Y3 ok okh h8 (Int32.ofInt ((now.2.2.length + 1 : Nat) : Int))
      refine ⟨h4, ?_, Y4, zr_Ft F0 (zr_Ft F1 (zr_Ft F2 (zr_Ft F3 F4)))⟩
      show fM_keepFactor_22 N 232 (Int32.ofInt (k : Int)) (Int32.ofInt 1) (Int32.ofInt 0) 232 h0 = _
      unfold fM_keepFactor_22
      show b2 (fM_canKeepFactor N 232 (Int32.ofInt (k : Int)) h0) _ = _
      rw [zr_canKeepFactor H R ok S hk b1, b2, decide_eq_true e2, cond_true]
      show fM_keepFactor_39 N 232 (Int32.ofInt (k : Int)) (Int32.ofInt 0) (Int32.ofInt 0) 232 h0 = _
      unfold fM_keepFactor_39
      rw [e1, b2]
      show b2 (fM_begins N 232 h1) _ = _
      rw [e3, b2, e4, b2, e5]
      rfl
    · refine Or.inl ⟨e2, ?_⟩
      obtain ⟨h1, e1, Y1, F1⟩ := zy_two01 (N := N) Y0
      refine ⟨h1, ?_, Y1, zr_Ft F0 F1⟩
      show fM_keepFactor_22 N 232 (Int32.ofInt (k : Int)) (Int32.ofInt 1) (Int32.ofInt 0) 232 h0 = _
      unfold fM_keepFactor_22
      show b2 (fM_canKeepFactor N 232 (Int32.ofInt (k : Int)) h0) _ = _
      rw [zr_canKeepFactor H R ok S hk b1, b2, decide_eq_false e2, cond_false]
      show fM_keepFactor_39 N 232 (Int32.ofInt (k : Int)) (Int32.ofInt 1) (Int32.ofInt 0) 232 h0 = _
      unfold fM_keepFactor_39
      rw [e1]
      rfl
  · rw [decide_eq_false e, cond_false]
    refine Or.inl ⟨zw_bFn e, ?_⟩
    obtain ⟨h1, e1, Y1, F1⟩ := zy_two1 (N := N) Y0 (Int32.ofInt 0)
    refine ⟨h1, ?_, Y1, zr_Ft F0 F1⟩
    show fM_keepFactor_39 N 232 (Int32.ofInt x) (Int32.ofInt 0) (Int32.ofInt 1) 232 h0 = _
    unfold fM_keepFactor_39
    rw [e1]
    rfl
theorem zr_isShelved (H : zr h fl a) (R : zyR fl a now hist snap sv inp rep t) (ok : zv_ok now) (x : Int) (hx : -2147483648 ≤ x ∧ x < 2147483648) : fM_isShelved N 232 (Int32.ofInt x) h = some (cond (decide (0 ≤ x ∧ x < (now.2.2.length : Int))) (Int32.ofInt 1) (Int32.ofInt 0), h) := by
  have o4 := ok.2.2.2.1
  have g2 : fAI h 233 100 (Int32.ofInt 2) = some (Int32.ofInt (a 233 2)) := zr_w H 2 (by decide)
  unfold fM_isShelved
  rw [zr_T H, cond_true, zr_r0 H, b1_s, g2, b1_s, R.1.2.2.2.1, zw_sub, zr_in N x 0 _ hx (by decide) (by omega), b2]
  by_cases e : 0 ≤ x ∧ x < (now.2.2.length : Int)
  · rw [decide_eq_true e, decide_eq_true (by omega : 0 ≤ x ∧ x ≤ (now.2.2.length : Int) - 1)]
    rfl
  · rw [decide_eq_false e, decide_eq_false (by omega : ¬ (0 ≤ x ∧ x ≤ (now.2.2.length : Int) - 1))]
    rfl
/-- one row of the shelf moves up -/
theorem zr_rem36 {fl : Nat → Int} {k2 : Nat → Int32 → zH → Option (Int32 × zH)} {i : Nat} (hi : i < 7) : ∀ (c f j : Nat) (h : zH) (a : Nat → Nat → Int), zr h fl a → j + c = 40 → c < f → ∃ h1 a1, fM_removes_36 N f k2 232 (Int32.ofInt (i : Int)) (Int32.ofInt (j : Int)) h = k2 232 (Int32.ofInt ((i + 1 : Nat) : Int)) h1 ∧ zr h1 fl a1 ∧ zr_F h h1 ∧ (∀ p m, (p ≠ 233 ∨ m < 131 + 40 * i + j ∨ 131 + 40 * i + 40 ≤ m) → a1 p m = a p m) ∧ ∀ m, j ≤ m → m < 40 → a1 233 (131 + 40 * i + m) = a 233 (131 + 40 * (i + 1) + m) := by
  intro c
  induction c with
  | zero =>
    intro f j h a H h1 hf
    obtain ⟨g, rfl⟩ : ∃ g, f = g + 1 := ⟨f - 1, by omega⟩
    refine ⟨h, a, ?_, H, zr_Fr h, fun _ _ _ => rfl, fun m h1 h2 => by omega⟩
    rw [fM_removes_36, zqo_ge _ _ (by omega) (by decide), decide_eq_true (by omega), cond_true, zh_inc]
  | succ c ih =>
    intro f j h a H h1 hf
    obtain ⟨g, rfl⟩ : ∃ g, f = g + 1 := ⟨f - 1, by omega⟩
    obtain ⟨h5, e5, H5, F5⟩ := zr_p H 233 (131 + 40 * i + j) (by decide) (by decide) (by show 131 + 40 * i + j < 451; omega) (a 233 (131 + 40 * (i + 1) + j))
    obtain ⟨h6, a6, e6, H6, F6, p6, r6⟩ := ih g (j + 1) h5 _ H5 (by omega) (by omega)
    refine ⟨h6, a6, ?_, H6, zr_Ft F5 F6, fun p m hp => (p6 p m (by omega)).trans (zr_vn a _ (by omega)), fun m m1 m2 => ?_⟩
    · have c1 : Int32.ofInt 131 + Int32.ofInt 40 * Int32.ofInt (i : Int) = Int32.ofInt ((131 + 40 * i : Nat) : Int) := by
        rw [← Int32.ofInt_mul, ← Int32.ofInt_add]
        rfl
      have g1 : fAI h 233 100 (Int32.ofInt (((131 + 40 * i : Nat) : Int) + 40 + (j : Int))) = some (Int32.ofInt (a 233 (131 + 40 * (i + 1) + j))) := by
        rw [show ((131 + 40 * i : Nat) : Int) + 40 + (j : Int) = ((131 + 40 * (i + 1) + j : Nat) : Int) by omega]
        exact zr_w H _ (by omega)
      rw [fM_removes_36, zqo_ge _ _ (by omega) (by decide), decide_eq_false (by omega), cond_false, zr_r0 H, b1_s, b1_s, c1, zw_add, zw_add, g1, b1_s, zw_add]
      have e5 : fAS h 233 100 (Int32.ofInt (((131 + 40 * i : Nat) : Int) + (j : Int))) (.int (Int32.ofInt (a 233 (131 + 40 * (i + 1) + j)))) = some h5 := e5
      rw [e5, b1_s, zh_inc]
      exact e6
    · by_cases e : m = j
      · rw [e, p6 233 _ (by omega), zr_vs]
      · rw [r6 m (by omega) m2, zr_vn a _ (Or.inr (by omega))]
/-- the freed row -/
theorem zr_rem114 {fl : Nat → Int} {K : Nat} (hK : K < 8) : ∀ (c f j : Nat) (h : zH) (a : Nat → Nat → Int), zr h fl a → a 233 2 = (K : Int) → j + c = 40 → c < f → ∃ h1 a1, fM_removes_114 N f 232 (Int32.ofInt (j : Int)) h = some (Int32.ofInt (K : Int), h1) ∧ zr h1 fl a1 ∧ zr_F h h1 ∧ ∀ p m, (p ≠ 233 ∨ m < 131 + 40 * K) → a1 p m = a p m := by
  intro c
  induction c with
  | zero =>
    intro f j h a H h2 h1 hf
    obtain ⟨g, rfl⟩ : ∃ g, f = g + 1 := ⟨f - 1, by omega⟩
    have g2 : fAI h 233 100 (Int32.ofInt 2) = some (Int32.ofInt (a 233 2)) := zr_w H 2 (by decide)
    refine ⟨h, a, ?_, H, zr_Fr h, fun _ _ _ => rfl⟩
    rw [fM_removes_114, zqo_ge _ _ (by omega) (by decide), decide_eq_true (by omega), cond_true, zr_r0 H, b1_s, g2, b1_s, h2]
  | succ c ih =>
    intro f j h a H h2 h1 hf
    obtain ⟨g, rfl⟩ : ∃ g, f = g + 1 := ⟨f - 1, by omega⟩
    have g2 : fAI h 233 100 (Int32.ofInt 2) = some (Int32.ofInt (a 233 2)) := zr_w H 2 (by decide)
    obtain ⟨h5, e5, H5, F5⟩ := zr_p H 233 (131 + 40 * K + j) (by decide) (by decide) (by show 131 + 40 * K + j < 451; omega) 0
    obtain ⟨h6, a6, e6, H6, F6, p6⟩ := ih g (j + 1) h5 _ H5 ((zr_vn a _ (Or.inr (by omega))).trans h2) (by omega) (by omega)
    refine ⟨h6, a6, ?_, H6, zr_Ft F5 F6, fun p m hp => (p6 p m (by omega)).trans (zr_vn a _ (by omega))⟩
    have c1 : Int32.ofInt 131 + Int32.ofInt 40 * Int32.ofInt (K : Int) = Int32.ofInt ((131 + 40 * K : Nat) : Int) := by
      rw [← Int32.ofInt_mul, ← Int32.ofInt_add]
      rfl
    rw [fM_removes_114, zqo_ge _ _ (by omega) (by decide), decide_eq_false (by omega), cond_false, zr_r0 H, b1_s, b1_s, g2, b1_s, h2, c1, zw_add]
    have e5 : fAS h 233 100 (Int32.ofInt (((131 + 40 * K : Nat) : Int) + (j : Int))) (.int (Int32.ofInt 0)) = some h5 := e5
    rw [e5, b1_s, zh_inc]
    exact e6
theorem zr_rem2 (hN : 1000 ≤ N) {fl : Nat → Int} {K x : Nat} (hK : K < 8) (hx : x ≤ K) {a0 : Nat → Nat → Int} (h2 : a0 233 2 = ((K + 1 : Nat) : Int)) : ∀ (c f i : Nat) (h : zH) (a : Nat → Nat → Int), zr h fl a → i + c = K → x ≤ i → c < f → (∀ p m, (p ≠ 233 ∨ m < 123 + x ∨ (123 + i ≤ m ∧ m < 131 + 40 * x) ∨ 131 + 40 * i ≤ m) → a p m = a0 p m) → (∀ k, x ≤ k → k < i → a 233 (123 + k) = a0 233 (123 + (k + 1)) ∧ ∀ m, m < 40 → a 233 (131 + 40 * k + m) = a0 233 (131 + 40 * (k + 1) + m)) → ∃ h1 a1, fM_removes_2 N f 232 (Int32.ofInt (i : Int)) h = some (Int32.ofInt (K : Int), h1) ∧ zr h1 fl a1 ∧ zr_F h h1 ∧ a1 233 2 = (K : Int) ∧ (∀ p m, (p ≠ 233 ∨ (m ≠ 2 ∧ m < 123 + x) ∨ (131 ≤ m ∧ m < 131 + 40 * x)) → a1 p m = a0 p m) ∧ ∀ k, x ≤ k → k < K → a1 233 (123 + k) = a0 233 (123 + (k + 1)) ∧ ∀ m, m < 40 → a1 233 (131 + 40 * k + m) = a0 233 (131 + 40 * (k + 1) + m) := by
  intro c
  induction c with
  | zero =>
    intro f i h a H h1 hxi hf h3 h4
    obtain ⟨g, rfl⟩ : ∃ g, f = g + 1 := ⟨f - 1, by omega⟩
    have e : i = K := by omega
    subst e
    have g2 : fAI h 233 100 (Int32.ofInt 2) = some (Int32.ofInt (a 233 2)) := zr_w H 2 (by decide)
    have a2 : a 233 2 = ((i + 1 : Nat) : Int) := (h3 233 2 (by omega)).trans h2
    obtain ⟨h5, e5, H5, F5⟩ := zr_p H 233 2 (by decide) (by decide) (by decide) (i : Int)
    have g5 : fAI h5 233 100 (Int32.ofInt 2) = some (Int32.ofInt (zr_v a 233 2 (i : Int) 233 2)) := zr_w H5 2 (by decide)
    obtain ⟨h6, e6, H6, F6⟩ := zr_p H5 233 (123 + i) (by decide) (by decide) (by show 123 + i < 451; omega) 0
    obtain ⟨h7, a7, e7, H7, F7, p7⟩ := zr_rem114 (N := N) hK 40 N 0 h6 _ H6 (by rw [zr_vn _ _ (Or.inr (by omega)), zr_vs]) (by decide) (by omega)
    have key : ∀ p m, (p ≠ 233 ∨ (m ≠ 2 ∧ m ≠ 123 + i ∧ m < 131 + 40 * i)) → a7 p m = a p m := fun p m hp => (p7 p m (by omega)).trans ((zr_vn _ _ (by omega)).trans (zr_vn _ _ (by omega)))
    refine ⟨h7, a7, ?_, H7, zr_Ft F5 (zr_Ft F6 F7), ?_, fun p m hp => (key p m (by omega)).trans (h3 p m (by omega)), fun k k1 k2 => ⟨(key 233 _ (by omega)).trans (h4 k k1 k2).1, fun m hm => (key 233 _ (by omega)).trans ((h4 k k1 k2).2 m hm)⟩⟩
    · have e5 : fAS h 233 100 (Int32.ofInt 2) (.int (Int32.ofInt (i : Int))) = some h5 := e5
      have e6 : fAS h5 233 100 (Int32.ofInt (123 + (i : Int))) (.int (Int32.ofInt 0)) = some h6 := e6
      rw [fM_removes_2, zr_r0 H, b1_s, g2, b1_s, a2, zw_add, zqo_ge _ _ (by omega) (by omega), decide_eq_true (by omega), cond_true, b1_s, g2, b1_s, a2, zw_sub, show ((i + 1 : Nat) : Int) - 1 = (i : Int) by omega, e5, b1_s, zr_r0 H5, b1_s, b1_s, g5, b1_s, zr_vs, zw_add, e6, b1_s]
      exact e7
    · rw [p7 233 2 (Or.inr (by omega)), zr_vn _ _ (Or.inr (by omega)), zr_vs]
  | succ c ih =>
    intro f i h a H h1 hxi hf h3 h4
    obtain ⟨g, rfl⟩ : ∃ g, f = g + 1 := ⟨f - 1, by omega⟩
    have g2 : fAI h 233 100 (Int32.ofInt 2) = some (Int32.ofInt (a 233 2)) := zr_w H 2 (by decide)
    have a2 : a 233 2 = ((K + 1 : Nat) : Int) := (h3 233 2 (by omega)).trans h2
    have g3 : fAI h 233 100 (Int32.ofInt (123 + (i : Int) + 1)) = some (Int32.ofInt (a 233 (123 + (i + 1)))) := by
      rw [show 123 + (i : Int) + 1 = ((123 + (i + 1) : Nat) : Int) by omega]
      exact zr_w H _ (by omega)
    obtain ⟨h5, e5, H5, F5⟩ := zr_p H 233 (123 + i) (by decide) (by decide) (by show 123 + i < 451; omega) (a 233 (123 + (i + 1)))
    obtain ⟨h6, a6, e6, H6, F6, p6, r6⟩ := zr_rem36 (N := N) (k2 := fM_removes_2 N g) (i := i) (by omega) 40 N 0 h5 _ H5 (by decide) (by omega)
    obtain ⟨h7, a7, e7, H7, F7, c7, p7, q7⟩ := ih g (i + 1) h6 a6 H6 (by omega) (by omega) (by omega) (fun p m hp => (p6 p m (by omega)).trans ((zr_vn a _ (by omega)).trans (h3 p m (by omega)))) (fun k k1 k2 => by
      by_cases ek : k = i
      · subst ek
        refine ⟨?_, fun m hm => ?_⟩
        · rw [p6 233 _ (by omega), zr_vs, h3 233 _ (by omega)]
        · rw [r6 m (Nat.zero_le _) hm, zr_vn a _ (Or.inr (by omega)), h3 233 _ (by omega)]
      · refine ⟨(p6 233 _ (by omega)).trans ((zr_vn a _ (by omega)).trans (h4 k k1 (by omega)).1), fun m hm => (p6 233 _ (by omega)).trans ((zr_vn a _ (by omega)).trans ((h4 k k1 (by omega)).2 m hm))⟩)
    refine ⟨h7, a7, ?_, H7, zr_Ft F5 (zr_Ft F6 F7), c7, p7, q7⟩
    have e5 : fAS h 233 100 (Int32.ofInt (123 + (i : Int))) (.int (Int32.ofInt (a 233 (123 + (i + 1))))) = some h5 := e5
    rw [fM_removes_2, zr_r0 H, b1_s, g2, b1_s, a2, zw_add, zqo_ge _ _ (by omega) (by omega), decide_eq_false (by omega), cond_false, b1_s, b1_s, zw_add, zw_add, g3, b1_s, e5, b1_s]
    exact e6.trans e7
end ZYJ
