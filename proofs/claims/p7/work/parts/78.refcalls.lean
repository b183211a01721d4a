/-! THE REFERENCE'S UNDO, SNAPSHOT, INPUT. -/
section ZYG
variable {N : Nat} {h : zH} {fl fl' : Nat → Int} {a a' : Nat → Nat → Int} {bef now snap : zA} {hist : List zA} {sv t : Int} {inp : List Nat} {rep : zvP} {T : List Nat}
theorem zr_undo26 {c0 : Nat} (hc : c0 < 8) {fl : Nat → Int} (h4 : fl 4 = (c0 : Int)) : ∀ (c f i : Nat) (h : zH) (a : Nat → Nat → Int), zr h fl a → i + c = 451 → c < f → (∀ j, j < i → a 233 j = a 235 (451 * c0 + j)) → ∃ h' a', fM_undo_26 N f 232 (Int32.ofInt (i : Int)) h = some (Int32.ofInt (c0 : Int), h') ∧ zr h' fl a' ∧ zr_F h h' ∧ (∀ p j, p ≠ 233 → a' p j = a p j) ∧ ∀ j, j < 451 → a' 233 j = a 235 (451 * c0 + j) := by
  intro c
  induction c with
  | zero =>
    intro f i h a H h1 h2 h3
    obtain ⟨g, rfl⟩ : ∃ g, f = g + 1 := ⟨f - 1, by omega⟩
    refine ⟨h, a, ?_, H, zr_Fr h, fun _ _ _ => rfl, fun j hj => h3 j (by omega)⟩
    rw [fM_undo_26, zqo_ge _ _ (by omega) (by decide), decide_eq_true (by omega), cond_true, zr_i H 4 rfl, b1_s, h4]
  | succ c ih =>
    intro f i h a H h1 h2 h3
    obtain ⟨g, rfl⟩ : ∃ g, f = g + 1 := ⟨f - 1, by omega⟩
    obtain ⟨h5, e5, H5, F5⟩ := zr_p H 233 i (by decide) (by decide) (by show i < 451; omega) (a 235 (451 * c0 + i))
    obtain ⟨h6, a6, e6, H6, F6, p6, r6⟩ := ih g (i + 1) h5 _ H5 (by omega) (by omega) (fun j hj => by
      by_cases e : j = i
      · rw [e, zr_vs, zr_vn a _ (Or.inl (by decide))]
      · rw [zr_vn a _ (Or.inr (by omega)), zr_vn a _ (Or.inl (by decide))]
        exact h3 j (by omega))
    refine ⟨h6, a6, ?_, H6, zr_Ft F5 F6, fun p j hp => (p6 p j hp).trans (zr_vn a _ (Or.inl hp)), fun j hj => (r6 j hj).trans (zr_vn a _ (Or.inl (by decide)))⟩
    have g1 := zr_g H 235 (451 * c0 + i) (by decide) (by decide) (by show 451 * c0 + i < 3608; omega)
    rw [fM_undo_26, zqo_ge _ _ (by omega) (by decide), decide_eq_false (by omega), cond_false, zr_r0 H, b1_s, zr_r2 H, b1_s, zr_i H 4 rfl, b1_s, h4, show Int32.ofInt 451 * Int32.ofInt (c0 : Int) + Int32.ofInt (i : Int) = Int32.ofInt ((451 * c0 + i : Nat) : Int) from zh_mul 451 i c0]
    show b1 (fAI h 235 (zr_t 235) (Int32.ofInt ((451 * c0 + i : Nat) : Int))) _ = _
    rw [g1, b1_s]
    show b1 (fAS h 233 (zr_t 233) (Int32.ofInt (i : Int)) (.int (Int32.ofInt (a 235 (451 * c0 + i))))) _ = _
    rw [e5, b1_s, zh_inc]
    exact e6
theorem zn_undo (Y : zy h now hist snap sv inp rep t) (o : zo now hist snap) (hN : 4000 ≤ N) : (hist = [] ∧ ∃ h', fM_undo N 232 h = some (Int32.ofInt (-1), h') ∧ zy h' now hist snap sv inp rep 0 ∧ zr_F h h') ∨ ∀ A r, hist = r ++ [A] → ∃ h', fM_undo N 232 h = some (Int32.ofInt (r.length : Int), h') ∧ zy h' A r snap sv inp rep 0 ∧ zr_F h h' := by
  obtain ⟨ok, okh, h8, oks⟩ := o
  obtain ⟨h1, e1, Y1, F1⟩ := zy_throw Y 0
  obtain ⟨fl0, a0, H0, R0⟩ := Y
  obtain ⟨fl, a, H, R⟩ := Y1
  unfold fM_undo
  rw [zr_T H0, cond_true, e1, b1_s, zr_i H 4 rfl, b1_s, R.2.1, zqo_ne _ _ (by omega) (by decide)]
  by_cases e : hist = []
  · refine Or.inl ⟨e, h1, ?_, ⟨fl, a, H, R⟩, F1⟩
    rw [e]
    rfl
  · refine Or.inr (fun A r er => ?_)
    have hl : hist.length = r.length + 1 := by
      rw [er, List.length_append]
      rfl
    obtain ⟨h2, e2, H2, F2⟩ := zr_s H 4 rfl (r.length : Int)
    obtain ⟨h3, a3, e3, H3, F3, p3, q3⟩ := zr_undo26 (N := N) (c0 := r.length) (by omega) (fl := zr_u fl 4 (r.length : Int)) rfl 451 N 0 h2 a H2 (by omega) (by omega) (fun j hj => absurd hj (Nat.not_lt_zero j))
    have hA : hist[r.length]? = some A := by
      rw [er, List.getElem?_append_right (Nat.le_refl _), Nat.sub_self]
      rfl
    refine ⟨h3, ?_, ⟨_, a3, H3, ?_⟩, zr_Ft F1 (zr_Ft F2 F3)⟩
    · rw [decide_eq_false (by omega), Bool.not_false, cond_true, b1_s, zw_sub, show (hist.length : Int) - 1 = (r.length : Int) by omega, e2, b1_s]
      exact e3
    · have n1 : zy_is (a3 233) A := zy_isC (okh _ _ hA) (R.2.2.1 _ _ hA) q3
      have R3 : zyR fl a3 A hist snap sv inp rep 0 := zyR_a R (fun _ _ => rfl) (fun p i hp => p3 p i (by omega)) n1
      refine zyR_h R3 (fun k hk => if_neg hk) (fun _ _ _ => rfl) rfl (fun i B hB => R3.2.2.1 i B ?_)
      have hi : i < r.length := (List.getElem?_eq_some_iff.mp hB).1
      rw [er, List.getElem?_append_left hi]
      exact hB
theorem zr_save12 {n : Int} (hn : True) {fl : Nat → Int} : ∀ (c f i : Nat) (h : zH) (a : Nat → Nat → Int), zr h fl a → i + c = 451 → c < f → a 233 1 = n → (∀ j, j < i → a 236 j = a 233 j) → ∃ h' a', fM_saveSnapshot_12 N f 232 (Int32.ofInt (i : Int)) h = some (Int32.ofInt n, h') ∧ zr h' fl a' ∧ zr_F h h' ∧ (∀ p j, p ≠ 236 → a' p j = a p j) ∧ ∀ j, j < 451 → a' 236 j = a 233 j := by
  intro c
  induction c with
  | zero =>
    intro f i h a H h1 h2 hn h3
    obtain ⟨g, rfl⟩ : ∃ g, f = g + 1 := ⟨f - 1, by omega⟩
    have g1 : fAI h 233 100 (Int32.ofInt 1) = some (Int32.ofInt (a 233 1)) := zr_w H 1 (by decide)
    refine ⟨h, a, ?_, H, zr_Fr h, fun _ _ _ => rfl, fun j hj => h3 j (by omega)⟩
    rw [fM_saveSnapshot_12, zqo_ge _ _ (by omega) (by decide), decide_eq_true (by omega), cond_true, zr_r0 H, b1_s, g1, b1_s, hn]
  | succ c ih =>
    intro f i h a H h1 h2 hn h3
    obtain ⟨g, rfl⟩ : ∃ g, f = g + 1 := ⟨f - 1, by omega⟩
    obtain ⟨h5, e5, H5, F5⟩ := zr_p H 236 i (by decide) (by decide) (by show i < 451; omega) (a 233 i)
    obtain ⟨h6, a6, e6, H6, F6, p6, r6⟩ := ih g (i + 1) h5 _ H5 (by omega) (by omega) ((zr_vn a _ (Or.inl (by decide))).trans hn) (fun j hj => by
      by_cases e : j = i
      · rw [e, zr_vs, zr_vn a _ (Or.inl (by decide))]
      · rw [zr_vn a _ (Or.inr (by omega)), zr_vn a _ (Or.inl (by decide))]
        exact h3 j (by omega))
    refine ⟨h6, a6, ?_, H6, zr_Ft F5 F6, fun p j hp => (p6 p j hp).trans (zr_vn a _ (Or.inl hp)), fun j hj => (r6 j hj).trans (zr_vn a _ (Or.inl (by decide)))⟩
    have g1 := zr_g H 233 i (by decide) (by decide) (by show i < 451; omega)
    rw [fM_saveSnapshot_12, zqo_ge _ _ (by omega) (by decide), decide_eq_false (by omega), cond_false, zr_r3 H, b1_s, zr_r0 H, b1_s]
    show b1 (fAI h 233 (zr_t 233) (Int32.ofInt (i : Int))) _ = _
    rw [g1, b1_s]
    show b1 (fAS h 236 (zr_t 236) (Int32.ofInt (i : Int)) (.int (Int32.ofInt (a 233 i)))) _ = _
    rw [e5, b1_s, zh_inc]
    exact e6
theorem zn_saveSnapshot (Y : zy h now hist snap sv inp rep t) (o : zo now hist snap) (hN : 4000 ≤ N) : ∃ h', fM_saveSnapshot N 232 h = some (Int32.ofInt (now.2.1.length : Int), h') ∧ zy h' now hist now 1 inp rep 0 ∧ zr_F h h' := by
  obtain ⟨ok, okh, h8, oks⟩ := o
  obtain ⟨h1, e1, Y1, F1⟩ := zy_throw Y 0
  obtain ⟨fl0, a0, H0, R0⟩ := Y
  obtain ⟨fl, a, H, R⟩ := Y1
  obtain ⟨h2, e2, H2, F2⟩ := zr_s H 5 rfl 1
  obtain ⟨h3, a3, e3, H3, F3, p3, q3⟩ := zr_save12 (N := N) trivial (fl := zr_u fl 5 1) 451 N 0 h2 a H2 (by omega) (by omega) R.1.2.1 (fun j hj => absurd hj (Nat.not_lt_zero j))
  refine ⟨h3, ?_, ⟨_, a3, H3, ?_⟩, zr_Ft F1 (zr_Ft F2 F3)⟩
  · unfold fM_saveSnapshot
    rw [zr_T H0, cond_true, e1, b1_s, e2, b1_s]
    exact e3
  · have g3 : a3 233 = a 233 := funext fun i => p3 233 i (by decide)
    have g5 : a3 235 = a 235 := funext fun i => p3 235 i (by decide)
    have g7 : a3 237 = a 237 := funext fun i => p3 237 i (by decide)
    have g8 : a3 241 = a 241 := funext fun i => p3 241 i (by decide)
    obtain ⟨r1, r2, r3, r4, r5, r6, r7, r8⟩ := R
    refine ⟨by rw [g3]; exact r1, r2, by rw [g5]; exact r3, rfl, fun _ => zy_isC ok r1 q3, ⟨r6.1, by rw [g7]; exact r6.2⟩, ⟨r7.1, by rw [g8]; exact r7.2⟩, r8⟩
theorem zr_restore23 {n : Int} {fl : Nat → Int} : ∀ (c f i : Nat) (h : zH) (a : Nat → Nat → Int), zr h fl a → i + c = 451 → c < f → a 236 1 = n → (∀ j, j < i → a 233 j = a 236 j) → ∃ h' a', fM_restoreSnapshot_23 N f 232 (Int32.ofInt (i : Int)) h = some (Int32.ofInt n, h') ∧ zr h' (zr_u fl 4 0) a' ∧ zr_F h h' ∧ (∀ p j, p ≠ 233 → a' p j = a p j) ∧ ∀ j, j < 451 → a' 233 j = a 236 j := by
  intro c
  induction c with
  | zero =>
    intro f i h a H h1 h2 hn h3
    obtain ⟨g, rfl⟩ : ∃ g, f = g + 1 := ⟨f - 1, by omega⟩
    obtain ⟨h5, e5, H5, F5⟩ := zr_s H 4 rfl 0
    have g1 : fAI h5 233 100 (Int32.ofInt 1) = some (Int32.ofInt (a 233 1)) := zr_w H5 1 (by decide)
    refine ⟨h5, a, ?_, H5, F5, fun _ _ _ => rfl, fun j hj => h3 j (by omega)⟩
    rw [fM_restoreSnapshot_23, zqo_ge _ _ (by omega) (by decide), decide_eq_true (by omega), cond_true, e5, b1_s, zr_r0 H5, b1_s, g1, b1_s, h3 1 (by omega), hn]
  | succ c ih =>
    intro f i h a H h1 h2 hn h3
    obtain ⟨g, rfl⟩ : ∃ g, f = g + 1 := ⟨f - 1, by omega⟩
    obtain ⟨h5, e5, H5, F5⟩ := zr_p H 233 i (by decide) (by decide) (by show i < 451; omega) (a 236 i)
    obtain ⟨h6, a6, e6, H6, F6, p6, r6⟩ := ih g (i + 1) h5 _ H5 (by omega) (by omega) ((zr_vn a _ (Or.inl (by decide))).trans hn) (fun j hj => by
      by_cases e : j = i
      · rw [e, zr_vs, zr_vn a _ (Or.inl (by decide))]
      · rw [zr_vn a _ (Or.inr (by omega)), zr_vn a _ (Or.inl (by decide))]
        exact h3 j (by omega))
    refine ⟨h6, a6, ?_, H6, zr_Ft F5 F6, fun p j hp => (p6 p j hp).trans (zr_vn a _ (Or.inl hp)), fun j hj => (r6 j hj).trans (zr_vn a _ (Or.inl (by decide)))⟩
    have g1 := zr_g H 236 i (by decide) (by decide) (by show i < 451; omega)
    rw [fM_restoreSnapshot_23, zqo_ge _ _ (by omega) (by decide), decide_eq_false (by omega), cond_false, zr_r0 H, b1_s, zr_r3 H, b1_s]
    show b1 (fAI h 236 (zr_t 236) (Int32.ofInt (i : Int))) _ = _
    rw [g1, b1_s]
    show b1 (fAS h 233 (zr_t 233) (Int32.ofInt (i : Int)) (.int (Int32.ofInt (a 236 i)))) _ = _
    rw [e5, b1_s, zh_inc]
    exact e6
theorem zn_restoreSnapshot (Y : zy h now hist snap sv inp rep t) (o : zo now hist snap) (hN : 4000 ≤ N) (hsv : sv = 0 ∨ sv = 1) : (sv = 0 ∧ ∃ h', fM_restoreSnapshot N 232 h = some (Int32.ofInt 0, h') ∧ zy h' now hist snap sv inp rep 1 ∧ zr_F h h') ∨ (sv = 1 ∧ ∃ h', fM_restoreSnapshot N 232 h = some (Int32.ofInt (snap.2.1.length : Int), h') ∧ zy h' snap [] snap sv inp rep 0 ∧ zr_F h h') := by
  obtain ⟨ok, okh, h8, oks⟩ := o
  obtain ⟨fl0, a0, H0, R0⟩ := id Y
  unfold fM_restoreSnapshot
  rw [zr_T H0, cond_true, zr_i H0 5 rfl, b1_s, R0.2.2.2.1, zqo_ne _ _ (by omega) (by decide)]
  rcases hsv with e | e
  · refine Or.inl ⟨e, ?_⟩
    obtain ⟨h1, e1, Y1, F1⟩ := zy_one1 (N := N) Y
    refine ⟨h1, ?_, Y1, F1⟩
    rw [decide_eq_true e]
    show fM_restoreSnapshot_13 N 232 (Int32.ofInt 1) 232 h = _
    unfold fM_restoreSnapshot_13
    rw [e1]
    rfl
  · refine Or.inr ⟨e, ?_⟩
    obtain ⟨h1, e1, ⟨fl, a, H, R⟩, F1⟩ := zy_one0 (N := N) Y
    have S := R.2.2.2.2.1 e
    obtain ⟨h3, a3, e3, H3, F3, p3, q3⟩ := zr_restore23 (N := N) (n := (snap.2.1.length : Int)) 451 N 0 h1 a H (by omega) (by omega) S.2.1 (fun j hj => absurd hj (Nat.not_lt_zero j))
    refine ⟨h3, ?_, ⟨_, a3, H3, ?_⟩, zr_Ft F1 F3⟩
    · rw [decide_eq_false (by omega)]
      show fM_restoreSnapshot_13 N 232 (Int32.ofInt 0) 232 h = _
      unfold fM_restoreSnapshot_13
      rw [e1]
      exact e3
    · have n1 : zy_is (a3 233) snap := zy_isC oks S q3
      have R3 : zyR fl a3 snap hist snap sv inp rep 0 := zyR_a R (fun _ _ => rfl) (fun p i hp => p3 p i (by omega)) n1
      exact zyR_h R3 (fun k hk => if_neg hk) (fun _ _ _ => rfl) rfl (fun i B hB => by simp at hB)
theorem zn_truncateInput (Y : zy h now hist snap sv inp rep t) (hl : inp.length ≤ 600) (x : Int) (hx : -2147483648 ≤ x ∧ x < 2147483648) : (¬ (0 ≤ x ∧ x ≤ (inp.length : Int)) ∧ ∃ h', fM_truncateInput N 232 (Int32.ofInt x) h = some (Int32.ofInt 0, h') ∧ zy h' now hist snap sv inp rep 1 ∧ zr_F h h') ∨ ((0 ≤ x ∧ x ≤ (inp.length : Int)) ∧ ∃ h', fM_truncateInput N 232 (Int32.ofInt x) h = some (Int32.ofInt x, h') ∧ zy h' now hist snap sv (inp.take x.toNat) rep 0 ∧ zr_F h h') := by
  obtain ⟨fl0, a0, H0, R0⟩ := id Y
  unfold fM_truncateInput
  rw [zr_T H0, cond_true, zr_i H0 10 rfl, b1_s, R0.2.2.2.2.2.1.1, zr_in01 N x (by omega) hx, b2]
  by_cases e : 0 ≤ x ∧ x ≤ (inp.length : Int)
  · rw [decide_eq_true e, cond_true]
    refine Or.inr ⟨e, ?_⟩
    obtain ⟨h1, e1, ⟨fl, a, H, R⟩, F1⟩ := zy_one0 (N := N) Y
    obtain ⟨h2, e2, H2, F2⟩ := zr_s H 10 rfl x
    refine ⟨h2, ?_, ⟨_, a, H2, ?_⟩, zr_Ft F1 F2⟩
    · show fM_truncateInput_18 N 232 (Int32.ofInt x) (Int32.ofInt 0) 232 h = _
      unfold fM_truncateInput_18
      rw [e1, b2]
      show b1 (fS h1 232 5 10 (.int (Int32.ofInt x))) _ = _
      rw [e2]
      rfl
    · have hk : (inp.take x.toNat).length = x.toNat := by
        rw [List.length_take]
        omega
      obtain ⟨r1, r2, r3, r4, r5, r6, r7, r8⟩ := R
      refine ⟨r1, r2, r3, r4, r5, ⟨?_, fun i hi => ?_⟩, r7, r8⟩
      · rw [hk]
        show x = _
        omega
      · rw [hk] at hi
        rw [zr_tl _ hi]
        exact r6.2 i (by omega)
  · rw [decide_eq_false e, cond_false]
    refine Or.inl ⟨e, ?_⟩
    obtain ⟨h1, e1, Y1, F1⟩ := zy_one1 (N := N) Y
    refine ⟨h1, ?_, Y1, F1⟩
    show fM_truncateInput_18 N 232 (Int32.ofInt x) (Int32.ofInt 1) 232 h = _
    unfold fM_truncateInput_18
    rw [e1]
    rfl
/-- one more byte -/
theorem zy_byte (Y : zy h now hist snap sv inp rep t) (hl : inp.length < 600) (v : Nat) : fI h 232 5 10 = some (Int32.ofInt (inp.length : Int)) ∧ ∃ h1 h2, fAS h 237 100 (Int32.ofInt (inp.length : Int)) (.int (Int32.ofInt (v : Int))) = some h1 ∧ fI h1 232 5 10 = some (Int32.ofInt (inp.length : Int)) ∧ fS h1 232 5 10 (.int (Int32.ofInt ((inp.length : Int) + 1))) = some h2 ∧ zy h2 now hist snap sv (inp ++ [v]) rep t ∧ zr_F h h2 := by
  obtain ⟨fl, a, H, R⟩ := Y
  obtain ⟨h1, e1, H1, F1⟩ := zr_p H 237 inp.length (by decide) (by decide) (by show inp.length < 600; omega) (v : Int)
  obtain ⟨h2, e2, H2, F2⟩ := zr_s H1 10 rfl ((inp.length : Int) + 1)
  obtain ⟨r1, r2, r3, r4, r5, r6, r7, r8⟩ := R
  refine ⟨by rw [zr_i H 10 rfl, r6.1], h1, h2, e1, by rw [zr_i H1 10 rfl, r6.1], e2, ⟨_, _, H2, ?_⟩, zr_Ft F1 F2⟩
  have g3 : zr_v a 237 inp.length (v : Int) 233 = a 233 := funext fun i => zr_vn a _ (Or.inl (by decide))
  have g5 : zr_v a 237 inp.length (v : Int) 235 = a 235 := funext fun i => zr_vn a _ (Or.inl (by decide))
  have g6 : zr_v a 237 inp.length (v : Int) 236 = a 236 := funext fun i => zr_vn a _ (Or.inl (by decide))
  have g8 : zr_v a 237 inp.length (v : Int) 241 = a 241 := funext fun i => zr_vn a _ (Or.inl (by decide))
  refine ⟨by rw [g3]; exact r1, r2, by rw [g5]; exact r3, r4, by rw [g6]; exact r5, ⟨?_, fun i hi => ?_⟩, ⟨r7.1, by rw [g8]; exact r7.2⟩, r8⟩
  · rw [List.length_append]
    rfl
  · rw [List.length_append] at hi
    have hi : i < inp.length + 1 := hi
    by_cases e : i = inp.length
    · subst e
      rw [zr_vs, List.getD_eq_getElem?_getD, List.getElem?_append_right (Nat.le_refl _), Nat.sub_self]
      rfl
    · rw [zr_vn a _ (Or.inr e), r6.2 i (by omega), List.getD_eq_getElem?_getD, List.getD_eq_getElem?_getD, List.getElem?_append_left (by omega)]
theorem zy_type1 (Y : zy h now hist snap sv inp rep t) (hl : inp.length < 600) (x : Int32) (s : Int) (hs : 0 ≤ s ∧ s < 32) (g : Nat) : ∃ h', fM_type_3 N (g + 1) 232 x (Int32.ofInt s) h = fM_type_3 N g 232 x (Int32.ofInt s + Int32.ofInt (-8)) h' ∧ zy h' now hist snap sv (inp ++ [zw_lo (x >>> (Int32.ofInt s &&& 31))]) rep t ∧ zr_F h h' := by
  obtain ⟨i1, h1, h2, e1, i2, e2, Y2, F2⟩ := zy_byte Y hl (zw_lo (x >>> (Int32.ofInt s &&& 31)))
  refine ⟨h2, ?_, Y2, F2⟩
  obtain ⟨fl, a, H, R⟩ := Y
  rw [fM_type_3, zqo_lt _ _ (by omega) (by decide), decide_eq_false (by omega), cond_false, zr_r6 H, b1_s, i1, b1_s, zw_loand, e1, b1_s, i2, b1_s, zw_add, e2, b1_s]
theorem zy_type (Y : zy h now hist snap sv inp rep t) (hN : 4000 ≤ N) (hl : inp.length + 4 ≤ 600) (x : Int32) : ∃ h', fM_type N 232 x h = some ((), h') ∧ zy h' now hist snap sv (inp ++ zv_four x) rep t ∧ zr_F h h' := by
  obtain ⟨g, rfl⟩ : ∃ g, N = g + 5 := ⟨N - 5, by omega⟩
  have l1 : ∀ (l : List Nat) (v : Nat), (l ++ [v]).length = l.length + 1 := fun l v => List.length_append
  obtain ⟨h1, e1, Y1, F1⟩ := zy_type1 (N := g + 5) Y (by omega) x 24 (by decide) (g + 4)
  obtain ⟨h2, e2, Y2, F2⟩ := zy_type1 (N := g + 5) Y1 (by rw [l1]; omega) x 16 (by decide) (g + 3)
  obtain ⟨h3, e3, Y3, F3⟩ := zy_type1 (N := g + 5) Y2 (by rw [l1, l1]; omega) x 8 (by decide) (g + 2)
  obtain ⟨h4, e4, Y4, F4⟩ := zy_type1 (N := g + 5) Y3 (by rw [l1, l1, l1]; omega) x 0 (by decide) (g + 1)
  refine ⟨h4, ?_, ?_, zr_Ft F1 (zr_Ft F2 (zr_Ft F3 F4))⟩
  · obtain ⟨fl, a, H, R⟩ := Y
    unfold fM_type
    rw [zr_T H, cond_true]
    exact e1.trans (e2.trans (e3.trans e4))
  · rw [List.append_assoc, List.append_assoc, List.append_assoc] at Y4
    exact Y4
theorem zn_append (Y : zy h now hist snap sv inp rep t) (hN : 4000 ≤ N) (hl : inp.length ≤ 600) (a b c d e : Int32) : (580 < inp.length ∧ ∃ h', fM_append N 232 a b c d e h = some (Int32.ofInt (-1), h') ∧ zy h' now hist snap sv inp rep 0 ∧ zr_F h h') ∨ (inp.length ≤ 580 ∧ ∃ h', fM_append N 232 a b c d e h = some (Int32.ofInt ((inp.length + 20 : Nat) : Int), h') ∧ zy h' now hist snap sv (inp ++ zv_bytes a b c d e) rep 0 ∧ zr_F h h') := by
  obtain ⟨h0, e0, Y0, F0⟩ := zy_throw Y 0
  obtain ⟨fl0, a0, H0, R0⟩ := id Y
  obtain ⟨fl1, a1, H1, R1⟩ := id Y0
  unfold fM_append
  rw [zr_T H0, cond_true, e0, b1_s, zr_i H1 10 rfl, b1_s, R1.2.2.2.2.2.1.1, zw_add, zqo_le _ _ (by omega) (by decide)]
  by_cases e1 : inp.length ≤ 580
  · refine Or.inr ⟨e1, ?_⟩
    have l4 : ∀ (l : List Nat) (x : Int32), (l ++ zv_four x).length = l.length + 4 := fun l x => by rw [List.length_append]; rfl
    obtain ⟨h1, q1, W1, F1⟩ := zy_type (N := N) Y0 hN (by omega) a
    obtain ⟨h2, q2, W2, F2⟩ := zy_type (N := N) W1 hN (by rw [l4]; omega) b
    obtain ⟨h3, q3, W3, F3⟩ := zy_type (N := N) W2 hN (by rw [l4, l4]; omega) c
    obtain ⟨h4, q4, W4, F4⟩ := zy_type (N := N) W3 hN (by rw [l4, l4, l4]; omega) d
    obtain ⟨h5, q5, W5, F5⟩ := zy_type (N := N) W4 hN (by rw [l4, l4, l4, l4]; omega) e
    obtain ⟨fl5, a5, H5, R5⟩ := id W5
    refine ⟨h5, ?_, ?_, zr_Ft F0 (zr_Ft F1 (zr_Ft F2 (zr_Ft F3 (zr_Ft F4 F5))))⟩
    · rw [decide_eq_true (by omega), cond_true, q1, b2, q2, b2, q3, b2, q4, b2, q5, b2, zr_i H5 10 rfl, b1_s, R5.2.2.2.2.2.1.1, l4, l4, l4, l4, l4]
    · rw [List.append_assoc, List.append_assoc, List.append_assoc, List.append_assoc] at W5
      exact W5
  · refine Or.inl ⟨by omega, h0, ?_, Y0, F0⟩
    rw [decide_eq_false (by omega), cond_false]
end ZYG
