/-! THE REFERENCE: factors; the row into the text; before, past. -/
/-- the starts hold the factors' begins and the word's end -/
def zr_fs (a : Nat → Nat → Int) (T : List Nat) : Prop := (∀ j, j < (zw_fs T).length → a 240 j = (((zw_fs T).getD j (0, 0)).1 : Int)) ∧ a 240 (zw_fs T).length = (T.length : Int)
section ZRF
variable {N : Nat} {h : zH} {fl : Nat → Int} {a : Nat → Nat → Int} {T : List Nat}
theorem zr_cuts (hN : 1000 ≤ N) (H : zr h fl a) (r : zr_rw fl a T) (hT : zr_B T) : ∃ h' a', fM_cuts N 232 h = some (Int32.ofInt (((zw_fs T).length : Nat) : Int), h') ∧ zr h' fl a' ∧ zr_F h h' ∧ (∀ p i, p ≠ 240 → a' p i = a p i) ∧ zr_fs a' T := by
  have b1' := hT.1
  unfold fM_cuts zr_fs
  rw [zr_T H, cond_true, zm_fs]
  obtain ⟨g, hg⟩ : ∃ g, N = g + 1 := ⟨N - 1, by omega⟩
  rw [show fM_cuts_4 N N = fM_cuts_4 N (g + 1) by rw [← hg], fM_cuts_4, zr_i H 14 rfl, b1_s, r.1, show (Int32.ofInt 0) = Int32.ofInt ((0 : Nat) : Int) from rfl, zqo_ge _ _ (by omega) (by omega)]
  by_cases e0 : T.length = 0
  · obtain ⟨h7, e7, H7, F7⟩ := zr_p H 240 0 (by decide) (by decide) (by decide) (T.length : Int)
    rw [decide_eq_true (by omega), cond_true, zr_r9 H, b1_s, b1_s]
    have en : zm_it T T.length 0 = [] := by rw [e0]; rfl
    rw [en]
    refine ⟨h7, _, ?_, H7, F7, fun p i hp => zr_vn a _ (Or.inl hp), fun j hj => absurd hj (Nat.not_lt_zero j), zr_vs a 240 0 _⟩
    show b1 (fAS h 240 (zr_t 240) (Int32.ofInt ((0 : Nat) : Int)) (.int (Int32.ofInt (T.length : Int)))) _ = _
    rw [e7, b1_s]
    rfl
  · rw [decide_eq_false (by omega), cond_false, show z_cmp .eq (Int32.ofInt ((0 : Nat) : Int)) (Int32.ofInt ((0 : Nat) : Int)) = true from rfl, cond_true]
    unfold fM_cuts_32 fM_cuts_42
    obtain ⟨h7, e7, H7, F7⟩ := zr_p H 240 0 (by decide) (by decide) (by decide) ((0 : Nat) : Int)
    have le2 := zw_lEb (show 0 < T.length by omega)
    obtain ⟨h8, a8, e8, H8, F8, q8, r8, s8, t8⟩ := zr_cuts4 (N := N) hN hT (T.length - 1) g 1 0 h7 _ H7 ⟨r.1, fun i hi => r.2 i hi⟩ (by omega) (by omega) (by omega) (by omega) (by omega) (zr_vs a 240 0 _)
    have ez : zm_it T T.length 0 = (0, zw_lE T 0) :: zm_it T T.length (zw_lE T 0) := by
      rw [zm_itf T.length 0 (by omega) (T.length + 1) (by omega), zm_it, if_neg (by omega)]
    rw [ez]
    refine ⟨h8, a8, ?_, H8, zr_Ft F7 F8, fun p i hp => (q8 p i hp).trans (zr_vn a _ (Or.inl hp)), ?_, ?_⟩
    · rw [zr_r9 H, b1_s]
      show b1 (fAS h 240 (zr_t 240) (Int32.ofInt ((0 : Nat) : Int)) (.int (Int32.ofInt ((0 : Nat) : Int)))) _ = _
      rw [e7, b1_s, zh_inc]
      rw [show T.length - (T.length - 1) = 0 + 1 by omega] at e8
      rw [show (0 : Nat) + 1 = 1 from rfl] at e8 ⊢
      rw [e8, List.length_cons]
      congr 4
      omega
    · intro j hj
      cases j with
      | zero =>
        rw [r8 0 (by omega), zr_vs]
        rfl
      | succ j =>
        rw [List.length_cons] at hj
        have := s8 j (by omega)
        rw [show j + 1 = 1 + j by omega, this, show 1 + j = j + 1 by omega]
        rfl
    · rw [List.length_cons, show (zm_it T T.length (zw_lE T 0)).length + 1 = 1 + (zm_it T T.length (zw_lE T 0)).length by omega]
      exact t8
theorem zr_factors (hN : 1000 ≤ N) (H : zr h fl a) (t : zr_tx a T) (hT : zr_B T) (h120 : T.length ≤ 120) : ∃ h' fl' a', fM_factors N 232 h = some (Int32.ofInt (((zw_fs T).length : Nat) : Int), h') ∧ zr h' fl' a' ∧ zr_F h h' ∧ zr_Q fl a fl' a' ∧ zr_rw fl' a' T ∧ zr_fs a' T := by
  obtain ⟨h1, fl1, a1, e1, H1, F1, Q1, r1⟩ := zr_loads hN H t h120
  obtain ⟨h2, a2, e2, H2, F2, p2, s2⟩ := zr_cuts hN H1 r1 hT
  refine ⟨h2, fl1, a2, ?_, H2, zr_Ft F1 F2, ⟨Q1.1, fun p i h3 h4 => (p2 p i h4).trans (Q1.2 p i h3 h4)⟩, ⟨r1.1, fun i hi => (p2 239 i (by decide)).trans (r1.2 i hi)⟩, s2⟩
  unfold fM_factors
  rw [zr_T H, cond_true, e1, b2, e2, b2]
/-- the row becomes the text -/
theorem zr_takes12 (hL : T.length ≤ 120) {fl : Nat → Int} (h14 : fl 14 = (T.length : Int)) : ∀ (c f i : Nat) (h : zH) (a : Nat → Nat → Int), zr h fl a → (∀ j, j < T.length → a 239 j = (T.getD j 0 : Int) - 97) → i + c = 120 → c < f → (∀ j, j < i → j < T.length → a 233 (3 + j) = (T.getD j 0 : Int) - 97) → ∃ h' a', fM_takes_12 N f 232 (Int32.ofInt (i : Int)) h = some (Int32.ofInt (T.length : Int), h') ∧ zr h' fl a' ∧ zr_F h h' ∧ (∀ p j, (p ≠ 233 ∨ j < 3 ∨ 123 ≤ j) → a' p j = a p j) ∧ ∀ j, j < T.length → a' 233 (3 + j) = (T.getD j 0 : Int) - 97 := by
  intro c
  induction c with
  | zero =>
    intro f i h a H r h1 h2 h3
    obtain ⟨g, rfl⟩ : ∃ g, f = g + 1 := ⟨f - 1, by omega⟩
    refine ⟨h, a, ?_, H, zr_Fr h, fun _ _ _ => rfl, fun j hj => h3 j (by omega) hj⟩
    rw [fM_takes_12, zqo_ge _ _ (by omega) (by decide), decide_eq_true (by omega), cond_true, zr_i H 14 rfl, b1_s, h14]
  | succ c ih =>
    intro f i h a H r h1 h2 h3
    obtain ⟨g, rfl⟩ : ∃ g, f = g + 1 := ⟨f - 1, by omega⟩
    have step : ∀ x : Int, (i < T.length → x = (T.getD i 0 : Int) - 97) → ∃ h' a', fM_takes_43 N (fM_takes_12 N g) 232 (Int32.ofInt (i : Int)) (Int32.ofInt x) (Int32.ofInt ((3 + i : Nat) : Int)) 233 h = some (Int32.ofInt (T.length : Int), h') ∧ zr h' fl a' ∧ zr_F h h' ∧ (∀ p j, (p ≠ 233 ∨ j < 3 ∨ 123 ≤ j) → a' p j = a p j) ∧ ∀ j, j < T.length → a' 233 (3 + j) = (T.getD j 0 : Int) - 97 := by
      intro x hx
      obtain ⟨h4, e4, H4, F4⟩ := zr_p H 233 (3 + i) (by decide) (by decide) (by show 3 + i < 451; omega) x
      obtain ⟨h5, a5, e5, H5, F5, p5, r5⟩ := ih g (i + 1) h4 _ H4 (fun j hj => r j hj) (by omega) (by omega) (fun j j1 j2 => by
        by_cases e : j = i
        · subst e
          rw [zr_vs]
          exact hx j2
        · rw [zr_vn a _ (Or.inr (by omega))]
          exact h3 j (by omega) j2)
      refine ⟨h5, a5, ?_, H5, zr_Ft F4 F5, fun p j hp => (p5 p j hp).trans (zr_vn a _ (by omega)), r5⟩
      unfold fM_takes_43
      show b1 (fAS h 233 (zr_t 233) (Int32.ofInt ((3 + i : Nat) : Int)) (.int (Int32.ofInt x))) _ = _
      rw [e4, b1_s, zh_inc]
      exact e5
    rw [fM_takes_12, zqo_ge _ _ (by omega) (by decide), decide_eq_false (by omega), cond_false, zr_r0 H, b1_s, zr_i H 14 rfl, b1_s, h14, zqo_ge _ _ (by omega) (by omega), zw_add, show (3 : Int) + (i : Int) = ((3 + i : Nat) : Int) by omega]
    by_cases e1 : T.length ≤ i
    · rw [decide_eq_true (by omega), cond_true]
      exact step 0 (fun x => by omega)
    · rw [decide_eq_false (by omega), cond_false, zr_r8 H, b1_s, zr_row H i (by omega), b1_s]
      exact step (a 239 i) (fun x => r i x)
theorem zr_takes (hN : 1000 ≤ N) (H : zr h fl a) (r : zr_rw fl a T) (hL : T.length ≤ 120) : ∃ h' a', fM_takes N 232 h = some (Int32.ofInt (T.length : Int), h') ∧ zr h' fl a' ∧ zr_F h h' ∧ (∀ p j, (p ≠ 233 ∨ (j ≠ 1 ∧ (j < 3 ∨ 123 ≤ j))) → a' p j = a p j) ∧ zr_tx a' T := by
  obtain ⟨h1, e1, H1, F1⟩ := zr_p H 233 1 (by decide) (by decide) (by decide) (T.length : Int)
  obtain ⟨h2, a2, e2, H2, F2, p2, r2⟩ := zr_takes12 (N := N) hL r.1 120 N 0 h1 _ H1 (fun j hj => r.2 j hj) (by omega) (by omega) (fun j j1 j2 => absurd j1 (Nat.not_lt_zero j))
  refine ⟨h2, a2, ?_, H2, zr_Ft F1 F2, fun p j hp => (p2 p j (by omega)).trans (zr_vn a _ (by omega)), ?_, r2⟩
  · unfold fM_takes
    rw [zr_T H, cond_true, zr_r0 H, b1_s, zr_i H 14 rfl, b1_s, r.1]
    show b1 (fAS h 233 (zr_t 233) (Int32.ofInt ((1 : Nat) : Int)) (.int (Int32.ofInt (T.length : Int)))) _ = _
    rw [e1, b1_s]
    exact e2
  · rw [p2 233 1 (by omega), zr_vs]
/-- w is copied into another row -/
theorem zr_begins2 : ∀ (c f i : Nat) (h : zH) (a : Nat → Nat → Int), zr h fl a → i + c = 451 → c < f → (∀ j, j < i → a 234 j = a 233 j) → ∃ h' a', fM_begins_2 N f 232 (Int32.ofInt (i : Int)) h = some ((), h') ∧ zr h' fl a' ∧ zr_F h h' ∧ (∀ p j, p ≠ 234 → a' p j = a p j) ∧ ∀ j, j < 451 → a' 234 j = a 233 j := by
  intro c
  induction c with
  | zero =>
    intro f i h a H h1 h2 h3
    obtain ⟨g, rfl⟩ : ∃ g, f = g + 1 := ⟨f - 1, by omega⟩
    refine ⟨h, a, ?_, H, zr_Fr h, fun _ _ _ => rfl, fun j hj => h3 j (by omega)⟩
    rw [fM_begins_2, zqo_ge _ _ (by omega) (by decide), decide_eq_true (by omega), cond_true]
  | succ c ih =>
    intro f i h a H h1 h2 h3
    obtain ⟨g, rfl⟩ : ∃ g, f = g + 1 := ⟨f - 1, by omega⟩
    obtain ⟨h4, e4, H4, F4⟩ := zr_p H 234 i (by decide) (by decide) (by show i < 451; omega) (a 233 i)
    obtain ⟨h5, a5, e5, H5, F5, p5, r5⟩ := ih g (i + 1) h4 _ H4 (by omega) (by omega) (fun j hj => by
      by_cases e : j = i
      · subst e
        rw [zr_vs]
        rfl
      · rw [zr_vn a _ (Or.inr e)]
        exact h3 j (by omega))
    refine ⟨h5, a5, ?_, H5, zr_Ft F4 F5, fun p j hp => (p5 p j hp).trans (zr_vn a _ (Or.inl hp)), r5⟩
    rw [fM_begins_2, zqo_ge _ _ (by omega) (by decide), decide_eq_false (by omega), cond_false, zr_r1 H, b1_s, zr_r0 H, b1_s, zr_w H i (by omega), b1_s]
    show b1 (fAS h 234 (zr_t 234) (Int32.ofInt (i : Int)) (.int (Int32.ofInt (a 233 i)))) _ = _
    rw [e4, b1_s, zh_inc]
    exact e5
theorem zr_begins (hN : 1000 ≤ N) (H : zr h fl a) : ∃ h' a', fM_begins N 232 h = some ((), h') ∧ zr h' fl a' ∧ zr_F h h' ∧ (∀ p j, p ≠ 234 → a' p j = a p j) ∧ ∀ j, j < 451 → a' 234 j = a 233 j := by
  obtain ⟨h1, a1, e1, H1, F1, p1, r1⟩ := zr_begins2 (N := N) 451 N 0 h a H (by omega) (by omega) (fun j hj => absurd hj (Nat.not_lt_zero j))
  refine ⟨h1, a1, ?_, H1, F1, p1, r1⟩
  unfold fM_begins
  rw [zr_T H, cond_true]
  exact e1
end ZRF
