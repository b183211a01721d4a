/-! THE REFERENCE: the row, its factors. -/
/-- w holds the text T -/
def zr_tx (a : Nat → Nat → Int) (T : List Nat) : Prop := a 233 1 = (T.length : Int) ∧ ∀ i, i < T.length → a 233 (3 + i) = (T.getD i 0 : Int) - 97
/-- the row holds the word T -/
def zr_rw (fl : Nat → Int) (a : Nat → Nat → Int) (T : List Nat) : Prop := fl 14 = (T.length : Int) ∧ ∀ i, i < T.length → a 239 i = (T.getD i 0 : Int) - 97
/-- all but the row, the starts and the row's length is as before -/
def zr_Q (fl : Nat → Int) (a : Nat → Nat → Int) (fl' : Nat → Int) (a' : Nat → Nat → Int) : Prop := (∀ k, k ≠ 14 → fl' k = fl k) ∧ ∀ p i, p ≠ 239 → p ≠ 240 → a' p i = a p i
theorem zr_Qr (fl : Nat → Int) (a : Nat → Nat → Int) : zr_Q fl a fl a := ⟨fun _ _ => rfl, fun _ _ _ _ => rfl⟩
theorem zr_Qt {f1 f2 f3 : Nat → Int} {a1 a2 a3 : Nat → Nat → Int} (x : zr_Q f1 a1 f2 a2) (y : zr_Q f2 a2 f3 a3) : zr_Q f1 a1 f3 a3 := ⟨fun k hk => (y.1 k hk).trans (x.1 k hk), fun p i h1 h2 => (y.2 p i h1 h2).trans (x.2 p i h1 h2)⟩
theorem zr_Qtx {fl fl' : Nat → Int} {a a' : Nat → Nat → Int} {T : List Nat} (q : zr_Q fl a fl' a') (t : zr_tx a T) : zr_tx a' T := ⟨(q.2 233 1 (by decide) (by decide)).trans t.1, fun i hi => (q.2 233 (3 + i) (by decide) (by decide)).trans (t.2 i hi)⟩
theorem zr_loads12 {N : Nat} {fl : Nat → Int} {T : List Nat} (hT : T.length ≤ 120) (h14 : fl 14 = (T.length : Int)) : ∀ (c f i : Nat) (h : zH) (a : Nat → Nat → Int), zr h fl a → zr_tx a T → i + c = T.length → c < f → (∀ j, j < i → a 239 j = (T.getD j 0 : Int) - 97) → ∃ h' a', fM_loads_12 N f 232 (Int32.ofInt (i : Int)) h = some ((), h') ∧ zr h' fl a' ∧ zr_F h h' ∧ (∀ p j, p ≠ 239 → a' p j = a p j) ∧ ∀ j, j < T.length → a' 239 j = (T.getD j 0 : Int) - 97 := by
  intro c
  induction c with
  | zero =>
    intro f i h a H t h1 h2 h3
    obtain ⟨g, rfl⟩ : ∃ g, f = g + 1 := ⟨f - 1, by omega⟩
    refine ⟨h, a, ?_, H, zr_Fr h, fun _ _ _ => rfl, fun j hj => h3 j (by omega)⟩
    rw [fM_loads_12, zr_i H 14 rfl, b1_s, h14, zqo_ge _ _ (by omega) (by omega), decide_eq_true (by omega), cond_true]
  | succ c ih =>
    intro f i h a H t h1 h2 h3
    obtain ⟨g, rfl⟩ : ∃ g, f = g + 1 := ⟨f - 1, by omega⟩
    obtain ⟨h4, e4, H4, F4⟩ := zr_p H 239 i (by decide) (by decide) (by show i < 130; omega) (a 233 (3 + i))
    have t4 : zr_tx (zr_v a 239 i (a 233 (3 + i))) T := ⟨t.1, t.2⟩
    obtain ⟨h5, a5, e5, H5, F5, p5, r5⟩ := ih g (i + 1) h4 _ H4 t4 (by omega) (by omega) (fun j hj => by
      by_cases e : j = i
      · subst e
        rw [zr_vs]
        exact t.2 j (by omega)
      · rw [zr_vn a _ (Or.inr e)]
        exact h3 j (by omega))
    refine ⟨h5, a5, ?_, H5, zr_Ft F4 F5, fun p j hp => (p5 p j hp).trans (zr_vn a _ (Or.inl hp)), r5⟩
    rw [fM_loads_12, zr_i H 14 rfl, b1_s, h14, zqo_ge _ _ (by omega) (by omega), decide_eq_false (by omega), cond_false, zr_r8 H, b1_s, zr_r0 H, b1_s, zw_add, show (3 : Int) + (i : Int) = ((3 + i : Nat) : Int) by omega, zr_w H (3 + i) (by omega), b1_s]
    show b1 (fAS h 239 (zr_t 239) (Int32.ofInt (i : Int)) (.int (Int32.ofInt (a 233 (3 + i))))) _ = _
    rw [e4, b1_s, zh_inc]
    exact e5
theorem zr_loads {N : Nat} {h : zH} {fl : Nat → Int} {a : Nat → Nat → Int} {T : List Nat} (hN : 1000 ≤ N) (H : zr h fl a) (t : zr_tx a T) (hT : T.length ≤ 120) : ∃ h' fl' a', fM_loads N 232 h = some ((), h') ∧ zr h' fl' a' ∧ zr_F h h' ∧ zr_Q fl a fl' a' ∧ zr_rw fl' a' T := by
  obtain ⟨h1, e1, H1, F1⟩ := zr_s H 14 rfl (T.length : Int)
  obtain ⟨h2, a2, e2, H2, F2, p2, r2⟩ := zr_loads12 (N := N) hT (show zr_u fl 14 (T.length : Int) 14 = (T.length : Int) from rfl) T.length N 0 h1 a H1 t (by omega) (by omega) (fun j hj => absurd hj (Nat.not_lt_zero j))
  refine ⟨h2, _, a2, ?_, H2, zr_Ft F1 F2, ⟨fun k hk => if_neg hk, fun p i h3 h4 => p2 p i h3⟩, rfl, r2⟩
  unfold fM_loads
  rw [zr_T H, cond_true, zr_r0 H, b1_s, show Int32.ofInt 1 = Int32.ofInt ((1 : Nat) : Int) from rfl, zr_w H 1 (by decide), b1_s, t.1, e1, b1_s]
  exact e2
theorem zr_adds {N : Nat} {h : zH} {fl : Nat → Int} {a : Nat → Nat → Int} {T : List Nat} (H : zr h fl a) (r : zr_rw fl a T) (hT : T.length < 130) (v : Nat) : ∃ h' fl' a', fM_adds N 232 (Int32.ofInt ((v : Int) - 97)) h = some ((), h') ∧ zr h' fl' a' ∧ zr_F h h' ∧ zr_Q fl a fl' a' ∧ zr_rw fl' a' (T ++ [v]) := by
  obtain ⟨h1, e1, H1, F1⟩ := zr_p H 239 T.length (by decide) (by decide) hT ((v : Int) - 97)
  obtain ⟨h2, e2, H2, F2⟩ := zr_s H1 14 rfl ((T.length + 1 : Nat) : Int)
  refine ⟨h2, _, _, ?_, H2, zr_Ft F1 F2, ⟨fun k hk => if_neg hk, fun p i h3 h4 => zr_vn a _ (Or.inl h3)⟩, ?_, ?_⟩
  · unfold fM_adds
    rw [zr_T H, cond_true, zr_r8 H, b1_s, zr_i H 14 rfl, b1_s, r.1]
    show b1 (fAS h 239 (zr_t 239) (Int32.ofInt (T.length : Int)) (.int (Int32.ofInt ((v : Int) - 97)))) _ = _
    rw [e1, b1_s, zr_i H1 14 rfl, b1_s, r.1, zh_inc, e2, b1_s]
  · show ((T.length + 1 : Nat) : Int) = ((T ++ [v]).length : Int)
    rw [List.length_append]
    rfl
  · intro i hi
    rw [List.length_append] at hi
    have hi : i < T.length + 1 := hi
    by_cases e : i = T.length
    · subst e
      rw [zr_vs, List.getD_eq_getElem?_getD, List.getElem?_append_right (Nat.le_refl _), Nat.sub_self]
      rfl
    · rw [zr_vn a _ (Or.inr e), r.2 i (by omega), List.getD_eq_getElem?_getD, List.getD_eq_getElem?_getD, List.getElem?_append_left (by omega)]
/-- letters that the reference holds -/
def zr_B (T : List Nat) : Prop := T.length ≤ 121 ∧ ∀ v ∈ T, v < 256
theorem zr_less {N : Nat} {h : zH} {fl : Nat → Int} {a : Nat → Nat → Int} {T : List Nat} (hN : 1000 ≤ N) (H : zr h fl a) (r : zr_rw fl a T) (hT : zr_B T) {x y : Nat} (hy : y < x) (hx : x ≤ T.length) : fM_isLess N 232 (Int32.ofInt (x : Int)) (Int32.ofInt (y : Int)) h = some (cond (decide (zw_cmp (zw_p T x T.length) (zw_p T y T.length) = -1)) (Int32.ofInt 1) (Int32.ofInt 0), h) := by
  obtain ⟨b1', b2'⟩ := hT
  have key : ∀ c f : Nat, c < f → x + c ≤ T.length → fM_isLess_2 N f 232 (Int32.ofInt (x : Int)) (Int32.ofInt (y : Int)) (Int32.ofInt ((T.length - c : Nat) : Int)) h = some (cond (decide (zw_cmp (zw_p T (T.length - c) T.length) (zw_p T (y + (T.length - c) - x) T.length) = -1)) (Int32.ofInt 1) (Int32.ofInt 0), h) := by
    intro c
    induction c with
    | zero =>
      intro f h1 h2
      obtain ⟨g, rfl⟩ : ∃ g, f = g + 1 := ⟨f - 1, by omega⟩
      rw [fM_isLess_2, zr_i H 14 rfl, b1_s, r.1, zqo_ge _ _ (by omega) (by omega), decide_eq_true (by omega), cond_true, zw_p0 (show T.length ≤ T.length - 0 by omega), zw_pc (show y + (T.length - 0) - x < T.length by omega) (Nat.le_refl _), zw_cmp]
      rfl
    | succ c ih =>
      intro f h1 h2
      obtain ⟨g, rfl⟩ : ∃ g, f = g + 1 := ⟨f - 1, by omega⟩
      have g1 := zw_gD b2' (T.length - (c + 1))
      have g2 := zw_gD b2' (y + (T.length - (c + 1)) - x)
      rw [fM_isLess_2, zr_i H 14 rfl, b1_s, r.1, zqo_ge _ _ (by omega) (by omega), decide_eq_false (by omega), cond_false, zr_r8 H, b1_s, zw_add, zw_sub, show (y : Int) + ((T.length - (c + 1) : Nat) : Int) - (x : Int) = ((y + (T.length - (c + 1)) - x : Nat) : Int) by omega, zr_row H _ (by omega), b1_s, b1_s, zr_row H _ (by omega), b1_s, r.2 _ (by omega), r.2 _ (by omega), zqo_eq _ _ (by omega) (by omega), zw_pc (show T.length - (c + 1) < T.length by omega) (Nat.le_refl _), zw_pc (show y + (T.length - (c + 1)) - x < T.length by omega) (Nat.le_refl _), zw_cmp]
      by_cases e1 : T.getD (T.length - (c + 1)) 0 = T.getD (y + (T.length - (c + 1)) - x) 0
      · have e2 := ih g (by omega) (by omega)
        rw [decide_eq_true (by omega), cond_true, if_pos e1, zh_inc, show T.length - (c + 1) + 1 = T.length - c by omega, show y + (T.length - (c + 1)) - x + 1 = y + (T.length - c) - x by omega]
        exact e2
      · rw [decide_eq_false (by omega), cond_false, if_neg e1, b1_s, zr_row H _ (by omega), b1_s, r.2 _ (by omega), zqo_ge _ _ (by omega) (by omega)]
        by_cases e2 : T.getD (T.length - (c + 1)) 0 < T.getD (y + (T.length - (c + 1)) - x) 0
        · rw [decide_eq_false (by omega), cond_false, if_pos e2]
          rfl
        · rw [decide_eq_true (by omega), cond_true, if_neg e2]
          rfl
  have e := key (T.length - x) N (by omega) (by omega)
  unfold fM_isLess
  rw [zr_T H, cond_true]
  rw [show T.length - (T.length - x) = x by omega, show y + x - x = y by omega] at e
  exact e
theorem zm_itf {l : List Nat} : ∀ c s, l.length ≤ s + c → ∀ d, l.length ≤ s + d → zm_it l c s = zm_it l d s := by
  intro c
  induction c with
  | zero =>
    intro s h1 d h2
    cases d with
    | zero => rfl
    | succ d =>
      rw [zm_it, zm_it, if_pos (by omega)]
  | succ c ih =>
    intro s h1 d h2
    cases d with
    | zero => rw [zm_it, zm_it, if_pos (by omega)]
    | succ d =>
      rw [zm_it, zm_it]
      by_cases e : l.length ≤ s
      · rw [if_pos e, if_pos e]
      · have := zw_lEb (show s < l.length by omega)
        rw [if_neg e, if_neg e, ih _ (by omega) d (by omega)]
theorem zm_itn {l : List Nat} : ∀ c s, (zm_it l c s).length ≤ c ∧ (s ≤ l.length → (zm_it l c s).length + s ≤ l.length ∨ (zm_it l c s).length = 0) := by
  intro c
  induction c with
  | zero => intro s; exact ⟨Nat.le_refl 0, fun _ => Or.inr rfl⟩
  | succ c ih =>
    intro s
    rw [zm_it]
    by_cases e : l.length ≤ s
    · rw [if_pos e]
      exact ⟨Nat.zero_le _, fun _ => Or.inr rfl⟩
    · rw [if_neg e, List.length_cons]
      have h1 := zw_lEb (show s < l.length by omega)
      obtain ⟨i1, i2⟩ := ih (zw_lE l s)
      refine ⟨by omega, fun _ => Or.inl ?_⟩
      rcases i2 h1.2 with i2 | i2 <;> omega
/-- the factors' begins, in the starts -/
theorem zr_cuts4 {N : Nat} {fl : Nat → Int} {T : List Nat} (hN : 1000 ≤ N) (hT : zr_B T) : ∀ (c f m s : Nat) (h : zH) (a : Nat → Nat → Int), zr h fl a → zr_rw fl a T → c < f → c + s < T.length → T.length ≤ c + zw_lE T s → 1 ≤ m → m ≤ s + 1 → a 240 (m - 1) = (s : Int) → ∃ h' a', fM_cuts_4 N f 232 (Int32.ofInt (m : Int)) (Int32.ofInt ((T.length - c : Nat) : Int)) h = some (Int32.ofInt ((m + (zm_it T T.length (zw_lE T s)).length : Nat) : Int), h') ∧ zr h' fl a' ∧ zr_F h h' ∧ (∀ p i, p ≠ 240 → a' p i = a p i) ∧ (∀ j, j < m → a' 240 j = a 240 j) ∧ (∀ j, j < (zm_it T T.length (zw_lE T s)).length → a' 240 (m + j) = (((zm_it T T.length (zw_lE T s)).getD j (0, 0)).1 : Int)) ∧ a' 240 (m + (zm_it T T.length (zw_lE T s)).length) = (T.length : Int) := by
  obtain ⟨b1', b2'⟩ := hT
  intro c
  induction c with
  | zero =>
    intro f m s h a H r h1 h2 h3 h4 h5 h6
    obtain ⟨g, rfl⟩ : ∃ g, f = g + 1 := ⟨f - 1, by omega⟩
    obtain ⟨h7, e7, H7, F7⟩ := zr_p H 240 m (by decide) (by decide) (by show m < 130; omega) (T.length : Int)
    have le := zw_lEb (show s < T.length by omega)
    have en : zm_it T T.length (zw_lE T s) = [] := by
      cases hq : T.length with
      | zero => omega
      | succ q => rw [zm_it, if_pos (by omega)]
    rw [en]
    refine ⟨h7, _, ?_, H7, F7, fun p i hp => zr_vn a _ (Or.inl hp), fun j hj => zr_vn a _ (Or.inr (by omega)), fun j hj => absurd hj (Nat.not_lt_zero j), zr_vs a 240 m _⟩
    rw [fM_cuts_4, zr_i H 14 rfl, b1_s, r.1, zqo_ge _ _ (by omega) (by omega), decide_eq_true (by omega), cond_true, zr_r9 H, b1_s, b1_s]
    show b1 (fAS h 240 (zr_t 240) (Int32.ofInt (m : Int)) (.int (Int32.ofInt (T.length : Int)))) _ = _
    rw [e7, b1_s]
    rfl
  | succ c ih =>
    intro f m s h a H r h1 h2 h3 h4 h5 h6
    obtain ⟨g, rfl⟩ : ∃ g, f = g + 1 := ⟨f - 1, by omega⟩
    have le := zw_lEb (show s < T.length by omega)
    obtain ⟨p, p1, p2, i, p3⟩ := zm_lE (show s < T.length by omega)
    have st : fAI h 240 100 (Int32.ofInt ((m - 1 : Nat) : Int)) = some (Int32.ofInt (s : Int)) := by
      rw [← h6]
      exact zr_st H (m - 1) (by omega)
    rw [fM_cuts_4, zr_i H 14 rfl, b1_s, r.1, zqo_ge _ _ (by omega) (by omega), decide_eq_false (by omega), cond_false, zqo_eq _ _ (by omega) (by decide), decide_eq_false (by omega), cond_false, zr_r9 H, b1_s, zw_sub, show (m : Int) - 1 = ((m - 1 : Nat) : Int) by omega, st, b1_s, zr_less hN H r ⟨b1', b2'⟩ (show s < T.length - (c + 1) by omega) (by omega), b2]
    by_cases e1 : T.length - (c + 1) = zw_lE T s
    · have e2 : zw_cmp (zw_p T (T.length - (c + 1)) T.length) (zw_p T s T.length) = -1 := by
        rw [e1, p1]
        exact zm_next p2.1 p3 (by omega)
      rw [decide_eq_true e2, cond_true, show z_cmp .eq (Int32.ofInt 1) (Int32.ofInt 0) = false from rfl, cond_false]
      unfold fM_cuts_32 fM_cuts_42
      obtain ⟨h7, e7, H7, F7⟩ := zr_p H 240 m (by decide) (by decide) (by show m < 130; omega) ((T.length - (c + 1) : Nat) : Int)
      have le2 := zw_lEb (show T.length - (c + 1) < T.length by omega)
      obtain ⟨h8, a8, e8, H8, F8, q8, r8, s8, t8⟩ := ih g (m + 1) (T.length - (c + 1)) h7 _ H7 ⟨r.1, fun i hi => r.2 i hi⟩ (by omega) (by omega) (by omega) (by omega) (by omega) (zr_vs a 240 m _)
      have ez : zm_it T T.length (zw_lE T s) = (T.length - (c + 1), zw_lE T (T.length - (c + 1))) :: zm_it T T.length (zw_lE T (T.length - (c + 1))) := by
        rw [← e1, zm_itf T.length _ (by omega) (T.length + 1) (by omega), zm_it, if_neg (by omega)]
      rw [ez]
      refine ⟨h8, a8, ?_, H8, zr_Ft F7 F8, fun p i hp => (q8 p i hp).trans (zr_vn a _ (Or.inl hp)), fun j hj => (r8 j (by omega)).trans (zr_vn a _ (Or.inr (by omega))), ?_, ?_⟩
      · rw [zr_r9 H, b1_s]
        show b1 (fAS h 240 (zr_t 240) (Int32.ofInt (m : Int)) (.int (Int32.ofInt ((T.length - (c + 1) : Nat) : Int)))) _ = _
        rw [e7, b1_s, zh_inc, zh_inc, show T.length - (c + 1) + 1 = T.length - c by omega, e8, List.length_cons]
        congr 4
        omega
      · intro j hj
        cases j with
        | zero =>
          rw [Nat.add_zero, r8 m (by omega), zr_vs]
          rfl
        | succ j =>
          rw [List.length_cons] at hj
          have := s8 j (by omega)
          rw [show m + (j + 1) = m + 1 + j by omega, this]
          rfl
      · rw [List.length_cons, show m + ((zm_it T T.length (zw_lE T (T.length - (c + 1)))).length + 1) = m + 1 + (zm_it T T.length (zw_lE T (T.length - (c + 1)))).length by omega]
        exact t8
    · have e2 : zw_cmp (zw_p T (T.length - (c + 1)) T.length) (zw_p T s T.length) = 1 := by
        have := zm_big p2 (show 0 < T.length - (c + 1) - s by omega) (by omega) (show s + p ≤ T.length from p2.2.1) (Nat.le_refl _)
        rw [show s + (T.length - (c + 1) - s) = T.length - (c + 1) by omega] at this
        exact this
      rw [decide_eq_false (by rw [e2]; decide), cond_false, show z_cmp .eq (Int32.ofInt 0) (Int32.ofInt 0) = true from rfl, cond_true]
      unfold fM_cuts_42
      rw [zh_inc, show T.length - (c + 1) + 1 = T.length - c by omega]
      exact ih g m s h a H r (by omega) (by omega) (by omega) h4 h5 h6
