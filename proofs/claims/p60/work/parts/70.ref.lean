section
/-! THE REFERENCE: its object, its arrays. -/
def zr_o (fl : Nat → Int) : List Value := [.ref 233, .ref 234, .ref 235, .ref 236, .int (Int32.ofInt (fl 4)), .int (Int32.ofInt (fl 5)), .ref 237, .ref 238, .ref 239, .ref 240, .int (Int32.ofInt (fl 10)), .int (Int32.ofInt (fl 11)), .int (Int32.ofInt (fl 12)), .int (Int32.ofInt (fl 13)), .int (Int32.ofInt (fl 14)), .ref 241, .int (Int32.ofInt (fl 16)), .int (Int32.ofInt (fl 17)), .int (Int32.ofInt (fl 18)), .int (Int32.ofInt (fl 19)), .int (Int32.ofInt (fl 20)), .int (Int32.ofInt (fl 21)), .int (Int32.ofInt (fl 22)), .ref 242]
def zr_t (p : Nat) : Nat := if p = 241 then 102 else 100
def zr_n (p : Nat) : Nat := if p = 235 then 3608 else if p = 237 ∨ p = 238 then 600 else if p = 239 ∨ p = 240 then 130 else if p = 241 then 400 else if p = 242 then 2 else 451
def zr_A (h : zH) (p t n : Nat) (g : Nat → Int) : Prop := ∃ R, h[p]? = some (t, R) ∧ R.length = n ∧ ∀ i, i < n → R[i]? = some (.int (Int32.ofInt (g i)))
/-- the reference with the numbers fl and the arrays a -/
def zr (h : zH) (fl : Nat → Int) (a : Nat → Nat → Int) : Prop := h[232]? = some (5, zr_o fl) ∧ ∀ p, 233 ≤ p → p ≤ 242 → zr_A h p (zr_t p) (zr_n p) (a p)
/-- all but the reference's cells is as before -/
def zr_F (h h' : zH) : Prop := h'.length = h.length ∧ ∀ p, (p < 232 ∨ 243 ≤ p) → h'[p]? = h[p]?
theorem zr_Fr (h : zH) : zr_F h h := ⟨rfl, fun _ _ => rfl⟩
theorem zr_Ft {h1 h2 h3 : zH} (a : zr_F h1 h2) (b : zr_F h2 h3) : zr_F h1 h3 := ⟨b.1.trans a.1, fun p h4 => (b.2 p h4).trans (a.2 p h4)⟩
def zr_u (fl : Nat → Int) (k : Nat) (x : Int) : Nat → Int := fun j => if j = k then x else fl j
def zr_v (a : Nat → Nat → Int) (p i : Nat) (x : Int) : Nat → Nat → Int := fun r j => if r = p ∧ j = i then x else a r j
theorem zr_vs (a : Nat → Nat → Int) (p i : Nat) (x : Int) : zr_v a p i x p i = x := if_pos ⟨rfl, rfl⟩
theorem zr_vn (a : Nat → Nat → Int) {p i r j : Nat} (x : Int) (h : r ≠ p ∨ j ≠ i) : zr_v a p i x r j = a r j := if_neg (fun e => by
  rcases h with h | h
  · exact h e.1
  · exact h e.2)
def zr_ok (k : Nat) : Bool := decide (k = 4 ∨ k = 5 ∨ (10 ≤ k ∧ k ≤ 14) ∨ (16 ≤ k ∧ k ≤ 22))
theorem zr_cases {k : Nat} (h : zr_ok k = true) : k = 4 ∨ k = 5 ∨ k = 10 ∨ k = 11 ∨ k = 12 ∨ k = 13 ∨ k = 14 ∨ k = 16 ∨ k = 17 ∨ k = 18 ∨ k = 19 ∨ k = 20 ∨ k = 21 ∨ k = 22 := by
  have h := of_decide_eq_true h
  omega
section ZRR
variable {h : zH} {fl : Nat → Int} {a : Nat → Nat → Int}
theorem zr_T (H : zr h fl a) : fT h 232 5 = true := zi_T (by decide) H.1
theorem zr_i (H : zr h fl a) (k : Nat) (hk : zr_ok k = true) : fI h 232 5 k = some (Int32.ofInt (fl k)) := by
  refine zh_I (by decide) H.1 ?_
  rcases zr_cases hk with e | e | e | e | e | e | e | e | e | e | e | e | e | e <;> subst e <;> rfl
theorem zr_s (H : zr h fl a) (k : Nat) (hk : zr_ok k = true) (x : Int) : ∃ h', fS h 232 5 k (.int (Int32.ofInt x)) = some h' ∧ zr h' (zr_u fl k x) a ∧ zr_F h h' := by
  have e : (zr_o fl).set k (.int (Int32.ofInt x)) = zr_o (zr_u fl k x) := by
    rcases zr_cases hk with e | e | e | e | e | e | e | e | e | e | e | e | e | e <;> subst e <;> rfl
  have hl : k < (zr_o fl).length := by
    show k < 24
    rcases zr_cases hk with e | e | e | e | e | e | e | e | e | e | e | e | e | e <;> omega
  refine ⟨h.set 232 (5, zr_o (zr_u fl k x)), ?_, ⟨List.getElem?_set_self (List.getElem?_eq_some_iff.mp H.1).1, ?_⟩, by rw [List.length_set], fun p hp => zh_set (by omega)⟩
  · rw [zh_S H.1 hl, e]
  · intro p h1 h2
    obtain ⟨R, r1, r2⟩ := H.2 p h1 h2
    exact ⟨R, (zh_set (by omega)).trans r1, r2⟩
theorem zr_g (H : zr h fl a) (p i : Nat) (h1 : 233 ≤ p) (h2 : p ≤ 242) (hi : i < zr_n p) : fAI h p (zr_t p) (Int32.ofInt (i : Int)) = some (Int32.ofInt (a p i)) := by
  obtain ⟨R, r1, r2, r3⟩ := H.2 p h1 h2
  have hn : zr_n p ≤ 3608 := by
    unfold zr_n
    repeat' split
    all_goals omega
  exact zh_AI (by omega) r1 (r3 i hi) (by omega)
theorem zr_p (H : zr h fl a) (p i : Nat) (h1 : 233 ≤ p) (h2 : p ≤ 242) (hi : i < zr_n p) (x : Int) : ∃ h', fAS h p (zr_t p) (Int32.ofInt (i : Int)) (.int (Int32.ofInt x)) = some h' ∧ zr h' fl (zr_v a p i x) ∧ zr_F h h' := by
  obtain ⟨R, r1, r2, r3⟩ := H.2 p h1 h2
  have hn : zr_n p ≤ 3608 := by
    unfold zr_n
    repeat' split
    all_goals omega
  refine ⟨h.set p (zr_t p, R.set i (.int (Int32.ofInt x))), zh_AS r1 (by omega) (by omega), ⟨(zh_set (by omega)).trans H.1, ?_⟩, by rw [List.length_set], fun r hr => zh_set (by omega)⟩
  intro r h3 h4
  by_cases e : r = p
  · subst e
    refine ⟨_, List.getElem?_set_self (List.getElem?_eq_some_iff.mp r1).1, by rw [List.length_set]; exact r2, ?_⟩
    intro j hj
    by_cases ej : j = i
    · subst ej
      rw [List.getElem?_set_self (by omega), zr_vs]
    · rw [List.getElem?_set_ne (by omega), zr_vn a x (Or.inr ej)]
      exact r3 j hj
  · obtain ⟨R2, q1, q2, q3⟩ := H.2 r h3 h4
    refine ⟨R2, (zh_set (by omega)).trans q1, q2, ?_⟩
    intro j hj
    rw [zr_vn a x (Or.inl e)]
    exact q3 j hj
theorem zr_r0 (H : zr h fl a) : fR h 232 5 0 = some 233 := zh_R (b := 0) (by decide) H.1 rfl
theorem zr_r1 (H : zr h fl a) : fR h 232 5 1 = some 234 := zh_R (b := 1) (by decide) H.1 rfl
theorem zr_r2 (H : zr h fl a) : fR h 232 5 2 = some 235 := zh_R (b := 2) (by decide) H.1 rfl
theorem zr_r3 (H : zr h fl a) : fR h 232 5 3 = some 236 := zh_R (b := 3) (by decide) H.1 rfl
theorem zr_r6 (H : zr h fl a) : fR h 232 5 6 = some 237 := zh_R (b := 6) (by decide) H.1 rfl
theorem zr_r7 (H : zr h fl a) : fR h 232 5 7 = some 238 := zh_R (b := 7) (by decide) H.1 rfl
theorem zr_r8 (H : zr h fl a) : fR h 232 5 8 = some 239 := zh_R (b := 8) (by decide) H.1 rfl
theorem zr_r9 (H : zr h fl a) : fR h 232 5 9 = some 240 := zh_R (b := 9) (by decide) H.1 rfl
theorem zr_r15 (H : zr h fl a) : fR h 232 5 15 = some 241 := zh_R (b := 15) (by decide) H.1 rfl
theorem zr_r23 (H : zr h fl a) : fR h 232 5 23 = some 242 := zh_R (b := 23) (by decide) H.1 rfl
/-- w at a place -/
theorem zr_w (H : zr h fl a) (i : Nat) (hi : i < 451) : fAI h 233 100 (Int32.ofInt (i : Int)) = some (Int32.ofInt (a 233 i)) := zr_g H 233 i (by decide) (by decide) hi
theorem zr_row (H : zr h fl a) (i : Nat) (hi : i < 130) : fAI h 239 100 (Int32.ofInt (i : Int)) = some (Int32.ofInt (a 239 i)) := zr_g H 239 i (by decide) (by decide) hi
theorem zr_st (H : zr h fl a) (i : Nat) (hi : i < 130) : fAI h 240 100 (Int32.ofInt (i : Int)) = some (Int32.ofInt (a 240 i)) := zr_g H 240 i (by decide) (by decide) hi
end ZRR
end
section
/-! THE REFERENCE: the row, its factors. -/
/-- w holds the text T -/
def zr_tx (a : Nat → Nat → Int) (T : List Nat) : Prop := a 233 1 = (T.length : Int) ∧ ∀ i, i < T.length → a 233 (3 + i) = (T.getD i 0 : Int) - 97
/-- the row holds the word T -/
def zr_rw (fl : Nat → Int) (a : Nat → Nat → Int) (T : List Nat) : Prop := fl 14 = (T.length : Int) ∧ ∀ i, i < T.length → a 239 i = (T.getD i 0 : Int) - 97
/-- all but the row, the starts and the row's length is as before -/
def zr_Q (fl : Nat → Int) (a : Nat → Nat → Int) (fl' : Nat → Int) (a' : Nat → Nat → Int) : Prop := (∀ k, k ≠ 14 → fl' k = fl k) ∧ ∀ p i, p ≠ 239 → p ≠ 240 → a' p i = a p i
theorem zr_Qr (fl : Nat → Int) (a : Nat → Nat → Int) : zr_Q fl a fl a := ⟨fun _ _ => rfl, fun _ _ _ _ => rfl⟩
theorem zr_Qt {f1 f2 f3 : Nat → Int} {a1 a2 a3 : Nat → Nat → Int} (x : zr_Q f1 a1 f2 a2) (y : zr_Q f2 a2 f3 a3) : zr_Q f1 a1 f3 a3 := ⟨fun k hk => (y.1 k hk).trans (x.1 k hk), fun p i h1 h2 => (y.2 p i h1 h2).trans (x.2 p i h1 h2)⟩
theorem zr_Qtx {fl fl' : Nat → Int} {a a' : Nat → Nat → Int} {T : List Nat} (q : zr_Q fl a fl' a') (t : zr_tx a T) : zr_tx a' T := ⟨(q.2 233 1 (by decide) (by decide)).trans t.1, fun i hi => (q.2 233 (3 + i) (by decide) (by decide)).trans (t.2 i hi)⟩
theorem zr_loads12 {N : Nat} {fl : Nat → Int} {T : List Nat} (hT : T.length ≤ 120) (h14 : fl 14 = (T.length : Int)) : ∀ (c f i : Nat) (h : zH) (a : Nat → Nat → Int), zr h fl a → zr_tx a T → i + c = T.length → c < f → (∀ j, j < i → a 239 j = (T.getD j 0 : Int) - 97) → ∃ h' a', fM_loads_12 N f 232 (Int32.ofInt (i : Int)) h = some ((), h') ∧ zr h' fl a' ∧ zr_F h h' ∧ (∀ p j, p ≠ 239 → a' p j = a p j) ∧ ∀ j, j < T.length → a' 239 j = (T.getD j 0 : Int) - 97 := by
  intro c
  induction c with
  | zero =>
    intro f i h a H t h1 h2 h3
    obtain ⟨g, rfl⟩ : ∃ g, f = g + 1 := ⟨f - 1, by omega⟩
    refine ⟨h, a, ?_, H, zr_Fr h, fun _ _ _ => rfl, fun j hj => h3 j (by omega)⟩
    rw [fM_loads_12, zr_i H 14 rfl, b1_s, h14, zqo_ge _ _ (by omega) (by omega), decide_eq_true (by omega), cond_true]
  | succ c ih =>
    intro f i h a H t h1 h2 h3
    obtain ⟨g, rfl⟩ : ∃ g, f = g + 1 := ⟨f - 1, by omega⟩
    obtain ⟨h4, e4, H4, F4⟩ := zr_p H 239 i (by decide) (by decide) (by show i < 130; omega) (a 233 (3 + i))
    have t4 : zr_tx (zr_v a 239 i (a 233 (3 + i))) T := ⟨t.1, t.2⟩
    obtain ⟨h5, a5, e5, H5, F5, p5, r5⟩ := ih g (i + 1) h4 _ H4 t4 (by omega) (by omega) (fun j hj => by
      by_cases e : j = i
      · subst e
        rw [zr_vs]
        exact t.2 j (by omega)
      · rw [zr_vn a _ (Or.inr e)]
        exact h3 j (by omega))
    refine ⟨h5, a5, ?_, H5, zr_Ft F4 F5, fun p j hp => (p5 p j hp).trans (zr_vn a _ (Or.inl hp)), r5⟩
    rw [fM_loads_12, zr_i H 14 rfl, b1_s, h14, zqo_ge _ _ (by omega) (by omega), decide_eq_false (by omega), cond_false, zr_r8 H, b1_s, zr_r0 H, b1_s, zw_add, show (3 : Int) + (i : Int) = ((3 + i : Nat) : Int) by omega, zr_w H (3 + i) (by omega), b1_s]
    show b1 (fAS h 239 (zr_t 239) (Int32.ofInt (i : Int)) (.int (Int32.ofInt (a 233 (3 + i))))) _ = _
    rw [e4, b1_s, zh_inc]
    exact e5
theorem zr_loads {N : Nat} {h : zH} {fl : Nat → Int} {a : Nat → Nat → Int} {T : List Nat} (hN : 1000 ≤ N) (H : zr h fl a) (t : zr_tx a T) (hT : T.length ≤ 120) : ∃ h' fl' a', fM_loads N 232 h = some ((), h') ∧ zr h' fl' a' ∧ zr_F h h' ∧ zr_Q fl a fl' a' ∧ zr_rw fl' a' T := by
  obtain ⟨h1, e1, H1, F1⟩ := zr_s H 14 rfl (T.length : Int)
  obtain ⟨h2, a2, e2, H2, F2, p2, r2⟩ := zr_loads12 (N := N) hT (show zr_u fl 14 (T.length : Int) 14 = (T.length : Int) from rfl) T.length N 0 h1 a H1 t (by omega) (by omega) (fun j hj => absurd hj (Nat.not_lt_zero j))
  refine ⟨h2, _, a2, ?_, H2, zr_Ft F1 F2, ⟨fun k hk => if_neg hk, fun p i h3 h4 => p2 p i h3⟩, rfl, r2⟩
  unfold fM_loads
  rw [zr_T H, cond_true, zr_r0 H, b1_s, show Int32.ofInt 1 = Int32.ofInt ((1 : Nat) : Int) from rfl, zr_w H 1 (by decide), b1_s, t.1, e1, b1_s]
  exact e2
theorem zr_adds {N : Nat} {h : zH} {fl : Nat → Int} {a : Nat → Nat → Int} {T : List Nat} (H : zr h fl a) (r : zr_rw fl a T) (hT : T.length < 130) (v : Nat) : ∃ h' fl' a', fM_adds N 232 (Int32.ofInt ((v : Int) - 97)) h = some ((), h') ∧ zr h' fl' a' ∧ zr_F h h' ∧ zr_Q fl a fl' a' ∧ zr_rw fl' a' (T ++ [v]) := by
  obtain ⟨h1, e1, H1, F1⟩ := zr_p H 239 T.length (by decide) (by decide) hT ((v : Int) - 97)
  obtain ⟨h2, e2, H2, F2⟩ := zr_s H1 14 rfl ((T.length + 1 : Nat) : Int)
  refine ⟨h2, _, _, ?_, H2, zr_Ft F1 F2, ⟨fun k hk => if_neg hk, fun p i h3 h4 => zr_vn a _ (Or.inl h3)⟩, ?_, ?_⟩
  · unfold fM_adds
    rw [zr_T H, cond_true, zr_r8 H, b1_s, zr_i H 14 rfl, b1_s, r.1]
    show b1 (fAS h 239 (zr_t 239) (Int32.ofInt (T.length : Int)) (.int (Int32.ofInt ((v : Int) - 97)))) _ = _
    rw [e1, b1_s, zr_i H1 14 rfl, b1_s, r.1, zh_inc, e2, b1_s]
  · show ((T.length + 1 : Nat) : Int) = ((T ++ [v]).length : Int)
    rw [List.length_append]
    rfl
  · intro i hi
    rw [List.length_append] at hi
    have hi : i < T.length + 1 := hi
    by_cases e : i = T.length
    · subst e
      rw [zr_vs, List.getD_eq_getElem?_getD, List.getElem?_append_right (Nat.le_refl _), Nat.sub_self]
      rfl
    · rw [zr_vn a _ (Or.inr e), r.2 i (by omega), List.getD_eq_getElem?_getD, List.getD_eq_getElem?_getD, List.getElem?_append_left (by omega)]
/-- letters that the reference holds -/
def zr_B (T : List Nat) : Prop := T.length ≤ 121 ∧ ∀ v ∈ T, v < 256
theorem zr_less {N : Nat} {h : zH} {fl : Nat → Int} {a : Nat → Nat → Int} {T : List Nat} (hN : 1000 ≤ N) (H : zr h fl a) (r : zr_rw fl a T) (hT : zr_B T) {x y : Nat} (hy : y < x) (hx : x ≤ T.length) : fM_isLess N 232 (Int32.ofInt (x : Int)) (Int32.ofInt (y : Int)) h = some (cond (decide (zw_cmp (zw_p T x T.length) (zw_p T y T.length) = -1)) (Int32.ofInt 1) (Int32.ofInt 0), h) := by
  obtain ⟨b1', b2'⟩ := hT
  have key : ∀ c f : Nat, c < f → x + c ≤ T.length → fM_isLess_2 N f 232 (Int32.ofInt (x : Int)) (Int32.ofInt (y : Int)) (Int32.ofInt ((T.length - c : Nat) : Int)) h = some (cond (decide (zw_cmp (zw_p T (T.length - c) T.length) (zw_p T (y + (T.length - c) - x) T.length) = -1)) (Int32.ofInt 1) (Int32.ofInt 0), h) := by
    intro c
    induction c with
    | zero =>
      intro f h1 h2
      obtain ⟨g, rfl⟩ : ∃ g, f = g + 1 := ⟨f - 1, by omega⟩
      rw [fM_isLess_2, zr_i H 14 rfl, b1_s, r.1, zqo_ge _ _ (by omega) (by omega), decide_eq_true (by omega), cond_true, zw_p0 (show T.length ≤ T.length - 0 by omega), zw_pc (show y + (T.length - 0) - x < T.length by omega) (Nat.le_refl _), zw_cmp]
      rfl
    | succ c ih =>
      intro f h1 h2
      obtain ⟨g, rfl⟩ : ∃ g, f = g + 1 := ⟨f - 1, by omega⟩
      have g1 := zw_gD b2' (T.length - (c + 1))
      have g2 := zw_gD b2' (y + (T.length - (c + 1)) - x)
      rw [fM_isLess_2, zr_i H 14 rfl, b1_s, r.1, zqo_ge _ _ (by omega) (by omega), decide_eq_false (by omega), cond_false, zr_r8 H, b1_s, zw_add, zw_sub, show (y : Int) + ((T.length - (c + 1) : Nat) : Int) - (x : Int) = ((y + (T.length - (c + 1)) - x : Nat) : Int) by omega, zr_row H _ (by omega), b1_s, b1_s, zr_row H _ (by omega), b1_s, r.2 _ (by omega), r.2 _ (by omega), zqo_eq _ _ (by omega) (by omega), zw_pc (show T.length - (c + 1) < T.length by omega) (Nat.le_refl _), zw_pc (show y + (T.length - (c + 1)) - x < T.length by omega) (Nat.le_refl _), zw_cmp]
      by_cases e1 : T.getD (T.length - (c + 1)) 0 = T.getD (y + (T.length - (c + 1)) - x) 0
      · have e2 := ih g (by omega) (by omega)
        rw [decide_eq_true (by omega), cond_true, if_pos e1, zh_inc, show T.length - (c + 1) + 1 = T.length - c by omega, show y + (T.length - (c + 1)) - x + 1 = y + (T.length - c) - x by omega]
        exact e2
      · rw [decide_eq_false (by omega), cond_false, if_neg e1, b1_s, zr_row H _ (by omega), b1_s, r.2 _ (by omega), zqo_ge _ _ (by omega) (by omega)]
        by_cases e2 : T.getD (T.length - (c + 1)) 0 < T.getD (y + (T.length - (c + 1)) - x) 0
        · rw [decide_eq_false (by omega), cond_false, if_pos e2]
          rfl
        · rw [decide_eq_true (by omega), cond_true, if_neg e2]
          rfl
  have e := key (T.length - x) N (by omega) (by omega)
  unfold fM_isLess
  rw [zr_T H, cond_true]
  rw [show T.length - (T.length - x) = x by omega, show y + x - x = y by omega] at e
  exact e
theorem zm_itf {l : List Nat} : ∀ c s, l.length ≤ s + c → ∀ d, l.length ≤ s + d → zm_it l c s = zm_it l d s := by
  intro c
  induction c with
  | zero =>
    intro s h1 d h2
    cases d with
    | zero => rfl
    | succ d =>
      rw [zm_it, zm_it, if_pos (by omega)]
  | succ c ih =>
    intro s h1 d h2
    cases d with
    | zero => rw [zm_it, zm_it, if_pos (by omega)]
    | succ d =>
      rw [zm_it, zm_it]
      by_cases e : l.length ≤ s
      · rw [if_pos e, if_pos e]
      · have := zw_lEb (show s < l.length by omega)
        rw [if_neg e, if_neg e, ih _ (by omega) d (by omega)]
theorem zm_itn {l : List Nat} : ∀ c s, (zm_it l c s).length ≤ c ∧ (s ≤ l.length → (zm_it l c s).length + s ≤ l.length ∨ (zm_it l c s).length = 0) := by
  intro c
  induction c with
  | zero => intro s; exact ⟨Nat.le_refl 0, fun _ => Or.inr rfl⟩
  | succ c ih =>
    intro s
    rw [zm_it]
    by_cases e : l.length ≤ s
    · rw [if_pos e]
      exact ⟨Nat.zero_le _, fun _ => Or.inr rfl⟩
    · rw [if_neg e, List.length_cons]
      have h1 := zw_lEb (show s < l.length by omega)
      obtain ⟨i1, i2⟩ := ih (zw_lE l s)
      refine ⟨by omega, fun _ => Or.inl ?_⟩
      rcases i2 h1.2 with i2 | i2 <;> omega
/-- the factors' begins, in the starts -/
theorem zr_cuts4 {N : Nat} {fl : Nat → Int} {T : List Nat} (hN : 1000 ≤ N) (hT : zr_B T) : ∀ (c f m s : Nat) (h : zH) (a : Nat → Nat → Int), zr h fl a → zr_rw fl a T → c < f → c + s < T.length → T.length ≤ c + zw_lE T s → 1 ≤ m → m ≤ s + 1 → a 240 (m - 1) = (s : Int) → ∃ h' a', fM_cuts_4 N f 232 (Int32.ofInt (m : Int)) (Int32.ofInt ((T.length - c : Nat) : Int)) h = some (Int32.ofInt ((m + (zm_it T T.length (zw_lE T s)).length : Nat) : Int), h') ∧ zr h' fl a' ∧ zr_F h h' ∧ (∀ p i, p ≠ 240 → a' p i = a p i) ∧ (∀ j, j < m → a' 240 j = a 240 j) ∧ (∀ j, j < (zm_it T T.length (zw_lE T s)).length → a' 240 (m + j) = (((zm_it T T.length (zw_lE T s)).getD j (0, 0)).1 : Int)) ∧ a' 240 (m + (zm_it T T.length (zw_lE T s)).length) = (T.length : Int) := by
  obtain ⟨b1', b2'⟩ := hT
  intro c
  induction c with
  | zero =>
    intro f m s h a H r h1 h2 h3 h4 h5 h6
    obtain ⟨g, rfl⟩ : ∃ g, f = g + 1 := ⟨f - 1, by omega⟩
    obtain ⟨h7, e7, H7, F7⟩ := zr_p H 240 m (by decide) (by decide) (by show m < 130; omega) (T.length : Int)
    have le := zw_lEb (show s < T.length by omega)
    have en : zm_it T T.length (zw_lE T s) = [] := by
      cases hq : T.length with
      | zero => omega
      | succ q => rw [zm_it, if_pos (by omega)]
    rw [en]
    refine ⟨h7, _, ?_, H7, F7, fun p i hp => zr_vn a _ (Or.inl hp), fun j hj => zr_vn a _ (Or.inr (by omega)), fun j hj => absurd hj (Nat.not_lt_zero j), zr_vs a 240 m _⟩
    rw [fM_cuts_4, zr_i H 14 rfl, b1_s, r.1, zqo_ge _ _ (by omega) (by omega), decide_eq_true (by omega), cond_true, zr_r9 H, b1_s, b1_s]
    show b1 (fAS h 240 (zr_t 240) (Int32.ofInt (m : Int)) (.int (Int32.ofInt (T.length : Int)))) _ = _
    rw [e7, b1_s]
    rfl
  | succ c ih =>
    intro f m s h a H r h1 h2 h3 h4 h5 h6
    obtain ⟨g, rfl⟩ : ∃ g, f = g + 1 := ⟨f - 1, by omega⟩
    have le := zw_lEb (show s < T.length by omega)
    obtain ⟨p, p1, p2, i, p3⟩ := zm_lE (show s < T.length by omega)
    have st : fAI h 240 100 (Int32.ofInt ((m - 1 : Nat) : Int)) = some (Int32.ofInt (s : Int)) := by
      rw [← h6]
      exact zr_st H (m - 1) (by omega)
    rw [fM_cuts_4, zr_i H 14 rfl, b1_s, r.1, zqo_ge _ _ (by omega) (by omega), decide_eq_false (by omega), cond_false, zqo_eq _ _ (by omega) (by decide), decide_eq_false (by omega), cond_false, zr_r9 H, b1_s, zw_sub, show (m : Int) - 1 = ((m - 1 : Nat) : Int) by omega, st, b1_s, zr_less hN H r ⟨b1', b2'⟩ (show s < T.length - (c + 1) by omega) (by omega), b2]
    by_cases e1 : T.length - (c + 1) = zw_lE T s
    · have e2 : zw_cmp (zw_p T (T.length - (c + 1)) T.length) (zw_p T s T.length) = -1 := by
        rw [e1, p1]
        exact zm_next p2.1 p3 (by omega)
      rw [decide_eq_true e2, cond_true, show z_cmp .eq (Int32.ofInt 1) (Int32.ofInt 0) = false from rfl, cond_false]
      unfold fM_cuts_32 fM_cuts_42
      obtain ⟨h7, e7, H7, F7⟩ := zr_p H 240 m (by decide) (by decide) (by show m < 130; omega) ((T.length - (c + 1) : Nat) : Int)
      have le2 := zw_lEb (show T.length - (c + 1) < T.length by omega)
      obtain ⟨h8, a8, e8, H8, F8, q8, r8, s8, t8⟩ := ih g (m + 1) (T.length - (c + 1)) h7 _ H7 ⟨r.1, fun i hi => r.2 i hi⟩ (by omega) (by omega) (by omega) (by omega) (by omega) (zr_vs a 240 m _)
      have ez : zm_it T T.length (zw_lE T s) = (T.length - (c + 1), zw_lE T (T.length - (c + 1))) :: zm_it T T.length (zw_lE T (T.length - (c + 1))) := by
        rw [← e1, zm_itf T.length _ (by omega) (T.length + 1) (by omega), zm_it, if_neg (by omega)]
      rw [ez]
      refine ⟨h8, a8, ?_, H8, zr_Ft F7 F8, fun p i hp => (q8 p i hp).trans (zr_vn a _ (Or.inl hp)), fun j hj => (r8 j (by omega)).trans (zr_vn a _ (Or.inr (by omega))), ?_, ?_⟩
      · rw [zr_r9 H, b1_s]
        show b1 (fAS h 240 (zr_t 240) (Int32.ofInt (m : Int)) (.int (Int32.ofInt ((T.length - (c + 1) : Nat) : Int)))) _ = _
        rw [e7, b1_s, zh_inc, zh_inc, show T.length - (c + 1) + 1 = T.length - c by omega, e8, List.length_cons]
        congr 4
        omega
      · intro j hj
        cases j with
        | zero =>
          rw [Nat.add_zero, r8 m (by omega), zr_vs]
          rfl
        | succ j =>
          rw [List.length_cons] at hj
          have := s8 j (by omega)
          rw [show m + (j + 1) = m + 1 + j by omega, this]
          rfl
      · rw [List.length_cons, show m + ((zm_it T T.length (zw_lE T (T.length - (c + 1)))).length + 1) = m + 1 + (zm_it T T.length (zw_lE T (T.length - (c + 1)))).length by omega]
        exact t8
    · have e2 : zw_cmp (zw_p T (T.length - (c + 1)) T.length) (zw_p T s T.length) = 1 := by
        have := zm_big p2 (show 0 < T.length - (c + 1) - s by omega) (by omega) (show s + p ≤ T.length from p2.2.1) (Nat.le_refl _)
        rw [show s + (T.length - (c + 1) - s) = T.length - (c + 1) by omega] at this
        exact this
      rw [decide_eq_false (by rw [e2]; decide), cond_false, show z_cmp .eq (Int32.ofInt 0) (Int32.ofInt 0) = true from rfl, cond_true]
      unfold fM_cuts_42
      rw [zh_inc, show T.length - (c + 1) + 1 = T.length - c by omega]
      exact ih g m s h a H r (by omega) (by omega) (by omega) h4 h5 h6
end
section
/-! THE REFERENCE: factors; the row into the text; before, past. -/
/-- the starts hold the factors' begins and the word's end -/
def zr_fs (a : Nat → Nat → Int) (T : List Nat) : Prop := (∀ j, j < (zw_fs T).length → a 240 j = (((zw_fs T).getD j (0, 0)).1 : Int)) ∧ a 240 (zw_fs T).length = (T.length : Int)
section ZRF
variable {N : Nat} {h : zH} {fl : Nat → Int} {a : Nat → Nat → Int} {T : List Nat}
theorem zr_cuts (hN : 1000 ≤ N) (H : zr h fl a) (r : zr_rw fl a T) (hT : zr_B T) : ∃ h' a', fM_cuts N 232 h = some (Int32.ofInt (((zw_fs T).length : Nat) : Int), h') ∧ zr h' fl a' ∧ zr_F h h' ∧ (∀ p i, p ≠ 240 → a' p i = a p i) ∧ zr_fs a' T := by
  have b1' := hT.1
  unfold fM_cuts zr_fs
  rw [zr_T H, cond_true, zm_fs]
  obtain ⟨g, hg⟩ : ∃ g, N = g + 1 := ⟨N - 1, by omega⟩
  rw [show fM_cuts_4 N N = fM_cuts_4 N (g + 1) by rw [← hg], fM_cuts_4, zr_i H 14 rfl, b1_s, r.1, show (Int32.ofInt 0) = Int32.ofInt ((0 : Nat) : Int) from rfl, zqo_ge _ _ (by omega) (by omega)]
  by_cases e0 : T.length = 0
  · obtain ⟨h7, e7, H7, F7⟩ := zr_p H 240 0 (by decide) (by decide) (by decide) (T.length : Int)
    rw [decide_eq_true (by omega), cond_true, zr_r9 H, b1_s, b1_s]
    have en : zm_it T T.length 0 = [] := by rw [e0]; rfl
    rw [en]
    refine ⟨h7, _, ?_, H7, F7, fun p i hp => zr_vn a _ (Or.inl hp), fun j hj => absurd hj (Nat.not_lt_zero j), zr_vs a 240 0 _⟩
    show b1 (fAS h 240 (zr_t 240) (Int32.ofInt ((0 : Nat) : Int)) (.int (Int32.ofInt (T.length : Int)))) _ = _
    rw [e7, b1_s]
    rfl
  · rw [decide_eq_false (by omega), cond_false, show z_cmp .eq (Int32.ofInt ((0 : Nat) : Int)) (Int32.ofInt ((0 : Nat) : Int)) = true from rfl, cond_true]
    unfold fM_cuts_32 fM_cuts_42
    obtain ⟨h7, e7, H7, F7⟩ := zr_p H 240 0 (by decide) (by decide) (by decide) ((0 : Nat) : Int)
    have le2 := zw_lEb (show 0 < T.length by omega)
    obtain ⟨h8, a8, e8, H8, F8, q8, r8, s8, t8⟩ := zr_cuts4 (N := N) hN hT (T.length - 1) g 1 0 h7 _ H7 ⟨r.1, fun i hi => r.2 i hi⟩ (by omega) (by omega) (by omega) (by omega) (by omega) (zr_vs a 240 0 _)
    have ez : zm_it T T.length 0 = (0, zw_lE T 0) :: zm_it T T.length (zw_lE T 0) := by
      rw [zm_itf T.length 0 (by omega) (T.length + 1) (by omega), zm_it, if_neg (by omega)]
    rw [ez]
    refine ⟨h8, a8, ?_, H8, zr_Ft F7 F8, fun p i hp => (q8 p i hp).trans (zr_vn a _ (Or.inl hp)), ?_, ?_⟩
    · rw [zr_r9 H, b1_s]
      show b1 (fAS h 240 (zr_t 240) (Int32.ofInt ((0 : Nat) : Int)) (.int (Int32.ofInt ((0 : Nat) : Int)))) _ = _
      rw [e7, b1_s, zh_inc]
      rw [show T.length - (T.length - 1) = 0 + 1 by omega] at e8
      rw [show (0 : Nat) + 1 = 1 from rfl] at e8 ⊢
      rw [e8, List.length_cons]
      congr 4
      omega
    · intro j hj
      cases j with
      | zero =>
        rw [r8 0 (by omega), zr_vs]
        rfl
      | succ j =>
        rw [List.length_cons] at hj
        have := s8 j (by omega)
        rw [show j + 1 = 1 + j by omega, this, show 1 + j = j + 1 by omega]
        rfl
    · rw [List.length_cons, show (zm_it T T.length (zw_lE T 0)).length + 1 = 1 + (zm_it T T.length (zw_lE T 0)).length by omega]
      exact t8
theorem zr_factors (hN : 1000 ≤ N) (H : zr h fl a) (t : zr_tx a T) (hT : zr_B T) (h120 : T.length ≤ 120) : ∃ h' fl' a', fM_factors N 232 h = some (Int32.ofInt (((zw_fs T).length : Nat) : Int), h') ∧ zr h' fl' a' ∧ zr_F h h' ∧ zr_Q fl a fl' a' ∧ zr_rw fl' a' T ∧ zr_fs a' T := by
  obtain ⟨h1, fl1, a1, e1, H1, F1, Q1, r1⟩ := zr_loads hN H t h120
  obtain ⟨h2, a2, e2, H2, F2, p2, s2⟩ := zr_cuts hN H1 r1 hT
  refine ⟨h2, fl1, a2, ?_, H2, zr_Ft F1 F2, ⟨Q1.1, fun p i h3 h4 => (p2 p i h4).trans (Q1.2 p i h3 h4)⟩, ⟨r1.1, fun i hi => (p2 239 i (by decide)).trans (r1.2 i hi)⟩, s2⟩
  unfold fM_factors
  rw [zr_T H, cond_true, e1, b2, e2, b2]
/-- the row becomes the text -/
theorem zr_takes12 (hL : T.length ≤ 120) {fl : Nat → Int} (h14 : fl 14 = (T.length : Int)) : ∀ (c f i : Nat) (h : zH) (a : Nat → Nat → Int), zr h fl a → (∀ j, j < T.length → a 239 j = (T.getD j 0 : Int) - 97) → i + c = 120 → c < f → (∀ j, j < i → j < T.length → a 233 (3 + j) = (T.getD j 0 : Int) - 97) → ∃ h' a', fM_takes_12 N f 232 (Int32.ofInt (i : Int)) h = some (Int32.ofInt (T.length : Int), h') ∧ zr h' fl a' ∧ zr_F h h' ∧ (∀ p j, (p ≠ 233 ∨ j < 3 ∨ 123 ≤ j) → a' p j = a p j) ∧ ∀ j, j < T.length → a' 233 (3 + j) = (T.getD j 0 : Int) - 97 := by
  intro c
  induction c with
  | zero =>
    intro f i h a H r h1 h2 h3
    obtain ⟨g, rfl⟩ : ∃ g, f = g + 1 := ⟨f - 1, by omega⟩
    refine ⟨h, a, ?_, H, zr_Fr h, fun _ _ _ => rfl, fun j hj => h3 j (by omega) hj⟩
    rw [fM_takes_12, zqo_ge _ _ (by omega) (by decide), decide_eq_true (by omega), cond_true, zr_i H 14 rfl, b1_s, h14]
  | succ c ih =>
    intro f i h a H r h1 h2 h3
    obtain ⟨g, rfl⟩ : ∃ g, f = g + 1 := ⟨f - 1, by omega⟩
    have step : ∀ x : Int, (i < T.length → x = (T.getD i 0 : Int) - 97) → ∃ h' a', fM_takes_43 N (fM_takes_12 N g) 232 (Int32.ofInt (i : Int)) (Int32.ofInt x) (Int32.ofInt ((3 + i : Nat) : Int)) 233 h = some (Int32.ofInt (T.length : Int), h') ∧ zr h' fl a' ∧ zr_F h h' ∧ (∀ p j, (p ≠ 233 ∨ j < 3 ∨ 123 ≤ j) → a' p j = a p j) ∧ ∀ j, j < T.length → a' 233 (3 + j) = (T.getD j 0 : Int) - 97 := by
      intro x hx
      obtain ⟨h4, e4, H4, F4⟩ := zr_p H 233 (3 + i) (by decide) (by decide) (by show 3 + i < 451; omega) x
      obtain ⟨h5, a5, e5, H5, F5, p5, r5⟩ := ih g (i + 1) h4 _ H4 (fun j hj => r j hj) (by omega) (by omega) (fun j j1 j2 => by
        by_cases e : j = i
        · subst e
          rw [zr_vs]
          exact hx j2
        · rw [zr_vn a _ (Or.inr (by omega))]
          exact h3 j (by omega) j2)
      refine ⟨h5, a5, ?_, H5, zr_Ft F4 F5, fun p j hp => (p5 p j hp).trans (zr_vn a _ (by omega)), r5⟩
      unfold fM_takes_43
      show b1 (fAS h 233 (zr_t 233) (Int32.ofInt ((3 + i : Nat) : Int)) (.int (Int32.ofInt x))) _ = _
      rw [e4, b1_s, zh_inc]
      exact e5
    rw [fM_takes_12, zqo_ge _ _ (by omega) (by decide), decide_eq_false (by omega), cond_false, zr_r0 H, b1_s, zr_i H 14 rfl, b1_s, h14, zqo_ge _ _ (by omega) (by omega), zw_add, show (3 : Int) + (i : Int) = ((3 + i : Nat) : Int) by omega]
    by_cases e1 : T.length ≤ i
    · rw [decide_eq_true (by omega), cond_true]
      exact step 0 (fun x => by omega)
    · rw [decide_eq_false (by omega), cond_false, zr_r8 H, b1_s, zr_row H i (by omega), b1_s]
      exact step (a 239 i) (fun x => r i x)
theorem zr_takes (hN : 1000 ≤ N) (H : zr h fl a) (r : zr_rw fl a T) (hL : T.length ≤ 120) : ∃ h' a', fM_takes N 232 h = some (Int32.ofInt (T.length : Int), h') ∧ zr h' fl a' ∧ zr_F h h' ∧ (∀ p j, (p ≠ 233 ∨ (j ≠ 1 ∧ (j < 3 ∨ 123 ≤ j))) → a' p j = a p j) ∧ zr_tx a' T := by
  obtain ⟨h1, e1, H1, F1⟩ := zr_p H 233 1 (by decide) (by decide) (by decide) (T.length : Int)
  obtain ⟨h2, a2, e2, H2, F2, p2, r2⟩ := zr_takes12 (N := N) hL r.1 120 N 0 h1 _ H1 (fun j hj => r.2 j hj) (by omega) (by omega) (fun j j1 j2 => absurd j1 (Nat.not_lt_zero j))
  refine ⟨h2, a2, ?_, H2, zr_Ft F1 F2, fun p j hp => (p2 p j (by omega)).trans (zr_vn a _ (by omega)), ?_, r2⟩
  · unfold fM_takes
    rw [zr_T H, cond_true, zr_r0 H, b1_s, zr_i H 14 rfl, b1_s, r.1]
    show b1 (fAS h 233 (zr_t 233) (Int32.ofInt ((1 : Nat) : Int)) (.int (Int32.ofInt (T.length : Int)))) _ = _
    rw [e1, b1_s]
    exact e2
  · rw [p2 233 1 (by omega), zr_vs]
/-- w is copied into another row -/
theorem zr_begins2 : ∀ (c f i : Nat) (h : zH) (a : Nat → Nat → Int), zr h fl a → i + c = 451 → c < f → (∀ j, j < i → a 234 j = a 233 j) → ∃ h' a', fM_begins_2 N f 232 (Int32.ofInt (i : Int)) h = some ((), h') ∧ zr h' fl a' ∧ zr_F h h' ∧ (∀ p j, p ≠ 234 → a' p j = a p j) ∧ ∀ j, j < 451 → a' 234 j = a 233 j := by
  intro c
  induction c with
  | zero =>
    intro f i h a H h1 h2 h3
    obtain ⟨g, rfl⟩ : ∃ g, f = g + 1 := ⟨f - 1, by omega⟩
    refine ⟨h, a, ?_, H, zr_Fr h, fun _ _ _ => rfl, fun j hj => h3 j (by omega)⟩
    rw [fM_begins_2, zqo_ge _ _ (by omega) (by decide), decide_eq_true (by omega), cond_true]
  | succ c ih =>
    intro f i h a H h1 h2 h3
    obtain ⟨g, rfl⟩ : ∃ g, f = g + 1 := ⟨f - 1, by omega⟩
    obtain ⟨h4, e4, H4, F4⟩ := zr_p H 234 i (by decide) (by decide) (by show i < 451; omega) (a 233 i)
    obtain ⟨h5, a5, e5, H5, F5, p5, r5⟩ := ih g (i + 1) h4 _ H4 (by omega) (by omega) (fun j hj => by
      by_cases e : j = i
      · subst e
        rw [zr_vs]
        rfl
      · rw [zr_vn a _ (Or.inr e)]
        exact h3 j (by omega))
    refine ⟨h5, a5, ?_, H5, zr_Ft F4 F5, fun p j hp => (p5 p j hp).trans (zr_vn a _ (Or.inl hp)), r5⟩
    rw [fM_begins_2, zqo_ge _ _ (by omega) (by decide), decide_eq_false (by omega), cond_false, zr_r1 H, b1_s, zr_r0 H, b1_s, zr_w H i (by omega), b1_s]
    show b1 (fAS h 234 (zr_t 234) (Int32.ofInt (i : Int)) (.int (Int32.ofInt (a 233 i)))) _ = _
    rw [e4, b1_s, zh_inc]
    exact e5
theorem zr_begins (hN : 1000 ≤ N) (H : zr h fl a) : ∃ h' a', fM_begins N 232 h = some ((), h') ∧ zr h' fl a' ∧ zr_F h h' ∧ (∀ p j, p ≠ 234 → a' p j = a p j) ∧ ∀ j, j < 451 → a' 234 j = a 233 j := by
  obtain ⟨h1, a1, e1, H1, F1, p1, r1⟩ := zr_begins2 (N := N) 451 N 0 h a H (by omega) (by omega) (fun j hj => absurd hj (Nat.not_lt_zero j))
  refine ⟨h1, a1, ?_, H1, F1, p1, r1⟩
  unfold fM_begins
  rw [zr_T H, cond_true]
  exact e1
end ZRF
end
section
/-! THE REFERENCE AS IT IS SEEN. -/
/-- a row of numbers holds a state -/
def zy_is (g : Nat → Int) (A : zA) : Prop := g 0 = (A.1 : Int) ∧ g 1 = (A.2.1.length : Int) ∧ (∀ i, i < A.2.1.length → g (3 + i) = (A.2.1.getD i 0 : Int) - 97) ∧ g 2 = (A.2.2.length : Int) ∧ ∀ k, k < A.2.2.length → g (123 + k) = ((A.2.2.getD k []).length : Int) ∧ ∀ i, i < (A.2.2.getD k []).length → g (131 + 40 * k + i) = ((A.2.2.getD k []).getD i 0 : Int) - 97
/-- what the reference's numbers and arrays say -/
def zyR (fl : Nat → Int) (a : Nat → Nat → Int) (now : zA) (hist : List zA) (snap : zA) (sv : Int) (inp : List Nat) (rep : zvP) (t : Int) : Prop := zy_is (a 233) now ∧ fl 4 = (hist.length : Int) ∧ (∀ (i : Nat) (A : zA), hist[i]? = some A → zy_is (fun j => a 235 (451 * i + j)) A) ∧ fl 5 = sv ∧ (sv = 1 → zy_is (a 236) snap) ∧ (fl 10 = (inp.length : Int) ∧ ∀ i, i < inp.length → a 237 i = (inp.getD i 0 : Int)) ∧ ((fl 16 = (rep.1.length : Int) ∧ fl 12 = rep.2.1 ∧ fl 13 = rep.2.2) ∧ ∀ i, i < rep.1.length → a 241 i = (rep.1.getD i 0 : Int)) ∧ fl 17 = t
def zy (h : zH) (now : zA) (hist : List zA) (snap : zA) (sv : Int) (inp : List Nat) (rep : zvP) (t : Int) : Prop := ∃ fl a, zr h fl a ∧ zyR fl a now hist snap sv inp rep t
/-- the same, and what was before is laid by -/
def zyp (h : zH) (bef now : zA) (hist : List zA) (snap : zA) (sv : Int) (inp : List Nat) (rep : zvP) (t : Int) : Prop := ∃ fl a, zr h fl a ∧ zyR fl a now hist snap sv inp rep t ∧ zy_is (a 234) bef
theorem zy_isC {g g' : Nat → Int} {A : zA} (ok : zv_ok A) (h : zy_is g A) (e : ∀ j, j < 451 → g' j = g j) : zy_is g' A := by
  obtain ⟨h1, h2, h3, h4, h5⟩ := h
  have o2 := ok.2.1
  have o4 := ok.2.2.2.1
  refine ⟨(e 0 (by decide)).trans h1, (e 1 (by decide)).trans h2, fun i hi => (e _ (by omega)).trans (h3 i hi), (e 2 (by decide)).trans h4, fun k hk => ?_⟩
  have hw : A.2.2.getD k [] ∈ A.2.2 := by
    rw [List.getD_eq_getElem?_getD, List.getElem?_eq_getElem hk]
    exact List.getElem_mem hk
  have o5 := (ok.2.2.2.2 _ hw).2.1
  exact ⟨(e _ (by omega)).trans (h5 k hk).1, fun i hi => (e _ (by omega)).trans ((h5 k hk).2 i hi)⟩
theorem zr_frame {h h' : zH} {fl : Nat → Int} {a : Nat → Nat → Int} (H : zr h fl a) (f : ∀ p, 232 ≤ p → p ≤ 242 → h'[p]? = h[p]?) : zr h' fl a := by
  refine ⟨(f 232 (by decide) (by decide)).trans H.1, fun p h1 h2 => ?_⟩
  obtain ⟨R, r1, r2⟩ := H.2 p h1 h2
  exact ⟨R, (f p (by omega) h2).trans r1, r2⟩
/-- the class's cells have changed -/
theorem zy_frame {h h' : zH} {now snap : zA} {hist : List zA} {sv t : Int} {inp : List Nat} {rep : zvP} (Y : zy h now hist snap sv inp rep t) (f : zc_F h h') : zy h' now hist snap sv inp rep t := by
  obtain ⟨fl, a, H, r⟩ := Y
  exact ⟨fl, a, zr_frame H (fun p h1 h2 => f.2 p h1), r⟩
theorem zw_frame {h h' : zH} {q n : Nat} {l : List Nat} (H : zw_W h q n l) (f : h'[q]? = h[q]?) (f2 : h'[q + 1]? = h[q + 1]?) : zw_W h' q n l := by
  obtain ⟨a1, a2, ⟨R, a3, a4⟩, a5⟩ := H
  exact ⟨a1, f.trans a2, ⟨R, f2.trans a3, a4⟩, a5⟩
/-- the reference's cells have changed -/
theorem zv_frame {h h' : zH} {now snap : zA} {hist : List zA} {sv : Int} {inp : List Nat} {rep : zvP} (V : zv h now hist snap sv inp rep) (f : ∀ p, p < 232 → h'[p]? = h[p]?) : zv h' now hist snap sv inp rep := by
  obtain ⟨sL, sT, sS, sK, wd, nu, hs, ⟨c1, c2, c3, c4, c5, c6, c7, c8, c9⟩, v⟩ := V
  refine ⟨sL, sT, sS, sK, wd, nu, hs, ⟨(f _ (by decide)).trans c1, (f _ (by decide)).trans c2, (f _ (by decide)).trans c3, (f _ (by decide)).trans c4, (f _ (by decide)).trans c5, (f _ (by decide)).trans c6, ?_, ?_, c9⟩, v⟩
  · intro q hq
    have b := zc_Qb hq
    obtain ⟨a1, a2, a3, a4, a5, a6⟩ := c7 q hq
    exact ⟨a1, (f q (by omega)).trans a2, (f (q + 3) (by omega)).trans a3, zw_frame a4 (f _ (by omega)) (f _ (by omega)), fun i hi => zw_frame (a5 i hi) (f _ (by omega)) (f _ (by omega)), a6⟩
  · intro o n ho
    have b : o = 204 ∨ o = 228 ∨ o = 230 := by rcases ho with ⟨ho, _⟩ | ⟨ho, _⟩ | ⟨ho, _⟩ <;> omega
    exact zw_frame (c8 o n ho) (f _ (by omega)) (f _ (by omega))
theorem zh_mul (a i c : Nat) : Int32.ofInt (a : Int) * Int32.ofInt (c : Int) + Int32.ofInt (i : Int) = Int32.ofInt ((a * c + i : Nat) : Int) := by
  rw [← Int32.ofInt_mul, ← Int32.ofInt_add]
  congr 1
section ZRV
variable {N : Nat}
theorem zr_rem54 {r : Int32} {c0 : Nat} (hc : c0 < 8) {fl : Nat → Int} (h4 : fl 4 = (c0 : Int)) : ∀ (c f i : Nat) (h : zH) (a : Nat → Nat → Int), zr h fl a → i + c = 451 → c < f → (∀ j, j < i → a 235 (451 * c0 + j) = a 234 j) → ∃ h' a', fM_remember_54 N f 232 r (Int32.ofInt (i : Int)) h = some (r, h') ∧ zr h' (zr_u fl 4 ((c0 : Int) + 1)) a' ∧ zr_F h h' ∧ (∀ p j, (p ≠ 235 ∨ j < 451 * c0 ∨ 451 * c0 + 451 ≤ j) → a' p j = a p j) ∧ ∀ j, j < 451 → a' 235 (451 * c0 + j) = a 234 j := by
  intro c
  induction c with
  | zero =>
    intro f i h a H h1 h2 h3
    obtain ⟨g, rfl⟩ : ∃ g, f = g + 1 := ⟨f - 1, by omega⟩
    obtain ⟨h5, e5, H5, F5⟩ := zr_s H 4 rfl ((c0 : Int) + 1)
    refine ⟨h5, a, ?_, H5, F5, fun _ _ _ => rfl, fun j hj => h3 j (by omega)⟩
    rw [fM_remember_54, zqo_ge _ _ (by omega) (by decide), decide_eq_true (by omega), cond_true, zr_i H 4 rfl, b1_s, h4, zw_add, e5, b1_s]
  | succ c ih =>
    intro f i h a H h1 h2 h3
    obtain ⟨g, rfl⟩ : ∃ g, f = g + 1 := ⟨f - 1, by omega⟩
    obtain ⟨h5, e5, H5, F5⟩ := zr_p H 235 (451 * c0 + i) (by decide) (by decide) (by show 451 * c0 + i < 3608; omega) (a 234 i)
    obtain ⟨h6, a6, e6, H6, F6, p6, r6⟩ := ih g (i + 1) h5 _ H5 (by omega) (by omega) (fun j hj => by
      by_cases e : j = i
      · subst e
        rw [zr_vs]
        rfl
      · rw [zr_vn a _ (Or.inr (by omega))]
        exact h3 j (by omega))
    refine ⟨h6, a6, ?_, H6, zr_Ft F5 F6, fun p j hp => (p6 p j hp).trans (zr_vn a _ (by omega)), r6⟩
    have g1 := zr_g H 234 i (by decide) (by decide) (by show i < 451; omega)
    rw [fM_remember_54, zqo_ge _ _ (by omega) (by decide), decide_eq_false (by omega), cond_false, zr_r2 H, b1_s, zr_i H 4 rfl, b1_s, h4, zr_r1 H, b1_s]
    show b1 (fAI h 234 (zr_t 234) (Int32.ofInt (i : Int))) _ = _
    rw [g1, b1_s, show Int32.ofInt 451 * Int32.ofInt (c0 : Int) + Int32.ofInt (i : Int) = Int32.ofInt ((451 * c0 + i : Nat) : Int) from zh_mul 451 i c0]
    show b1 (fAS h 235 (zr_t 235) (Int32.ofInt ((451 * c0 + i : Nat) : Int)) (.int (Int32.ofInt (a 234 i)))) _ = _
    rw [e5, b1_s, zh_inc]
    exact e6
theorem zr_rem13 {r : Int32} (hN : 4000 ≤ N) {fl : Nat → Int} (h4 : fl 4 = 8) {a0 : Nat → Nat → Int} : ∀ (c f k : Nat) (h : zH) (a : Nat → Nat → Int), zr h fl a → k + c = 3608 → 451 ≤ k → c < f → (∀ j, j < 3608 → a 235 j = if j + 451 < k then a0 235 (j + 451) else a0 235 j) → (∀ p j, p ≠ 235 → a p j = a0 p j) → ∃ h' a', fM_remember_13 N f 232 r (Int32.ofInt (k : Int)) h = some (r, h') ∧ zr h' (zr_u fl 4 8) a' ∧ zr_F h h' ∧ (∀ p j, p ≠ 235 → a' p j = a0 p j) ∧ (∀ j, j < 3157 → a' 235 j = a0 235 (j + 451)) ∧ ∀ j, j < 451 → a' 235 (3157 + j) = a0 234 j := by
  intro c
  induction c with
  | zero =>
    intro f k h a H h1 h2 h3 h5 h6
    obtain ⟨g, rfl⟩ : ∃ g, f = g + 1 := ⟨f - 1, by omega⟩
    obtain ⟨h7, e7, H7, F7⟩ := zr_s H 4 rfl 7
    obtain ⟨h8, a8, e8, H8, F8, p8, r8⟩ := zr_rem54 (N := N) (r := r) (c0 := 7) (by omega) (fl := zr_u fl 4 7) rfl 451 N 0 h7 a H7 (by omega) (by omega) (fun j hj => absurd hj (Nat.not_lt_zero j))
    have eu : zr_u (zr_u fl 4 7) 4 (((7 : Nat) : Int) + 1) = zr_u fl 4 8 := by
      funext x
      unfold zr_u
      by_cases e : x = 4
      · rw [if_pos e, if_pos e]
        rfl
      · rw [if_neg e, if_neg e, if_neg e]
    rw [eu] at H8
    refine ⟨h8, a8, ?_, H8, zr_Ft F7 F8, fun p j hp => (p8 p j (Or.inl hp)).trans (h6 p j hp), fun j hj => ?_, fun j hj => ?_⟩
    · rw [fM_remember_13, zqo_ge _ _ (by omega) (by decide), decide_eq_true (by omega), cond_true, zr_i H 4 rfl, b1_s, h4, zw_sub, show (8 : Int) - 1 = 7 by decide, e7, b1_s]
      exact e8
    · rw [p8 235 j (by omega), h5 j (by omega), if_pos (by omega)]
    · have := r8 j hj
      rw [show 451 * 7 + j = 3157 + j by omega] at this
      rw [this, h6 234 j (by decide)]
  | succ c ih =>
    intro f k h a H h1 h2 h3 h5 h6
    obtain ⟨g, rfl⟩ : ∃ g, f = g + 1 := ⟨f - 1, by omega⟩
    have g1 := zr_g H 235 k (by decide) (by decide) (by show k < 3608; omega)
    obtain ⟨h7, e7, H7, F7⟩ := zr_p H 235 (k - 451) (by decide) (by decide) (by show k - 451 < 3608; omega) (a 235 k)
    obtain ⟨h8, a8, e8, H8, F8, p8, q8, r8⟩ := ih g (k + 1) h7 _ H7 (by omega) (by omega) (by omega) (fun j hj => by
      by_cases e : j = k - 451
      · rw [e, zr_vs, if_pos (by omega), h5 k (by omega), if_neg (by omega), show k - 451 + 451 = k by omega]
      · rw [zr_vn a _ (Or.inr e), h5 j hj]
        by_cases e2 : j + 451 < k
        · rw [if_pos e2, if_pos (by omega)]
        · rw [if_neg e2, if_neg (by omega)]) (fun p j hp => (zr_vn a _ (Or.inl hp)).trans (h6 p j hp))
    refine ⟨h8, a8, ?_, H8, zr_Ft F7 F8, p8, q8, r8⟩
    rw [fM_remember_13, zqo_ge _ _ (by omega) (by decide), decide_eq_false (by omega), cond_false, zr_r2 H, b1_s, b1_s]
    show b1 (fAI h 235 (zr_t 235) (Int32.ofInt (k : Int))) _ = _
    rw [g1, b1_s, zw_sub, show (k : Int) - 451 = ((k - 451 : Nat) : Int) by omega]
    show b1 (fAS h 235 (zr_t 235) (Int32.ofInt ((k - 451 : Nat) : Int)) (.int (Int32.ofInt (a 235 k)))) _ = _
    rw [e7, b1_s, zh_inc]
    exact e8
end ZRV
end
section
/-! THE REFERENCE'S CHANGES, as they are seen. -/
theorem zy_isT {g g' : Nat → Int} {A : zA} {T : List Nat} (h : zy_is g A) (h1 : g' 1 = (T.length : Int)) (h2 : ∀ i, i < T.length → g' (3 + i) = (T.getD i 0 : Int) - 97) (e : ∀ j, j ≠ 1 → (j < 3 ∨ 123 ≤ j) → g' j = g j) : zy_is g' (A.1, T, A.2.2) := by
  obtain ⟨a1, a2, a3, a4, a5⟩ := h
  exact ⟨(e 0 (by decide) (by decide)).trans a1, h1, h2, (e 2 (by decide) (by decide)).trans a4, fun k hk => ⟨(e _ (by omega) (by omega)).trans (a5 k hk).1, fun i hi => (e _ (by omega) (by omega)).trans ((a5 k hk).2 i hi)⟩⟩
section ZYC
variable {N : Nat} {h : zH} {fl fl' : Nat → Int} {a a' : Nat → Nat → Int} {bef now snap : zA} {hist : List zA} {sv t : Int} {inp : List Nat} {rep : zvP}
theorem zyR_a (R : zyR fl a now hist snap sv inp rep t) (f : ∀ k, k = 4 ∨ k = 5 ∨ k = 10 ∨ k = 12 ∨ k = 13 ∨ k = 16 ∨ k = 17 → fl' k = fl k) (g : ∀ p i, p = 235 ∨ p = 236 ∨ p = 237 ∨ p = 241 → a' p i = a p i) {now' : zA} (n : zy_is (a' 233) now') : zyR fl' a' now' hist snap sv inp rep t := by
  obtain ⟨r1, r2, r3, r4, r5, r6, r7, r8⟩ := R
  have g5 : a' 235 = a 235 := funext fun i => g 235 i (by decide)
  have g6 : a' 236 = a 236 := funext fun i => g 236 i (by decide)
  have g7 : a' 237 = a 237 := funext fun i => g 237 i (by decide)
  have g8 : a' 241 = a 241 := funext fun i => g 241 i (by decide)
  refine ⟨n, (f 4 (by decide)).trans r2, ?_, (f 5 (by decide)).trans r4, ?_, ⟨(f 10 (by decide)).trans r6.1, ?_⟩, ⟨⟨(f 16 (by decide)).trans r7.1.1, (f 12 (by decide)).trans r7.1.2.1, (f 13 (by decide)).trans r7.1.2.2⟩, ?_⟩, (f 17 (by decide)).trans r8⟩
  · rw [g5]
    exact r3
  · rw [g6]
    exact r5
  · rw [g7]
    exact r6.2
  · rw [g8]
    exact r7.2
theorem zyR_Q (R : zyR fl a now hist snap sv inp rep t) (q : zr_Q fl a fl' a') : zyR fl' a' now hist snap sv inp rep t := by
  refine zyR_a R (fun k hk => q.1 k (by omega)) (fun p i hp => q.2 p i (by omega) (by omega)) ?_
  rw [show a' 233 = a 233 from funext fun i => q.2 233 i (by decide) (by decide)]
  exact R.1
theorem zyR_t (R : zyR fl a now hist snap sv inp rep t) (x : Int) : zyR (zr_u fl 17 x) a now hist snap sv inp rep x := ⟨R.1, R.2.1, R.2.2.1, R.2.2.2.1, R.2.2.2.2.1, R.2.2.2.2.2.1, R.2.2.2.2.2.2.1, rfl⟩
theorem zyR_tx (R : zyR fl a now hist snap sv inp rep t) : zr_tx a now.2.1 := ⟨R.1.2.1, R.1.2.2.1⟩
theorem zy_throw (Y : zy h now hist snap sv inp rep t) (x : Int) : ∃ h', fS h 232 5 17 (.int (Int32.ofInt x)) = some h' ∧ zy h' now hist snap sv inp rep x ∧ zr_F h h' := by
  obtain ⟨fl, a, H, R⟩ := Y
  obtain ⟨h1, e1, H1, F1⟩ := zr_s H 17 rfl x
  exact ⟨h1, e1, ⟨_, _, H1, zyR_t R x⟩, F1⟩
theorem zy_begins (hN : 1000 ≤ N) (Y : zy h now hist snap sv inp rep t) (ok : zv_ok now) : ∃ h', fM_begins N 232 h = some ((), h') ∧ zyp h' now now hist snap sv inp rep t ∧ zr_F h h' := by
  obtain ⟨fl, a, H, R⟩ := Y
  obtain ⟨h1, a1, e1, H1, F1, p1, q1⟩ := zr_begins hN H
  have r1 := zy_isC ok R.1 (g' := a1 233) (fun j _ => p1 233 j (by decide))
  exact ⟨h1, e1, ⟨fl, a1, H1, zyR_a R (fun _ _ => rfl) (fun p i hp => p1 p i (by omega)) r1, zy_isC ok R.1 q1⟩, F1⟩
theorem zyR_h {hist' : List zA} (R : zyR fl a now hist snap sv inp rep t) (f : ∀ k, k ≠ 4 → fl' k = fl k) (g : ∀ p i, p ≠ 235 → a' p i = a p i) (f4 : fl' 4 = (hist'.length : Int)) (rows : ∀ (i : Nat) (A : zA), hist'[i]? = some A → zy_is (fun j => a' 235 (451 * i + j)) A) : zyR fl' a' now hist' snap sv inp rep t := by
  obtain ⟨r1, r2, r3, r4, r5, r6, r7, r8⟩ := R
  have g3 : a' 233 = a 233 := funext fun i => g 233 i (by decide)
  have g6 : a' 236 = a 236 := funext fun i => g 236 i (by decide)
  have g7 : a' 237 = a 237 := funext fun i => g 237 i (by decide)
  have g8 : a' 241 = a 241 := funext fun i => g 241 i (by decide)
  refine ⟨?_, f4, rows, (f 5 (by decide)).trans r4, ?_, ⟨(f 10 (by decide)).trans r6.1, ?_⟩, ⟨⟨(f 16 (by decide)).trans r7.1.1, (f 12 (by decide)).trans r7.1.2.1, (f 13 (by decide)).trans r7.1.2.2⟩, ?_⟩, (f 17 (by decide)).trans r8⟩
  · rw [g3]
    exact r1
  · rw [g6]
    exact r5
  · rw [g7]
    exact r6.2
  · rw [g8]
    exact r7.2
theorem zy_remember (hN : 4000 ≤ N) (Y : zyp h bef now hist snap sv inp rep t) (okb : zv_ok bef) (okh : ∀ (i : Nat) (A : zA), hist[i]? = some A → zv_ok A) (h8 : hist.length ≤ 8) (r : Int32) : ∃ h', fM_remember N 232 r h = some (r, h') ∧ zy h' now (zv_push hist bef) snap sv inp rep t ∧ zr_F h h' := by
  obtain ⟨fl, a, H, R, B⟩ := Y
  have h4 := R.2.1
  unfold fM_remember
  rw [zr_T H, cond_true, zr_i H 4 rfl, b1_s, h4, zqo_ne _ _ (by omega) (by decide)]
  have pl := zv_pushl (A := bef) h8
  by_cases e : hist.length = 8
  · rw [decide_eq_true (by omega)]
    rw [e] at h4 pl
    obtain ⟨h1, a1, e1, H1, F1, p1, q1, s1⟩ := zr_rem13 (N := N) (r := r) hN h4 3157 N 451 h a H (by omega) (by omega) (by omega) (fun j hj => by
      by_cases e2 : j + 451 < 451
      · omega
      · rw [if_neg e2]) (fun _ _ _ => rfl)
    refine ⟨h1, e1, ⟨_, _, H1, zyR_h R (fun k hk => if_neg hk) p1 (by rw [pl]; rfl) ?_⟩, F1⟩
    intro i A hA
    unfold zv_push at hA
    rw [if_pos e] at hA
    have hl : hist.tail.length = 7 := by rw [List.length_tail, e]
    by_cases ei : i < 7
    · rw [List.getElem?_append_left (by omega), List.getElem?_tail] at hA
      refine zy_isC (okh _ _ hA) (R.2.2.1 _ _ hA) (fun j hj => ?_)
      show a1 235 (451 * i + j) = _
      rw [q1 _ (by omega), show 451 * i + j + 451 = 451 * (i + 1) + j by omega]
    · by_cases e7 : i = 7
      · subst e7
        rw [List.getElem?_append_right (by omega), hl] at hA
        have hA : some bef = some A := hA
        rw [← Option.some.inj hA]
        exact zy_isC okb B (fun j hj => s1 j hj)
      · rw [List.getElem?_eq_none (by rw [List.length_append, hl]; show 7 + 1 ≤ i; omega)] at hA
        exact absurd hA (by simp)
  · rw [decide_eq_false (by omega)]
    obtain ⟨h1, a1, e1, H1, F1, p1, q1⟩ := zr_rem54 (N := N) (r := r) (c0 := hist.length) (by omega) h4 451 N 0 h a H (by omega) (by omega) (fun j hj => absurd hj (Nat.not_lt_zero j))
    refine ⟨h1, e1, ⟨_, _, H1, zyR_h R (fun k hk => if_neg hk) (fun p i hp => p1 p i (Or.inl hp)) ?_ ?_⟩, F1⟩
    · rw [pl, show min hist.length 7 + 1 = hist.length + 1 by omega]
      rfl
    intro i A hA
    unfold zv_push at hA
    rw [if_neg e] at hA
    by_cases ei : i < hist.length
    · rw [List.getElem?_append_left ei] at hA
      refine zy_isC (okh _ _ hA) (R.2.2.1 _ _ hA) (fun j hj => ?_)
      exact p1 235 _ (Or.inr (Or.inl (by omega)))
    · by_cases e7 : i = hist.length
      · subst e7
        rw [List.getElem?_append_right (by omega), Nat.sub_self] at hA
        have hA : some bef = some A := hA
        rw [← Option.some.inj hA]
        exact zy_isC okb B (fun j hj => q1 j hj)
      · rw [List.getElem?_eq_none (by rw [List.length_append]; show hist.length + 1 ≤ i; omega)] at hA
        exact absurd hA (by simp)
/-- the row becomes the text -/
theorem zy_takes (hN : 1000 ≤ N) (H : zr h fl a) (R : zyR fl a now hist snap sv inp rep t) (B : zy_is (a 234) bef) {T : List Nat} (r : zr_rw fl a T) (hL : T.length ≤ 120) (hv : ∀ v ∈ T, v < 256) : ∃ h', (∃ h1, fM_takes N 232 h = some (Int32.ofInt (T.length : Int), h1) ∧ fM_factors N 232 h1 = some (Int32.ofInt ((zw_fs T).length : Int), h')) ∧ zyp h' bef (now.1, T, now.2.2) hist snap sv inp rep t ∧ zr_F h h' := by
  obtain ⟨h1, a1, e1, H1, F1, p1, t1⟩ := zr_takes hN H r hL
  obtain ⟨h2, f2, a2, e2, H2, F2, Q2, _, _⟩ := zr_factors hN H1 t1 ⟨by omega, hv⟩ hL
  have n1 : zy_is (a1 233) (now.1, T, now.2.2) := zy_isT R.1 t1.1 t1.2 (fun j h3 h4 => p1 233 j (Or.inr ⟨h3, h4⟩))
  have R1 := zyR_a (fl' := fl) (a' := a1) (now' := (now.1, T, now.2.2)) R (fun _ _ => rfl) (fun p i hp => p1 p i (Or.inl (by omega))) n1
  refine ⟨h2, ⟨h1, e1, e2⟩, ⟨f2, a2, H2, zyR_Q R1 Q2, ?_⟩, zr_Ft F1 F2⟩
  rw [show a2 234 = a 234 from funext fun i => (Q2.2 234 i (by decide) (by decide)).trans (p1 234 i (Or.inl (by decide)))]
  exact B
theorem zy_appends (hN : 1000 ≤ N) (Y : zyp h bef now hist snap sv inp rep t) (ok : zv_ok now) (hL : now.2.1.length < 120) (v : Nat) (hv : v < 256) : ∃ h', fM_appends N 232 (Int32.ofInt ((v : Int) - 97)) h = some (Int32.ofInt ((zw_fs (now.2.1 ++ [v])).length : Int), h') ∧ zyp h' bef (now.1, now.2.1 ++ [v], now.2.2) hist snap sv inp rep t ∧ zr_F h h' := by
  obtain ⟨fl, a, H, R, B⟩ := Y
  obtain ⟨h1, f1, a1, e1, H1, F1, Q1, r1⟩ := zr_loads hN H (zyR_tx R) (by omega)
  obtain ⟨h2, f2, a2, e2, H2, F2, Q2, r2⟩ := zr_adds (N := N) H1 r1 (by omega) v
  have Q := zr_Qt Q1 Q2
  have hl : (now.2.1 ++ [v]).length = now.2.1.length + 1 := List.length_append
  have o1 := ok.1.2
  obtain ⟨h3, ⟨h4, e4, e5⟩, Y3, F3⟩ := zy_takes hN H2 (zyR_Q R Q) (by rw [show a2 234 = a 234 from funext fun i => Q.2 234 i (by decide) (by decide)]; exact B) r2 (by omega) (fun u hu => by
    rw [List.mem_append, List.mem_singleton] at hu
    rcases hu with hu | hu
    · have := ok.2.2.1 u hu
      omega
    · omega)
  refine ⟨h3, ?_, Y3, zr_Ft F1 (zr_Ft F2 F3)⟩
  unfold fM_appends
  rw [zr_T H, cond_true, e1, b2, e2, b2, e4, b2, e5]
  rfl
end ZYC
end
section
/-! THE REFERENCE'S CHANGES OF THE TEXT. -/
theorem zr_nz {n : Nat} (h : 0 < n) (h2 : n < 2147483648) : Int32.ofInt (n : Int) ≠ Int32.ofInt 0 := by
  intro e
  have := congrArg Int32.toInt e
  rw [zqo_i _ (by omega), zqo_i _ (by decide)] at this
  omega
theorem zr_in (N : Nat) (x l u : Int) (hx : -2147483648 ≤ x ∧ x < 2147483648) (hl : -2147483648 ≤ l ∧ l < 2147483648) (hu : -2147483648 ≤ u ∧ u < 2147483648) (h : zH) : fM_in N (Int32.ofInt x) (Int32.ofInt l) (Int32.ofInt u) h = some (cond (decide (l ≤ x ∧ x ≤ u)) (Int32.ofInt 1) (Int32.ofInt 0), h) := by
  unfold fM_in
  rw [zqo_lt _ _ hx hl, zqo_gt _ _ hx hu]
  by_cases e : x < l
  · rw [decide_eq_true e, decide_eq_false (by omega : ¬ (l ≤ x ∧ x ≤ u))]
    rfl
  · rw [decide_eq_false e, cond_false]
    by_cases e2 : u < x
    · rw [decide_eq_true e2, decide_eq_false (by omega : ¬ (l ≤ x ∧ x ≤ u))]
      rfl
    · rw [decide_eq_false e2, decide_eq_true (by omega : l ≤ x ∧ x ≤ u)]
      rfl
theorem zm_clt {l : List Nat} (hv : ∀ v ∈ l, v < 256) (i : Nat) : zm_c l i < 256 := by
  unfold zm_c
  rw [List.getD_eq_getElem?_getD]
  cases e : l[i % l.length]? with
  | none => exact (by decide : (0 : Nat) < 256)
  | some v => exact hv v (List.mem_of_getElem? e)
section ZYD
variable {N : Nat} {h : zH} {fl fl' : Nat → Int} {a a' : Nat → Nat → Int} {bef now snap : zA} {hist : List zA} {sv t : Int} {inp : List Nat} {rep : zvP} {T : List Nat}
theorem zr_isLetter (H : zr h fl a) {g : Nat} (e : a 233 0 = (g : Int)) (hg : g ≤ 9) (x : Int) (hx : -2147483648 ≤ x ∧ x < 2147483648) : fM_isLetter N 232 (Int32.ofInt x) h = some (cond (decide (97 ≤ x ∧ x < 97 + (g : Int))) (Int32.ofInt 1) (Int32.ofInt 0), h) := by
  have g0 : fAI h 233 100 (Int32.ofInt 0) = some (Int32.ofInt (a 233 0)) := zr_w H 0 (by decide)
  unfold fM_isLetter
  rw [zr_T H, cond_true, zr_r0 H, b1_s, g0, b1_s, e, zw_add, zw_sub, zr_in N x _ _ hx (by decide) (by omega), b2]
  by_cases e2 : 97 ≤ x ∧ x < 97 + (g : Int)
  · rw [decide_eq_true e2, decide_eq_true (by omega : 97 ≤ x ∧ x ≤ 97 + (g : Int) - 1)]
    rfl
  · rw [decide_eq_false e2, decide_eq_false (by omega : ¬ (97 ≤ x ∧ x ≤ 97 + (g : Int) - 1))]
    rfl
theorem zy_one0 (Y : zy h now hist snap sv inp rep t) : ∃ h', fM_throwsOne N 232 (Int32.ofInt 0) h = some (Int32.ofInt 0, h') ∧ zy h' now hist snap sv inp rep 0 ∧ zr_F h h' := by
  obtain ⟨h1, e1, Y1, F1⟩ := zy_throw Y 0
  refine ⟨h1, ?_, Y1, F1⟩
  obtain ⟨fl, a, H, R⟩ := Y
  unfold fM_throwsOne
  rw [zr_T H, cond_true]
  show b1 (fS h 232 5 17 (.int (Int32.ofInt 0))) _ = _
  rw [e1]
  rfl
theorem zy_one1 (Y : zy h now hist snap sv inp rep t) : ∃ h', fM_throwsOne N 232 (Int32.ofInt 1) h = some (Int32.ofInt 1, h') ∧ zy h' now hist snap sv inp rep 1 ∧ zr_F h h' := by
  obtain ⟨h1, e1, Y1, F1⟩ := zy_throw Y 1
  refine ⟨h1, ?_, Y1, F1⟩
  obtain ⟨fl, a, H, R⟩ := Y
  unfold fM_throwsOne
  rw [zr_T H, cond_true]
  show b1 (fS h 232 5 17 (.int (Int32.ofInt 1))) _ = _
  rw [e1]
  rfl
theorem zy_two00 (Y : zy h now hist snap sv inp rep t) : ∃ h', fM_throwsOne2 N 232 (Int32.ofInt 0) (Int32.ofInt 0) h = some (Int32.ofInt 0, h') ∧ zy h' now hist snap sv inp rep 0 ∧ zr_F h h' := by
  obtain ⟨h1, e1, Y1, F1⟩ := zy_throw Y 0
  refine ⟨h1, ?_, Y1, F1⟩
  obtain ⟨fl, a, H, R⟩ := Y
  unfold fM_throwsOne2
  rw [zr_T H, cond_true]
  show b1 (fS h 232 5 17 (.int (Int32.ofInt 0))) _ = _
  rw [e1]
  rfl
theorem zy_two01 (Y : zy h now hist snap sv inp rep t) : ∃ h', fM_throwsOne2 N 232 (Int32.ofInt 0) (Int32.ofInt 1) h = some (Int32.ofInt 1, h') ∧ zy h' now hist snap sv inp rep 2 ∧ zr_F h h' := by
  obtain ⟨h1, e1, Y1, F1⟩ := zy_throw Y 2
  refine ⟨h1, ?_, Y1, F1⟩
  obtain ⟨fl, a, H, R⟩ := Y
  unfold fM_throwsOne2
  rw [zr_T H, cond_true]
  show b1 (fS h 232 5 17 (.int (Int32.ofInt 2))) _ = _
  rw [e1]
  rfl
theorem zy_two1 (Y : zy h now hist snap sv inp rep t) (x : Int32) : ∃ h', fM_throwsOne2 N 232 (Int32.ofInt 1) x h = some (Int32.ofInt 1, h') ∧ zy h' now hist snap sv inp rep 1 ∧ zr_F h h' := by
  obtain ⟨h1, e1, Y1, F1⟩ := zy_throw Y 1
  refine ⟨h1, ?_, Y1, F1⟩
  obtain ⟨fl, a, H, R⟩ := Y
  unfold fM_throwsOne2
  rw [zr_T H, cond_true]
  show b1 (fS h 232 5 17 (.int (Int32.ofInt 1))) _ = _
  rw [e1]
  rfl
theorem zr_tl {x : Nat} (l : List Nat) {i : Nat} (hi : i < x) : (l.take x).getD i 0 = l.getD i 0 := by
  rw [List.getD_eq_getElem?_getD, List.getElem?_take_of_lt hi, ← List.getD_eq_getElem?_getD]
theorem zy_drops (hN : 1000 ≤ N) (Y : zyp h bef now hist snap sv inp rep t) (ok : zv_ok now) (x : Nat) (hx : x ≤ now.2.1.length) : ∃ h', fM_drops N 232 (Int32.ofInt (x : Int)) h = some (Int32.ofInt ((zw_fs (now.2.1.take (now.2.1.length - x))).length : Int), h') ∧ zyp h' bef (now.1, now.2.1.take (now.2.1.length - x), now.2.2) hist snap sv inp rep t ∧ zr_F h h' := by
  obtain ⟨fl, a, H, R, B⟩ := Y
  have o2 := ok.2.1
  have o1 := ok.1.2
  obtain ⟨h1, f1, a1, e1, H1, F1, Q1, r1⟩ := zr_loads hN H (zyR_tx R) o2
  obtain ⟨h2, e2, H2, F2⟩ := zr_s H1 14 rfl ((now.2.1.length - x : Nat) : Int)
  have Q : zr_Q fl a (zr_u f1 14 ((now.2.1.length - x : Nat) : Int)) a1 := ⟨fun k hk => (if_neg hk).trans (Q1.1 k hk), Q1.2⟩
  have hl : (now.2.1.take (now.2.1.length - x)).length = now.2.1.length - x := by
    rw [List.length_take]
    omega
  obtain ⟨h3, ⟨h4, e4, e5⟩, Y3, F3⟩ := zy_takes hN H2 (zyR_Q R Q) (by rw [show a1 234 = a 234 from funext fun i => Q.2 234 i (by decide) (by decide)]; exact B) (T := now.2.1.take (now.2.1.length - x)) ⟨by rw [hl]; rfl, fun i hi => by
    rw [hl] at hi
    rw [zr_tl _ hi]
    exact r1.2 i (by omega)⟩ (by omega) (fun u hu => by
      have := ok.2.2.1 u (List.mem_of_mem_take hu)
      omega)
  refine ⟨h3, ?_, Y3, zr_Ft F1 (zr_Ft F2 F3)⟩
  unfold fM_drops
  rw [zr_T H, cond_true, e1, b2, zr_i H1 14 rfl, b1_s, r1.1, zw_sub, show (now.2.1.length : Int) - (x : Int) = ((now.2.1.length - x : Nat) : Int) by omega, e2, b1_s, e4, b2, e5]
  rfl
/-- two turns of the text -/
theorem zr_rotations2 (H : zr h fl a) (tx : zr_tx a T) (hT : T.length ≤ 120) (hv : ∀ v ∈ T, v < 256) {x y : Nat} (hx : x ≤ 1000) (hy : y ≤ 1000) : ∀ (c f i : Nat), i + c = T.length → c < f → fM_rotations_2 N f 232 (Int32.ofInt (x : Int)) (Int32.ofInt (y : Int)) (Int32.ofInt (i : Int)) h = some (Int32.ofInt (zm_ro T x y c), h) := by
  have g1 : fAI h 233 100 (Int32.ofInt 1) = some (Int32.ofInt (a 233 1)) := zr_w H 1 (by decide)
  intro c
  induction c with
  | zero =>
    intro f i h1 h2
    obtain ⟨g, rfl⟩ : ∃ g, f = g + 1 := ⟨f - 1, by omega⟩
    rw [fM_rotations_2, zr_r0 H, b1_s, g1, b1_s, tx.1, zqo_ge _ _ (by omega) (by omega), decide_eq_true (by omega), cond_true]
    rfl
  | succ c ih =>
    intro f i h1 h2
    obtain ⟨g, rfl⟩ : ∃ g, f = g + 1 := ⟨f - 1, by omega⟩
    have hn : 0 < T.length := by omega
    have m1 := Nat.mod_lt (i + x) hn
    have m2 := Nat.mod_lt (i + y) hn
    have k1 : fAI h 233 100 (Int32.ofInt (3 + (((i + x) % T.length : Nat) : Int))) = some (Int32.ofInt ((zm_c T (x + i) : Int) - 97)) := by
      rw [show 3 + (((i + x) % T.length : Nat) : Int) = ((3 + (i + x) % T.length : Nat) : Int) by omega, zr_w H _ (by omega), tx.2 _ m1, Nat.add_comm i x]
      rfl
    have k2 : fAI h 233 100 (Int32.ofInt (3 + (((i + y) % T.length : Nat) : Int))) = some (Int32.ofInt ((zm_c T (y + i) : Int) - 97)) := by
      rw [show 3 + (((i + y) % T.length : Nat) : Int) = ((3 + (i + y) % T.length : Nat) : Int) by omega, zr_w H _ (by omega), tx.2 _ m2, Nat.add_comm i y]
      rfl
    rw [fM_rotations_2, zr_r0 H, b1_s, g1, b1_s, tx.1, zqo_ge _ _ (by omega) (by omega), decide_eq_false (by omega), cond_false, b1_s, b1_s, g1, b1_s, tx.1, if_neg (zr_nz hn (by omega)), zw_add, show (i : Int) + (x : Int) = ((i + x : Nat) : Int) by omega, zw_modi _ _ (by omega) (by omega), zw_add, k1, b1_s, b1_s, b1_s, g1, b1_s, tx.1, if_neg (zr_nz hn (by omega)), zw_add, show (i : Int) + (y : Int) = ((i + y : Nat) : Int) by omega, zw_modi _ _ (by omega) (by omega), zw_add, k2, b1_s]
    have c1 := zm_clt hv (x + i)
    have c2 := zm_clt hv (y + i)
    rw [zw_sub, zqo_eq _ _ (by omega) (by decide), zm_ro, show T.length - (c + 1) = i by omega]
    by_cases e : zm_c T (x + i) = zm_c T (y + i)
    · rw [decide_eq_true (by omega), cond_true, if_pos e, zh_inc]
      exact ih g (i + 1) (by omega) (by omega)
    · rw [decide_eq_false (by omega), cond_false, if_neg e, show (zm_c T (x + i) : Int) - 97 - ((zm_c T (y + i) : Int) - 97) = (zm_c T (x + i) : Int) - (zm_c T (y + i) : Int) by omega]
theorem zr_rotations (hN : 1000 ≤ N) (H : zr h fl a) (tx : zr_tx a T) (hT : T.length ≤ 120) (hv : ∀ v ∈ T, v < 256) {x y : Nat} (hx : x ≤ 1000) (hy : y ≤ 1000) : fM_rotations N 232 (Int32.ofInt (x : Int)) (Int32.ofInt (y : Int)) h = some (Int32.ofInt (zm_ro T x y T.length), h) := by
  unfold fM_rotations
  rw [zr_T H, cond_true]
  exact zr_rotations2 H tx hT hv hx hy T.length N 0 (Nat.zero_add _) (by omega)
theorem zm_rob {l : List Nat} (hv : ∀ v ∈ l, v < 256) (i j : Nat) : ∀ c, -256 ≤ zm_ro l i j c ∧ zm_ro l i j c ≤ 256 := by
  intro c
  induction c with
  | zero =>
    show (-256 : Int) ≤ 0 ∧ (0 : Int) ≤ 256
    decide
  | succ c ih =>
    rw [zm_ro]
    have c1 := zm_clt hv (i + (l.length - (c + 1)))
    have c2 := zm_clt hv (j + (l.length - (c + 1)))
    split
    · exact ih
    · omega
theorem zr_least4 (hN : 1000 ≤ N) (H : zr h fl a) (tx : zr_tx a T) (hT : T.length ≤ 120) (hv : ∀ v ∈ T, v < 256) (hn : 0 < T.length) : ∀ (c f i x : Nat), i + c = T.length → x ≤ 120 → c < f → fM_least_4 N f 232 (Int32.ofInt (x : Int)) (Int32.ofInt (i : Int)) h = some (Int32.ofInt ((zm_lst T c x : Nat) : Int), h) := by
  have g1 : fAI h 233 100 (Int32.ofInt 1) = some (Int32.ofInt (a 233 1)) := zr_w H 1 (by decide)
  intro c
  induction c with
  | zero =>
    intro f i x h1 h2 h3
    obtain ⟨g, rfl⟩ : ∃ g, f = g + 1 := ⟨f - 1, by omega⟩
    rw [fM_least_4, zr_r0 H, b1_s, g1, b1_s, tx.1, zqo_ge _ _ (by omega) (by omega), decide_eq_true (by omega), cond_true]
    rfl
  | succ c ih =>
    intro f i x h1 h2 h3
    obtain ⟨g, rfl⟩ : ∃ g, f = g + 1 := ⟨f - 1, by omega⟩
    have b := zm_rob hv i x T.length
    rw [fM_least_4, zr_r0 H, b1_s, g1, b1_s, tx.1, zqo_ge _ _ (by omega) (by omega), decide_eq_false (by omega), cond_false, zr_rotations hN H tx hT hv (by omega) (by omega), b2, zqo_ge _ _ (by omega) (by decide), zm_lst, show T.length - (c + 1) = i by omega]
    by_cases e : zm_ro T i x T.length < 0
    · rw [decide_eq_false (by omega), cond_false, if_pos e]
      unfold fM_least_28
      rw [zh_inc]
      exact ih g (i + 1) i (by omega) (by omega) (by omega)
    · rw [decide_eq_true (by omega), cond_true, if_neg e]
      unfold fM_least_28
      rw [zh_inc]
      exact ih g (i + 1) x (by omega) (by omega) (by omega)
theorem zr_least (hN : 1000 ≤ N) (H : zr h fl a) (tx : zr_tx a T) (hT : T.length ≤ 120) (hv : ∀ v ∈ T, v < 256) (hn : 0 < T.length) : fM_least N 232 h = some (Int32.ofInt ((zm_least T : Nat) : Int), h) := by
  unfold fM_least
  rw [zr_T H, cond_true]
  exact zr_least4 hN H tx hT hv hn (T.length - 1) N 1 0 (by omega) (by decide) (by omega)
/-- the row becomes the turned text -/
theorem zr_rotated12 (tx0 : zr_tx a T) (hT : T.length ≤ 120) {x : Nat} (hx : x ≤ 120) {fl : Nat → Int} (h14 : fl 14 = (T.length : Int)) : ∀ (c f i : Nat) (h : zH) (a1 : Nat → Nat → Int), zr h fl a1 → (∀ p j, p ≠ 239 → a1 p j = a p j) → i + c = T.length → c < f → (∀ j, j < i → a1 239 j = (zm_c T (j + x) : Int) - 97) → ∃ h' a', fM_loadsRotated_12 N f 232 (Int32.ofInt (x : Int)) (Int32.ofInt (i : Int)) h = some ((), h') ∧ zr h' fl a' ∧ zr_F h h' ∧ (∀ p j, p ≠ 239 → a' p j = a p j) ∧ ∀ j, j < T.length → a' 239 j = (zm_c T (j + x) : Int) - 97 := by
  intro c
  induction c with
  | zero =>
    intro f i h a1 H h1 h2 h3 h4
    obtain ⟨g, rfl⟩ : ∃ g, f = g + 1 := ⟨f - 1, by omega⟩
    refine ⟨h, a1, ?_, H, zr_Fr h, h1, fun j hj => h4 j (by omega)⟩
    rw [fM_loadsRotated_12, zr_i H 14 rfl, b1_s, h14, zqo_ge _ _ (by omega) (by omega), decide_eq_true (by omega), cond_true]
  | succ c ih =>
    intro f i h a1 H h1 h2 h3 h4
    obtain ⟨g, rfl⟩ : ∃ g, f = g + 1 := ⟨f - 1, by omega⟩
    have hn : 0 < T.length := by omega
    have m1 := Nat.mod_lt (i + x) hn
    have k1 : fAI h 233 100 (Int32.ofInt (3 + (((i + x) % T.length : Nat) : Int))) = some (Int32.ofInt ((zm_c T (i + x) : Int) - 97)) := by
      rw [show 3 + (((i + x) % T.length : Nat) : Int) = ((3 + (i + x) % T.length : Nat) : Int) by omega, zr_w H _ (by omega), h1 233 _ (by decide), tx0.2 _ m1]
      rfl
    obtain ⟨h5, e5, H5, F5⟩ := zr_p H 239 i (by decide) (by decide) (by show i < 130; omega) ((zm_c T (i + x) : Int) - 97)
    obtain ⟨h6, a6, e6, H6, F6, p6, r6⟩ := ih g (i + 1) h5 _ H5 (fun p j hp => (zr_vn a1 _ (Or.inl hp)).trans (h1 p j hp)) (by omega) (by omega) (fun j hj => by
      by_cases e : j = i
      · rw [e, zr_vs]
      · rw [zr_vn a1 _ (Or.inr e)]
        exact h4 j (by omega))
    refine ⟨h6, a6, ?_, H6, zr_Ft F5 F6, p6, r6⟩
    rw [fM_loadsRotated_12, zr_i H 14 rfl, b1_s, h14, zqo_ge _ _ (by omega) (by omega), decide_eq_false (by omega), cond_false, zr_r8 H, b1_s, zr_r0 H, b1_s, b1_s, if_neg (zr_nz hn (by omega)), zw_add, show (i : Int) + (x : Int) = ((i + x : Nat) : Int) by omega, zw_modi _ _ (by omega) (by omega), zw_add, k1, b1_s]
    show b1 (fAS h 239 (zr_t 239) (Int32.ofInt (i : Int)) (.int (Int32.ofInt ((zm_c T (i + x) : Int) - 97)))) _ = _
    rw [e5, b1_s, zh_inc]
    exact e6
theorem zr_rotated (hN : 1000 ≤ N) (H : zr h fl a) (tx : zr_tx a T) (hT : T.length ≤ 120) {x : Nat} (hx : x ≤ T.length) : ∃ h' fl' a', fM_loadsRotated N 232 (Int32.ofInt (x : Int)) h = some ((), h') ∧ zr h' fl' a' ∧ zr_F h h' ∧ zr_Q fl a fl' a' ∧ zr_rw fl' a' (zw_trn T x) := by
  have g1 : fAI h 233 100 (Int32.ofInt 1) = some (Int32.ofInt (a 233 1)) := zr_w H 1 (by decide)
  obtain ⟨h1, e1, H1, F1⟩ := zr_s H 14 rfl (T.length : Int)
  obtain ⟨h2, a2, e2, H2, F2, p2, r2⟩ := zr_rotated12 (N := N) tx hT (x := x) (by omega) (fl := zr_u fl 14 (T.length : Int)) rfl T.length N 0 h1 a H1 (fun _ _ _ => rfl) (by omega) (by omega) (fun j hj => absurd hj (Nat.not_lt_zero j))
  refine ⟨h2, _, a2, ?_, H2, zr_Ft F1 F2, ⟨fun k hk => if_neg hk, fun p i h3 h4 => p2 p i h3⟩, ?_, fun i hi => ?_⟩
  · unfold fM_loadsRotated
    rw [zr_T H, cond_true, zr_r0 H, b1_s, g1, b1_s, tx.1, e1, b1_s]
    exact e2
  · rw [zw_trnl]
    rfl
  · rw [zw_trnl] at hi
    rw [r2 i hi, zm_trn hx hi]
end ZYD
end
section
/-! THE REFERENCE'S TURNS, PARTS AND MIRRORS. -/
section ZYE
variable {N : Nat} {h : zH} {fl fl' : Nat → Int} {a a' : Nat → Nat → Int} {bef now snap : zA} {hist : List zA} {sv t : Int} {inp : List Nat} {rep : zvP} {T : List Nat}
theorem zv_256 (ok : zv_ok now) : ∀ v ∈ now.2.1, v < 256 := fun v hv => by
  have := ok.2.2.1 v hv
  have := ok.1.2
  omega
theorem zw_trn256 {c : Nat} (hT : ∀ v ∈ T, v < 256) (hc : c ≤ T.length) : ∀ v ∈ zw_trn T c, v < 256 := by
  intro v hv
  obtain ⟨i, hi, e⟩ := List.getElem_of_mem hv
  rw [zw_trnl] at hi
  have := zm_trn hc hi
  rw [List.getD_eq_getElem?_getD, List.getElem?_eq_getElem (by rw [zw_trnl]; exact hi)] at this
  have e2 : v = zm_c T (i + c) := e.symm.trans this
  rw [e2]
  exact zm_clt hT _
theorem zy_turns (hN : 1000 ≤ N) (Y : zyp h bef now hist snap sv inp rep t) (ok : zv_ok now) (x : Nat) (hx : x ≤ now.2.1.length) : ∃ h', fM_turns N 232 (Int32.ofInt (x : Int)) h = some (Int32.ofInt ((zw_fs (zw_trn now.2.1 x)).length : Int), h') ∧ zyp h' bef (now.1, zw_trn now.2.1 x, now.2.2) hist snap sv inp rep t ∧ zr_F h h' := by
  obtain ⟨fl, a, H, R, B⟩ := Y
  have o2 := ok.2.1
  have g1 : fAI h 233 100 (Int32.ofInt 1) = some (Int32.ofInt (a 233 1)) := zr_w H 1 (by decide)
  have tx := zyR_tx R
  have hl := zw_trnl now.2.1 x
  unfold fM_turns
  rw [zr_T H, cond_true, zr_r0 H, b1_s, g1, b1_s, tx.1, zqo_le _ _ (by omega) (by decide)]
  by_cases e : now.2.1.length = 0
  · rw [decide_eq_true (by omega), cond_true]
    have e1 : now.2.1 = [] := List.eq_nil_of_length_eq_zero e
    have e2 : zw_trn now.2.1 x = now.2.1 := by
      rw [List.eq_nil_of_length_eq_zero (hl.trans e), e1]
    obtain ⟨h2, f2, a2, e3, H2, F2, Q2, _, _⟩ := zr_factors hN H tx ⟨by omega, zv_256 ok⟩ o2
    rw [e2]
    refine ⟨h2, ?_, ⟨f2, a2, H2, zyR_Q R Q2, ?_⟩, F2⟩
    · unfold fM_turns_19
      rw [e3]
      rfl
    · rw [show a2 234 = a 234 from funext fun i => Q2.2 234 i (by decide) (by decide)]
      exact B
  · rw [decide_eq_false (by omega), cond_false]
    obtain ⟨h1, f1, a1, e1, H1, F1, Q1, r1⟩ := zr_rotated hN H tx o2 hx
    obtain ⟨h3, ⟨h4, e4, e5⟩, Y3, F3⟩ := zy_takes hN H1 (zyR_Q R Q1) (by rw [show a1 234 = a 234 from funext fun i => Q1.2 234 i (by decide) (by decide)]; exact B) r1 (by omega) (zw_trn256 (zv_256 ok) hx)
    refine ⟨h3, ?_, Y3, zr_Ft F1 F3⟩
    rw [e1, b2, e4, b2]
    unfold fM_turns_19
    rw [e5]
    rfl
theorem zy_turnsToLeast (hN : 1000 ≤ N) (Y : zyp h bef now hist snap sv inp rep t) (ok : zv_ok now) (hn : 0 < now.2.1.length) : ∃ h', fM_turnsToLeast N 232 h = some (Int32.ofInt ((zm_least now.2.1 : Nat) : Int), h') ∧ zyp h' bef (now.1, zw_trn now.2.1 (zm_least now.2.1), now.2.2) hist snap sv inp rep t ∧ zr_F h h' := by
  have hl : zm_least now.2.1 < now.2.1.length := (zm_leastM hn).1
  obtain ⟨h1, e1, Y1, F1⟩ := zy_turns hN Y ok (zm_least now.2.1) (by omega)
  refine ⟨h1, ?_, Y1, F1⟩
  obtain ⟨fl, a, H, R, B⟩ := Y
  unfold fM_turnsToLeast
  rw [zr_T H, cond_true, zr_least hN H (zyR_tx R) ok.2.1 (zv_256 ok) hn, b2, e1]
  rfl
theorem zr_parts9 (tx0 : zr_tx a T) (hT : T.length ≤ 120) {x y : Nat} (hxy : x ≤ y) (hy : y ≤ T.length) {fl : Nat → Int} (h14 : fl 14 = ((y - x : Nat) : Int)) : ∀ (c f i : Nat) (h : zH) (a1 : Nat → Nat → Int), zr h fl a1 → (∀ p j, p ≠ 239 → a1 p j = a p j) → i + c = y → x ≤ i → c < f → (∀ j, j < i - x → a1 239 j = (T.getD (x + j) 0 : Int) - 97) → ∃ h1 a2, zr h1 fl a2 ∧ zr_F h h1 ∧ (∀ p j, p ≠ 239 → a2 p j = a p j) ∧ (∀ j, j < y - x → a2 239 j = (T.getD (x + j) 0 : Int) - 97) ∧ ∀ v h2, fM_takes N 232 h1 = some (v, h2) → fM_parts_9 N f 232 (Int32.ofInt (x : Int)) (Int32.ofInt (y : Int)) (Int32.ofInt (i : Int)) h = some (v, h2) := by
  intro c
  induction c with
  | zero =>
    intro f i h a1 H h1 h2 h6 h3 h4
    obtain ⟨g, rfl⟩ : ∃ g, f = g + 1 := ⟨f - 1, by omega⟩
    refine ⟨h, a1, H, zr_Fr h, h1, fun j hj => h4 j (by omega), fun v h2 e2 => ?_⟩
    rw [fM_parts_9, zqo_ge _ _ (by omega) (by omega), decide_eq_true (by omega), cond_true, e2]
    rfl
  | succ c ih =>
    intro f i h a1 H h1 h2 h6 h3 h4
    obtain ⟨g, rfl⟩ : ∃ g, f = g + 1 := ⟨f - 1, by omega⟩
    have k1 : fAI h 233 100 (Int32.ofInt (3 + (i : Int))) = some (Int32.ofInt ((T.getD i 0 : Int) - 97)) := by
      rw [show 3 + (i : Int) = ((3 + i : Nat) : Int) by omega, zr_w H _ (by omega), h1 233 _ (by decide), tx0.2 _ (by omega)]
    obtain ⟨h5, e5, H5, F5⟩ := zr_p H 239 (i - x) (by decide) (by decide) (by show i - x < 130; omega) ((T.getD i 0 : Int) - 97)
    obtain ⟨h7, a7, H7, F7, p7, r7, d7⟩ := ih g (i + 1) h5 _ H5 (fun p j hp => (zr_vn a1 _ (Or.inl hp)).trans (h1 p j hp)) (by omega) (by omega) (by omega) (fun j hj => by
      by_cases e : j = i - x
      · rw [e, zr_vs, show x + (i - x) = i by omega]
      · rw [zr_vn a1 _ (Or.inr e)]
        exact h4 j (by omega))
    refine ⟨h7, a7, H7, zr_Ft F5 F7, p7, r7, fun v h2 e2 => ?_⟩
    rw [fM_parts_9, zqo_ge _ _ (by omega) (by omega), decide_eq_false (by omega), cond_false, zr_r8 H, b1_s, zr_r0 H, b1_s, zw_add, k1, b1_s, zw_sub, show (i : Int) - (x : Int) = ((i - x : Nat) : Int) by omega]
    show b1 (fAS h 239 (zr_t 239) (Int32.ofInt ((i - x : Nat) : Int)) (.int (Int32.ofInt ((T.getD i 0 : Int) - 97)))) _ = _
    rw [e5, b1_s, zh_inc]
    exact d7 v h2 e2
theorem zw_pd {l : List Nat} {x y i : Nat} (hi : i < y - x) : (zw_p l x y).getD i 0 = l.getD (x + i) 0 := by
  unfold zw_p
  rw [List.getD_eq_getElem?_getD, List.getElem?_take_of_lt hi, List.getElem?_drop, ← List.getD_eq_getElem?_getD]
theorem zy_parts (hN : 1000 ≤ N) (Y : zyp h bef now hist snap sv inp rep t) (ok : zv_ok now) (x y : Nat) (hxy : x ≤ y) (hy : y ≤ now.2.1.length) : ∃ h', fM_parts N 232 (Int32.ofInt (x : Int)) (Int32.ofInt (y : Int)) h = some (Int32.ofInt ((zw_p now.2.1 x y).length : Int), h') ∧ zyp h' bef (now.1, zw_p now.2.1 x y, now.2.2) hist snap sv inp rep t ∧ zr_F h h' := by
  obtain ⟨fl, a, H, R, B⟩ := Y
  have o2 := ok.2.1
  have tx := zyR_tx R
  have hl := zw_pl now.2.1 x y hy
  obtain ⟨h1, e1, H1, F1⟩ := zr_s H 14 rfl ((y - x : Nat) : Int)
  obtain ⟨h2, a2, H2, F2, p2, r2, d2⟩ := zr_parts9 (N := N) tx o2 hxy hy (fl := zr_u fl 14 ((y - x : Nat) : Int)) rfl (y - x) N x h1 a H1 (fun _ _ _ => rfl) (by omega) (Nat.le_refl _) (by omega) (fun j hj => absurd hj (by omega))
  have Q : zr_Q fl a (zr_u fl 14 ((y - x : Nat) : Int)) a2 := ⟨fun k hk => if_neg hk, fun p i h3 h4 => p2 p i h3⟩
  obtain ⟨h3, a3, e3, H3, F3, p3, t3⟩ := zr_takes hN H2 (T := zw_p now.2.1 x y) ⟨by rw [hl]; rfl, fun i hi => by
    rw [hl] at hi
    rw [r2 i hi, zw_pd hi]⟩ (by omega)
  have R2 := zyR_Q R Q
  have n1 : zy_is (a3 233) (now.1, zw_p now.2.1 x y, now.2.2) := zy_isT R2.1 t3.1 t3.2 (fun j h3 h4 => p3 233 j (Or.inr ⟨h3, h4⟩))
  have R1 := zyR_a (a' := a3) (now' := (now.1, zw_p now.2.1 x y, now.2.2)) R2 (fun _ _ => rfl) (fun p i hp => p3 p i (Or.inl (by omega))) n1
  refine ⟨h3, ?_, ⟨_, a3, H3, R1, ?_⟩, zr_Ft F1 (zr_Ft F2 F3)⟩
  · unfold fM_parts
    rw [zr_T H, cond_true, zw_sub, show (y : Int) - (x : Int) = ((y - x : Nat) : Int) by omega, e1, b1_s]
    exact d2 _ _ e3
  · rw [show a3 234 = a 234 from funext fun i => (p3 234 i (Or.inl (by decide))).trans (p2 234 i (by decide))]
    exact B
theorem zr_mirrors12 (tx0 : zr_tx a T) (hT : T.length ≤ 120) {fl : Nat → Int} (h14 : fl 14 = (T.length : Int)) : ∀ (c f i : Nat) (h : zH) (a1 : Nat → Nat → Int), zr h fl a1 → (∀ p j, p ≠ 239 → a1 p j = a p j) → i + c = T.length → c < f → (∀ j, j < i → a1 239 j = (T.getD (T.length - 1 - j) 0 : Int) - 97) → ∃ h1 a2, zr h1 fl a2 ∧ zr_F h h1 ∧ (∀ p j, p ≠ 239 → a2 p j = a p j) ∧ (∀ j, j < T.length → a2 239 j = (T.getD (T.length - 1 - j) 0 : Int) - 97) ∧ ∀ u v h2 h3, fM_takes N 232 h1 = some (u, h2) → fM_factors N 232 h2 = some (v, h3) → fM_mirrors_12 N f 232 (Int32.ofInt (i : Int)) h = some (v, h3) := by
  intro c
  induction c with
  | zero =>
    intro f i h a1 H h1 h2 h3 h4
    obtain ⟨g, rfl⟩ : ∃ g, f = g + 1 := ⟨f - 1, by omega⟩
    refine ⟨h, a1, H, zr_Fr h, h1, fun j hj => h4 j (by omega), fun u v h2 h3 e2 e3 => ?_⟩
    rw [fM_mirrors_12, zr_i H 14 rfl, b1_s, h14, zqo_ge _ _ (by omega) (by omega), decide_eq_true (by omega), cond_true, e2, b2, e3]
    rfl
  | succ c ih =>
    intro f i h a1 H h1 h2 h3 h4
    obtain ⟨g, rfl⟩ : ∃ g, f = g + 1 := ⟨f - 1, by omega⟩
    have k1 : fAI h 233 100 (Int32.ofInt (3 + (T.length : Int) - 1 - (i : Int))) = some (Int32.ofInt ((T.getD (T.length - 1 - i) 0 : Int) - 97)) := by
      rw [show 3 + (T.length : Int) - 1 - (i : Int) = ((3 + (T.length - 1 - i) : Nat) : Int) by omega, zr_w H _ (by omega), h1 233 _ (by decide), tx0.2 _ (by omega)]
    obtain ⟨h5, e5, H5, F5⟩ := zr_p H 239 i (by decide) (by decide) (by show i < 130; omega) ((T.getD (T.length - 1 - i) 0 : Int) - 97)
    obtain ⟨h7, a7, H7, F7, p7, r7, d7⟩ := ih g (i + 1) h5 _ H5 (fun p j hp => (zr_vn a1 _ (Or.inl hp)).trans (h1 p j hp)) (by omega) (by omega) (fun j hj => by
      by_cases e : j = i
      · rw [e, zr_vs]
      · rw [zr_vn a1 _ (Or.inr e)]
        exact h4 j (by omega))
    refine ⟨h7, a7, H7, zr_Ft F5 F7, p7, r7, fun u v h2 h3 e2 e3 => ?_⟩
    rw [fM_mirrors_12, zr_i H 14 rfl, b1_s, h14, zqo_ge _ _ (by omega) (by omega), decide_eq_false (by omega), cond_false, zr_r8 H, b1_s, zr_r0 H, b1_s, b1_s, zw_add, zw_sub, zw_sub, k1, b1_s]
    show b1 (fAS h 239 (zr_t 239) (Int32.ofInt (i : Int)) (.int (Int32.ofInt ((T.getD (T.length - 1 - i) 0 : Int) - 97)))) _ = _
    rw [e5, b1_s, zh_inc]
    exact d7 u v h2 h3 e2 e3
theorem zy_mirrors (hN : 1000 ≤ N) (Y : zyp h bef now hist snap sv inp rep t) (ok : zv_ok now) : ∃ h', fM_mirrors N 232 h = some (Int32.ofInt ((zw_fs (zw_mir now.2.1 0 now.2.1.length)).length : Int), h') ∧ zyp h' bef (now.1, zw_mir now.2.1 0 now.2.1.length, now.2.2) hist snap sv inp rep t ∧ zr_F h h' := by
  obtain ⟨fl, a, H, R, B⟩ := Y
  have o2 := ok.2.1
  have tx := zyR_tx R
  have g1 : fAI h 233 100 (Int32.ofInt 1) = some (Int32.ofInt (a 233 1)) := zr_w H 1 (by decide)
  have hl := zm_mirl now.2.1 0 now.2.1.length
  obtain ⟨h1, e1, H1, F1⟩ := zr_s H 14 rfl (now.2.1.length : Int)
  obtain ⟨h2, a2, H2, F2, p2, r2, d2⟩ := zr_mirrors12 (N := N) tx o2 (fl := zr_u fl 14 (now.2.1.length : Int)) rfl now.2.1.length N 0 h1 a H1 (fun _ _ _ => rfl) (by omega) (by omega) (fun j hj => absurd hj (Nat.not_lt_zero j))
  have Q : zr_Q fl a (zr_u fl 14 (now.2.1.length : Int)) a2 := ⟨fun k hk => if_neg hk, fun p i h3 h4 => p2 p i h3⟩
  obtain ⟨h3, ⟨h4, e4, e5⟩, Y3, F3⟩ := zy_takes hN H2 (zyR_Q R Q) (by rw [show a2 234 = a 234 from funext fun i => Q.2 234 i (by decide) (by decide)]; exact B) (T := zw_mir now.2.1 0 now.2.1.length) ⟨by rw [hl]; rfl, fun i hi => by
    rw [hl] at hi
    rw [r2 i hi, zm_rev hi]⟩ (by omega) (fun v hv => by
      obtain ⟨i, hi, e⟩ := List.getElem_of_mem hv
      rw [hl] at hi
      have := zm_rev hi
      rw [List.getD_eq_getElem?_getD, List.getElem?_eq_getElem (by rw [hl]; exact hi)] at this
      have e2 : v = now.2.1.getD (now.2.1.length - 1 - i) 0 := e.symm.trans this
      rw [List.getD_eq_getElem?_getD, List.getElem?_eq_getElem (by omega)] at e2
      rw [e2]
      exact zv_256 ok _ (List.getElem_mem _))
  refine ⟨h3, ?_, Y3, zr_Ft F1 (zr_Ft F2 F3)⟩
  unfold fM_mirrors
  rw [zr_T H, cond_true, zr_r0 H, b1_s, g1, b1_s, tx.1, e1, b1_s]
  exact d2 _ _ _ _ e4 e5
end ZYE
end
section
/-! THE REFERENCE'S CALLS THAT CHANGE THE TEXT. -/
/-- what is known of all that is kept -/
def zo (now : zA) (hist : List zA) (snap : zA) : Prop := zv_ok now ∧ (∀ (i : Nat) (A : zA), hist[i]? = some A → zv_ok A) ∧ hist.length ≤ 8 ∧ zv_ok snap
section ZYF
variable {N : Nat} {h : zH} {fl fl' : Nat → Int} {a a' : Nat → Nat → Int} {bef now snap : zA} {hist : List zA} {sv t : Int} {inp : List Nat} {rep : zvP} {T : List Nat}
theorem zv_o (V : zv h now hist snap sv inp rep) : zo now hist snap := by
  obtain ⟨sL, sT, sS, sK, wd, nu, hs, C, v1, v2, v3, v4, v5, v6, v7, v8, v9⟩ := V
  refine ⟨by rw [← v1]; exact v9 1 (Or.inl rfl), fun i A hA => ?_, v3, by rw [← v5]; exact v9 183 (Or.inr (Or.inl ⟨8, by decide, rfl⟩))⟩
  have hi : i < hist.length := (List.getElem?_eq_some_iff.mp hA).1
  rw [v4 i hi] at hA
  rw [← Option.some.inj hA]
  obtain ⟨k, k1, k2⟩ := C.2.2.2.2.2.2.2.2.1 i (by omega)
  exact v9 _ (Or.inr (Or.inl ⟨k, by omega, k2⟩))
theorem zn_appendLetter (Y : zy h now hist snap sv inp rep t) (o : zo now hist snap) (hN : 4000 ≤ N) (x : Int) (hx : -2147483648 ≤ x ∧ x < 2147483648) : (¬ (97 ≤ x ∧ x < 97 + (now.1 : Int)) ∧ ∃ h', fM_appendLetter N 232 (Int32.ofInt x) h = some (Int32.ofInt 0, h') ∧ zy h' now hist snap sv inp rep 1 ∧ zr_F h h') ∨ ((97 ≤ x ∧ x < 97 + (now.1 : Int)) ∧ now.2.1.length = 120 ∧ ∃ h', fM_appendLetter N 232 (Int32.ofInt x) h = some (Int32.ofInt 0, h') ∧ zy h' now hist snap sv inp rep 2 ∧ zr_F h h') ∨ ((97 ≤ x ∧ x < 97 + (now.1 : Int)) ∧ now.2.1.length < 120 ∧ ∃ h', fM_appendLetter N 232 (Int32.ofInt x) h = some (Int32.ofInt ((zw_fs (now.2.1 ++ [x.toNat])).length : Int), h') ∧ zy h' (now.1, now.2.1 ++ [x.toNat], now.2.2) (zv_push hist now) snap sv inp rep 0 ∧ zr_F h h') := by
  obtain ⟨ok, okh, h8, oks⟩ := o
  have o1 := ok.1
  have o2 := ok.2.1
  obtain ⟨fl, a, H, R⟩ := id Y
  have g1 : fAI h 233 100 (Int32.ofInt 1) = some (Int32.ofInt (a 233 1)) := zr_w H 1 (by decide)
  have tx := zyR_tx R
  unfold fM_appendLetter
  rw [zr_T H, cond_true, zr_isLetter H R.1.1 o1.2 x hx, b2]
  by_cases e : 97 ≤ x ∧ x < 97 + (now.1 : Int)
  · rw [decide_eq_true e, cond_true]
    refine Or.inr ?_
    show (_ ∧ _ ∧ ∃ h', fM_appendLetter_14 N 232 (Int32.ofInt x) (Int32.ofInt 0) 232 h = _ ∧ _) ∨ (_ ∧ _ ∧ ∃ h', fM_appendLetter_14 N 232 (Int32.ofInt x) (Int32.ofInt 0) 232 h = _ ∧ _)
    unfold fM_appendLetter_14
    rw [zr_r0 H, b1_s, g1, b1_s, tx.1, zqo_ne _ _ (by omega) (by decide)]
    by_cases e2 : now.2.1.length = 120
    · rw [decide_eq_true (by omega)]
      refine Or.inl ⟨e, e2, ?_⟩
      obtain ⟨h1, e1, Y1, F1⟩ := zy_two01 (N := N) Y
      refine ⟨h1, ?_, Y1, F1⟩
      show fM_appendLetter_30 N 232 (Int32.ofInt x) (Int32.ofInt 1) (Int32.ofInt 0) 232 h = _
      unfold fM_appendLetter_30
      rw [e1]
      rfl
    · rw [decide_eq_false (by omega)]
      obtain ⟨v, rfl⟩ : ∃ v : Nat, x = (v : Int) := ⟨x.toNat, by omega⟩
      refine Or.inr ⟨e, by omega, ?_⟩
      obtain ⟨h1, e1, Y1, F1⟩ := zy_two00 (N := N) Y
      obtain ⟨h2, e2, Y2, F2⟩ := zy_begins (N := N) (by omega) Y1 ok
      obtain ⟨h3, e3, Y3, F3⟩ := zy_appends (N := N) (by omega) Y2 ok (by omega) v (by omega)
      obtain ⟨h4, e4, Y4, F4⟩ := zy_remember (N := N) hN Y3 ok okh h8 (Int32.ofInt ((zw_fs (now.2.1 ++ [v])).length : Int))
      refine ⟨h4, ?_, Y4, zr_Ft F1 (zr_Ft F2 (zr_Ft F3 F4))⟩
      show fM_appendLetter_30 N 232 (Int32.ofInt (v : Int)) (Int32.ofInt 0) (Int32.ofInt 0) 232 h = _
      unfold fM_appendLetter_30
      rw [e1, b2]
      show b2 (fM_begins N 232 h1) _ = _
      rw [e2, b2, zw_sub, e3, b2, e4]
      rfl
  · rw [decide_eq_false e, cond_false]
    refine Or.inl ⟨e, ?_⟩
    show ∃ h', fM_appendLetter_14 N 232 (Int32.ofInt x) (Int32.ofInt 1) 232 h = _ ∧ _
    unfold fM_appendLetter_14
    rw [zr_r0 H, b1_s, g1, b1_s, tx.1, zqo_ne _ _ (by omega) (by decide)]
    have k : ∀ y : Int32, ∃ h', fM_appendLetter_30 N 232 (Int32.ofInt x) y (Int32.ofInt 1) 232 h = some (Int32.ofInt 0, h') ∧ zy h' now hist snap sv inp rep 1 ∧ zr_F h h' := by
      intro y
      obtain ⟨h1, e1, Y1, F1⟩ := zy_two1 (N := N) Y y
      refine ⟨h1, ?_, Y1, F1⟩
      unfold fM_appendLetter_30
      rw [e1]
      rfl
    by_cases e2 : (now.2.1.length : Int) = 120
    · rw [decide_eq_true e2]
      exact k _
    · rw [decide_eq_false e2]
      exact k _
theorem zr_in01 (N : Nat) (x : Int) {l : Nat} (hl : l ≤ 100000) (hx : -2147483648 ≤ x ∧ x < 2147483648) (h : zH) : fM_in N (Int32.ofInt x) (Int32.ofInt 0) (Int32.ofInt (l : Int)) h = some (cond (decide (0 ≤ x ∧ x ≤ (l : Int))) (Int32.ofInt 1) (Int32.ofInt 0), h) := zr_in N x 0 l hx (by decide) (by omega) h
theorem zn_dropLast (Y : zy h now hist snap sv inp rep t) (o : zo now hist snap) (hN : 4000 ≤ N) (x : Int) (hx : -2147483648 ≤ x ∧ x < 2147483648) : (¬ (0 ≤ x ∧ x ≤ (now.2.1.length : Int)) ∧ ∃ h', fM_dropLast N 232 (Int32.ofInt x) h = some (Int32.ofInt 0, h') ∧ zy h' now hist snap sv inp rep 1 ∧ zr_F h h') ∨ ((0 ≤ x ∧ x ≤ (now.2.1.length : Int)) ∧ ∃ h', fM_dropLast N 232 (Int32.ofInt x) h = some (Int32.ofInt ((zw_fs (now.2.1.take (now.2.1.length - x.toNat))).length : Int), h') ∧ zy h' (now.1, now.2.1.take (now.2.1.length - x.toNat), now.2.2) (zv_push hist now) snap sv inp rep 0 ∧ zr_F h h') := by
  obtain ⟨ok, okh, h8, oks⟩ := o
  have o2 := ok.2.1
  obtain ⟨fl, a, H, R⟩ := id Y
  have g1 : fAI h 233 100 (Int32.ofInt 1) = some (Int32.ofInt (a 233 1)) := zr_w H 1 (by decide)
  have tx := zyR_tx R
  unfold fM_dropLast
  rw [zr_T H, cond_true, zr_r0 H, b1_s, g1, b1_s, tx.1, zr_in01 N x (by omega) hx, b2]
  by_cases e : 0 ≤ x ∧ x ≤ (now.2.1.length : Int)
  · rw [decide_eq_true e, cond_true]
    refine Or.inr ⟨e, ?_⟩
    obtain ⟨v, rfl⟩ : ∃ v : Nat, x = (v : Int) := ⟨x.toNat, by omega⟩
    obtain ⟨h1, e1, Y1, F1⟩ := zy_one0 (N := N) Y
    obtain ⟨h2, e2, Y2, F2⟩ := zy_begins (N := N) (by omega) Y1 ok
    obtain ⟨h3, e3, Y3, F3⟩ := zy_drops (N := N) (by omega) Y2 ok v (by omega)
    obtain ⟨h4, e4, Y4, F4⟩ := zy_remember (N := N) hN Y3 ok okh h8 (Int32.ofInt ((zw_fs (now.2.1.take (now.2.1.length - v))).length : Int))
    refine ⟨h4, ?_, Y4, zr_Ft F1 (zr_Ft F2 (zr_Ft F3 F4))⟩
    show fM_dropLast_20 N 232 (Int32.ofInt (v : Int)) (Int32.ofInt 0) 232 h = _
    unfold fM_dropLast_20
    rw [e1, b2]
    show b2 (fM_begins N 232 h1) _ = _
    rw [e2, b2, e3, b2, e4]
    rfl
  · rw [decide_eq_false e, cond_false]
    refine Or.inl ⟨e, ?_⟩
    obtain ⟨h1, e1, Y1, F1⟩ := zy_one1 (N := N) Y
    refine ⟨h1, ?_, Y1, F1⟩
    show fM_dropLast_20 N 232 (Int32.ofInt x) (Int32.ofInt 1) 232 h = _
    unfold fM_dropLast_20
    rw [e1]
    rfl
theorem zn_rotate (Y : zy h now hist snap sv inp rep t) (o : zo now hist snap) (hN : 4000 ≤ N) (x : Int) (hx : -2147483648 ≤ x ∧ x < 2147483648) : (¬ (0 ≤ x ∧ x ≤ (now.2.1.length : Int)) ∧ ∃ h', fM_rotate N 232 (Int32.ofInt x) h = some (Int32.ofInt 0, h') ∧ zy h' now hist snap sv inp rep 1 ∧ zr_F h h') ∨ ((0 ≤ x ∧ x ≤ (now.2.1.length : Int)) ∧ ∃ h', fM_rotate N 232 (Int32.ofInt x) h = some (Int32.ofInt ((zw_fs (zw_trn now.2.1 x.toNat)).length : Int), h') ∧ zy h' (now.1, zw_trn now.2.1 x.toNat, now.2.2) (zv_push hist now) snap sv inp rep 0 ∧ zr_F h h') := by
  obtain ⟨ok, okh, h8, oks⟩ := o
  have o2 := ok.2.1
  obtain ⟨fl, a, H, R⟩ := id Y
  have g1 : fAI h 233 100 (Int32.ofInt 1) = some (Int32.ofInt (a 233 1)) := zr_w H 1 (by decide)
  have tx := zyR_tx R
  unfold fM_rotate
  rw [zr_T H, cond_true, zr_r0 H, b1_s, g1, b1_s, tx.1, zr_in01 N x (by omega) hx, b2]
  by_cases e : 0 ≤ x ∧ x ≤ (now.2.1.length : Int)
  · rw [decide_eq_true e, cond_true]
    refine Or.inr ⟨e, ?_⟩
    obtain ⟨v, rfl⟩ : ∃ v : Nat, x = (v : Int) := ⟨x.toNat, by omega⟩
    obtain ⟨h1, e1, Y1, F1⟩ := zy_one0 (N := N) Y
    obtain ⟨h2, e2, Y2, F2⟩ := zy_begins (N := N) (by omega) Y1 ok
    obtain ⟨h3, e3, Y3, F3⟩ := zy_turns (N := N) (by omega) Y2 ok v (by omega)
    obtain ⟨h4, e4, Y4, F4⟩ := zy_remember (N := N) hN Y3 ok okh h8 (Int32.ofInt ((zw_fs (zw_trn now.2.1 v)).length : Int))
    refine ⟨h4, ?_, Y4, zr_Ft F1 (zr_Ft F2 (zr_Ft F3 F4))⟩
    show fM_rotate_20 N 232 (Int32.ofInt (v : Int)) (Int32.ofInt 0) 232 h = _
    unfold fM_rotate_20
    rw [e1, b2]
    show b2 (fM_begins N 232 h1) _ = _
    rw [e2, b2, e3, b2, e4]
    rfl
  · rw [decide_eq_false e, cond_false]
    refine Or.inl ⟨e, ?_⟩
    obtain ⟨h1, e1, Y1, F1⟩ := zy_one1 (N := N) Y
    refine ⟨h1, ?_, Y1, F1⟩
    show fM_rotate_20 N 232 (Int32.ofInt x) (Int32.ofInt 1) 232 h = _
    unfold fM_rotate_20
    rw [e1]
    rfl
theorem zn_cutPart (Y : zy h now hist snap sv inp rep t) (o : zo now hist snap) (hN : 4000 ≤ N) (x y : Int) (hx : -2147483648 ≤ x ∧ x < 2147483648) (hy : -2147483648 ≤ y ∧ y < 2147483648) : (zc_part now.2.1 x y = false ∧ ∃ h', fM_cutPart N 232 (Int32.ofInt x) (Int32.ofInt y) h = some (Int32.ofInt 0, h') ∧ zy h' now hist snap sv inp rep 1 ∧ zr_F h h') ∨ (zc_part now.2.1 x y = true ∧ ∃ h', fM_cutPart N 232 (Int32.ofInt x) (Int32.ofInt y) h = some (Int32.ofInt ((zw_p now.2.1 x.toNat y.toNat).length : Int), h') ∧ zy h' (now.1, zw_p now.2.1 x.toNat y.toNat, now.2.2) (zv_push hist now) snap sv inp rep 0 ∧ zr_F h h') := by
  obtain ⟨ok, okh, h8, oks⟩ := o
  have o2 := ok.2.1
  obtain ⟨fl, a, H, R⟩ := id Y
  have g1 : fAI h 233 100 (Int32.ofInt 1) = some (Int32.ofInt (a 233 1)) := zr_w H 1 (by decide)
  have tx := zyR_tx R
  have k : ∃ h', fM_cutPart_20 N 232 (Int32.ofInt x) (Int32.ofInt y) 232 h = some (Int32.ofInt 0, h') ∧ zy h' now hist snap sv inp rep 1 ∧ zr_F h h' := by
    obtain ⟨h1, e1, Y1, F1⟩ := zy_one1 (N := N) Y
    refine ⟨h1, ?_, Y1, F1⟩
    unfold fM_cutPart_20 fM_cutPart_25
    rw [e1]
    rfl
  unfold fM_cutPart
  rw [zr_T H, cond_true, zqo_lt _ _ hx (by decide), zqo_lt _ _ hy hx]
  unfold zc_part
  by_cases e1 : x < 0
  · rw [decide_eq_true e1, cond_true, decide_eq_false (by omega)]
    exact Or.inl ⟨rfl, k⟩
  rw [decide_eq_false e1, cond_false]
  by_cases e2 : y < x
  · rw [decide_eq_true e2, cond_true, decide_eq_false (by omega)]
    exact Or.inl ⟨rfl, k⟩
  rw [decide_eq_false e2, cond_false, zr_r0 H, b1_s, g1, b1_s, tx.1, zqo_le _ _ hy (by omega)]
  by_cases e3 : y ≤ (now.2.1.length : Int)
  · rw [decide_eq_true e3, cond_true, decide_eq_true (by omega)]
    refine Or.inr ⟨rfl, ?_⟩
    obtain ⟨u, rfl⟩ : ∃ v : Nat, x = (v : Int) := ⟨x.toNat, by omega⟩
    obtain ⟨v, rfl⟩ : ∃ v : Nat, y = (v : Int) := ⟨y.toNat, by omega⟩
    obtain ⟨h1, e1, Y1, F1⟩ := zy_one0 (N := N) Y
    obtain ⟨h2, e2, Y2, F2⟩ := zy_begins (N := N) (by omega) Y1 ok
    obtain ⟨h3, e3, Y3, F3⟩ := zy_parts (N := N) (by omega) Y2 ok u v (by omega) (by omega)
    obtain ⟨h4, e4, Y4, F4⟩ := zy_remember (N := N) hN Y3 ok okh h8 (Int32.ofInt ((zw_p now.2.1 u v).length : Int))
    refine ⟨h4, ?_, Y4, zr_Ft F1 (zr_Ft F2 (zr_Ft F3 F4))⟩
    unfold fM_cutPart_25
    rw [e1, b2]
    show b2 (fM_begins N 232 h1) _ = _
    rw [e2, b2, e3, b2, e4]
    rfl
  · rw [decide_eq_false e3, cond_false, decide_eq_false (by omega)]
    exact Or.inl ⟨rfl, k⟩
theorem zn_reverse (Y : zy h now hist snap sv inp rep t) (o : zo now hist snap) (hN : 4000 ≤ N) : ∃ h', fM_reverse N 232 h = some (Int32.ofInt ((zw_fs (zw_mir now.2.1 0 now.2.1.length)).length : Int), h') ∧ zy h' (now.1, zw_mir now.2.1 0 now.2.1.length, now.2.2) (zv_push hist now) snap sv inp rep 0 ∧ zr_F h h' := by
  obtain ⟨ok, okh, h8, oks⟩ := o
  obtain ⟨h1, e1, Y1, F1⟩ := zy_throw Y 0
  obtain ⟨h2, e2, Y2, F2⟩ := zy_begins (N := N) (by omega) Y1 ok
  obtain ⟨h3, e3, Y3, F3⟩ := zy_mirrors (N := N) (by omega) Y2 ok
  obtain ⟨h4, e4, Y4, F4⟩ := zy_remember (N := N) hN Y3 ok okh h8 (Int32.ofInt ((zw_fs (zw_mir now.2.1 0 now.2.1.length)).length : Int))
  refine ⟨h4, ?_, Y4, zr_Ft F1 (zr_Ft F2 (zr_Ft F3 F4))⟩
  obtain ⟨fl, a, H, R⟩ := id Y
  unfold fM_reverse
  rw [zr_T H, cond_true, e1, b1_s, e2, b2, e3, b2, e4]
  rfl
theorem zn_rotateToLeast (Y : zy h now hist snap sv inp rep t) (o : zo now hist snap) (hN : 4000 ≤ N) : (now.2.1.length = 0 ∧ ∃ h', fM_rotateToLeast N 232 h = some (Int32.ofInt 0, h') ∧ zy h' now hist snap sv inp rep 1 ∧ zr_F h h') ∨ (now.2.1.length ≠ 0 ∧ ∃ h', fM_rotateToLeast N 232 h = some (Int32.ofInt ((zm_least now.2.1 : Nat) : Int), h') ∧ zy h' (now.1, zw_trn now.2.1 (zm_least now.2.1), now.2.2) (zv_push hist now) snap sv inp rep 0 ∧ zr_F h h') := by
  obtain ⟨ok, okh, h8, oks⟩ := o
  have o2 := ok.2.1
  obtain ⟨fl, a, H, R⟩ := id Y
  have g1 : fAI h 233 100 (Int32.ofInt 1) = some (Int32.ofInt (a 233 1)) := zr_w H 1 (by decide)
  have tx := zyR_tx R
  unfold fM_rotateToLeast
  rw [zr_T H, cond_true, zr_r0 H, b1_s, g1, b1_s, tx.1, zqo_ne _ _ (by omega) (by decide)]
  by_cases e : now.2.1.length = 0
  · rw [decide_eq_true (by omega)]
    refine Or.inl ⟨e, ?_⟩
    obtain ⟨h1, e1, Y1, F1⟩ := zy_one1 (N := N) Y
    refine ⟨h1, ?_, Y1, F1⟩
    show fM_rotateToLeast_15 N 232 (Int32.ofInt 1) 232 h = _
    unfold fM_rotateToLeast_15
    rw [e1]
    rfl
  · rw [decide_eq_false (by omega)]
    refine Or.inr ⟨e, ?_⟩
    obtain ⟨h1, e1, Y1, F1⟩ := zy_one0 (N := N) Y
    obtain ⟨h2, e2, Y2, F2⟩ := zy_begins (N := N) (by omega) Y1 ok
    obtain ⟨h3, e3, Y3, F3⟩ := zy_turnsToLeast (N := N) (by omega) Y2 ok (by omega)
    obtain ⟨h4, e4, Y4, F4⟩ := zy_remember (N := N) hN Y3 ok okh h8 (Int32.ofInt ((zm_least now.2.1 : Nat) : Int))
    refine ⟨h4, ?_, Y4, zr_Ft F1 (zr_Ft F2 (zr_Ft F3 F4))⟩
    show fM_rotateToLeast_15 N 232 (Int32.ofInt 0) 232 h = _
    unfold fM_rotateToLeast_15
    rw [e1, b2]
    show b2 (fM_begins N 232 h1) _ = _
    rw [e2, b2, e3, b2, e4]
    rfl
end ZYF
end
section
/-! THE REFERENCE'S UNDO, SNAPSHOT, INPUT. -/
section ZYG
variable {N : Nat} {h : zH} {fl fl' : Nat → Int} {a a' : Nat → Nat → Int} {bef now snap : zA} {hist : List zA} {sv t : Int} {inp : List Nat} {rep : zvP} {T : List Nat}
theorem zr_undo26 {c0 : Nat} (hc : c0 < 8) {fl : Nat → Int} (h4 : fl 4 = (c0 : Int)) : ∀ (c f i : Nat) (h : zH) (a : Nat → Nat → Int), zr h fl a → i + c = 451 → c < f → (∀ j, j < i → a 233 j = a 235 (451 * c0 + j)) → ∃ h' a', fM_undo_26 N f 232 (Int32.ofInt (i : Int)) h = some (Int32.ofInt (c0 : Int), h') ∧ zr h' fl a' ∧ zr_F h h' ∧ (∀ p j, p ≠ 233 → a' p j = a p j) ∧ ∀ j, j < 451 → a' 233 j = a 235 (451 * c0 + j) := by
  intro c
  induction c with
  | zero =>
    intro f i h a H h1 h2 h3
    obtain ⟨g, rfl⟩ : ∃ g, f = g + 1 := ⟨f - 1, by omega⟩
    refine ⟨h, a, ?_, H, zr_Fr h, fun _ _ _ => rfl, fun j hj => h3 j (by omega)⟩
    rw [fM_undo_26, zqo_ge _ _ (by omega) (by decide), decide_eq_true (by omega), cond_true, zr_i H 4 rfl, b1_s, h4]
  | succ c ih =>
    intro f i h a H h1 h2 h3
    obtain ⟨g, rfl⟩ : ∃ g, f = g + 1 := ⟨f - 1, by omega⟩
    obtain ⟨h5, e5, H5, F5⟩ := zr_p H 233 i (by decide) (by decide) (by show i < 451; omega) (a 235 (451 * c0 + i))
    obtain ⟨h6, a6, e6, H6, F6, p6, r6⟩ := ih g (i + 1) h5 _ H5 (by omega) (by omega) (fun j hj => by
      by_cases e : j = i
      · rw [e, zr_vs, zr_vn a _ (Or.inl (by decide))]
      · rw [zr_vn a _ (Or.inr (by omega)), zr_vn a _ (Or.inl (by decide))]
        exact h3 j (by omega))
    refine ⟨h6, a6, ?_, H6, zr_Ft F5 F6, fun p j hp => (p6 p j hp).trans (zr_vn a _ (Or.inl hp)), fun j hj => (r6 j hj).trans (zr_vn a _ (Or.inl (by decide)))⟩
    have g1 := zr_g H 235 (451 * c0 + i) (by decide) (by decide) (by show 451 * c0 + i < 3608; omega)
    rw [fM_undo_26, zqo_ge _ _ (by omega) (by decide), decide_eq_false (by omega), cond_false, zr_r0 H, b1_s, zr_r2 H, b1_s, zr_i H 4 rfl, b1_s, h4, show Int32.ofInt 451 * Int32.ofInt (c0 : Int) + Int32.ofInt (i : Int) = Int32.ofInt ((451 * c0 + i : Nat) : Int) from zh_mul 451 i c0]
    show b1 (fAI h 235 (zr_t 235) (Int32.ofInt ((451 * c0 + i : Nat) : Int))) _ = _
    rw [g1, b1_s]
    show b1 (fAS h 233 (zr_t 233) (Int32.ofInt (i : Int)) (.int (Int32.ofInt (a 235 (451 * c0 + i))))) _ = _
    rw [e5, b1_s, zh_inc]
    exact e6
theorem zn_undo (Y : zy h now hist snap sv inp rep t) (o : zo now hist snap) (hN : 4000 ≤ N) : (hist = [] ∧ ∃ h', fM_undo N 232 h = some (Int32.ofInt (-1), h') ∧ zy h' now hist snap sv inp rep 0 ∧ zr_F h h') ∨ ∀ A r, hist = r ++ [A] → ∃ h', fM_undo N 232 h = some (Int32.ofInt (r.length : Int), h') ∧ zy h' A r snap sv inp rep 0 ∧ zr_F h h' := by
  obtain ⟨ok, okh, h8, oks⟩ := o
  obtain ⟨h1, e1, Y1, F1⟩ := zy_throw Y 0
  obtain ⟨fl0, a0, H0, R0⟩ := Y
  obtain ⟨fl, a, H, R⟩ := Y1
  unfold fM_undo
  rw [zr_T H0, cond_true, e1, b1_s, zr_i H 4 rfl, b1_s, R.2.1, zqo_ne _ _ (by omega) (by decide)]
  by_cases e : hist = []
  · refine Or.inl ⟨e, h1, ?_, ⟨fl, a, H, R⟩, F1⟩
    rw [e]
    rfl
  · refine Or.inr (fun A r er => ?_)
    have hl : hist.length = r.length + 1 := by
      rw [er, List.length_append]
      rfl
    obtain ⟨h2, e2, H2, F2⟩ := zr_s H 4 rfl (r.length : Int)
    obtain ⟨h3, a3, e3, H3, F3, p3, q3⟩ := zr_undo26 (N := N) (c0 := r.length) (by omega) (fl := zr_u fl 4 (r.length : Int)) rfl 451 N 0 h2 a H2 (by omega) (by omega) (fun j hj => absurd hj (Nat.not_lt_zero j))
    have hA : hist[r.length]? = some A := by
      rw [er, List.getElem?_append_right (Nat.le_refl _), Nat.sub_self]
      rfl
    refine ⟨h3, ?_, ⟨_, a3, H3, ?_⟩, zr_Ft F1 (zr_Ft F2 F3)⟩
    · rw [decide_eq_false (by omega), Bool.not_false, cond_true, b1_s, zw_sub, show (hist.length : Int) - 1 = (r.length : Int) by omega, e2, b1_s]
      exact e3
    · have n1 : zy_is (a3 233) A := zy_isC (okh _ _ hA) (R.2.2.1 _ _ hA) q3
      have R3 : zyR fl a3 A hist snap sv inp rep 0 := zyR_a R (fun _ _ => rfl) (fun p i hp => p3 p i (by omega)) n1
      refine zyR_h R3 (fun k hk => if_neg hk) (fun _ _ _ => rfl) rfl (fun i B hB => R3.2.2.1 i B ?_)
      have hi : i < r.length := (List.getElem?_eq_some_iff.mp hB).1
      rw [er, List.getElem?_append_left hi]
      exact hB
theorem zr_save12 {n : Int} (hn : True) {fl : Nat → Int} : ∀ (c f i : Nat) (h : zH) (a : Nat → Nat → Int), zr h fl a → i + c = 451 → c < f → a 233 1 = n → (∀ j, j < i → a 236 j = a 233 j) → ∃ h' a', fM_saveSnapshot_12 N f 232 (Int32.ofInt (i : Int)) h = some (Int32.ofInt n, h') ∧ zr h' fl a' ∧ zr_F h h' ∧ (∀ p j, p ≠ 236 → a' p j = a p j) ∧ ∀ j, j < 451 → a' 236 j = a 233 j := by
  intro c
  induction c with
  | zero =>
    intro f i h a H h1 h2 hn h3
    obtain ⟨g, rfl⟩ : ∃ g, f = g + 1 := ⟨f - 1, by omega⟩
    have g1 : fAI h 233 100 (Int32.ofInt 1) = some (Int32.ofInt (a 233 1)) := zr_w H 1 (by decide)
    refine ⟨h, a, ?_, H, zr_Fr h, fun _ _ _ => rfl, fun j hj => h3 j (by omega)⟩
    rw [fM_saveSnapshot_12, zqo_ge _ _ (by omega) (by decide), decide_eq_true (by omega), cond_true, zr_r0 H, b1_s, g1, b1_s, hn]
  | succ c ih =>
    intro f i h a H h1 h2 hn h3
    obtain ⟨g, rfl⟩ : ∃ g, f = g + 1 := ⟨f - 1, by omega⟩
    obtain ⟨h5, e5, H5, F5⟩ := zr_p H 236 i (by decide) (by decide) (by show i < 451; omega) (a 233 i)
    obtain ⟨h6, a6, e6, H6, F6, p6, r6⟩ := ih g (i + 1) h5 _ H5 (by omega) (by omega) ((zr_vn a _ (Or.inl (by decide))).trans hn) (fun j hj => by
      by_cases e : j = i
      · rw [e, zr_vs, zr_vn a _ (Or.inl (by decide))]
      · rw [zr_vn a _ (Or.inr (by omega)), zr_vn a _ (Or.inl (by decide))]
        exact h3 j (by omega))
    refine ⟨h6, a6, ?_, H6, zr_Ft F5 F6, fun p j hp => (p6 p j hp).trans (zr_vn a _ (Or.inl hp)), fun j hj => (r6 j hj).trans (zr_vn a _ (Or.inl (by decide)))⟩
    have g1 := zr_g H 233 i (by decide) (by decide) (by show i < 451; omega)
    rw [fM_saveSnapshot_12, zqo_ge _ _ (by omega) (by decide), decide_eq_false (by omega), cond_false, zr_r3 H, b1_s, zr_r0 H, b1_s]
    show b1 (fAI h 233 (zr_t 233) (Int32.ofInt (i : Int))) _ = _
    rw [g1, b1_s]
    show b1 (fAS h 236 (zr_t 236) (Int32.ofInt (i : Int)) (.int (Int32.ofInt (a 233 i)))) _ = _
    rw [e5, b1_s, zh_inc]
    exact e6
theorem zn_saveSnapshot (Y : zy h now hist snap sv inp rep t) (o : zo now hist snap) (hN : 4000 ≤ N) : ∃ h', fM_saveSnapshot N 232 h = some (Int32.ofInt (now.2.1.length : Int), h') ∧ zy h' now hist now 1 inp rep 0 ∧ zr_F h h' := by
  obtain ⟨ok, okh, h8, oks⟩ := o
  obtain ⟨h1, e1, Y1, F1⟩ := zy_throw Y 0
  obtain ⟨fl0, a0, H0, R0⟩ := Y
  obtain ⟨fl, a, H, R⟩ := Y1
  obtain ⟨h2, e2, H2, F2⟩ := zr_s H 5 rfl 1
  obtain ⟨h3, a3, e3, H3, F3, p3, q3⟩ := zr_save12 (N := N) trivial (fl := zr_u fl 5 1) 451 N 0 h2 a H2 (by omega) (by omega) R.1.2.1 (fun j hj => absurd hj (Nat.not_lt_zero j))
  refine ⟨h3, ?_, ⟨_, a3, H3, ?_⟩, zr_Ft F1 (zr_Ft F2 F3)⟩
  · unfold fM_saveSnapshot
    rw [zr_T H0, cond_true, e1, b1_s, e2, b1_s]
    exact e3
  · have g3 : a3 233 = a 233 := funext fun i => p3 233 i (by decide)
    have g5 : a3 235 = a 235 := funext fun i => p3 235 i (by decide)
    have g7 : a3 237 = a 237 := funext fun i => p3 237 i (by decide)
    have g8 : a3 241 = a 241 := funext fun i => p3 241 i (by decide)
    obtain ⟨r1, r2, r3, r4, r5, r6, r7, r8⟩ := R
    refine ⟨by rw [g3]; exact r1, r2, by rw [g5]; exact r3, rfl, fun _ => zy_isC ok r1 q3, ⟨r6.1, by rw [g7]; exact r6.2⟩, ⟨r7.1, by rw [g8]; exact r7.2⟩, r8⟩
theorem zr_restore23 {n : Int} {fl : Nat → Int} : ∀ (c f i : Nat) (h : zH) (a : Nat → Nat → Int), zr h fl a → i + c = 451 → c < f → a 236 1 = n → (∀ j, j < i → a 233 j = a 236 j) → ∃ h' a', fM_restoreSnapshot_23 N f 232 (Int32.ofInt (i : Int)) h = some (Int32.ofInt n, h') ∧ zr h' (zr_u fl 4 0) a' ∧ zr_F h h' ∧ (∀ p j, p ≠ 233 → a' p j = a p j) ∧ ∀ j, j < 451 → a' 233 j = a 236 j := by
  intro c
  induction c with
  | zero =>
    intro f i h a H h1 h2 hn h3
    obtain ⟨g, rfl⟩ : ∃ g, f = g + 1 := ⟨f - 1, by omega⟩
    obtain ⟨h5, e5, H5, F5⟩ := zr_s H 4 rfl 0
    have g1 : fAI h5 233 100 (Int32.ofInt 1) = some (Int32.ofInt (a 233 1)) := zr_w H5 1 (by decide)
    refine ⟨h5, a, ?_, H5, F5, fun _ _ _ => rfl, fun j hj => h3 j (by omega)⟩
    rw [fM_restoreSnapshot_23, zqo_ge _ _ (by omega) (by decide), decide_eq_true (by omega), cond_true, e5, b1_s, zr_r0 H5, b1_s, g1, b1_s, h3 1 (by omega), hn]
  | succ c ih =>
    intro f i h a H h1 h2 hn h3
    obtain ⟨g, rfl⟩ : ∃ g, f = g + 1 := ⟨f - 1, by omega⟩
    obtain ⟨h5, e5, H5, F5⟩ := zr_p H 233 i (by decide) (by decide) (by show i < 451; omega) (a 236 i)
    obtain ⟨h6, a6, e6, H6, F6, p6, r6⟩ := ih g (i + 1) h5 _ H5 (by omega) (by omega) ((zr_vn a _ (Or.inl (by decide))).trans hn) (fun j hj => by
      by_cases e : j = i
      · rw [e, zr_vs, zr_vn a _ (Or.inl (by decide))]
      · rw [zr_vn a _ (Or.inr (by omega)), zr_vn a _ (Or.inl (by decide))]
        exact h3 j (by omega))
    refine ⟨h6, a6, ?_, H6, zr_Ft F5 F6, fun p j hp => (p6 p j hp).trans (zr_vn a _ (Or.inl hp)), fun j hj => (r6 j hj).trans (zr_vn a _ (Or.inl (by decide)))⟩
    have g1 := zr_g H 236 i (by decide) (by decide) (by show i < 451; omega)
    rw [fM_restoreSnapshot_23, zqo_ge _ _ (by omega) (by decide), decide_eq_false (by omega), cond_false, zr_r0 H, b1_s, zr_r3 H, b1_s]
    show b1 (fAI h 236 (zr_t 236) (Int32.ofInt (i : Int))) _ = _
    rw [g1, b1_s]
    show b1 (fAS h 233 (zr_t 233) (Int32.ofInt (i : Int)) (.int (Int32.ofInt (a 236 i)))) _ = _
    rw [e5, b1_s, zh_inc]
    exact e6
theorem zn_restoreSnapshot (Y : zy h now hist snap sv inp rep t) (o : zo now hist snap) (hN : 4000 ≤ N) (hsv : sv = 0 ∨ sv = 1) : (sv = 0 ∧ ∃ h', fM_restoreSnapshot N 232 h = some (Int32.ofInt 0, h') ∧ zy h' now hist snap sv inp rep 1 ∧ zr_F h h') ∨ (sv = 1 ∧ ∃ h', fM_restoreSnapshot N 232 h = some (Int32.ofInt (snap.2.1.length : Int), h') ∧ zy h' snap [] snap sv inp rep 0 ∧ zr_F h h') := by
  obtain ⟨ok, okh, h8, oks⟩ := o
  obtain ⟨fl0, a0, H0, R0⟩ := id Y
  unfold fM_restoreSnapshot
  rw [zr_T H0, cond_true, zr_i H0 5 rfl, b1_s, R0.2.2.2.1, zqo_ne _ _ (by omega) (by decide)]
  rcases hsv with e | e
  · refine Or.inl ⟨e, ?_⟩
    obtain ⟨h1, e1, Y1, F1⟩ := zy_one1 (N := N) Y
    refine ⟨h1, ?_, Y1, F1⟩
    rw [decide_eq_true e]
    show fM_restoreSnapshot_13 N 232 (Int32.ofInt 1) 232 h = _
    unfold fM_restoreSnapshot_13
    rw [e1]
    rfl
  · refine Or.inr ⟨e, ?_⟩
    obtain ⟨h1, e1, ⟨fl, a, H, R⟩, F1⟩ := zy_one0 (N := N) Y
    have S := R.2.2.2.2.1 e
    obtain ⟨h3, a3, e3, H3, F3, p3, q3⟩ := zr_restore23 (N := N) (n := (snap.2.1.length : Int)) 451 N 0 h1 a H (by omega) (by omega) S.2.1 (fun j hj => absurd hj (Nat.not_lt_zero j))
    refine ⟨h3, ?_, ⟨_, a3, H3, ?_⟩, zr_Ft F1 F3⟩
    · rw [decide_eq_false (by omega)]
      show fM_restoreSnapshot_13 N 232 (Int32.ofInt 0) 232 h = _
      unfold fM_restoreSnapshot_13
      rw [e1]
      exact e3
    · have n1 : zy_is (a3 233) snap := zy_isC oks S q3
      have R3 : zyR fl a3 snap hist snap sv inp rep 0 := zyR_a R (fun _ _ => rfl) (fun p i hp => p3 p i (by omega)) n1
      exact zyR_h R3 (fun k hk => if_neg hk) (fun _ _ _ => rfl) rfl (fun i B hB => by simp at hB)
theorem zn_truncateInput (Y : zy h now hist snap sv inp rep t) (hl : inp.length ≤ 600) (x : Int) (hx : -2147483648 ≤ x ∧ x < 2147483648) : (¬ (0 ≤ x ∧ x ≤ (inp.length : Int)) ∧ ∃ h', fM_truncateInput N 232 (Int32.ofInt x) h = some (Int32.ofInt 0, h') ∧ zy h' now hist snap sv inp rep 1 ∧ zr_F h h') ∨ ((0 ≤ x ∧ x ≤ (inp.length : Int)) ∧ ∃ h', fM_truncateInput N 232 (Int32.ofInt x) h = some (Int32.ofInt x, h') ∧ zy h' now hist snap sv (inp.take x.toNat) rep 0 ∧ zr_F h h') := by
  obtain ⟨fl0, a0, H0, R0⟩ := id Y
  unfold fM_truncateInput
  rw [zr_T H0, cond_true, zr_i H0 10 rfl, b1_s, R0.2.2.2.2.2.1.1, zr_in01 N x (by omega) hx, b2]
  by_cases e : 0 ≤ x ∧ x ≤ (inp.length : Int)
  · rw [decide_eq_true e, cond_true]
    refine Or.inr ⟨e, ?_⟩
    obtain ⟨h1, e1, ⟨fl, a, H, R⟩, F1⟩ := zy_one0 (N := N) Y
    obtain ⟨h2, e2, H2, F2⟩ := zr_s H 10 rfl x
    refine ⟨h2, ?_, ⟨_, a, H2, ?_⟩, zr_Ft F1 F2⟩
    · show fM_truncateInput_18 N 232 (Int32.ofInt x) (Int32.ofInt 0) 232 h = _
      unfold fM_truncateInput_18
      rw [e1, b2]
      show b1 (fS h1 232 5 10 (.int (Int32.ofInt x))) _ = _
      rw [e2]
      rfl
    · have hk : (inp.take x.toNat).length = x.toNat := by
        rw [List.length_take]
        omega
      obtain ⟨r1, r2, r3, r4, r5, r6, r7, r8⟩ := R
      refine ⟨r1, r2, r3, r4, r5, ⟨?_, fun i hi => ?_⟩, r7, r8⟩
      · rw [hk]
        show x = _
        omega
      · rw [hk] at hi
        rw [zr_tl _ hi]
        exact r6.2 i (by omega)
  · rw [decide_eq_false e, cond_false]
    refine Or.inl ⟨e, ?_⟩
    obtain ⟨h1, e1, Y1, F1⟩ := zy_one1 (N := N) Y
    refine ⟨h1, ?_, Y1, F1⟩
    show fM_truncateInput_18 N 232 (Int32.ofInt x) (Int32.ofInt 1) 232 h = _
    unfold fM_truncateInput_18
    rw [e1]
    rfl
/-- one more byte -/
theorem zy_byte (Y : zy h now hist snap sv inp rep t) (hl : inp.length < 600) (v : Nat) : fI h 232 5 10 = some (Int32.ofInt (inp.length : Int)) ∧ ∃ h1 h2, fAS h 237 100 (Int32.ofInt (inp.length : Int)) (.int (Int32.ofInt (v : Int))) = some h1 ∧ fI h1 232 5 10 = some (Int32.ofInt (inp.length : Int)) ∧ fS h1 232 5 10 (.int (Int32.ofInt ((inp.length : Int) + 1))) = some h2 ∧ zy h2 now hist snap sv (inp ++ [v]) rep t ∧ zr_F h h2 := by
  obtain ⟨fl, a, H, R⟩ := Y
  obtain ⟨h1, e1, H1, F1⟩ := zr_p H 237 inp.length (by decide) (by decide) (by show inp.length < 600; omega) (v : Int)
  obtain ⟨h2, e2, H2, F2⟩ := zr_s H1 10 rfl ((inp.length : Int) + 1)
  obtain ⟨r1, r2, r3, r4, r5, r6, r7, r8⟩ := R
  refine ⟨by rw [zr_i H 10 rfl, r6.1], h1, h2, e1, by rw [zr_i H1 10 rfl, r6.1], e2, ⟨_, _, H2, ?_⟩, zr_Ft F1 F2⟩
  have g3 : zr_v a 237 inp.length (v : Int) 233 = a 233 := funext fun i => zr_vn a _ (Or.inl (by decide))
  have g5 : zr_v a 237 inp.length (v : Int) 235 = a 235 := funext fun i => zr_vn a _ (Or.inl (by decide))
  have g6 : zr_v a 237 inp.length (v : Int) 236 = a 236 := funext fun i => zr_vn a _ (Or.inl (by decide))
  have g8 : zr_v a 237 inp.length (v : Int) 241 = a 241 := funext fun i => zr_vn a _ (Or.inl (by decide))
  refine ⟨by rw [g3]; exact r1, r2, by rw [g5]; exact r3, r4, by rw [g6]; exact r5, ⟨?_, fun i hi => ?_⟩, ⟨r7.1, by rw [g8]; exact r7.2⟩, r8⟩
  · rw [List.length_append]
    rfl
  · rw [List.length_append] at hi
    have hi : i < inp.length + 1 := hi
    by_cases e : i = inp.length
    · subst e
      rw [zr_vs, List.getD_eq_getElem?_getD, List.getElem?_append_right (Nat.le_refl _), Nat.sub_self]
      rfl
    · rw [zr_vn a _ (Or.inr e), r6.2 i (by omega), List.getD_eq_getElem?_getD, List.getD_eq_getElem?_getD, List.getElem?_append_left (by omega)]
theorem zy_type1 (Y : zy h now hist snap sv inp rep t) (hl : inp.length < 600) (x : Int32) (s : Int) (hs : 0 ≤ s ∧ s < 32) (g : Nat) : ∃ h', fM_type_3 N (g + 1) 232 x (Int32.ofInt s) h = fM_type_3 N g 232 x (Int32.ofInt s + Int32.ofInt (-8)) h' ∧ zy h' now hist snap sv (inp ++ [zw_lo (x >>> (Int32.ofInt s &&& 31))]) rep t ∧ zr_F h h' := by
  obtain ⟨i1, h1, h2, e1, i2, e2, Y2, F2⟩ := zy_byte Y hl (zw_lo (x >>> (Int32.ofInt s &&& 31)))
  refine ⟨h2, ?_, Y2, F2⟩
  obtain ⟨fl, a, H, R⟩ := Y
  rw [fM_type_3, zqo_lt _ _ (by omega) (by decide), decide_eq_false (by omega), cond_false, zr_r6 H, b1_s, i1, b1_s, zw_loand, e1, b1_s, i2, b1_s, zw_add, e2, b1_s]
theorem zy_type (Y : zy h now hist snap sv inp rep t) (hN : 4000 ≤ N) (hl : inp.length + 4 ≤ 600) (x : Int32) : ∃ h', fM_type N 232 x h = some ((), h') ∧ zy h' now hist snap sv (inp ++ zv_four x) rep t ∧ zr_F h h' := by
  obtain ⟨g, rfl⟩ : ∃ g, N = g + 5 := ⟨N - 5, by omega⟩
  have l1 : ∀ (l : List Nat) (v : Nat), (l ++ [v]).length = l.length + 1 := fun l v => List.length_append
  obtain ⟨h1, e1, Y1, F1⟩ := zy_type1 (N := g + 5) Y (by omega) x 24 (by decide) (g + 4)
  obtain ⟨h2, e2, Y2, F2⟩ := zy_type1 (N := g + 5) Y1 (by rw [l1]; omega) x 16 (by decide) (g + 3)
  obtain ⟨h3, e3, Y3, F3⟩ := zy_type1 (N := g + 5) Y2 (by rw [l1, l1]; omega) x 8 (by decide) (g + 2)
  obtain ⟨h4, e4, Y4, F4⟩ := zy_type1 (N := g + 5) Y3 (by rw [l1, l1, l1]; omega) x 0 (by decide) (g + 1)
  refine ⟨h4, ?_, ?_, zr_Ft F1 (zr_Ft F2 (zr_Ft F3 F4))⟩
  · obtain ⟨fl, a, H, R⟩ := Y
    unfold fM_type
    rw [zr_T H, cond_true]
    exact e1.trans (e2.trans (e3.trans e4))
  · rw [List.append_assoc, List.append_assoc, List.append_assoc] at Y4
    exact Y4
theorem zn_append (Y : zy h now hist snap sv inp rep t) (hN : 4000 ≤ N) (hl : inp.length ≤ 600) (a b c d e : Int32) : (580 < inp.length ∧ ∃ h', fM_append N 232 a b c d e h = some (Int32.ofInt (-1), h') ∧ zy h' now hist snap sv inp rep 0 ∧ zr_F h h') ∨ (inp.length ≤ 580 ∧ ∃ h', fM_append N 232 a b c d e h = some (Int32.ofInt ((inp.length + 20 : Nat) : Int), h') ∧ zy h' now hist snap sv (inp ++ zv_bytes a b c d e) rep 0 ∧ zr_F h h') := by
  obtain ⟨h0, e0, Y0, F0⟩ := zy_throw Y 0
  obtain ⟨fl0, a0, H0, R0⟩ := id Y
  obtain ⟨fl1, a1, H1, R1⟩ := id Y0
  unfold fM_append
  rw [zr_T H0, cond_true, e0, b1_s, zr_i H1 10 rfl, b1_s, R1.2.2.2.2.2.1.1, zw_add, zqo_le _ _ (by omega) (by decide)]
  by_cases e1 : inp.length ≤ 580
  · refine Or.inr ⟨e1, ?_⟩
    have l4 : ∀ (l : List Nat) (x : Int32), (l ++ zv_four x).length = l.length + 4 := fun l x => by rw [List.length_append]; rfl
    obtain ⟨h1, q1, W1, F1⟩ := zy_type (N := N) Y0 hN (by omega) a
    obtain ⟨h2, q2, W2, F2⟩ := zy_type (N := N) W1 hN (by rw [l4]; omega) b
    obtain ⟨h3, q3, W3, F3⟩ := zy_type (N := N) W2 hN (by rw [l4, l4]; omega) c
    obtain ⟨h4, q4, W4, F4⟩ := zy_type (N := N) W3 hN (by rw [l4, l4, l4]; omega) d
    obtain ⟨h5, q5, W5, F5⟩ := zy_type (N := N) W4 hN (by rw [l4, l4, l4, l4]; omega) e
    obtain ⟨fl5, a5, H5, R5⟩ := id W5
    refine ⟨h5, ?_, ?_, zr_Ft F0 (zr_Ft F1 (zr_Ft F2 (zr_Ft F3 (zr_Ft F4 F5))))⟩
    · rw [decide_eq_true (by omega), cond_true, q1, b2, q2, b2, q3, b2, q4, b2, q5, b2, zr_i H5 10 rfl, b1_s, R5.2.2.2.2.2.1.1, l4, l4, l4, l4, l4]
    · rw [List.append_assoc, List.append_assoc, List.append_assoc, List.append_assoc] at W5
      exact W5
  · refine Or.inl ⟨by omega, h0, ?_, Y0, F0⟩
    rw [decide_eq_false (by omega), cond_false]
end ZYG
end
section
/-! THE REFERENCE'S readText AND keepText. -/
section ZYH
variable {N : Nat} {h : zH} {fl fl' : Nat → Int} {a a' : Nat → Nat → Int} {bef now snap : zA} {hist : List zA} {sv t : Int} {inp : List Nat} {rep : zvP} {T : List Nat}
theorem zd_lt {l : List Nat} (hv : ∀ v ∈ l, v < 256) (i : Nat) : l.getD i 0 < 256 := by
  rw [List.getD_eq_getElem?_getD]
  cases e : l[i]? with
  | none => exact (by decide : (0 : Nat) < 256)
  | some v => exact hv v (List.mem_of_getElem? e)
theorem zr_read2 (H : zr h fl a) (R : zyR fl a now hist snap sv inp rep t) (ok : zv_ok now) (hl : inp.length ≤ 600) (hv : ∀ v ∈ inp, v < 256) : ∀ (c f i : Nat), i + c = inp.length → c < f → fM_readText_2 N f 232 (Int32.ofInt (i : Int)) h = fM_readText_29 N 232 (Int32.ofInt ((i + zv_pl now.1 (inp.drop i) : Nat) : Int)) h := by
  intro c
  induction c with
  | zero =>
    intro f i h1 h2
    obtain ⟨g, rfl⟩ : ∃ g, f = g + 1 := ⟨f - 1, by omega⟩
    rw [fM_readText_2, zr_i H 10 rfl, b1_s, R.2.2.2.2.2.1.1, zqo_ge _ _ (by omega) (by omega), decide_eq_true (by omega), cond_true, List.drop_eq_nil_of_le (by omega)]
    rfl
  | succ c ih =>
    intro f i h1 h2
    obtain ⟨g, rfl⟩ : ∃ g, f = g + 1 := ⟨f - 1, by omega⟩
    have hv := zd_lt hv i
    have g1 : fAI h 237 100 (Int32.ofInt (i : Int)) = some (Int32.ofInt (inp.getD i 0 : Int)) := by
      rw [← R.2.2.2.2.2.1.2 i (by omega)]
      exact zr_g H 237 i (by decide) (by decide) (by show i < 600; omega)
    have e2 : inp.drop i = inp.getD i 0 :: inp.drop (i + 1) := by
      rw [List.getD_eq_getElem?_getD, List.getElem?_eq_getElem (by omega), List.drop_eq_getElem_cons (by omega)]
      rfl
    rw [fM_readText_2, zr_i H 10 rfl, b1_s, R.2.2.2.2.2.1.1, zqo_ge _ _ (by omega) (by omega), decide_eq_false (by omega), cond_false, zr_r6 H, b1_s, g1, b1_s, zr_isLetter H R.1.1 ok.1.2 _ (by omega), b2, e2, zv_pl]
    by_cases e : 97 ≤ inp.getD i 0 ∧ inp.getD i 0 < 97 + now.1
    · rw [decide_eq_true (by omega), cond_true, if_pos e, zh_inc]
      show fM_readText_2 N g 232 (Int32.ofInt ((i + 1 : Nat) : Int)) h = _
      rw [ih g (i + 1) (by omega) (by omega), show i + 1 + zv_pl now.1 (inp.drop (i + 1)) = i + (zv_pl now.1 (inp.drop (i + 1)) + 1) by omega]
    · rw [decide_eq_false (by omega), cond_false, if_neg e]
      rfl
theorem zr_read60 {n : Nat} (hn : n ≤ 120) (hl : n ≤ inp.length) : ∀ (c f i : Nat) (h : zH) (fl : Nat → Int) (a : Nat → Nat → Int), zr h fl a → (∀ i, i < inp.length → a 237 i = (inp.getD i 0 : Int)) → zr_rw fl a (inp.take i) → i + c = n → c < f → inp.length ≤ 600 → ∃ g h1 fl1 a1, zr h1 fl1 a1 ∧ zr_F h h1 ∧ zr_Q fl a fl1 a1 ∧ zr_rw fl1 a1 (inp.take n) ∧ fM_readText_60 N f 232 (Int32.ofInt (n : Int)) (Int32.ofInt (i : Int)) h = fM_readText_60 N (g + 1) 232 (Int32.ofInt (n : Int)) (Int32.ofInt (n : Int)) h1 := by
  intro c
  induction c with
  | zero =>
    intro f i h fl a H hi r h1 h2 h3
    obtain ⟨g, rfl⟩ : ∃ g, f = g + 1 := ⟨f - 1, by omega⟩
    have e : i = n := by omega
    subst e
    exact ⟨g, h, fl, a, H, zr_Fr h, zr_Qr fl a, r, rfl⟩
  | succ c ih =>
    intro f i h fl a H hi r h1 h2 h3
    obtain ⟨g, rfl⟩ : ∃ g, f = g + 1 := ⟨f - 1, by omega⟩
    have g1 : fAI h 237 100 (Int32.ofInt (i : Int)) = some (Int32.ofInt (inp.getD i 0 : Int)) := by
      rw [← hi i (by omega)]
      exact zr_g H 237 i (by decide) (by decide) (by show i < 600; omega)
    have hk : (inp.take i).length = i := by
      rw [List.length_take]
      omega
    obtain ⟨h5, f5, a5, e5, H5, F5, Q5, r5⟩ := zr_adds (N := N) H r (by omega) (inp.getD i 0)
    have e2 : inp.take i ++ [inp.getD i 0] = inp.take (i + 1) := by
      rw [List.take_succ, List.getD_eq_getElem?_getD, List.getElem?_eq_getElem (by omega)]
      rfl
    rw [e2] at r5
    obtain ⟨g6, h6, f6, a6, H6, F6, Q6, r6, e6⟩ := ih g (i + 1) h5 f5 a5 H5 (fun j hj => (Q5.2 237 j (by decide) (by decide)).trans (hi j hj)) r5 (by omega) (by omega) h3
    refine ⟨g6, h6, f6, a6, H6, zr_Ft F5 F6, zr_Qt Q5 Q6, r6, ?_⟩
    rw [← e6, fM_readText_60, zqo_ge _ _ (by omega) (by omega), decide_eq_false (by omega), cond_false, zr_r6 H, b1_s, g1, b1_s, zw_sub, e5, b2, zh_inc]
theorem zn_readText (Y : zy h now hist snap sv inp rep t) (o : zo now hist snap) (hN : 4000 ≤ N) (hl : inp.length ≤ 600) (hv : ∀ v ∈ inp, v < 256) : (120 < zv_pl now.1 inp ∧ ∃ h', fM_readText N 232 h = some (Int32.ofInt 0, h') ∧ zy h' now hist snap sv inp rep 1 ∧ zr_F h h') ∨ (zv_pl now.1 inp ≤ 120 ∧ ∃ h', fM_readText N 232 h = some (Int32.ofInt (zv_pl now.1 inp : Int), h') ∧ zy h' (now.1, inp.take (zv_pl now.1 inp), now.2.2) (zv_push hist now) snap sv [] rep 0 ∧ zr_F h h') := by
  obtain ⟨ok, okh, h8, oks⟩ := o
  obtain ⟨fl0, a0, H0, R0⟩ := id Y
  have hp := zv_pll now.1 inp
  have e0 := zr_read2 (N := N) H0 R0 ok hl hv inp.length N 0 (Nat.zero_add _) (by omega)
  rw [List.drop_zero, Nat.zero_add] at e0
  unfold fM_readText
  rw [zr_T H0, cond_true]
  have e0 : fM_readText_2 N N 232 (Int32.ofInt 0) h = fM_readText_29 N 232 (Int32.ofInt (zv_pl now.1 inp : Int)) h := e0
  rw [e0]
  unfold fM_readText_29
  rw [zqo_le _ _ (by omega) (by decide)]
  by_cases e : zv_pl now.1 inp ≤ 120
  · rw [decide_eq_true (by omega), cond_true]
    refine Or.inr ⟨e, ?_⟩
    obtain ⟨h1, e1, Y1, F1⟩ := zy_one0 (N := N) Y
    obtain ⟨h2, e2, ⟨fl, a, H, R, B⟩, F2⟩ := zy_begins (N := N) (by omega) Y1 ok
    obtain ⟨h3, e3, H3, F3⟩ := zr_s H 14 rfl 0
    obtain ⟨g, h4, f4, a4, H4, F4, Q4, r4, e4⟩ := zr_read60 (N := N) e hp (zv_pl now.1 inp) N 0 h3 _ a H3 R.2.2.2.2.2.1.2 ⟨rfl, fun i hi => by
      rw [List.take_zero] at hi
      cases hi⟩ (Nat.zero_add _) (by omega) hl
    have Q : zr_Q fl a f4 a4 := ⟨fun k hk => (Q4.1 k hk).trans (if_neg hk), Q4.2⟩
    obtain ⟨h5, e5, H5, F5⟩ := zr_s H4 10 rfl 0
    have r5 : zr_rw (zr_u f4 10 0) a4 (inp.take (zv_pl now.1 inp)) := r4
    have hk : (inp.take (zv_pl now.1 inp)).length = zv_pl now.1 inp := by
      rw [List.length_take]
      omega
    obtain ⟨h6, a6, e6, H6, F6, p6, t6⟩ := zr_takes (N := N) (by omega) H5 r5 (by omega)
    have R4 := zyR_Q R Q
    have n6 : zy_is (a6 233) (now.1, inp.take (zv_pl now.1 inp), now.2.2) := zy_isT R4.1 t6.1 t6.2 (fun j h3 h4 => p6 233 j (Or.inr ⟨h3, h4⟩))
    have R5 : zyR (zr_u f4 10 0) a4 now hist snap sv [] rep 0 := ⟨R4.1, R4.2.1, R4.2.2.1, R4.2.2.2.1, R4.2.2.2.2.1, ⟨rfl, fun i hi => by cases hi⟩, R4.2.2.2.2.2.2.1, R4.2.2.2.2.2.2.2⟩
    have R6 := zyR_a (fl' := zr_u f4 10 0) (a' := a6) R5 (fun _ _ => rfl) (fun p i hp => p6 p i (Or.inl (by omega))) n6
    have B6 : zy_is (a6 234) now := by
      rw [show a6 234 = a 234 from funext fun i => (p6 234 i (Or.inl (by decide))).trans (Q.2 234 i (by decide) (by decide))]
      exact B
    obtain ⟨h7, e7, Y7, F7⟩ := zy_remember (N := N) hN ⟨_, a6, H6, R6, B6⟩ ok okh h8 (Int32.ofInt (zv_pl now.1 inp : Int))
    refine ⟨h7, ?_, Y7, zr_Ft F1 (zr_Ft F2 (zr_Ft F3 (zr_Ft F4 (zr_Ft F5 (zr_Ft F6 F7)))))⟩
    unfold fM_readText_41
    rw [e1, b2]
    show b2 (fM_begins N 232 h1) _ = _
    rw [e2, b2, e3, b1_s]
    have e4 : fM_readText_60 N N 232 (Int32.ofInt (zv_pl now.1 inp : Int)) (Int32.ofInt 0) h3 = _ := e4
    rw [e4, fM_readText_60, zqo_ge _ _ (by omega) (by omega), decide_eq_true (Int.le_refl _), cond_true, e5, b1_s, e6, b2, hk, e7]
    rfl
  · rw [decide_eq_false (by omega), cond_false]
    refine Or.inl ⟨by omega, ?_⟩
    obtain ⟨h1, e1, Y1, F1⟩ := zy_one1 (N := N) Y
    refine ⟨h1, ?_, Y1, F1⟩
    unfold fM_readText_41
    rw [e1]
    rfl
/-- a word more on the shelf -/
theorem zy_isS {g g' : Nat → Int} {A : zA} {w : List Nat} (ok : zv_ok A) (h : zy_is g A) (hK : A.2.2.length < 8) (h1 : g' 2 = ((A.2.2.length + 1 : Nat) : Int)) (h2 : g' (123 + A.2.2.length) = (w.length : Int)) (h3 : ∀ i, i < w.length → g' (131 + 40 * A.2.2.length + i) = (w.getD i 0 : Int) - 97) (e : ∀ j, j ≠ 2 → j ≠ 123 + A.2.2.length → j < 131 + 40 * A.2.2.length → g' j = g j) : zy_is g' (A.1, A.2.1, A.2.2 ++ [w]) := by
  obtain ⟨a1, a2, a3, a4, a5⟩ := h
  have o2 := ok.2.1
  have hl : (A.2.2 ++ [w]).length = A.2.2.length + 1 := List.length_append
  refine ⟨(e 0 (by decide) (by omega) (by omega)).trans a1, (e 1 (by decide) (by omega) (by omega)).trans a2, fun i (hi : i < A.2.1.length) => (e _ (by omega) (by omega) (by omega)).trans (a3 i hi), by rw [h1, hl], fun k hk => ?_⟩
  have hk : k < A.2.2.length + 1 := hl ▸ hk
  show g' (123 + k) = (((A.2.2 ++ [w]).getD k []).length : Int) ∧ ∀ i, i < ((A.2.2 ++ [w]).getD k []).length → g' (131 + 40 * k + i) = (((A.2.2 ++ [w]).getD k []).getD i 0 : Int) - 97
  by_cases ek : k = A.2.2.length
  · subst ek
    have ew : (A.2.2 ++ [w]).getD A.2.2.length [] = w := by
      rw [List.getD_eq_getElem?_getD, List.getElem?_append_right (Nat.le_refl _), Nat.sub_self]
      rfl
    rw [ew]
    exact ⟨h2, h3⟩
  · have ew : (A.2.2 ++ [w]).getD k [] = A.2.2.getD k [] := by
      rw [List.getD_eq_getElem?_getD, List.getElem?_append_left (by omega), ← List.getD_eq_getElem?_getD]
    rw [ew]
    have hw : A.2.2.getD k [] ∈ A.2.2 := by
      rw [List.getD_eq_getElem?_getD, List.getElem?_eq_getElem (by omega)]
      exact List.getElem_mem _
    have o5 := (ok.2.2.2.2 _ hw).2.1
    have b5 := a5 k (by omega)
    exact ⟨(e _ (by omega) (by omega) (by omega)).trans b5.1, fun i hi => (e _ (by omega) (by omega) (by omega)).trans (b5.2 i hi)⟩
theorem zr_shelves32 {K n b : Nat} {T : List Nat} (hK : K < 8) (hn : n ≤ 40) (hb : b + n ≤ T.length) (hT : T.length ≤ 120) {a0 : Nat → Nat → Int} (ht : ∀ i, i < T.length → a0 233 (3 + i) = (T.getD i 0 : Int) - 97) (h2 : a0 233 2 = (K : Int)) : ∀ (c f i : Nat) (h : zH) (a : Nat → Nat → Int), zr h fl a → i + c = n → c < f → (∀ p j, (p ≠ 233 ∨ j < 131 + 40 * K) → a p j = a0 p j) → (∀ j, j < i → a 233 (131 + 40 * K + j) = (T.getD (b + j) 0 : Int) - 97) → ∃ h' a', fM_shelves_32 N f 232 (Int32.ofInt (b : Int)) (Int32.ofInt (n : Int)) (Int32.ofInt ((131 + 40 * K : Nat) : Int)) (Int32.ofInt (i : Int)) h = some (Int32.ofInt ((K + 1 : Nat) : Int), h') ∧ zr h' fl a' ∧ zr_F h h' ∧ (∀ p j, (p ≠ 233 ∨ (j < 131 + 40 * K ∧ j ≠ 2)) → a' p j = a0 p j) ∧ a' 233 2 = ((K + 1 : Nat) : Int) ∧ ∀ j, j < n → a' 233 (131 + 40 * K + j) = (T.getD (b + j) 0 : Int) - 97 := by
  intro c
  induction c with
  | zero =>
    intro f i h a H h1 hf h3 h4
    obtain ⟨g, rfl⟩ : ∃ g, f = g + 1 := ⟨f - 1, by omega⟩
    have g1 : fAI h 233 100 (Int32.ofInt 2) = some (Int32.ofInt (a 233 2)) := zr_w H 2 (by decide)
    obtain ⟨h5, e5, H5, F5⟩ := zr_p H 233 2 (by decide) (by decide) (by decide) ((K + 1 : Nat) : Int)
    have g2 : fAI h5 233 100 (Int32.ofInt 2) = some (Int32.ofInt (zr_v a 233 2 ((K + 1 : Nat) : Int) 233 2)) := zr_w H5 2 (by decide)
    refine ⟨h5, _, ?_, H5, F5, fun p j hp => (zr_vn a _ (by omega)).trans (h3 p j (by omega)), zr_vs _ _ _ _, fun j hj => (zr_vn a _ (Or.inr (by omega))).trans (h4 j (by omega))⟩
    rw [fM_shelves_32, zqo_ge _ _ (by omega) (by omega), decide_eq_true (by omega), cond_true, zr_r0 H, b1_s, g1, b1_s, h3 233 2 (Or.inr (by omega)), h2, zw_add]
    have e5 : fAS h 233 100 (Int32.ofInt 2) (.int (Int32.ofInt ((K : Int) + 1))) = some h5 := e5
    rw [e5, b1_s, zr_r0 H5, b1_s, g2, b1_s, zr_vs]
  | succ c ih =>
    intro f i h a H h1 hf h3 h4
    obtain ⟨g, rfl⟩ : ∃ g, f = g + 1 := ⟨f - 1, by omega⟩
    obtain ⟨h5, e5, H5, F5⟩ := zr_p H 233 (131 + 40 * K + i) (by decide) (by decide) (by show 131 + 40 * K + i < 451; omega) ((T.getD (b + i) 0 : Int) - 97)
    obtain ⟨h6, a6, e6, H6, F6, p6, q6, r6⟩ := ih g (i + 1) h5 _ H5 (by omega) (by omega) (fun p j hp => (zr_vn a _ (by omega)).trans (h3 p j hp)) (fun j hj => by
      by_cases e : j = i
      · rw [e, zr_vs]
      · rw [zr_vn a _ (Or.inr (by omega))]
        exact h4 j (by omega))
    refine ⟨h6, a6, ?_, H6, zr_Ft F5 F6, p6, q6, r6⟩
    have g1 : fAI h 233 100 (Int32.ofInt (3 + (b : Int) + (i : Int))) = some (Int32.ofInt ((T.getD (b + i) 0 : Int) - 97)) := by
      rw [show 3 + (b : Int) + (i : Int) = ((3 + (b + i) : Nat) : Int) by omega, zr_w H _ (by omega), h3 233 _ (Or.inr (by omega)), ht _ (by omega)]
    rw [fM_shelves_32, zqo_ge _ _ (by omega) (by omega), decide_eq_false (by omega), cond_false, zr_r0 H, b1_s, b1_s, zw_add, zw_add, g1, b1_s, zw_add]
    have e5 : fAS h 233 100 (Int32.ofInt (((131 + 40 * K : Nat) : Int) + (i : Int))) (.int (Int32.ofInt ((T.getD (b + i) 0 : Int) - 97))) = some h5 := e5
    rw [e5, b1_s, zh_inc]
    exact e6
theorem zy_shelves (hN : 1000 ≤ N) (Y : zyp h bef now hist snap sv inp rep t) (ok : zv_ok now) (b n : Nat) (hb : b + n ≤ now.2.1.length) (hn : n ≤ 40) (hK : now.2.2.length < 8) : ∃ h', fM_shelves N 232 (Int32.ofInt (b : Int)) (Int32.ofInt (n : Int)) h = some (Int32.ofInt ((now.2.2.length + 1 : Nat) : Int), h') ∧ zyp h' bef (now.1, now.2.1, now.2.2 ++ [zw_p now.2.1 b (b + n)]) hist snap sv inp rep t ∧ zr_F h h' := by
  obtain ⟨fl, a, H, R, B⟩ := Y
  have o2 := ok.2.1
  have g1 : fAI h 233 100 (Int32.ofInt 2) = some (Int32.ofInt (a 233 2)) := zr_w H 2 (by decide)
  have n2 := R.1.2.2.2.1
  obtain ⟨h1, e1, H1, F1⟩ := zr_p H 233 (123 + now.2.2.length) (by decide) (by decide) (by show 123 + now.2.2.length < 451; omega) (n : Int)
  obtain ⟨h2, a2, e2, H2, F2, p2, q2, r2⟩ := zr_shelves32 (N := N) hK hn hb o2 (a0 := zr_v a 233 (123 + now.2.2.length) (n : Int)) (fun i hi => (zr_vn a _ (Or.inr (by omega))).trans (R.1.2.2.1 i hi)) ((zr_vn a _ (Or.inr (by omega))).trans n2) n N 0 h1 _ H1 (Nat.zero_add _) (by omega) (fun _ _ _ => rfl) (fun j hj => absurd hj (Nat.not_lt_zero j))
  have hl : (zw_p now.2.1 b (b + n)).length = n := by
    rw [zw_pl _ _ _ hb]
    omega
  have n3 : zy_is (a2 233) (now.1, now.2.1, now.2.2 ++ [zw_p now.2.1 b (b + n)]) := zy_isS ok R.1 hK q2 (by rw [p2 233 _ (Or.inr (by omega)), zr_vs, hl]) (fun i hi => by
    rw [hl] at hi
    rw [r2 i hi, zw_pd (by omega)]) (fun j j1 j2 j3 => (p2 233 j (Or.inr ⟨j3, j1⟩)).trans (zr_vn a _ (Or.inr j2)))
  have g2 : ∀ p i, p ≠ 233 → a2 p i = a p i := fun p i hp => (p2 p i (Or.inl hp)).trans (zr_vn a _ (Or.inl hp))
  refine ⟨h2, ?_, ⟨fl, a2, H2, zyR_a R (fun _ _ => rfl) (fun p i hp => g2 p i (by omega)) n3, ?_⟩, zr_Ft F1 F2⟩
  · unfold fM_shelves
    rw [zr_T H, cond_true, zr_r0 H, b1_s, g1, b1_s, b1_s, b1_s, g1, b1_s, n2, zw_add]
    have e1 : fAS h 233 100 (Int32.ofInt (123 + (now.2.2.length : Int))) (.int (Int32.ofInt (n : Int))) = some h1 := e1
    rw [e1, b1_s, show Int32.ofInt 131 + Int32.ofInt 40 * Int32.ofInt (now.2.2.length : Int) = Int32.ofInt ((131 + 40 * now.2.2.length : Nat) : Int) from (by rw [← Int32.ofInt_mul, ← Int32.ofInt_add]; rfl)]
    exact e2
  · rw [show a2 234 = a 234 from funext fun i => g2 234 i (by decide)]
    exact B
end ZYH
end
