/-! THE REFERENCE: its object, its arrays. -/
def zr_o (fl : Nat → Int) : List Value := [.ref 233, .ref 234, .ref 235, .ref 236, .int (Int32.ofInt (fl 4)), .int (Int32.ofInt (fl 5)), .ref 237, .ref 238, .ref 239, .ref 240, .int (Int32.ofInt (fl 10)), .int (Int32.ofInt (fl 11)), .int (Int32.ofInt (fl 12)), .int (Int32.ofInt (fl 13)), .int (Int32.ofInt (fl 14)), .ref 241, .int (Int32.ofInt (fl 16)), .int (Int32.ofInt (fl 17)), .int (Int32.ofInt (fl 18)), .int (Int32.ofInt (fl 19)), .int (Int32.ofInt (fl 20)), .int (Int32.ofInt (fl 21)), .int (Int32.ofInt (fl 22)), .ref 242]
def zr_t (p : Nat) : Nat := if p = 241 then 102 else 100
def zr_n (p : Nat) : Nat := if p = 235 then 3608 else if p = 237 ∨ p = 238 then 600 else if p = 239 ∨ p = 240 then 130 else if p = 241 then 400 else if p = 242 then 2 else 451
def zr_A (h : zH) (p t n : Nat) (g : Nat → Int) : Prop := ∃ R, h[p]? = some (t, R) ∧ R.length = n ∧ ∀ i, i < n → R[i]? = some (.int (Int32.ofInt (g i)))
/-- the reference with the numbers fl and the arrays a -/
def zr (h : zH) (fl : Nat → Int) (a : Nat → Nat → Int) : Prop := h[232]? = some (5, zr_o fl) ∧ ∀ p, 233 ≤ p → p ≤ 242 → zr_A h p (zr_t p) (zr_n p) (a p)
/-- all but the reference's cells is as before -/
def zr_F (h h' : zH) : Prop := h'.length = h.length ∧ ∀ p, (p < 232 ∨ 243 ≤ p) → h'[p]? = h[p]?
theorem zr_Fr (h : zH) : zr_F h h := ⟨rfl, fun _ _ => rfl⟩
theorem zr_Ft {h1 h2 h3 : zH} (a : zr_F h1 h2) (b : zr_F h2 h3) : zr_F h1 h3 := ⟨b.1.trans a.1, fun p h4 => (b.2 p h4).trans (a.2 p h4)⟩
def zr_u (fl : Nat → Int) (k : Nat) (x : Int) : Nat → Int := fun j => if j = k then x else fl j
def zr_v (a : Nat → Nat → Int) (p i : Nat) (x : Int) : Nat → Nat → Int := fun r j => if r = p ∧ j = i then x else a r j
theorem zr_vs (a : Nat → Nat → Int) (p i : Nat) (x : Int) : zr_v a p i x p i = x := if_pos ⟨rfl, rfl⟩
theorem zr_vn (a : Nat → Nat → Int) {p i r j : Nat} (x : Int) (h : r ≠ p ∨ j ≠ i) : zr_v a p i x r j = a r j := if_neg (fun e => by
  rcases h with h | h
  · exact h e.1
  · exact h e.2)
def zr_ok (k : Nat) : Bool := decide (k = 4 ∨ k = 5 ∨ (10 ≤ k ∧ k ≤ 14) ∨ (16 ≤ k ∧ k ≤ 22))
theorem zr_cases {k : Nat} (h : zr_ok k = true) : k = 4 ∨ k = 5 ∨ k = 10 ∨ k = 11 ∨ k = 12 ∨ k = 13 ∨ k = 14 ∨ k = 16 ∨ k = 17 ∨ k = 18 ∨ k = 19 ∨ k = 20 ∨ k = 21 ∨ k = 22 := by
  have h := of_decide_eq_true h
  omega
section ZRR
variable {h : zH} {fl : Nat → Int} {a : Nat → Nat → Int}
theorem zr_T (H : zr h fl a) : fT h 232 5 = true := zi_T (by decide) H.1
theorem zr_i (H : zr h fl a) (k : Nat) (hk : zr_ok k = true) : fI h 232 5 k = some (Int32.ofInt (fl k)) := by
  refine zh_I (by decide) H.1 ?_
  rcases zr_cases hk with e | e | e | e | e | e | e | e | e | e | e | e | e | e <;> subst e <;> rfl
theorem zr_s (H : zr h fl a) (k : Nat) (hk : zr_ok k = true) (x : Int) : ∃ h', fS h 232 5 k (.int (Int32.ofInt x)) = some h' ∧ zr h' (zr_u fl k x) a ∧ zr_F h h' := by
  have e : (zr_o fl).set k (.int (Int32.ofInt x)) = zr_o (zr_u fl k x) := by
    rcases zr_cases hk with e | e | e | e | e | e | e | e | e | e | e | e | e | e <;> subst e <;> rfl
  have hl : k < (zr_o fl).length := by
    show k < 24
    rcases zr_cases hk with e | e | e | e | e | e | e | e | e | e | e | e | e | e <;> omega
  refine ⟨h.set 232 (5, zr_o (zr_u fl k x)), ?_, ⟨List.getElem?_set_self (List.getElem?_eq_some_iff.mp H.1).1, ?_⟩, by rw [List.length_set], fun p hp => zh_set (by omega)⟩
  · rw [zh_S H.1 hl, e]
  · intro p h1 h2
    obtain ⟨R, r1, r2⟩ := H.2 p h1 h2
    exact ⟨R, (zh_set (by omega)).trans r1, r2⟩
theorem zr_g (H : zr h fl a) (p i : Nat) (h1 : 233 ≤ p) (h2 : p ≤ 242) (hi : i < zr_n p) : fAI h p (zr_t p) (Int32.ofInt (i : Int)) = some (Int32.ofInt (a p i)) := by
  obtain ⟨R, r1, r2, r3⟩ := H.2 p h1 h2
  have hn : zr_n p ≤ 3608 := by
    unfold zr_n
    repeat' split
    all_goals omega
  exact zh_AI (by omega) r1 (r3 i hi) (by omega)
theorem zr_p (H : zr h fl a) (p i : Nat) (h1 : 233 ≤ p) (h2 : p ≤ 242) (hi : i < zr_n p) (x : Int) : ∃ h', fAS h p (zr_t p) (Int32.ofInt (i : Int)) (.int (Int32.ofInt x)) = some h' ∧ zr h' fl (zr_v a p i x) ∧ zr_F h h' := by
  obtain ⟨R, r1, r2, r3⟩ := H.2 p h1 h2
  have hn : zr_n p ≤ 3608 := by
    unfold zr_n
    repeat' split
    all_goals omega
  refine ⟨h.set p (zr_t p, R.set i (.int (Int32.ofInt x))), zh_AS r1 (by omega) (by omega), ⟨(zh_set (by omega)).trans H.1, ?_⟩, by rw [List.length_set], fun r hr => zh_set (by omega)⟩
  intro r h3 h4
  by_cases e : r = p
  · subst e
    refine ⟨_, List.getElem?_set_self (List.getElem?_eq_some_iff.mp r1).1, by rw [List.length_set]; exact r2, ?_⟩
    intro j hj
    by_cases ej : j = i
    · subst ej
      rw [List.getElem?_set_self (by omega), zr_vs]
    · rw [List.getElem?_set_ne (by omega), zr_vn a x (Or.inr ej)]
      exact r3 j hj
  · obtain ⟨R2, q1, q2, q3⟩ := H.2 r h3 h4
    refine ⟨R2, (zh_set (by omega)).trans q1, q2, ?_⟩
    intro j hj
    rw [zr_vn a x (Or.inl e)]
    exact q3 j hj
theorem zr_r0 (H : zr h fl a) : fR h 232 5 0 = some 233 := zh_R (b := 0) (by decide) H.1 rfl
theorem zr_r1 (H : zr h fl a) : fR h 232 5 1 = some 234 := zh_R (b := 1) (by decide) H.1 rfl
theorem zr_r2 (H : zr h fl a) : fR h 232 5 2 = some 235 := zh_R (b := 2) (by decide) H.1 rfl
theorem zr_r3 (H : zr h fl a) : fR h 232 5 3 = some 236 := zh_R (b := 3) (by decide) H.1 rfl
theorem zr_r6 (H : zr h fl a) : fR h 232 5 6 = some 237 := zh_R (b := 6) (by decide) H.1 rfl
theorem zr_r7 (H : zr h fl a) : fR h 232 5 7 = some 238 := zh_R (b := 7) (by decide) H.1 rfl
theorem zr_r8 (H : zr h fl a) : fR h 232 5 8 = some 239 := zh_R (b := 8) (by decide) H.1 rfl
theorem zr_r9 (H : zr h fl a) : fR h 232 5 9 = some 240 := zh_R (b := 9) (by decide) H.1 rfl
theorem zr_r15 (H : zr h fl a) : fR h 232 5 15 = some 241 := zh_R (b := 15) (by decide) H.1 rfl
theorem zr_r23 (H : zr h fl a) : fR h 232 5 23 = some 242 := zh_R (b := 23) (by decide) H.1 rfl
/-- w at a place -/
theorem zr_w (H : zr h fl a) (i : Nat) (hi : i < 451) : fAI h 233 100 (Int32.ofInt (i : Int)) = some (Int32.ofInt (a 233 i)) := zr_g H 233 i (by decide) (by decide) hi
theorem zr_row (H : zr h fl a) (i : Nat) (hi : i < 130) : fAI h 239 100 (Int32.ofInt (i : Int)) = some (Int32.ofInt (a 239 i)) := zr_g H 239 i (by decide) (by decide) hi
theorem zr_st (H : zr h fl a) (i : Nat) (hi : i < 130) : fAI h 240 100 (Int32.ofInt (i : Int)) = some (Int32.ofInt (a 240 i)) := zr_g H 240 i (by decide) (by decide) hi
end ZRR
