/-! THE CLASS'S STATES: twenty cells each: the state, its text, its shelf. -/
def zs_a (q : Nat) : List Value := [.ref (q + 4), .ref (q + 6), .ref (q + 8), .ref (q + 10), .ref (q + 12), .ref (q + 14), .ref (q + 16), .ref (q + 18)]
/-- a state at q: L letters, the text T, the words of the shelf, K of them kept -/
def zs_S (h : zH) (q L : Nat) (T : List Nat) (S : Nat → List Nat) (K : Nat) : Prop := q + 20 < 1000000 ∧ h[q]? = some (3, [.int (Int32.ofInt (L : Int)), .ref (q + 1), .ref (q + 3), .int (Int32.ofInt (K : Int))]) ∧ h[q + 3]? = some (104, zs_a q) ∧ zw_W h (q + 1) 120 T ∧ (∀ i, i < 8 → zw_W h (q + 4 + 2 * i) 40 (S i)) ∧ K ≤ 8 ∧ L ≤ 9
/-- all but the state's cells is as before -/
def zs_F (h h' : zH) (q : Nat) : Prop := h'.length = h.length ∧ ∀ p, (p < q ∨ q + 20 ≤ p) → h'[p]? = h[p]?
theorem zs_Fr (h : zH) (q : Nat) : zs_F h h q := ⟨rfl, fun _ _ => rfl⟩
theorem zs_Ft {h1 h2 h3 : zH} {q : Nat} (a : zs_F h1 h2 q) (b : zs_F h2 h3 q) : zs_F h1 h3 q := ⟨b.1.trans a.1, fun p h4 => (b.2 p h4).trans (a.2 p h4)⟩
theorem zs_Fw {h h' : zH} {q o : Nat} (f : zw_F h h' o) (h1 : q ≤ o) (h2 : o + 1 < q + 20) : zs_F h h' q := ⟨f.1, fun p h3 => f.2 p (by omega) (by omega)⟩
theorem zs_keepW {h h' : zH} {q o n : Nat} {l : List Nat} (H : zw_W h o n l) (f : zs_F h h' q) (d : o + 1 < q ∨ q + 20 ≤ o) : zw_W h' o n l := by
  obtain ⟨a1, a2, ⟨R, a3, a4, a5⟩, a6, a7⟩ := H
  exact ⟨a1, (f.2 o (by omega)).trans a2, ⟨R, (f.2 (o + 1) (by omega)).trans a3, a4, a5⟩, a6, a7⟩
theorem zs_keep {h h' : zH} {p q L K : Nat} {T : List Nat} {S : Nat → List Nat} (H : zs_S h p L T S K) (f : zs_F h h' q) (d : p + 20 ≤ q ∨ q + 20 ≤ p) : zs_S h' p L T S K := by
  obtain ⟨a1, a2, a3, a4, a5, a6⟩ := H
  exact ⟨a1, (f.2 p (by omega)).trans a2, (f.2 (p + 3) (by omega)).trans a3, zs_keepW a4 f (by omega), fun i hi => zs_keepW (a5 i hi) f (by omega), a6⟩
/-- a word elsewhere changed -/
theorem zs_keepo {h h' : zH} {p o L K : Nat} {T : List Nat} {S : Nat → List Nat} (H : zs_S h p L T S K) (f : zw_F h h' o) (d : o + 1 < p ∨ p + 20 ≤ o) : zs_S h' p L T S K := by
  obtain ⟨a1, a2, a3, a4, a5, a6⟩ := H
  refine ⟨a1, (f.2 p (by omega) (by omega)).trans a2, (f.2 (p + 3) (by omega) (by omega)).trans a3, zw_keep a4 f (by unfold zw_d; omega), fun i hi => zw_keep (a5 i hi) f (by unfold zw_d; omega), a6⟩
section ZSS
variable {h h' : zH} {q L K N : Nat} {T : List Nat} {S : Nat → List Nat}
theorem zs_T (H : zs_S h q L T S K) : fT h q 3 = true := zi_T (by have := H.1; omega) H.2.1
theorem zs_L (H : zs_S h q L T S K) : fI h q 3 0 = some (Int32.ofInt (L : Int)) := zh_I (b := 0) (by have := H.1; omega) H.2.1 rfl
theorem zs_K (H : zs_S h q L T S K) : fI h q 3 3 = some (Int32.ofInt (K : Int)) := zh_I (b := 3) (by have := H.1; omega) H.2.1 rfl
theorem zs_t (H : zs_S h q L T S K) : fR h q 3 1 = some (q + 1) := zh_R (b := 1) (by have := H.1; omega) H.2.1 rfl
theorem zs_s (H : zs_S h q L T S K) : fR h q 3 2 = some (q + 3) := zh_R (b := 2) (by have := H.1; omega) H.2.1 rfl
theorem zs_n (H : zs_S h q L T S K) : fN h (q + 3) 104 = some (Int32.ofInt 8) := by
  rw [zi_N (by have := H.1; omega) H.2.2.1]
  rfl
theorem zs_ai (q i : Nat) (hi : i < 8) : (zs_a q)[i]? = some (.ref (q + 4 + 2 * i)) := by
  have h1 : i = 0 ∨ i = 1 ∨ i = 2 ∨ i = 3 ∨ i = 4 ∨ i = 5 ∨ i = 6 ∨ i = 7 := by omega
  rcases h1 with h1 | h1 | h1 | h1 | h1 | h1 | h1 | h1 <;> subst h1 <;> rfl
theorem zh_AR {h : zH} {q t i x : Nat} {vs : List Value} (hq : q < 1000000) (e : h[q]? = some (t, vs)) (e2 : vs[i]? = some (.ref x)) (hi : i < 2147483648) : fAR h q t (Int32.ofInt (i : Int)) = some x := by
  unfold fAR
  rw [decide_eq_false (zh_nat hi).1, cond_false, (zh_nat hi).2]
  exact zh_R hq e e2
theorem zs_i (H : zs_S h q L T S K) {i : Nat} (hi : i < 8) : fAR h (q + 3) 104 (Int32.ofInt (i : Int)) = some (q + 4 + 2 * i) := zh_AR (by have := H.1; omega) H.2.2.1 (zs_ai q i hi) (by omega)
theorem zs_X (H : zs_S h q L T S K) {i : Nat} (hi : i < 8) : fX h (q + 4 + 2 * i) = true := by
  have h1 := H.2.2.2.2.1 i hi
  unfold fX
  rw [zh_hg (by have := h1.1; omega) h1.2.1]
  rfl
/-- a kept word's place -/
theorem zs_at (H : zs_S h q L T S K) (x : Int) (hx : -2147483648 ≤ x ∧ x < 2147483648) : fS_keptAt N q (Int32.ofInt x) h = some (if 0 ≤ x ∧ x < (K : Int) then some (q + 4 + 2 * x.toNat) else none, h) := by
  have hK := H.2.2.2.2.2.1
  unfold fS_keptAt
  rw [zs_T H, cond_true, zqo_lt _ _ hx (by decide), zs_K H, b1_s, zqo_ge _ _ hx (by omega), zs_s H, b1_s, zs_n H, b1_s, zqo_ge _ _ hx (by decide)]
  by_cases e1 : x < 0
  · rw [decide_eq_true e1, cond_true, if_neg (by omega)]
    rfl
  · rw [decide_eq_false e1, cond_false]
    by_cases e2 : (K : Int) ≤ x
    · rw [decide_eq_true e2, cond_true, if_neg (by omega)]
      rfl
    · obtain ⟨y, rfl⟩ : ∃ y : Nat, x = (y : Int) := ⟨x.toNat, by omega⟩
      rw [decide_eq_false e2, cond_false, decide_eq_false (by omega), cond_false, b1_s, zs_i H (by omega), b1_s, if_pos (by omega)]
      rfl
/-- the text changed -/
theorem zs_text (H : zs_S h q L T S K) {T' : List Nat} (W : zw_W h' (q + 1) 120 T') (f : zw_F h h' (q + 1)) : zs_S h' q L T' S K ∧ zs_F h h' q := by
  obtain ⟨a1, a2, a3, a4, a5, a6⟩ := H
  exact ⟨⟨a1, (f.2 q (by omega) (by omega)).trans a2, (f.2 (q + 3) (by omega) (by omega)).trans a3, W, fun i hi => zw_keep (a5 i hi) f (by unfold zw_d; omega), a6⟩, zs_Fw f (by omega) (by omega)⟩
/-- a word of the shelf changed -/
theorem zs_word (H : zs_S h q L T S K) {i : Nat} (hi : i < 8) {l : List Nat} (W : zw_W h' (q + 4 + 2 * i) 40 l) (f : zw_F h h' (q + 4 + 2 * i)) : zs_S h' q L T (fun j => if j = i then l else S j) K ∧ zs_F h h' q := by
  obtain ⟨a1, a2, a3, a4, a5, a6⟩ := H
  refine ⟨⟨a1, (f.2 q (by omega) (by omega)).trans a2, (f.2 (q + 3) (by omega) (by omega)).trans a3, zw_keep a4 f (by unfold zw_d; omega), ?_, a6⟩, zs_Fw f (by omega) (by omega)⟩
  intro j hj
  show zw_W h' (q + 4 + 2 * j) 40 (if j = i then l else S j)
  by_cases e : j = i
  · rw [if_pos e, e]
    exact W
  · rw [if_neg e]
    exact zw_keep (a5 j hj) f (by unfold zw_d; omega)
/-- the state's own numbers changed -/
theorem zs_set (H : zs_S h q L T S K) {L' K' : Nat} (hL : L' ≤ 9) (hK : K' ≤ 8) : zs_S (h.set q (3, [.int (Int32.ofInt (L' : Int)), .ref (q + 1), .ref (q + 3), .int (Int32.ofInt (K' : Int))])) q L' T S K' ∧ zs_F h (h.set q (3, [.int (Int32.ofInt (L' : Int)), .ref (q + 1), .ref (q + 3), .int (Int32.ofInt (K' : Int))])) q := by
  obtain ⟨a1, a2, a3, a4, a5, a6⟩ := H
  have f : ∀ p, p ≠ q → (h.set q (3, [.int (Int32.ofInt (L' : Int)), .ref (q + 1), .ref (q + 3), .int (Int32.ofInt (K' : Int))]))[p]? = h[p]? := fun p hp => zh_set (fun e => hp e.symm)
  have kw : ∀ {o n : Nat} {l : List Nat}, zw_W h o n l → q < o → zw_W (h.set q (3, [.int (Int32.ofInt (L' : Int)), .ref (q + 1), .ref (q + 3), .int (Int32.ofInt (K' : Int))])) o n l := by
    intro o n l W ho
    obtain ⟨b1', b2', ⟨R, b3, b4, b5⟩, b6, b7⟩ := W
    exact ⟨b1', (f o (by omega)).trans b2', ⟨R, (f (o + 1) (by omega)).trans b3, b4, b5⟩, b6, b7⟩
  exact ⟨⟨a1, List.getElem?_set_self (List.getElem?_eq_some_iff.mp a2).1, (f (q + 3) (by omega)).trans a3, kw a4 (by omega), fun i hi => kw (a5 i hi) (by omega), hK, hL⟩, by rw [List.length_set], fun p hp => f p (by omega)⟩
theorem zs_setL (H : zs_S h q L T S K) {L' : Nat} (hL : L' ≤ 9) : ∃ h', fS h q 3 0 (.int (Int32.ofInt (L' : Int))) = some h' ∧ zs_S h' q L' T S K ∧ zs_F h h' q := by
  have h1 := zs_set H hL H.2.2.2.2.2.1
  exact ⟨_, zh_S H.2.1 (Nat.succ_pos 3), h1.1, h1.2⟩
theorem zs_setK (H : zs_S h q L T S K) {K' : Nat} (hK : K' ≤ 8) : ∃ h', fS h q 3 3 (.int (Int32.ofInt (K' : Int))) = some h' ∧ zs_S h' q L T S K' ∧ zs_F h h' q := by
  have h1 := zs_set H H.2.2.2.2.2.2 hK
  exact ⟨_, zh_S H.2.1 (Nat.lt_succ_self 3), h1.1, h1.2⟩
/-- keeps letters of another word -/
theorem zs_keepP (H : zs_S h q L T S K) (hK : K < 8) {o m : Nat} {l : List Nat} (O : zw_W h o m l) (d : ∀ i, i < 8 → zw_d o (q + 4 + 2 * i)) (hN : 1000 ≤ N) (i c : Nat) (h1 : i + c ≤ l.length) (h2 : c ≤ 40) : ∃ h', fS_keep N q o (Int32.ofInt (i : Int)) (Int32.ofInt ((i + c : Nat) : Int)) h = some ((), h') ∧ zs_S h' q L T (fun j => if j = K then (l.drop i).take c else S j) (K + 1) ∧ zs_F h h' q := by
  obtain ⟨h3, e3, W3, F3⟩ := zw_clear (N := N) (H.2.2.2.2.1 K hK)
  have O3 := zw_keep O F3 (d K hK)
  obtain ⟨h4, e4, W4, F4⟩ := zw_addPart (N := N) (d K hK) W3 O3 i c h1 (by rw [List.length_nil]; omega) (by omega)
  rw [List.nil_append] at W4
  obtain ⟨S4, G4⟩ := zs_word H hK W4 (zw_Ft F3 F4)
  obtain ⟨h5, e5, S5, G5⟩ := zs_setK S4 (K' := K + 1) (by omega)
  refine ⟨h5, ?_, S5, zs_Ft G4 G5⟩
  unfold fS_keep
  rw [zs_T H, cond_true, zs_K H, b1_s, zqo_lt _ _ (by omega) (by decide), decide_eq_false (by omega), cond_false, b1_s, zs_s H, b1_s, zs_n H, b1_s, zqo_lt _ _ (by omega) (by decide), decide_eq_true (by omega), cond_true, b1_s, b1_s, zs_i H hK, b1_s, zs_X H hK, cond_true, e3, b2, e4, b2, zs_K S4, b1_s, zh_inc, e5, b1_s]
end ZSS
