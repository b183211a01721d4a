/-! THE REFERENCE'S readText AND keepText. -/
section ZYH
variable {N : Nat} {h : zH} {fl fl' : Nat → Int} {a a' : Nat → Nat → Int} {bef now snap : zA} {hist : List zA} {sv t : Int} {inp : List Nat} {rep : zvP} {T : List Nat}
theorem zd_lt {l : List Nat} (hv : ∀ v ∈ l, v < 256) (i : Nat) : l.getD i 0 < 256 := by
  rw [List.getD_eq_getElem?_getD]
  cases e : l[i]? with
  | none => exact (by decide : (0 : Nat) < 256)
  | some v => exact hv v (List.mem_of_getElem? e)
theorem zr_read2 (H : zr h fl a) (R : zyR fl a now hist snap sv inp rep t) (ok : zv_ok now) (hl : inp.length ≤ 600) (hv : ∀ v ∈ inp, v < 256) : ∀ (c f i : Nat), i + c = inp.length → c < f → fM_readText_2 N f 232 (Int32.ofInt (i : Int)) h = fM_readText_29 N 232 (Int32.ofInt ((i + zv_pl now.1 (inp.drop i) : Nat) : Int)) h := by
  intro c
  induction c with
  | zero =>
    intro f i h1 h2
    obtain ⟨g, rfl⟩ : ∃ g, f = g + 1 := ⟨f - 1, by omega⟩
    rw [fM_readText_2, zr_i H 10 rfl, b1_s, R.2.2.2.2.2.1.1, zqo_ge _ _ (by omega) (by omega), decide_eq_true (by omega), cond_true, List.drop_eq_nil_of_le (by omega)]
    rfl
  | succ c ih =>
    intro f i h1 h2
    obtain ⟨g, rfl⟩ : ∃ g, f = g + 1 := ⟨f - 1, by omega⟩
    have hv := zd_lt hv i
    have g1 : fAI h 237 100 (Int32.ofInt (i : Int)) = some (Int32.ofInt (inp.getD i 0 : Int)) := by
      rw [← R.2.2.2.2.2.1.2 i (by omega)]
      exact zr_g H 237 i (by decide) (by decide) (by show i < 600; omega)
    have e2 : inp.drop i = inp.getD i 0 :: inp.drop (i + 1) := by
      rw [List.getD_eq_getElem?_getD, List.getElem?_eq_getElem (by omega), List.drop_eq_getElem_cons (by omega)]
      rfl
    rw [fM_readText_2, zr_i H 10 rfl, b1_s, R.2.2.2.2.2.1.1, zqo_ge _ _ (by omega) (by omega), decide_eq_false (by omega), cond_false, zr_r6 H, b1_s, g1, b1_s, zr_isLetter H R.1.1 ok.1.2 _ (by omega), b2, e2, zv_pl]
    by_cases e : 97 ≤ inp.getD i 0 ∧ inp.getD i 0 < 97 + now.1
    · rw [decide_eq_true (by omega), cond_true, if_pos e, zh_inc]
      show fM_readText_2 N g 232 (Int32.ofInt ((i + 1 : Nat) : Int)) h = _
      rw [ih g (i + 1) (by omega) (by omega), show i + 1 + zv_pl now.1 (inp.drop (i + 1)) = i + (zv_pl now.1 (inp.drop (i + 1)) + 1) by omega]
    · rw [decide_eq_false (by omega), cond_false, if_neg e]
      rfl
theorem zr_read60 {n : Nat} (hn : n ≤ 120) (hl : n ≤ inp.length) : ∀ (c f i : Nat) (h : zH) (fl : Nat → Int) (a : Nat → Nat → Int), zr h fl a → (∀ i, i < inp.length → a 237 i = (inp.getD i 0 : Int)) → zr_rw fl a (inp.take i) → i + c = n → c < f → inp.length ≤ 600 → ∃ g h1 fl1 a1, zr h1 fl1 a1 ∧ zr_F h h1 ∧ zr_Q fl a fl1 a1 ∧ zr_rw fl1 a1 (inp.take n) ∧ fM_readText_60 N f 232 (Int32.ofInt (n : Int)) (Int32.ofInt (i : Int)) h = fM_readText_60 N (g + 1) 232 (Int32.ofInt (n : Int)) (Int32.ofInt (n : Int)) h1 := by
  intro c
  induction c with
  | zero =>
    intro f i h fl a H hi r h1 h2 h3
    obtain ⟨g, rfl⟩ : ∃ g, f = g + 1 := ⟨f - 1, by omega⟩
    have e : i = n := by omega
    subst e
    exact ⟨g, h, fl, a, H, zr_Fr h, zr_Qr fl a, r, rfl⟩
  | succ c ih =>
    intro f i h fl a H hi r h1 h2 h3
    obtain ⟨g, rfl⟩ : ∃ g, f = g + 1 := ⟨f - 1, by omega⟩
    have g1 : fAI h 237 100 (Int32.ofInt (i : Int)) = some (Int32.ofInt (inp.getD i 0 : Int)) := by
      rw [← hi i (by omega)]
      exact zr_g H 237 i (by decide) (by decide) (by show i < 600; omega)
    have hk : (inp.take i).length = i := by
      rw [List.length_take]
      omega
    obtain ⟨h5, f5, a5, e5, H5, F5, Q5, r5⟩ := zr_adds (N := N) H r (by omega) (inp.getD i 0)
    have e2 : inp.take i ++ [inp.getD i 0] = inp.take (i + 1) := by
      rw [List.take_succ, List.getD_eq_getElem?_getD, List.getElem?_eq_getElem (by omega)]
      rfl
    rw [e2] at r5
    obtain ⟨g6, h6, f6, a6, H6, F6, Q6, r6, e6⟩ := ih g (i + 1) h5 f5 a5 H5 (fun j hj => (Q5.2 237 j (by decide) (by decide)).trans (hi j hj)) r5 (by omega) (by omega) h3
    refine ⟨g6, h6, f6, a6, H6, zr_Ft F5 F6, zr_Qt Q5 Q6, r6, ?_⟩
    rw [← e6, fM_readText_60, zqo_ge _ _ (by omega) (by omega), decide_eq_false (by omega), cond_false, zr_r6 H, b1_s, g1, b1_s, zw_sub, e5, b2, zh_inc]
theorem zn_readText (Y : zy h now hist snap sv inp rep t) (o : zo now hist snap) (hN : 4000 ≤ N) (hl : inp.length ≤ 600) (hv : ∀ v ∈ inp, v < 256) : (120 < zv_pl now.1 inp ∧ ∃ h', fM_readText N 232 h = some (Int32.ofInt 0, h') ∧ zy h' now hist snap sv inp rep 1 ∧ zr_F h h') ∨ (zv_pl now.1 inp ≤ 120 ∧ ∃ h', fM_readText N 232 h = some (Int32.ofInt (zv_pl now.1 inp : Int), h') ∧ zy h' (now.1, inp.take (zv_pl now.1 inp), now.2.2) (zv_push hist now) snap sv [] rep 0 ∧ zr_F h h') := by
  obtain ⟨ok, okh, h8, oks⟩ := o
  obtain ⟨fl0, a0, H0, R0⟩ := id Y
  have hp := zv_pll now.1 inp
  have e0 := zr_read2 (N := N) H0 R0 ok hl hv inp.length N 0 (Nat.zero_add _) (by omega)
  rw [List.drop_zero, Nat.zero_add] at e0
  unfold fM_readText
  rw [zr_T H0, cond_true]
  have e0 : fM_readText_2 N N 232 (Int32.ofInt 0) h = fM_readText_29 N 232 (Int32.ofInt (zv_pl now.1 inp : Int)) h := e0
  rw [e0]
  unfold fM_readText_29
  rw [zqo_le _ _ (by omega) (by decide)]
  by_cases e : zv_pl now.1 inp ≤ 120
  · rw [decide_eq_true (by omega), cond_true]
    refine Or.inr ⟨e, ?_⟩
    obtain ⟨h1, e1, Y1, F1⟩ := zy_one0 (N := N) Y
    obtain ⟨h2, e2, ⟨fl, a, H, R, B⟩, F2⟩ := zy_begins (N := N) (by omega) Y1 ok
    obtain ⟨h3, e3, H3, F3⟩ := zr_s H 14 rfl 0
    obtain ⟨g, h4, f4, a4, H4, F4, Q4, r4, e4⟩ := zr_read60 (N := N) e hp (zv_pl now.1 inp) N 0 h3 _ a H3 R.2.2.2.2.2.1.2 ⟨rfl, fun i hi => by
      rw [List.take_zero] at hi
      cases hi⟩ (Nat.zero_add _) (by omega) hl
    have Q : zr_Q fl a f4 a4 := ⟨fun k hk => (Q4.1 k hk).trans (if_neg hk), Q4.2⟩
    obtain ⟨h5, e5, H5, F5⟩ := zr_s H4 10 rfl 0
    have r5 : zr_rw (zr_u f4 10 0) a4 (inp.take (zv_pl now.1 inp)) := r4
    have hk : (inp.take (zv_pl now.1 inp)).length = zv_pl now.1 inp := by
      rw [List.length_take]
      omega
    obtain ⟨h6, a6, e6, H6, F6, p6, t6⟩ := zr_takes (N := N) (by omega) H5 r5 (by omega)
    have R4 := zyR_Q R Q
    have n6 : zy_is (a6 233) (now.1, inp.take (zv_pl now.1 inp), now.2.2) := zy_isT R4.1 t6.1 t6.2 (fun j h3 h4 => p6 233 j (Or.inr ⟨h3, h4⟩))
    have R5 : zyR (zr_u f4 10 0) a4 now hist snap sv [] rep 0 := ⟨R4.1, R4.2.1, R4.2.2.1, R4.2.2.2.1, R4.2.2.2.2.1, ⟨rfl, fun i hi => by cases hi⟩, R4.2.2.2.2.2.2.1, R4.2.2.2.2.2.2.2⟩
    have R6 := zyR_a (fl' := zr_u f4 10 0) (a' := a6) R5 (fun _ _ => rfl) (fun p i hp => p6 p i (Or.inl (by omega))) n6
    have B6 : zy_is (a6 234) now := by
      rw [show a6 234 = a 234 from funext fun i => (p6 234 i (Or.inl (by decide))).trans (Q.2 234 i (by decide) (by decide))]
      exact B
    obtain ⟨h7, e7, Y7, F7⟩ := zy_remember (N := N) hN ⟨_, a6, H6, R6, B6⟩ ok okh h8 (Int32.ofInt (zv_pl now.1 inp : Int))
    refine ⟨h7, ?_, Y7, zr_Ft F1 (zr_Ft F2 (zr_Ft F3 (zr_Ft F4 (zr_Ft F5 (zr_Ft F6 F7)))))⟩
    unfold fM_readText_41
    rw [e1, b2]
    show b2 (fM_begins N 232 h1) _ = _
    rw [e2, b2, e3, b1_s]
    have e4 : fM_readText_60 N N 232 (Int32.ofInt (zv_pl now.1 inp : Int)) (Int32.ofInt 0) h3 = _ := e4
    rw [e4, fM_readText_60, zqo_ge _ _ (by omega) (by omega), decide_eq_true (Int.le_refl _), cond_true, e5, b1_s, e6, b2, hk, e7]
    rfl
  · rw [decide_eq_false (by omega), cond_false]
    refine Or.inl ⟨by omega, ?_⟩
    obtain ⟨h1, e1, Y1, F1⟩ := zy_one1 (N := N) Y
    refine ⟨h1, ?_, Y1, F1⟩
    unfold fM_readText_41
    rw [e1]
    rfl
/-- a word more on the shelf -/
theorem zy_isS {g g' : Nat → Int} {A : zA} {w : List Nat} (ok : zv_ok A) (h : zy_is g A) (hK : A.2.2.length < 8) (h1 : g' 2 = ((A.2.2.length + 1 : Nat) : Int)) (h2 : g' (123 + A.2.2.length) = (w.length : Int)) (h3 : ∀ i, i < w.length → g' (131 + 40 * A.2.2.length + i) = (w.getD i 0 : Int) - 97) (e : ∀ j, j ≠ 2 → j ≠ 123 + A.2.2.length → j < 131 + 40 * A.2.2.length → g' j = g j) : zy_is g' (A.1, A.2.1, A.2.2 ++ [w]) := by
  obtain ⟨a1, a2, a3, a4, a5⟩ := h
  have o2 := ok.2.1
  have hl : (A.2.2 ++ [w]).length = A.2.2.length + 1 := List.length_append
  refine ⟨(e 0 (by decide) (by omega) (by omega)).trans a1, (e 1 (by decide) (by omega) (by omega)).trans a2, fun i (hi : i < A.2.1.length) => (e _ (by omega) (by omega) (by omega)).trans (a3 i hi), by rw [h1, hl], fun k hk => ?_⟩
  have hk : k < A.2.2.length + 1 := hl ▸ hk
  show g' (123 + k) = (((A.2.2 ++ [w]).getD k []).length : Int) ∧ ∀ i, i < ((A.2.2 ++ [w]).getD k []).length → g' (131 + 40 * k + i) = (((A.2.2 ++ [w]).getD k []).getD i 0 : Int) - 97
  by_cases ek : k = A.2.2.length
  · subst ek
    have ew : (A.2.2 ++ [w]).getD A.2.2.length [] = w := by
      rw [List.getD_eq_getElem?_getD, List.getElem?_append_right (Nat.le_refl _), Nat.sub_self]
      rfl
    rw [ew]
    exact ⟨h2, h3⟩
  · have ew : (A.2.2 ++ [w]).getD k [] = A.2.2.getD k [] := by
      rw [List.getD_eq_getElem?_getD, List.getElem?_append_left (by omega), ← List.getD_eq_getElem?_getD]
    rw [ew]
    have hw : A.2.2.getD k [] ∈ A.2.2 := by
      rw [List.getD_eq_getElem?_getD, List.getElem?_eq_getElem (by omega)]
      exact List.getElem_mem _
    have o5 := (ok.2.2.2.2 _ hw).2.1
    have b5 := a5 k (by omega)
    exact ⟨(e _ (by omega) (by omega) (by omega)).trans b5.1, fun i hi => (e _ (by omega) (by omega) (by omega)).trans (b5.2 i hi)⟩
theorem zr_shelves32 {K n b : Nat} {T : List Nat} (hK : K < 8) (hn : n ≤ 40) (hb : b + n ≤ T.length) (hT : T.length ≤ 120) {a0 : Nat → Nat → Int} (ht : ∀ i, i < T.length → a0 233 (3 + i) = (T.getD i 0 : Int) - 97) (h2 : a0 233 2 = (K : Int)) : ∀ (c f i : Nat) (h : zH) (a : Nat → Nat → Int), zr h fl a → i + c = n → c < f → (∀ p j, (p ≠ 233 ∨ j < 131 + 40 * K) → a p j = a0 p j) → (∀ j, j < i → a 233 (131 + 40 * K + j) = (T.getD (b + j) 0 : Int) - 97) → ∃ h' a', fM_shelves_32 N f 232 (Int32.ofInt (b : Int)) (Int32.ofInt (n : Int)) (Int32.ofInt ((131 + 40 * K : Nat) : Int)) (Int32.ofInt (i : Int)) h = some (Int32.ofInt ((K + 1 : Nat) : Int), h') ∧ zr h' fl a' ∧ zr_F h h' ∧ (∀ p j, (p ≠ 233 ∨ (j < 131 + 40 * K ∧ j ≠ 2)) → a' p j = a0 p j) ∧ a' 233 2 = ((K + 1 : Nat) : Int) ∧ ∀ j, j < n → a' 233 (131 + 40 * K + j) = (T.getD (b + j) 0 : Int) - 97 := by
  intro c
  induction c with
  | zero =>
    intro f i h a H h1 hf h3 h4
    obtain ⟨g, rfl⟩ : ∃ g, f = g + 1 := ⟨f - 1, by omega⟩
    have g1 : fAI h 233 100 (Int32.ofInt 2) = some (Int32.ofInt (a 233 2)) := zr_w H 2 (by decide)
    obtain ⟨h5, e5, H5, F5⟩ := zr_p H 233 2 (by decide) (by decide) (by decide) ((K + 1 : Nat) : Int)
    have g2 : fAI h5 233 100 (Int32.ofInt 2) = some (Int32.ofInt (zr_v a 233 2 ((K + 1 : Nat) : Int) 233 2)) := zr_w H5 2 (by decide)
    refine ⟨h5, _, ?_, H5, F5, fun p j hp => (zr_vn a _ (by omega)).trans (h3 p j (by omega)), zr_vs _ _ _ _, fun j hj => (zr_vn a _ (Or.inr (by omega))).trans (h4 j (by omega))⟩
    rw [fM_shelves_32, zqo_ge _ _ (by omega) (by omega), decide_eq_true (by omega), cond_true, zr_r0 H, b1_s, g1, b1_s, h3 233 2 (Or.inr (by omega)), h2, zw_add]
    have e5 : fAS h 233 100 (Int32.ofInt 2) (.int (Int32.ofInt ((K : Int) + 1))) = some h5 := e5
    rw [e5, b1_s, zr_r0 H5, b1_s, g2, b1_s, zr_vs]
  | succ c ih =>
    intro f i h a H h1 hf h3 h4
    obtain ⟨g, rfl⟩ : ∃ g, f = g + 1 := ⟨f - 1, by omega⟩
    obtain ⟨h5, e5, H5, F5⟩ := zr_p H 233 (131 + 40 * K + i) (by decide) (by decide) (by show 131 + 40 * K + i < 451; omega) ((T.getD (b + i) 0 : Int) - 97)
    obtain ⟨h6, a6, e6, H6, F6, p6, q6, r6⟩ := ih g (i + 1) h5 _ H5 (by omega) (by omega) (fun p j hp => (zr_vn a _ (by omega)).trans (h3 p j hp)) (fun j hj => by
      by_cases e : j = i
      · rw [e, zr_vs]
      · rw [zr_vn a _ (Or.inr (by omega))]
        exact h4 j (by omega))
    refine ⟨h6, a6, ?_, H6, zr_Ft F5 F6, p6, q6, r6⟩
    have g1 : fAI h 233 100 (Int32.ofInt (3 + (b : Int) + (i : Int))) = some (Int32.ofInt ((T.getD (b + i) 0 : Int) - 97)) := by
      rw [show 3 + (b : Int) + (i : Int) = ((3 + (b + i) : Nat) : Int) by omega, zr_w H _ (by omega), h3 233 _ (Or.inr (by omega)), ht _ (by omega)]
    rw [fM_shelves_32, zqo_ge _ _ (by omega) (by omega), decide_eq_false (by omega), cond_false, zr_r0 H, b1_s, b1_s, zw_add, zw_add, g1, b1_s, zw_add]
    have e5 : fAS h 233 100 (Int32.ofInt (((131 + 40 * K : Nat) : Int) + (i : Int))) (.int (Int32.ofInt ((T.getD (b + i) 0 : Int) - 97))) = some h5 := e5
    rw [e5, b1_s, zh_inc]
    exact e6
theorem zy_shelves (hN : 1000 ≤ N) (Y : zyp h bef now hist snap sv inp rep t) (ok : zv_ok now) (b n : Nat) (hb : b + n ≤ now.2.1.length) (hn : n ≤ 40) (hK : now.2.2.length < 8) : ∃ h', fM_shelves N 232 (Int32.ofInt (b : Int)) (Int32.ofInt (n : Int)) h = some (Int32.ofInt ((now.2.2.length + 1 : Nat) : Int), h') ∧ zyp h' bef (now.1, now.2.1, now.2.2 ++ [zw_p now.2.1 b (b + n)]) hist snap sv inp rep t ∧ zr_F h h' := by
  obtain ⟨fl, a, H, R, B⟩ := Y
  have o2 := ok.2.1
  have g1 : fAI h 233 100 (Int32.ofInt 2) = some (Int32.ofInt (a 233 2)) := zr_w H 2 (by decide)
  have n2 := R.1.2.2.2.1
  obtain ⟨h1, e1, H1, F1⟩ := zr_p H 233 (123 + now.2.2.length) (by decide) (by decide) (by show 123 + now.2.2.length < 451; omega) (n : Int)
  obtain ⟨h2, a2, e2, H2, F2, p2, q2, r2⟩ := zr_shelves32 (N := N) hK hn hb o2 (a0 := zr_v a 233 (123 + now.2.2.length) (n : Int)) (fun i hi => (zr_vn a _ (Or.inr (by omega))).trans (R.1.2.2.1 i hi)) ((zr_vn a _ (Or.inr (by omega))).trans n2) n N 0 h1 _ H1 (Nat.zero_add _) (by omega) (fun _ _ _ => rfl) (fun j hj => absurd hj (Nat.not_lt_zero j))
  have hl : (zw_p now.2.1 b (b + n)).length = n := by
    rw [zw_pl _ _ _ hb]
    omega
  have n3 : zy_is (a2 233) (now.1, now.2.1, now.2.2 ++ [zw_p now.2.1 b (b + n)]) := zy_isS ok R.1 hK q2 (by rw [p2 233 _ (Or.inr (by omega)), zr_vs, hl]) (fun i hi => by
    rw [hl] at hi
    rw [r2 i hi, zw_pd (by omega)]) (fun j j1 j2 j3 => (p2 233 j (Or.inr ⟨j3, j1⟩)).trans (zr_vn a _ (Or.inr j2)))
  have g2 : ∀ p i, p ≠ 233 → a2 p i = a p i := fun p i hp => (p2 p i (Or.inl hp)).trans (zr_vn a _ (Or.inl hp))
  refine ⟨h2, ?_, ⟨fl, a2, H2, zyR_a R (fun _ _ => rfl) (fun p i hp => g2 p i (by omega)) n3, ?_⟩, zr_Ft F1 F2⟩
  · unfold fM_shelves
    rw [zr_T H, cond_true, zr_r0 H, b1_s, g1, b1_s, b1_s, b1_s, g1, b1_s, n2, zw_add]
    have e1 : fAS h 233 100 (Int32.ofInt (123 + (now.2.2.length : Int))) (.int (Int32.ofInt (n : Int))) = some h1 := e1
    rw [e1, b1_s, show Int32.ofInt 131 + Int32.ofInt 40 * Int32.ofInt (now.2.2.length : Int) = Int32.ofInt ((131 + 40 * now.2.2.length : Nat) : Int) from (by rw [← Int32.ofInt_mul, ← Int32.ofInt_add]; rfl)]
    exact e2
  · rw [show a2 234 = a 234 from funext fun i => g2 234 i (by decide)]
    exact B
end ZYH
