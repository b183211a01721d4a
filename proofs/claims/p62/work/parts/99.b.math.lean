/-! p62: A LETTER MORE; where a position lies; the greatest word of all. -/
theorem zm_ga {l : List Nat} {x i : Nat} (h : i < l.length) : (l ++ [x]).getD i 0 = l.getD i 0 := by
  rw [List.getD_eq_getElem?_getD, List.getElem?_append_left h, ← List.getD_eq_getElem?_getD]
theorem zm_leA {l : List Nat} {x s : Nat} : ∀ c p, 1 ≤ p → s + p + c ≤ l.length → zw_le (l ++ [x]) s (c + 1) p = zw_le l s c p ∨ zw_le (l ++ [x]) s (c + 1) p = l.length + 1 := by
  have hl : (l ++ [x]).length = l.length + 1 := by rw [List.length_append]; rfl
  intro c
  induction c with
  | zero =>
    intro p hp h
    rw [zw_le.eq_2 (l ++ [x]), hl]
    split
    · exact Or.inl rfl
    · split
      · right
        rw [zw_le.eq_1]
        omega
      · exact Or.inl rfl
  | succ c ih =>
    intro p hp h
    have e1 : l.length + 1 - (c + 1 + 1) = l.length - (c + 1) := by omega
    rw [zw_le.eq_2 (l ++ [x]), zw_le.eq_2 l, hl, e1, zm_ga (show l.length - (c + 1) < l.length by omega), zm_ga (show l.length - (c + 1) - p < l.length by omega)]
    split
    · exact Or.inl rfl
    · split
      · exact ih _ (by omega) (by omega)
      · exact ih p hp (by omega)
theorem zm_lEA {l : List Nat} {x s : Nat} (h : s < l.length) : zw_lE (l ++ [x]) s = zw_lE l s ∨ zw_lE (l ++ [x]) s = l.length + 1 := by
  unfold zw_lE
  rw [List.length_append, show l.length + [x].length - (s + 1) = (l.length - (s + 1)) + 1 by simp only [List.length_singleton]; omega]
  exact zm_leA _ 1 (Nat.le_refl 1) (by omega)
theorem zm_it0 {l : List Nat} {c s : Nat} (h : l.length ≤ s) : zm_it l c s = [] := by
  cases c with
  | zero => rfl
  | succ c => rw [zm_it, if_pos h]
theorem zm_itS {l : List Nat} {c s : Nat} (h : s < l.length) : zm_it l (c + 1) s = (s, zw_lE l s) :: zm_it l c (zw_lE l s) := by
  rw [zm_it, if_neg (by omega)]
theorem zm_fsA {l : List Nat} {x : Nat} : ∀ c d s, s ≤ l.length → l.length + 1 ≤ s + d → ∀ k, k < (zm_it (l ++ [x]) d s).length → k < (zm_it l c s).length → ((zm_it (l ++ [x]) d s).getD k (0, 0)).1 = ((zm_it l c s).getD k (0, 0)).1 := by
  have hl : (l ++ [x]).length = l.length + 1 := by rw [List.length_append]; rfl
  intro c
  induction c with
  | zero => intro d s h1 h2 k h3 h4; exact absurd h4 (Nat.not_lt_zero k)
  | succ c ih =>
    intro d s h1 h2 k h3 h4
    obtain ⟨d, rfl⟩ : ∃ d', d = d' + 1 := ⟨d - 1, by omega⟩
    by_cases hs : l.length ≤ s
    · rw [zm_it0 hs] at h4
      exact absurd h4 (Nat.not_lt_zero k)
    · have b := zw_lEb (l := l) (s := s) (by omega)
      rw [zm_itS (by omega)] at h3 ⊢
      rw [zm_itS (by omega)] at h4 ⊢
      cases k with
      | zero => rfl
      | succ k =>
        rcases zm_lEA (x := x) (show s < l.length by omega) with e | e
        · rw [e] at h3 ⊢
          exact ih d _ b.2 (by omega) k (Nat.lt_of_succ_lt_succ h3) (Nat.lt_of_succ_lt_succ h4)
        · rw [e, zm_it0 (by omega)] at h3
          exact absurd (Nat.lt_of_succ_lt_succ h3) (Nat.not_lt_zero k)
/-- a letter more changes no factor's start but that it may take the last ones away -/
theorem zm_fsB (l : List Nat) (x k : Nat) (h1 : k < (zw_fs (l ++ [x])).length) (h2 : k < (zw_fs l).length) : ((zw_fs (l ++ [x])).getD k (0, 0)).1 = ((zw_fs l).getD k (0, 0)).1 := by
  rw [zm_fs] at h1 ⊢
  rw [zm_fs] at h2 ⊢
  exact zm_fsA l.length _ 0 (Nat.zero_le _) (by rw [List.length_append]; simp only [List.length_singleton]; omega) k h1 h2
theorem zm_itge {l : List Nat} : ∀ c s k, k < (zm_it l c s).length → s ≤ ((zm_it l c s).getD k (0, 0)).1 := by
  intro c
  induction c with
  | zero => intro s k h; exact absurd h (Nat.not_lt_zero k)
  | succ c ih =>
    intro s k h
    by_cases hs : l.length ≤ s
    · rw [zm_it0 hs] at h
      exact absurd h (Nat.not_lt_zero k)
    · have b := zw_lEb (l := l) (s := s) (by omega)
      rw [zm_itS (by omega)] at h ⊢
      cases k with
      | zero => exact Nat.le_refl s
      | succ k =>
        have := ih (zw_lE l s) k (Nat.lt_of_succ_lt_succ h)
        show s ≤ ((zm_it l c (zw_lE l s)).getD k (0, 0)).1
        omega
theorem zm_ld {l : List Nat} : ∀ c s, ∀ f, f < (zm_it l c s).length → ∀ p, ((zm_it l c s).getD f (0, 0)).1 ≤ p → p < zw_lE l ((zm_it l c s).getD f (0, 0)).1 → zw_lead p (zm_it l c s) = f + 1 := by
  intro c
  induction c with
  | zero => intro s f h; exact absurd h (Nat.not_lt_zero f)
  | succ c ih =>
    intro s f h p h1 h2
    by_cases hs : l.length ≤ s
    · rw [zm_it0 hs] at h
      exact absurd h (Nat.not_lt_zero f)
    · have b := zw_lEb (l := l) (s := s) (by omega)
      rw [zm_itS (by omega)] at h h1 h2 ⊢
      cases f with
      | zero =>
        have h1 : s ≤ p := h1
        have h2 : p < zw_lE l s := h2
        rw [zw_lead, if_pos h1]
        by_cases hc : c = 0
        · subst hc
          rfl
        · obtain ⟨c, rfl⟩ : ∃ c', c = c' + 1 := ⟨c - 1, by omega⟩
          by_cases he : l.length ≤ zw_lE l s
          · rw [zm_it0 he]
            rfl
          · rw [zm_itS (by omega), zw_lead, if_neg (show ¬ (zw_lE l s ≤ p) by omega)]
      | succ f =>
        have h := Nat.lt_of_succ_lt_succ h
        have h1 : ((zm_it l c (zw_lE l s)).getD f (0, 0)).1 ≤ p := h1
        have g := zm_itge c (zw_lE l s) f h
        rw [zw_lead, if_pos (show s ≤ p by omega), ih (zw_lE l s) f h p h1 h2]
/-- the factors, one by one -/
theorem zm_F (T : List Nat) : (∀ k, k < (zw_fs T).length → ((zw_fs T).getD k (0, 0)).1 < T.length ∧ (k + 1 < (zw_fs T).length → ((zw_fs T).getD (k + 1) (0, 0)).1 = zw_lE T ((zw_fs T).getD k (0, 0)).1) ∧ (k + 1 = (zw_fs T).length → zw_lE T ((zw_fs T).getD k (0, 0)).1 = T.length)) ∧ (0 < T.length → 0 < (zw_fs T).length ∧ ((zw_fs T).getD 0 (0, 0)).1 = 0) ∧ (T.length = 0 → (zw_fs T).length = 0) := by
  obtain ⟨a, b, c⟩ := zm_itc (l := T) T.length 0 (Nat.zero_le _) (by omega)
  rw [← zm_fs T] at a b c
  refine ⟨fun k hk => ?_, b, fun h => c h.symm⟩
  obtain ⟨a1, a2, a3, a4⟩ := a k hk
  exact ⟨a2, fun h => by rw [a3 h, a1], fun h => by rw [← a1, a4 h]⟩
theorem zm_of {T : List Nat} {f p : Nat} (hf : f < (zw_fs T).length) (h1 : ((zw_fs T).getD f (0, 0)).1 ≤ p) (h2 : p < zw_lE T ((zw_fs T).getD f (0, 0)).1) : zw_wF T (p : Int) = (f : Int) := by
  have b := zw_lEb (l := T) ((zm_F T).1 f hf).1
  unfold zw_wF
  rw [if_neg (by omega), Int.toNat_natCast]
  have e : zw_lead p (zw_fs T) = f + 1 := by
    rw [zm_fs] at hf h1 h2 ⊢
    exact zm_ld T.length 0 f hf p h1 h2
  rw [e]
  omega
/-- a factor is less than all its own ends -/
theorem zm_own {T : List Nat} {s k : Nat} (hs : s < T.length) (h1 : 0 < k) (h2 : s + k < zw_lE T s) : zw_cmp (zw_p T s (zw_lE T s)) (zw_p T (s + k) (zw_lE T s)) = -1 := by
  obtain ⟨p, e, W, -⟩ := zm_lE hs
  rw [e] at h2 ⊢
  have b := zm_big (x := s + p) W h1 (by omega) (Nat.le_refl _) W.2.1
  rw [zm_anti, b]
/-- a Lyndon word that begins with the greatest letter has no other -/
theorem zm_top {T : List Nat} {g : Nat} (hv : ∀ v ∈ T, v ≤ g) (hl : 0 < T.length) (he : zw_lE T 0 = T.length) (h0 : T.getD 0 0 = g) : T.length = 1 := by
  obtain ⟨p, e, W, -⟩ := zm_lE hl
  by_cases h1 : T.length = 1
  · exact h1
  · obtain ⟨d, d1, d2, d3⟩ := W.2.2 1 (by omega) (by omega)
    have a : ∀ e, e ≤ d → T.getD e 0 = g := by
      intro e
      induction e with
      | zero => intro _; exact h0
      | succ e ih =>
        intro h
        have := d2 e (by omega)
        rw [Nat.zero_add, Nat.zero_add, Nat.add_comm 1 e] at this
        rw [this]
        exact ih (by omega)
    have b := zm_get (P := fun v => v ≤ g) hv (j := 0 + 1 + d) (by omega)
    have c := a d (Nat.le_refl d)
    rw [Nat.zero_add] at d3
    have b : T.getD (0 + 1 + d) 0 ≤ g := b
    omega
