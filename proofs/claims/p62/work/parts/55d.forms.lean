/-! THE CHANGES OF A WORD, in closed form. -/
theorem zm_gs (l : List Nat) (i v j : Nat) (hi : i < l.length) : (l.set i v).getD j 0 = if j = i then v else l.getD j 0 := by
  by_cases e : j = i
  · subst e
    rw [if_pos rfl, List.getD_eq_getElem?_getD, List.getElem?_set_self hi]
    rfl
  · rw [if_neg e, List.getD_eq_getElem?_getD, List.getElem?_set_ne (fun x => e x.symm), ← List.getD_eq_getElem?_getD]
theorem zm_mi : ∀ (c : Nat) (l : List Nat) (i k : Nat), k ≤ l.length → k ≤ i + c → ∀ j, (zw_mi c l i k).getD j 0 = if i ≤ j ∧ j < k then l.getD (i + k - 1 - j) 0 else l.getD j 0 := by
  intro c
  induction c with
  | zero =>
    intro l i k h1 h2 j
    rw [zw_mi, if_neg (by omega)]
  | succ c ih =>
    intro l i k h1 h2 j
    rw [zw_mi]
    by_cases e : i + 1 < k
    · rw [if_pos e, ih _ (i + 1) (k - 1) (by rw [List.length_set, List.length_set]; omega) (by omega)]
      have hg : ∀ x, ((l.set i (l.getD (k - 1) 0)).set (k - 1) (l.getD i 0)).getD x 0 = if x = k - 1 then l.getD i 0 else if x = i then l.getD (k - 1) 0 else l.getD x 0 := by
        intro x
        rw [zm_gs _ _ _ _ (by rw [List.length_set]; omega), zm_gs _ _ _ _ (by omega)]
      rw [hg, hg]
      by_cases e1 : i + 1 ≤ j ∧ j < k - 1
      · rw [if_pos e1, if_neg (by omega), if_neg (by omega), if_pos (by omega)]
        congr 1
        omega
      · rw [if_neg e1]
        by_cases e2 : j = k - 1
        · rw [if_pos e2, if_pos (by omega)]
          congr 1
          omega
        · rw [if_neg e2]
          by_cases e3 : j = i
          · rw [if_pos e3, if_pos (by omega)]
            congr 1
            omega
          · rw [if_neg e3, if_neg (by omega)]
    · rw [if_neg e]
      by_cases e1 : i ≤ j ∧ j < k
      · rw [if_pos e1]
        congr 1
        omega
      · rw [if_neg e1]
theorem zm_mir {l : List Nat} {a b : Nat} (hb : b ≤ l.length) (j : Nat) : (zw_mir l a b).getD j 0 = if a ≤ j ∧ j < b then l.getD (a + b - 1 - j) 0 else l.getD j 0 := zm_mi (b - a) l a b hb (by omega) j
theorem zm_mirl (l : List Nat) (a b : Nat) : (zw_mir l a b).length = l.length := zw_mil _ _ _ _
/-- a turned word's letters -/
theorem zm_trn {l : List Nat} {c j : Nat} (hc : c ≤ l.length) (hj : j < l.length) : (zw_trn l c).getD j 0 = zm_c l (j + c) := by
  unfold zw_trn
  rw [zm_mir (by rw [zm_mirl, zm_mirl]; exact Nat.le_refl _), if_pos ⟨Nat.zero_le j, hj⟩, zm_mir (by rw [zm_mirl]; exact Nat.le_refl _), zm_mir hc, zm_mir hc]
  unfold zm_c
  by_cases e : c ≤ l.length - 1 - j
  · rw [if_pos (by omega), if_neg (by omega), Nat.mod_eq_of_lt (by omega)]
    congr 1
    omega
  · rw [if_neg (by omega), if_pos (by omega), Nat.mod_eq_sub_mod (by omega), Nat.mod_eq_of_lt (by omega)]
    congr 1
    omega
/-- a reversed word's letters -/
theorem zm_rev {l : List Nat} {j : Nat} (hj : j < l.length) : (zw_mir l 0 l.length).getD j 0 = l.getD (l.length - 1 - j) 0 := by
  rw [zm_mir (Nat.le_refl _), if_pos ⟨Nat.zero_le j, hj⟩]
  congr 1
  omega
theorem zm_ct {a b : Nat} {T : List Nat} (hb : b ≤ T.length) : ∀ (c : Nat) (l : List Nat), l.length = T.length → a + c ≤ b → (∀ j, l.getD j 0 = if j < b - c - a then T.getD (a + j) 0 else T.getD j 0) → ∀ j, (zw_ct a b c l).getD j 0 = if j < b - a then T.getD (a + j) 0 else T.getD j 0 := by
  intro c
  induction c with
  | zero =>
    intro l h1 h2 h3 j
    rw [zw_ct, h3]
    rfl
  | succ c ih =>
    intro l h1 h2 h3 j
    rw [zw_ct]
    refine ih _ (by rw [List.length_set]; exact h1) (by omega) (fun x => ?_) j
    rw [zm_gs _ _ _ _ (by omega), h3, h3]
    by_cases e1 : x = b - (c + 1) - a
    · rw [if_pos e1, if_neg (by omega), if_pos (by omega)]
      congr 1
      omega
    · rw [if_neg e1]
      by_cases e2 : x < b - (c + 1) - a
      · rw [if_pos e2, if_pos (by omega)]
      · rw [if_neg e2, if_neg (by omega)]
/-- two words with the same letters -/
theorem zm_same {l m : List Nat} (h : l.length = m.length) (e : ∀ j, j < l.length → l.getD j 0 = m.getD j 0) : l = m := by
  apply List.ext_getElem h
  intro i h1 h2
  have := e i h1
  rw [List.getD_eq_getElem?_getD, List.getD_eq_getElem?_getD, List.getElem?_eq_getElem h1, List.getElem?_eq_getElem h2] at this
  exact this
/-- the part cut out -/
theorem zm_cut {T : List Nat} {a b : Nat} (hab : a ≤ b) (hb : b ≤ T.length) : (zw_ct a b (b - a) T).take (b - a) = zw_p T a b := by
  refine zm_same ?_ ?_
  · rw [zw_pl _ _ _ hb, List.length_take, zw_ctl]
    omega
  · intro j hj
    rw [List.length_take, zw_ctl] at hj
    rw [zm_pget (show a + j < b by omega) hb, List.getD_eq_getElem?_getD, List.getElem?_take_of_lt (by omega), ← List.getD_eq_getElem?_getD, zm_ct hb (b - a) T rfl (by omega) (fun x => by rw [if_neg (by omega)]), if_pos (by omega)]
theorem zm_xt {T : List Nat} (hT : 0 < T.length) : ∀ (c : Nat) (l : List Nat), T.length ≤ l.length → (∀ j, j < l.length → l.getD j 0 = zm_c T j) → ∀ j, j < l.length + c → (zw_xt T.length c l).getD j 0 = zm_c T j := by
  intro c
  induction c with
  | zero =>
    intro l h1 h2 j hj
    exact h2 j hj
  | succ c ih =>
    intro l h1 h2 j hj
    rw [zw_xt]
    have hl : (l ++ [l.getD (l.length - T.length) 0]).length = l.length + 1 := by rw [List.length_append]; rfl
    refine ih _ (by omega) (fun x hx => ?_) j (by omega)
    rw [hl] at hx
    by_cases e : x = l.length
    · subst e
      rw [List.getD_eq_getElem?_getD, List.getElem?_append_right (Nat.le_refl _), Nat.sub_self]
      show l.getD (l.length - T.length) 0 = _
      rw [h2 _ (by omega)]
      unfold zm_c
      rw [← Nat.mod_eq_sub_mod h1]
    · rw [List.getD_eq_getElem?_getD, List.getElem?_append_left (by omega), ← List.getD_eq_getElem?_getD]
      exact h2 x (by omega)
theorem zm_mem {l : List Nat} {P : Nat → Prop} (h : ∀ j, j < l.length → P (l.getD j 0)) : ∀ v ∈ l, P v := by
  intro v hv
  obtain ⟨i, h1, h2⟩ := List.getElem_of_mem hv
  have := h i h1
  rw [List.getD_eq_getElem?_getD, List.getElem?_eq_getElem h1] at this
  rw [← h2]
  exact this
theorem zm_get {l : List Nat} {P : Nat → Prop} (h : ∀ v ∈ l, P v) {j : Nat} (hj : j < l.length) : P (l.getD j 0) := by
  rw [List.getD_eq_getElem?_getD, List.getElem?_eq_getElem hj]
  exact h _ (List.getElem_mem hj)
theorem zm_cget {l : List Nat} {P : Nat → Prop} (h : ∀ v ∈ l, P v) (hl : 0 < l.length) (j : Nat) : P (zm_c l j) := zm_get h (Nat.mod_lt _ hl)
