/-! violations: THE FACTORS FALL. -/
theorem zm_fnext {l : List Nat} {s : Nat} (hs : s < l.length) (h : zw_lE l s < l.length) : zw_cmp (zw_p l (zw_lE l s) l.length) (zw_p l s l.length) = -1 := by
  obtain ⟨p, p1, L, i, S⟩ := zm_lE hs
  rw [p1] at h ⊢
  exact zm_next L.1 S h
theorem zm_ffall {l : List Nat} {s : Nat} (hs : s < l.length) (h : zw_lE l s < l.length) : zw_cmp (zw_p l (zw_lE l s) (zw_lE l (zw_lE l s))) (zw_p l s (zw_lE l s)) ≠ 1 := by
  obtain ⟨p, p1, L, i, s1, s2, s3, s4⟩ := zm_lE hs
  obtain ⟨q, q1, L2, _⟩ := zm_lE h
  rw [q1]
  rw [p1] at L2 h ⊢
  have l1 := L.1
  have l2 := L2.1
  have l3 := L2.2.1
  have per : ∀ e, s + p + e < i → l.getD (s + p + e) 0 = l.getD (s + e) 0 := by
    intro e he
    have := s3 (p + e) (by omega) (by omega)
    rw [show s + (p + e) = s + p + e by omega, show s + p + e - p = s + e by omega] at this
    exact this
  by_cases c1 : i < s + p + q ∧ i < s + p + p
  · rcases s4 with s4 | ⟨s4, s5⟩
    · omega
    · have := zm_cd (l := l) (m := l) (i - (s + p)) (s + p) s (s + p + q) (s + p) l3 (by omega) (by omega) (by omega) (fun e he => per e (by omega))
      rw [show s + p + (i - (s + p)) = i by omega, show s + (i - (s + p)) = i - p by omega] at this
      rw [this (by omega), if_pos s5]
      decide
  · by_cases c2 : q ≤ p
    · have := zm_ce (l := l) (m := l) q (s + p) s (s + p) l3 (by omega) (by omega) (fun e he => per e (by omega))
      rw [this]
      split <;> decide
    · obtain ⟨d, d1, d2, d3⟩ := L2.2.2 p (by omega) (by omega)
      by_cases c3 : s + p + p + d < i
      · have := per (p + d) (by omega)
        rw [show s + p + (p + d) = s + p + p + d by omega, show s + (p + d) = s + p + d by omega] at this
        omega
      · rcases s4 with s4 | ⟨s4, s5⟩
        · omega
        · by_cases c4 : i - (s + p + p) < d
          · have := d2 _ c4
            rw [show s + p + p + (i - (s + p + p)) = i by omega, show s + p + (i - (s + p + p)) = i - p by omega] at this
            omega
          · have e : s + p + p + d = i := by omega
            rw [e, show s + p + d = i - p by omega] at d3
            omega
theorem zm_lastI {l : List Nat} : ∀ c s, s < l.length → l.length ≤ s + c → s ≤ ((zm_it l c s).getD ((zm_it l c s).length - 1) (0, 0)).1 ∧ ((zm_it l c s).getD ((zm_it l c s).length - 1) (0, 0)).1 < l.length ∧ zm_Xt l (-1) (fun j => s ≤ j) ((zm_it l c s).getD ((zm_it l c s).length - 1) (0, 0)).1 := by
  intro c
  induction c with
  | zero => intro s h1 h2; omega
  | succ c ih =>
    intro s h1 h2
    obtain ⟨p, p1, L, _⟩ := zm_lE h1
    have b := zw_lEb h1
    have big : ∀ j, s < j → j < zw_lE l s → zw_cmp (zw_p l s l.length) (zw_p l j l.length) = -1 := fun j j1 j2 => by
      have := zm_big (x := l.length) L (j := j - s) (by omega) (by omega) (by omega) (Nat.le_refl _)
      rw [show s + (j - s) = j by omega] at this
      rw [zm_anti (zw_p l j l.length) (zw_p l s l.length), this]
    rw [zm_it, if_neg (by omega)]
    by_cases e : zw_lE l s = l.length
    · have e0 : zm_it l c (zw_lE l s) = [] := by
        cases c with
        | zero => rfl
        | succ c => rw [zm_it, if_pos (by omega)]
      rw [e0]
      exact ⟨Nat.le_refl s, h1, fun j (j1 : s ≤ j) j2 (j3 : j ≠ s) => big j (by omega) (by omega)⟩
    · obtain ⟨i1, i2, i3⟩ := ih (zw_lE l s) (by omega) (by omega)
      have nl : 0 < (zm_it l c (zw_lE l s)).length := ((zm_itc c (zw_lE l s) b.2 (by omega)).2.1 (by omega)).1
      have eg : ((s, zw_lE l s) :: zm_it l c (zw_lE l s)).getD (((s, zw_lE l s) :: zm_it l c (zw_lE l s)).length - 1) (0, 0) = (zm_it l c (zw_lE l s)).getD ((zm_it l c (zw_lE l s)).length - 1) (0, 0) := by
        rw [List.length_cons, Nat.add_sub_cancel]
        obtain ⟨m, hm⟩ : ∃ m, (zm_it l c (zw_lE l s)).length = m + 1 := ⟨(zm_it l c (zw_lE l s)).length - 1, by omega⟩
        rw [hm, List.getD_cons_succ, Nat.add_sub_cancel]
      rw [eg]
      have fn := zm_fnext h1 (by omega)
      have xs : zw_cmp (zw_p l ((zm_it l c (zw_lE l s)).getD ((zm_it l c (zw_lE l s)).length - 1) (0, 0)).1 l.length) (zw_p l s l.length) = -1 := by
        by_cases ex : zw_lE l s = ((zm_it l c (zw_lE l s)).getD ((zm_it l c (zw_lE l s)).length - 1) (0, 0)).1
        · rw [← ex]
          exact fn
        · exact zw_cmpl _ _ _ (i3 _ (Nat.le_refl _) (by omega) ex) fn
      refine ⟨by omega, i2, fun j (j1 : s ≤ j) j2 j3 => ?_⟩
      by_cases h3 : zw_lE l s ≤ j
      · exact i3 j h3 j2 j3
      · by_cases h4 : j = s
        · rw [h4]
          exact xs
        · exact zw_cmpl _ _ _ xs (big j (by omega) (by omega))
/-- the last factor begins where the least ending does -/
theorem zm_last {T : List Nat} (hn : 0 < T.length) : zw_ext T (-1) = (((zw_fs T).getD ((zw_fs T).length - 1) (0, 0)).1 : Int) := by
  obtain ⟨i1, i2, i3⟩ := zm_lastI T.length 0 hn (by omega)
  rw [← zm_fs T] at i1 i2 i3
  have e0 : zm_Xt T (-1) (fun j => T.length - 1 ≤ j) (T.length - 1) := fun j (hj : T.length - 1 ≤ j) hl hx => absurd (show j = T.length - 1 by omega) hx
  have ex := zm_exE (Or.inl rfl) (T.length - 1) (T.length - 1) (Nat.le_refl _) (by omega) e0
  have eb := zw_exb T (-1) (T.length - 1) (T.length - 1) (by omega) (by omega)
  unfold zw_ext
  rw [if_neg (by omega), zm_Xtu (Or.inl rfl) eb i2 ex (fun j _ hl hx => i3 j (Nat.zero_le _) hl hx)]
