/-! THE CLASS'S QUESTIONS about factors and parts. -/
theorem zm_itm {l : List Nat} : ∀ c s, ∀ t ∈ zm_it l c s, t.1 < l.length ∧ t.2 = zw_lE l t.1 := by
  intro c
  induction c with
  | zero => intro s t h; cases h
  | succ c ih =>
    intro s t h
    rw [zm_it] at h
    by_cases e : l.length ≤ s
    · rw [if_pos e] at h
      cases h
    · rw [if_neg e] at h
      rcases List.mem_cons.mp h with h | h
      · rw [h]
        exact ⟨by omega, rfl⟩
      · exact ih _ t h
theorem zw_bFb (l : List Nat) (x : Int) : zw_bF l x = -1 ∨ (0 ≤ zw_bF l x ∧ zw_bF l x < (l.length : Int)) := by
  unfold zw_bF
  by_cases e : x < 0
  · rw [if_pos e]
    exact Or.inl rfl
  · rw [if_neg e, zm_fs]
    cases h : (zm_it l l.length 0)[x.toNat]? with
    | none => exact Or.inl rfl
    | some t =>
      have := (zm_itm _ _ t (List.mem_of_getElem? h)).1
      refine Or.inr ?_
      show 0 ≤ (t.1 : Int) ∧ (t.1 : Int) < (l.length : Int)
      omega
/-- no such part -/
def zc_part (T : List Nat) (x y : Int) : Bool := decide (0 ≤ x ∧ x ≤ y ∧ y ≤ (T.length : Int))
section ZCR
variable {N : Nat} {h : zH} {sL : Nat → Nat} {sT : Nat → List Nat} {sS : Nat → Nat → List Nat} {sK : Nat → Nat} {wd : Nat → List Nat} {nu : Nat → Int} {hs : Nat → Nat}
theorem zq_checked (C : zc h sL sT sS sK wd nu hs) (hN : 3000 ≤ N) (x : Int) (hx : -2147483648 ≤ x ∧ x < 2147483648) : fB_checkedBegin N 0 (Int32.ofInt x) h = if zw_bF (sT 1) x = -1 then some (.inr 2, h) else some (.inl (Int32.ofInt (zw_bF (sT 1) x)), h) := by
  have tl := (zc_txt C).2.2.2.1
  have b := zw_bFb (sT 1) x
  unfold fB_checkedBegin
  rw [zc_T0 C, cond_true, zc_r00 C, b1_s, zs_t (zc_now C), b1_s, zw_begin (zc_txt C) (by omega) x hx, b2, zqo_ne _ _ (by omega) (by decide)]
  by_cases e : zw_bF (sT 1) x = -1
  · rw [decide_eq_true e, Bool.not_true, cond_false, if_pos e]
  · rw [decide_eq_false e, Bool.not_false, cond_true, if_neg e]
theorem zq_factorStart (C : zc h sL sT sS sK wd nu hs) (hN : 3000 ≤ N) (x : Int) (hx : -2147483648 ≤ x ∧ x < 2147483648) : fB_factorStart N 0 (Int32.ofInt x) h = if zw_bF (sT 1) x = -1 then some (.inr 2, h) else some (.inl (Int32.ofInt (zw_bF (sT 1) x)), h) := by
  unfold fB_factorStart
  rw [zc_T0 C, cond_true, zq_checked C hN x hx]
  by_cases e : zw_bF (sT 1) x = -1
  · rw [if_pos e]
    rfl
  · rw [if_neg e]
    rfl
theorem zq_factorLength (C : zc h sL sT sS sK wd nu hs) (hN : 3000 ≤ N) (x : Int) (hx : -2147483648 ≤ x ∧ x < 2147483648) : fB_factorLength N 0 (Int32.ofInt x) h = if zw_bF (sT 1) x = -1 then some (.inr 2, h) else some (.inl (Int32.ofInt ((zw_lE (sT 1) (zw_bF (sT 1) x).toNat : Int) - zw_bF (sT 1) x)), h) := by
  have b := zw_bFb (sT 1) x
  unfold fB_factorLength
  rw [zc_T0 C, cond_true, zq_checked C hN x hx]
  by_cases e : zw_bF (sT 1) x = -1
  · rw [if_pos e, if_pos e]
    rfl
  · rw [if_neg e, if_neg e]
    obtain ⟨k, hk⟩ : ∃ k : Nat, zw_bF (sT 1) x = (k : Int) := ⟨(zw_bF (sT 1) x).toNat, by omega⟩
    rw [hk] at b ⊢
    show b1 (fR h 0 0 0) _ = _
    rw [zc_r00 C, b1_s, zs_t (zc_now C), b1_s, zw_lyn (zc_txt C) (by omega) (show k < (sT 1).length by omega), b2, zw_sub]
    rfl
theorem zq_checkPart (C : zc h sL sT sS sK wd nu hs) (x y : Int) (hx : -2147483648 ≤ x ∧ x < 2147483648) (hy : -2147483648 ≤ y ∧ y < 2147483648) : fB_checkPart N 0 (Int32.ofInt x) (Int32.ofInt y) h = cond (zc_part (sT 1) x y) (some (.inl (), h)) (some (.inr 0, h)) := by
  have tl := (zc_txt C).2.2.2.1
  unfold fB_checkPart zc_part
  rw [zc_T0 C, cond_true, zqo_lt _ _ hx (by decide), zqo_lt _ _ hy hx, zc_r00 C, b1_s, zs_t (zc_now C), b1_s, zw_z (zc_txt C), b1_s, zqo_le _ _ hy (by omega)]
  by_cases e1 : x < 0
  · rw [decide_eq_true e1, cond_true, decide_eq_false (by omega)]
    rfl
  · rw [decide_eq_false e1, cond_false]
    by_cases e2 : y < x
    · rw [decide_eq_true e2, cond_true, decide_eq_false (by omega)]
      rfl
    · rw [decide_eq_false e2, cond_false]
      by_cases e3 : y ≤ ((sT 1).length : Int)
      · rw [decide_eq_true e3, cond_true, decide_eq_true (by omega)]
        rfl
      · rw [decide_eq_false e3, cond_false, decide_eq_false (by omega)]
        rfl
/-- what the trial word is used for -/
theorem zq_trial (C : zc h sL sT sS sK wd nu hs) : zw_W h 230 121 (wd 230) := zc_wd C (Or.inr (Or.inr ⟨rfl, rfl⟩))
theorem zq_checkLetter (C : zc h sL sT sS sK wd nu hs) (x : Int) (hx : -2147483648 ≤ x ∧ x < 2147483648) : fB_checkLetter N 0 (Int32.ofInt x) h = cond (decide (97 ≤ x ∧ x < 97 + (sL 1 : Int))) (some (.inl (), h)) (some (.inr 0, h)) := by
  unfold fB_checkLetter
  rw [zc_T0 C, cond_true, zc_r00 C, b1_s, zs_isLetter (zc_now C) x hx, b2]
  cases decide (97 ≤ x ∧ x < 97 + (sL 1 : Int)) <;> rfl
theorem zq_checkCount (C : zc h sL sT sS sK wd nu hs) (x : Int) (hx : -2147483648 ≤ x ∧ x < 2147483648) : fB_checkCount N 0 (Int32.ofInt x) h = cond (decide (0 ≤ x ∧ x ≤ ((sT 1).length : Int))) (some (.inl (), h)) (some (.inr 0, h)) := by
  have tl := (zc_txt C).2.2.2.1
  unfold fB_checkCount
  rw [zc_T0 C, cond_true, zqo_lt _ _ hx (by decide), zc_r00 C, b1_s, zs_t (zc_now C), b1_s, zw_z (zc_txt C), b1_s, zqo_le _ _ hx (by omega)]
  by_cases e1 : x < 0
  · rw [decide_eq_true e1, cond_true, decide_eq_false (by omega)]
    rfl
  · rw [decide_eq_false e1, cond_false]
    by_cases e2 : x ≤ ((sT 1).length : Int)
    · rw [decide_eq_true e2, cond_true, decide_eq_true (by omega)]
      rfl
    · rw [decide_eq_false e2, cond_false, decide_eq_false (by omega)]
      rfl
theorem zq_ifAppended (C : zc h sL sT sS sK wd nu hs) (hN : 3000 ≤ N) (hL : sL 1 ≤ 9) (x : Int) (hx : -2147483648 ≤ x ∧ x < 2147483648) : (97 ≤ x ∧ x < 97 + (sL 1 : Int) ∧ ∃ h', fB_factorsIfAppended N 0 (Int32.ofInt x) h = some (.inl (Int32.ofInt (((zw_fs (sT 1 ++ [x.toNat])).length : Nat) : Int)), h') ∧ zc h' sL sT sS sK (zc_u wd 230 (sT 1 ++ [x.toNat])) nu hs ∧ zc_F h h') ∨ (¬ (97 ≤ x ∧ x < 97 + (sL 1 : Int)) ∧ fB_factorsIfAppended N 0 (Int32.ofInt x) h = some (.inr 0, h)) := by
  unfold fB_factorsIfAppended
  rw [zc_T0 C, cond_true, zq_checkLetter C x hx]
  by_cases e : 97 ≤ x ∧ x < 97 + (sL 1 : Int)
  · refine Or.inl ⟨e.1, e.2, ?_⟩
    have W := zc_txt C
    have tl := W.2.2.2.1
    obtain ⟨v, rfl⟩ : ∃ v : Nat, x = (v : Int) := ⟨x.toNat, by omega⟩
    obtain ⟨h1, e1, W1, F1⟩ := zw_copy (N := N) (show zw_d (1 + 1) 230 by unfold zw_d; omega) (zq_trial C) W (by omega) (by omega)
    obtain ⟨C1, G1⟩ := zc_word C (Or.inr (Or.inr ⟨rfl, rfl⟩)) W1 F1
    obtain ⟨h2, e2, W2, F2⟩ := zw_addN (N := N) W1 v (by omega) (by omega)
    obtain ⟨C2, G2⟩ := zc_word C1 (Or.inr (Or.inr ⟨rfl, rfl⟩)) W2 F2
    have eu : zc_u (zc_u wd 230 (sT 1)) 230 (sT 1 ++ [v]) = zc_u wd 230 (sT 1 ++ [v]) := by
      funext k
      unfold zc_u
      by_cases e3 : k = 230
      · rw [if_pos e3, if_pos e3]
      · rw [if_neg e3, if_neg e3, if_neg e3]
    rw [eu] at C2
    refine ⟨h2, ?_, C2, zc_Ft G1 G2⟩
    rw [decide_eq_true e, cond_true]
    show b1 (fR h 0 0 6) _ = _
    rw [zc_r06 C, b1_s, zc_r00 C, b1_s, zs_t (zc_now C), b1_s, e1, b2, zc_r06 C1, b1_s, e2, b2, zc_r06 C2, b1_s, zw_count W2 (by omega), b2]
    rfl
  · refine Or.inr ⟨e, ?_⟩
    rw [decide_eq_false e, cond_false]
    rfl
end ZCR
