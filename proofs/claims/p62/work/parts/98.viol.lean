/-! violations OF THE CLASS. -/
theorem zw_iLt {l : List Nat} {a p : Nat} (L : zm_L l a p) : ∀ c, c + 1 ≤ p → zw_iL l a (a + p) c = true := by
  intro c
  induction c with
  | zero =>
    intro h
    rw [zw_iL]
    exact decide_eq_true (by omega)
  | succ c ih =>
    intro h
    have := zm_big (x := a + p) L (j := p - (c + 1)) (by omega) (by omega) (Nat.le_refl _) L.2.1
    rw [show a + (p - (c + 1)) = a + p - (c + 1) by omega] at this
    rw [zw_iL, zm_anti (zw_p l (a + p - (c + 1)) (a + p)) (zw_p l a (a + p)), this, if_pos (by decide)]
    exact ih (by omega)
section ZVV
variable {N q n : Nat} {h : zH} {T : List Nat}
theorem zw_violF (W : zw_W h q n T) (hT : T.length ≤ 120) (hN : 1000 ≤ N) (f b s k : Nat) (h1 : s = T.length) (h2 : 0 < f) (h3 : k ≤ s) (h4 : (k = 0 ∧ s = 0 ∧ b = 0) ∨ (0 < k ∧ b < T.length ∧ s = zw_lE T b ∧ zm_Xt T (-1) (fun j => j < s) b)) : fB_violations_18 N f q (Int32.ofInt 0) (Int32.ofInt (b : Int)) (Int32.ofInt (s : Int)) (Int32.ofInt (k : Int)) h = some (Int32.ofInt 0, h) := by
    obtain ⟨y, rfl⟩ : ∃ y, f = y + 1 := ⟨f - 1, by omega⟩
    have fin : fB_violations_94 N q (Int32.ofInt 0) (Int32.ofInt (b : Int)) (Int32.ofInt (s : Int)) h = some (Int32.ofInt 0, h) := by
      unfold fB_violations_94
      rw [zw_z W, b1_s, zqo_eq _ _ (by omega) (by omega), decide_eq_true (by omega), cond_true]
      unfold fB_violations_106
      rw [zw_z W, b1_s, zqo_le _ _ (by omega) (by decide)]
      by_cases e : T.length = 0
      · rw [decide_eq_true (by omega), cond_true]
        rfl
      · rw [decide_eq_false (by omega), cond_false, zw_extr W hN (Or.inl rfl), b2]
        rcases h4 with h4 | ⟨k1, k2, k3, k4⟩
        · omega
        · have e0 : zm_Xt T (-1) (fun j => T.length - 1 ≤ j) (T.length - 1) := fun j (hj : T.length - 1 ≤ j) hl hx => absurd (show j = T.length - 1 by omega) hx
          have ex := zm_exE (Or.inl rfl) (T.length - 1) (T.length - 1) (Nat.le_refl _) (by omega) e0
          have eb := zw_exb T (-1) (T.length - 1) (T.length - 1) (by omega) (by omega)
          have eq : zw_ext T (-1) = (b : Int) := by
            unfold zw_ext
            rw [if_neg e, zm_Xtu (Or.inl rfl) eb k2 ex (fun j _ hl hx => k4 j (by omega) hl hx)]
          rw [eq, zqo_eq _ _ (by omega) (by omega), decide_eq_true rfl, cond_true]
          rfl
    rw [fB_violations_18, zw_z W, b1_s, zqo_ge _ _ (by omega) (by omega)]
    by_cases e : T.length ≤ k
    · rw [decide_eq_true (by omega), cond_true]
      exact fin
    · rw [decide_eq_false (by omega), cond_false, b1_s, zqo_ge _ _ (by omega) (by omega), decide_eq_true (by omega), cond_true]
      exact fin
theorem zw_viol18 (W : zw_W h q n T) (hT : T.length ≤ 120) (hN : 1000 ≤ N) : ∀ (c f b s k : Nat), s ≤ T.length → T.length ≤ s + c → c < f → k ≤ s → ((k = 0 ∧ s = 0 ∧ b = 0) ∨ (0 < k ∧ b < T.length ∧ s = zw_lE T b ∧ zm_Xt T (-1) (fun j => j < s) b)) → fB_violations_18 N f q (Int32.ofInt 0) (Int32.ofInt (b : Int)) (Int32.ofInt (s : Int)) (Int32.ofInt (k : Int)) h = some (Int32.ofInt 0, h) := by
  intro c
  induction c with
  | zero =>
    intro f b s k h0 h1 h2 h3 h4
    exact zw_violF W hT hN f b s k (by omega) h2 h3 h4
  | succ c ih =>
    intro f b s k h0 h1 h2 h3 h4
    by_cases es : s = T.length
    · exact zw_violF W hT hN f b s k es (by omega) h3 h4
    obtain ⟨y, rfl⟩ : ∃ y, f = y + 1 := ⟨f - 1, by omega⟩
    have hs : s < T.length := by omega
    obtain ⟨p, p1, L, _⟩ := zm_lE hs
    have lb := zw_lEb hs
    have il := zw_iLt L (p - 1) (by have := L.1; omega)
    rw [← p1, show p - 1 = zw_lE T s - (s + 1) by omega] at il
    have nx : zm_Xt T (-1) (fun j => j < zw_lE T s) s := by
      intro j (j1 : j < zw_lE T s) j2 j3
      by_cases j4 : s < j
      · have := zm_big (x := T.length) L (j := j - s) (by omega) (by omega) (by omega) (Nat.le_refl _)
        rw [show s + (j - s) = j by omega] at this
        rw [zm_anti (zw_p T j T.length) (zw_p T s T.length), this]
      · rcases h4 with h4 | ⟨k1, k2, k3, k4⟩
        · omega
        · have fn := zm_fnext k2 (by omega)
          rw [← k3] at fn
          by_cases j5 : j = b
          · rw [j5]
            exact fn
          · exact zw_cmpl _ _ _ fn (k4 j (by show j < s; omega) j2 j5)
    have rest := ih y s (zw_lE T s) (k + 1) lb.2 (by omega) (by omega) (by omega) (Or.inr ⟨by omega, hs, rfl, nx⟩)
    rw [fB_violations_18, zw_z W, b1_s, zqo_ge _ _ (by omega) (by omega), decide_eq_false (by omega), cond_false, b1_s, zqo_ge _ _ (by omega) (by omega), decide_eq_false (by omega), cond_false, zw_lyn W hN hs, b2, zw_lpart W hN (by omega) lb.2, b2, il]
    show fB_violations_58 N (fB_violations_18 N y) q (Int32.ofInt 0) (Int32.ofInt (b : Int)) (Int32.ofInt (s : Int)) (Int32.ofInt (k : Int)) (Int32.ofInt ((zw_lE T s : Nat) : Int)) h = _
    unfold fB_violations_58 fB_violations_81
    rw [zqo_le _ _ (by omega) (by decide), zh_inc]
    rcases h4 with ⟨rfl, _, _⟩ | ⟨k1, k2, k3, k4⟩
    · rw [decide_eq_true (by omega), cond_true]
      exact rest
    · have lb2 := zw_lEb k2
      have ff := zm_ffall k2 (by omega)
      rw [← k3] at ff
      rw [decide_eq_false (by omega), cond_false, zw_order W W hN lb.2 (by omega) (by omega) (by omega), b2, zqo_le _ _ (by rcases zw_cmpb (zw_p T s (zw_lE T s)) (zw_p T b s) with w | w | w <;> omega) (by decide), decide_eq_true (by rcases zw_cmpb (zw_p T s (zw_lE T s)) (zw_p T b s) with w | w | w <;> omega), cond_true]
      exact rest
end ZVV
theorem zq_violations {N : Nat} {h : zH} {sL : Nat → Nat} {sT : Nat → List Nat} {sS : Nat → Nat → List Nat} {sK : Nat → Nat} {wd : Nat → List Nat} {nu : Nat → Int} {hs : Nat → Nat} (C : zc h sL sT sS sK wd nu hs) (hN : 3000 ≤ N) : fB_violations N 0 h = some (Int32.ofInt 0, h) := by
  have W := zc_txt C
  have tl := W.2.2.2.1
  unfold fB_violations
  rw [zc_T0 C, cond_true, zc_r00 C, b1_s, zs_t (zc_now C), b1_s]
  exact zw_viol18 (N := N) W tl (by omega) (sT 1).length N 0 0 0 (Nat.zero_le _) (by omega) (by omega) (Nat.le_refl 0) (Or.inl ⟨rfl, rfl, rfl⟩)
