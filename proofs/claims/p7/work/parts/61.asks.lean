/-! THE CLASS'S QUESTIONS. -/
/-- what isShelfFalling finds; c are left -/
def zc_fall (S : Nat → List Nat) (K : Nat) : Nat → Bool
  | 0 => true
  | c + 1 => if zw_cmp (S (K - (c + 1))) (S (K - (c + 1) - 1)) = 1 then false else zc_fall S K c
/-- why the text isn't a Lyndon word -/
def zc_why (T : List Nat) : Int := if T.length = 0 then 1 else if zw_tu T < T.length then 2 else if zw_lT T = 0 then 0 else 3
section ZCQ
variable {N : Nat} {h : zH} {sL : Nat → Nat} {sT : Nat → List Nat} {sS : Nat → Nat → List Nat} {sK : Nat → Nat} {wd : Nat → List Nat} {nu : Nat → Int} {hs : Nat → Nat}
theorem zc_txt (C : zc h sL sT sS sK wd nu hs) : zw_W h (1 + 1) 120 (sT 1) := (zc_now C).2.2.2.1
theorem zq_letters (C : zc h sL sT sS sK wd nu hs) : fB_letters N 0 h = some (Int32.ofInt (sL 1 : Int), h) := by
  unfold fB_letters
  rw [zc_T0 C, cond_true, zc_r00 C, b1_s, zs_L (zc_now C), b1_s]
theorem zq_length (C : zc h sL sT sS sK wd nu hs) : fB_length N 0 h = some (Int32.ofInt ((sT 1).length : Int), h) := by
  unfold fB_length
  rw [zc_T0 C, cond_true, zc_r00 C, b1_s, zs_t (zc_now C), b1_s, zw_z (zc_txt C), b1_s]
theorem zq_letterAt (C : zc h sL sT sS sK wd nu hs) (x : Int) (hx : -2147483648 ≤ x ∧ x < 2147483648) : fB_letterAt N 0 (Int32.ofInt x) h = some (Int32.ofInt (zw_g (sT 1) x), h) := by
  unfold fB_letterAt
  rw [zc_T0 C, cond_true, zc_r00 C, b1_s, zs_t (zc_now C), b1_s, zw_at (zc_txt C) x hx, b2]
theorem zq_factorCount (C : zc h sL sT sS sK wd nu hs) (hN : 3000 ≤ N) : fB_factorCount N 0 h = some (Int32.ofInt (((zw_fs (sT 1)).length : Nat) : Int), h) := by
  unfold fB_factorCount
  rw [zc_T0 C, cond_true, zc_r00 C, b1_s, zs_t (zc_now C), b1_s, zw_count (zc_txt C) (by omega), b2]
theorem zq_longestFactor (C : zc h sL sT sS sK wd nu hs) (hN : 3000 ≤ N) : fB_longestFactor N 0 h = some (Int32.ofInt (zw_long (zw_fs (sT 1)) 0 (-1) 0), h) := by
  unfold fB_longestFactor
  rw [zc_T0 C, cond_true, zc_r00 C, b1_s, zs_t (zc_now C), b1_s, zw_longest (zc_txt C) (by omega), b2]
theorem zq_factorOf (C : zc h sL sT sS sK wd nu hs) (hN : 3000 ≤ N) (x : Int) (hx : -2147483648 ≤ x ∧ x < 2147483648) : fB_factorOf N 0 (Int32.ofInt x) h = some (Int32.ofInt (zw_wF (sT 1) x), h) := by
  unfold fB_factorOf
  rw [zc_T0 C, cond_true, zc_r00 C, b1_s, zs_t (zc_now C), b1_s, zw_with (zc_txt C) (by omega) x hx, b2]
theorem zq_isLyndon (C : zc h sL sT sS sK wd nu hs) (hN : 3000 ≤ N) : fB_isLyndon N 0 h = some (cond (decide (0 < (sT 1).length ∧ zw_lE (sT 1) 0 = (sT 1).length)) (Int32.ofInt 1) (Int32.ofInt 0), h) := by
  unfold fB_isLyndon
  rw [zc_T0 C, cond_true, zc_r00 C, b1_s, zs_t (zc_now C), b1_s, zw_one (zc_txt C) (by omega), b2]
  cases decide (0 < (sT 1).length ∧ zw_lE (sT 1) 0 = (sT 1).length) <;> rfl
theorem zq_isPrenecklace (C : zc h sL sT sS sK wd nu hs) (hN : 3000 ≤ N) : fB_isPrenecklace N 0 h = some (cond (zw_bn (sT 1)) (Int32.ofInt 1) (Int32.ofInt 0), h) := by
  unfold fB_isPrenecklace
  rw [zc_T0 C, cond_true, zc_r00 C, b1_s, zs_t (zc_now C), b1_s, zw_neck (zc_txt C) (by omega), b2]
  cases zw_bn (sT 1) <;> rfl
theorem zq_leastRotation (C : zc h sL sT sS sK wd nu hs) (hN : 3000 ≤ N) : fB_leastRotation N 0 h = some (Int32.ofInt ((zw_lT (sT 1) : Nat) : Int), h) := by
  unfold fB_leastRotation
  rw [zc_T0 C, cond_true, zc_r00 C, b1_s, zs_t (zc_now C), b1_s, zw_lturn (zc_txt C) hN, b2]
theorem zq_rotationCount (C : zc h sL sT sS sK wd nu hs) (hN : 3000 ≤ N) : fB_rotationCount N 0 h = some (Int32.ofInt ((zw_tu (sT 1) : Nat) : Int), h) := by
  unfold fB_rotationCount
  rw [zc_T0 C, cond_true, zc_r00 C, b1_s, zs_t (zc_now C), b1_s, zw_turns (zc_txt C) (by omega), b2]
theorem zq_smallestPeriod (C : zc h sL sT sS sK wd nu hs) (hN : 3000 ≤ N) : fB_smallestPeriod N 0 h = some (Int32.ofInt ((zw_per (sT 1) : Nat) : Int), h) := by
  unfold fB_smallestPeriod
  rw [zc_T0 C, cond_true, zc_r00 C, b1_s, zs_t (zc_now C), b1_s, zw_least (zc_txt C) (by omega), b2]
theorem zq_longestBorder (C : zc h sL sT sS sK wd nu hs) (hN : 3000 ≤ N) : fB_longestBorder N 0 h = some (Int32.ofInt (((sT 1).length : Int) - (zw_per (sT 1) : Int)), h) := by
  unfold fB_longestBorder
  rw [zc_T0 C, cond_true, zc_r00 C, b1_s, zs_t (zc_now C), b1_s, zw_z (zc_txt C), b1_s, b1_s, zs_t (zc_now C), b1_s, zw_least (zc_txt C) (by omega), b2, zw_sub]
theorem zq_leastSuffix (C : zc h sL sT sS sK wd nu hs) (hN : 3000 ≤ N) : fB_leastSuffix N 0 h = some (Int32.ofInt (zw_ext (sT 1) (-1)), h) := by
  unfold fB_leastSuffix
  rw [zc_T0 C, cond_true, zc_r00 C, b1_s, zs_t (zc_now C), b1_s, zw_extr (zc_txt C) (by omega) (Or.inl rfl), b2]
theorem zq_greatestSuffix (C : zc h sL sT sS sK wd nu hs) (hN : 3000 ≤ N) : fB_greatestSuffix N 0 h = some (Int32.ofInt (zw_ext (sT 1) 1), h) := by
  unfold fB_greatestSuffix
  rw [zc_T0 C, cond_true, zc_r00 C, b1_s, zs_t (zc_now C), b1_s, zw_extr (zc_txt C) (by omega) (Or.inr rfl), b2]
theorem zq_whyNotLyndon (C : zc h sL sT sS sK wd nu hs) (hN : 3000 ≤ N) : fB_whyNotLyndon N 0 h = some (Int32.ofInt (zc_why (sT 1)), h) := by
  have W := zc_txt C
  have tl := W.2.2.2.1
  have tu : zw_tu (sT 1) ≤ (sT 1).length := by
    unfold zw_tu
    split
    · exact (zw_perb (sT 1)).1
    · exact Nat.le_refl _
  unfold fB_whyNotLyndon zc_why
  rw [zc_T0 C, cond_true, zc_r00 C, b1_s, zs_t (zc_now C), b1_s, zw_z W, b1_s, zqo_ne _ _ (by omega) (by decide)]
  by_cases e0 : (sT 1).length = 0
  · rw [decide_eq_true (by omega), Bool.not_true, cond_false, if_pos e0]
  · rw [decide_eq_false (by omega), Bool.not_false, cond_true, if_neg e0, b1_s, zs_t (zc_now C), b1_s, zw_turns W (by omega), b2, zc_r00 C, b1_s, zs_t (zc_now C), b1_s, zw_z W, b1_s, zqo_ge _ _ (by omega) (by omega)]
    by_cases e1 : zw_tu (sT 1) < (sT 1).length
    · rw [decide_eq_false (by omega), cond_false, if_pos e1]
    · have hlt : zw_lT (sT 1) < 1000 := by
        rw [zm_lT (by omega)]
        have := (zm_leastM (l := sT 1) (by omega)).1
        omega
      rw [decide_eq_true (by omega), cond_true, if_neg e1, b1_s, zs_t (zc_now C), b1_s, zw_lturn W hN, b2, zqo_ne _ _ (by omega) (by decide)]
      by_cases e2 : zw_lT (sT 1) = 0
      · rw [decide_eq_true (by omega), Bool.not_true, cond_false, if_pos e2]
        rfl
      · rw [decide_eq_false (by omega), Bool.not_false, cond_true, if_neg e2]
        rfl
theorem zq_isNecklace (C : zc h sL sT sS sK wd nu hs) (hN : 3000 ≤ N) : fB_isNecklace N 0 h = some (cond (decide (0 < (sT 1).length ∧ zw_lT (sT 1) = 0)) (Int32.ofInt 1) (Int32.ofInt 0), h) := by
  have W := zc_txt C
  have tl := W.2.2.2.1
  unfold fB_isNecklace
  rw [zc_T0 C, cond_true, zc_r00 C, b1_s, zs_t (zc_now C), b1_s, zw_z W, b1_s, zqo_le _ _ (by omega) (by decide)]
  by_cases e0 : 0 < (sT 1).length
  · have hlt : zw_lT (sT 1) < 1000 := by
      rw [zm_lT (by omega)]
      have := (zm_leastM (l := sT 1) (by omega)).1
      omega
    rw [decide_eq_false (by omega), cond_false, b1_s, zs_t (zc_now C), b1_s, zw_lturn W hN, b2, zqo_ne _ _ (by omega) (by decide)]
    by_cases e2 : zw_lT (sT 1) = 0
    · rw [decide_eq_true (by omega), Bool.not_true, cond_false, decide_eq_true ⟨e0, e2⟩]
      rfl
    · rw [decide_eq_false (by omega), Bool.not_false, cond_true, decide_eq_false (fun x => e2 x.2)]
      rfl
  · rw [decide_eq_true (by omega), cond_true, decide_eq_false (fun x => e0 x.1)]
    rfl
theorem zq_keepingLetter (C : zc h sL sT sS sK wd nu hs) (hN : 3000 ≤ N) : fB_keepingLetter N 0 h = some (Int32.ofInt (if zw_bn (sT 1) = true then zw_g (sT 1) (((sT 1).length : Int) - (zw_lE (sT 1) 0 : Int)) else -1), h) := by
  have W := zc_txt C
  have tl := W.2.2.2.1
  unfold fB_keepingLetter
  rw [zc_T0 C, cond_true, zc_r00 C, b1_s, zs_t (zc_now C), b1_s, zw_neck W (by omega), b2]
  cases e : zw_bn (sT 1) with
  | false =>
    rw [cond_false, show z_cmp .ne (Int32.ofInt 0) (Int32.ofInt 0) = false from rfl, cond_false, if_neg (by decide)]
  | true =>
    have h0 : 0 < (sT 1).length := by
      unfold zw_bn at e
      rw [Bool.and_eq_true] at e
      exact of_decide_eq_true e.1
    have hb := zw_lEb h0
    have hl := zw_lyn (N := N) W (by omega) h0
    rw [cond_true, show z_cmp .ne (Int32.ofInt 1) (Int32.ofInt 0) = true from rfl, cond_true, zc_r00 C, b1_s, zs_t (zc_now C), b1_s, b1_s, zs_t (zc_now C), b1_s, zw_z W, b1_s, b1_s, zs_t (zc_now C), b1_s, show (Int32.ofInt 0) = Int32.ofInt ((0 : Nat) : Int) from rfl, hl, b2, zw_sub, zw_at W _ (by omega), b2, if_pos rfl]
theorem zq_undoCount (C : zc h sL sT sS sK wd nu hs) : fB_undoCount N 0 h = some (Int32.ofInt (nu 1), h) := by
  unfold fB_undoCount
  rw [zc_T0 C, cond_true, zc_r01 C, b1_s, zc_cnt C, b1_s]
theorem zq_kind (C : zc h sL sT sS sK wd nu hs) : fB_scriptErrorKind N 0 h = some (Int32.ofInt (nu 2), h) := by
  unfold fB_scriptErrorKind
  rw [zc_T0 C, cond_true, zc_r04 C, b1_s, zc_sc C 2 (by omega), b1_s]
theorem zq_offset (C : zc h sL sT sS sK wd nu hs) : fB_scriptErrorOffset N 0 h = some (Int32.ofInt (nu 3), h) := by
  unfold fB_scriptErrorOffset
  rw [zc_T0 C, cond_true, zc_r04 C, b1_s, zc_sc C 3 (by omega), b1_s]
theorem zq_keptCount (C : zc h sL sT sS sK wd nu hs) : fB_keptCount N 0 h = some (Int32.ofInt (sK 1 : Int), h) := by
  unfold fB_keptCount
  rw [zc_T0 C, cond_true, zc_r00 C, b1_s, zs_K (zc_now C), b1_s]
theorem zq_greatestKept (C : zc h sL sT sS sK wd nu hs) (hN : 3000 ≤ N) : fB_greatestKept N 0 h = some (Int32.ofInt (zs_gi (zs_g (sS 1) 0 (sK 1) 0 none)), h) := by
  have e := zs_great (N := N) (by omega) (zc_now C) (m := 0) (by decide)
  unfold fB_greatestKept
  rw [zc_T0 C, cond_true, zc_r00 C, b1_s, show Int32.ofInt 0 = Int32.ofInt ((0 : Nat) : Int) from rfl, e, b2]
theorem zq_reportByte (C : zc h sL sT sS sK wd nu hs) (x : Int) (hx : -2147483648 ≤ x ∧ x < 2147483648) : fB_reportByte N 0 (Int32.ofInt x) h = some (Int32.ofInt (zw_g (wd 228) x), h) := by
  have W := zc_wd C (o := 228) (n := 240) (Or.inr (Or.inl ⟨rfl, rfl⟩))
  unfold fB_reportByte
  rw [zc_T0 C, cond_true, zc_r05 C, b1_s, zw_at W x hx, b2]
theorem zq_keptLength (C : zc h sL sT sS sK wd nu hs) (x : Int) (hx : -2147483648 ≤ x ∧ x < 2147483648) : fB_keptLength N 0 (Int32.ofInt x) h = if 0 ≤ x ∧ x < (sK 1 : Int) then some (.inl (Int32.ofInt (((sS 1) x.toNat).length : Int)), h) else some (.inr 2, h) := by
  have H := zc_now C
  have hK := H.2.2.2.2.2.1
  unfold fB_keptLength
  rw [zc_T0 C, cond_true, zc_r00 C, b1_s, zs_at H x hx, b2]
  by_cases e : 0 ≤ x ∧ x < (sK 1 : Int)
  · rw [if_pos e, if_pos e]
    show cond (fX h (1 + 4 + 2 * x.toNat)) (b1 (fI h (1 + 4 + 2 * x.toNat) 4 1) _) none = _
    rw [zs_X H (by omega), cond_true, zw_z (H.2.2.2.2.1 x.toNat (by omega)), b1_s]
  · rw [if_neg e, if_neg e]
theorem zq_keptLetter (C : zc h sL sT sS sK wd nu hs) (x y : Int) (hx : -2147483648 ≤ x ∧ x < 2147483648) (hy : -2147483648 ≤ y ∧ y < 2147483648) : fB_keptLetter N 0 (Int32.ofInt x) (Int32.ofInt y) h = if 0 ≤ x ∧ x < (sK 1 : Int) then some (.inl (Int32.ofInt (zw_g ((sS 1) x.toNat) y)), h) else some (.inr 2, h) := by
  have H := zc_now C
  have hK := H.2.2.2.2.2.1
  unfold fB_keptLetter
  rw [zc_T0 C, cond_true, zc_r00 C, b1_s, zs_at H x hx, b2]
  by_cases e : 0 ≤ x ∧ x < (sK 1 : Int)
  · rw [if_pos e, if_pos e]
    show cond (fX h (1 + 4 + 2 * x.toNat)) (b2 (fW_at N (1 + 4 + 2 * x.toNat) (Int32.ofInt y) h) _) none = _
    rw [zs_X H (by omega), cond_true, zw_at (H.2.2.2.2.1 x.toNat (by omega)) y hy, b2]
  · rw [if_neg e, if_neg e]
theorem zq_isShelfFalling (C : zc h sL sT sS sK wd nu hs) (hN : 3000 ≤ N) : fB_isShelfFalling N 0 h = some (cond (zc_fall (sS 1) (sK 1) (sK 1 - 1)) (Int32.ofInt 1) (Int32.ofInt 0), h) := by
  have H := zc_now C
  have hK := H.2.2.2.2.2.1
  have key : ∀ c f i : Nat, c < f → 1 ≤ i → (i + c = sK 1 ∨ (c = 0 ∧ sK 1 ≤ i)) → i ≤ 10 → fB_isShelfFalling_2 N f 0 (Int32.ofInt (i : Int)) h = some (cond (zc_fall (sS 1) (sK 1) c) (Int32.ofInt 1) (Int32.ofInt 0), h) := by
    intro c
    induction c with
    | zero =>
      intro f i h1 h2 h3 h4
      obtain ⟨g, rfl⟩ : ∃ g, f = g + 1 := ⟨f - 1, by omega⟩
      rw [fB_isShelfFalling_2, zc_r00 C, b1_s, zs_K H, b1_s, zqo_ge _ _ (by omega) (by omega), decide_eq_true (by omega), cond_true]
      rfl
    | succ c ih =>
      intro f i h1 h2 h3 h4
      obtain ⟨g, rfl⟩ : ∃ g, f = g + 1 := ⟨f - 1, by omega⟩
      have Wi := H.2.2.2.2.1 i (by omega)
      have Wj := H.2.2.2.2.1 (i - 1) (by omega)
      have ho := zw_order (N := N) Wi Wj (by omega) (a := 0) (b := (sS 1 i).length) (c := 0) (d := (sS 1 (i - 1)).length) (Nat.le_refl _) (Nat.le_refl _) (Nat.zero_le _) (Nat.zero_le _)
      rw [zw_pall, zw_pall] at ho
      have hb := zw_cmpb (sS 1 i) (sS 1 (i - 1))
      rw [fB_isShelfFalling_2, zc_r00 C, b1_s, zs_K H, b1_s, zqo_ge _ _ (by omega) (by omega), decide_eq_false (by omega), cond_false, b1_s, zs_at H _ (by omega), b2, if_pos (by omega)]
      show b1 (fR h 0 0 0) _ = _
      rw [zc_r00 C, b1_s, zw_sub, show (i : Int) - 1 = ((i - 1 : Nat) : Int) by omega, zs_at H _ (by omega), b2, if_pos (by omega)]
      show cond (fX h (1 + 4 + 2 * i)) (cond (fX h (1 + 4 + 2 * (i - 1))) _ none) none = _
      rw [zs_X H (by omega), cond_true, zs_X H (by omega), cond_true, show ((i : Nat) : Int).toNat = i by omega, show ((i - 1 : Nat) : Int).toNat = i - 1 by omega, zw_z Wi, b1_s, zw_z Wj, b1_s, show Int32.ofInt 0 = Int32.ofInt ((0 : Nat) : Int) from rfl, ho, b2, zqo_le _ _ (by omega) (by omega), zc_fall, show sK 1 - (c + 1) = i by omega]
      by_cases e : zw_cmp (sS 1 i) (sS 1 (i - 1)) = 1
      · rw [decide_eq_false (by omega), cond_false, if_pos e]
        rfl
      · rw [decide_eq_true (by omega), cond_true, if_neg e]
        unfold fB_isShelfFalling_61
        rw [zh_inc]
        exact ih g (i + 1) (by omega) (by omega) (by omega) (by omega)
  unfold fB_isShelfFalling
  rw [zc_T0 C, cond_true]
  exact key (sK 1 - 1) N 1 (by omega) (by omega) (by omega) (by omega)
end ZCQ
