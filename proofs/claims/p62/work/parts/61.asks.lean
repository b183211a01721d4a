/-! THE CLASS'S QUESTIONS. -/
/-- what isShelfFalling finds; c are left -/
def zc_fall (S : Nat → List Nat) (K : Nat) : Nat → Bool
  | 0 => true
  | c + 1 => if zw_cmp (S (K - (c + 1))) (S (K - (c + 1) - 1)) = 1 then false else zc_fall S K c
/-- why the text isn't a Lyndon word -/
def zc_why (T : List Nat) : Int := if T.length = 0 then 1 else if zw_tu T < T.length then 2 else if zw_lT T = 0 then 0 else 3
section ZCQ
variable {N : Nat} {h : zH} {sL : Nat → Nat} {sT : Nat → List Nat} {sS : Nat → Nat → List Nat} {sK : Nat → Nat} {wd : Nat → List Nat} {nu : Nat → Int} {hs : Nat → Nat}
theorem zc_txt (C : zc h sL sT sS sK wd nu hs) : zw_W h (1 + 1) 120 (sT 1) := (zc_now C).2.2.2.1
theorem zq_letters (C : zc h sL sT sS sK wd nu hs) : fB_letters N 0 h = some (Int32.ofInt (sL 1 : Int), h) := by
  unfold fB_letters
  rw [zc_T0 C, cond_true, zc_r00 C, b1_s, zs_L (zc_now C), b1_s]
theorem zq_length (C : zc h sL sT sS sK wd nu hs) : fB_length N 0 h = some (Int32.ofInt ((sT 1).length : Int), h) := by
  unfold fB_length
  rw [zc_T0 C, cond_true, zc_r00 C, b1_s, zs_t (zc_now C), b1_s, zw_z (zc_txt C), b1_s]
theorem zq_letterAt (C : zc h sL sT sS sK wd nu hs) (x : Int) (hx : -2147483648 ≤ x ∧ x < 2147483648) : fB_letterAt N 0 (Int32.ofInt x) h = some (Int32.ofInt (zw_g (sT 1) x), h) := by
  unfold fB_letterAt
  rw [zc_T0 C, cond_true, zc_r00 C, b1_s, zs_t (zc_now C), b1_s, zw_at (zc_txt C) x hx, b2]
theorem zq_factorCount (C : zc h sL sT sS sK wd nu hs) (hN : 3000 ≤ N) : fB_factorCount N 0 h = some (Int32.ofInt (((zw_fs (sT 1)).length : Nat) : Int), h) := by
  unfold fB_factorCount
  rw [zc_T0 C, cond_true, zc_r00 C, b1_s, zs_t (zc_now C), b1_s, zw_count (zc_txt C) (by omega), b2]
theorem zq_factorOf (C : zc h sL sT sS sK wd nu hs) (hN : 3000 ≤ N) (x : Int) (hx : -2147483648 ≤ x ∧ x < 2147483648) : fB_factorOf N 0 (Int32.ofInt x) h = some (Int32.ofInt (zw_wF (sT 1) x), h) := by
  unfold fB_factorOf
  rw [zc_T0 C, cond_true, zc_r00 C, b1_s, zs_t (zc_now C), b1_s, zw_with (zc_txt C) (by omega) x hx, b2]
theorem zq_isLyndon (C : zc h sL sT sS sK wd nu hs) (hN : 3000 ≤ N) : fB_isLyndon N 0 h = some (cond (decide (0 < (sT 1).length ∧ zw_lE (sT 1) 0 = (sT 1).length)) (Int32.ofInt 1) (Int32.ofInt 0), h) := by
  unfold fB_isLyndon
  rw [zc_T0 C, cond_true, zc_r00 C, b1_s, zs_t (zc_now C), b1_s, zw_one (zc_txt C) (by omega), b2]
  cases decide (0 < (sT 1).length ∧ zw_lE (sT 1) 0 = (sT 1).length) <;> rfl
theorem zq_leastSuffix (C : zc h sL sT sS sK wd nu hs) (hN : 3000 ≤ N) : fB_leastSuffix N 0 h = some (Int32.ofInt (zw_ext (sT 1) (-1)), h) := by
  unfold fB_leastSuffix
  rw [zc_T0 C, cond_true, zc_r00 C, b1_s, zs_t (zc_now C), b1_s, zw_extr (zc_txt C) (by omega) (Or.inl rfl), b2]
theorem zq_undoCount (C : zc h sL sT sS sK wd nu hs) : fB_undoCount N 0 h = some (Int32.ofInt (nu 1), h) := by
  unfold fB_undoCount
  rw [zc_T0 C, cond_true, zc_r01 C, b1_s, zc_cnt C, b1_s]
theorem zq_keptCount (C : zc h sL sT sS sK wd nu hs) : fB_keptCount N 0 h = some (Int32.ofInt (sK 1 : Int), h) := by
  unfold fB_keptCount
  rw [zc_T0 C, cond_true, zc_r00 C, b1_s, zs_K (zc_now C), b1_s]
theorem zq_keptLength (C : zc h sL sT sS sK wd nu hs) (x : Int) (hx : -2147483648 ≤ x ∧ x < 2147483648) : fB_keptLength N 0 (Int32.ofInt x) h = if 0 ≤ x ∧ x < (sK 1 : Int) then some (.inl (Int32.ofInt (((sS 1) x.toNat).length : Int)), h) else some (.inr 2, h) := by
  have H := zc_now C
  have hK := H.2.2.2.2.2.1
  unfold fB_keptLength
  rw [zc_T0 C, cond_true, zc_r00 C, b1_s, zs_at H x hx, b2]
  by_cases e : 0 ≤ x ∧ x < (sK 1 : Int)
  · rw [if_pos e, if_pos e]
    show cond (fX h (1 + 4 + 2 * x.toNat)) (b1 (fI h (1 + 4 + 2 * x.toNat) 4 1) _) none = _
    rw [zs_X H (by omega), cond_true, zw_z (H.2.2.2.2.1 x.toNat (by omega)), b1_s]
  · rw [if_neg e, if_neg e]
theorem zq_keptLetter (C : zc h sL sT sS sK wd nu hs) (x y : Int) (hx : -2147483648 ≤ x ∧ x < 2147483648) (hy : -2147483648 ≤ y ∧ y < 2147483648) : fB_keptLetter N 0 (Int32.ofInt x) (Int32.ofInt y) h = if 0 ≤ x ∧ x < (sK 1 : Int) then some (.inl (Int32.ofInt (zw_g ((sS 1) x.toNat) y)), h) else some (.inr 2, h) := by
  have H := zc_now C
  have hK := H.2.2.2.2.2.1
  unfold fB_keptLetter
  rw [zc_T0 C, cond_true, zc_r00 C, b1_s, zs_at H x hx, b2]
  by_cases e : 0 ≤ x ∧ x < (sK 1 : Int)
  · rw [if_pos e, if_pos e]
    show cond (fX h (1 + 4 + 2 * x.toNat)) (b2 (fW_at N (1 + 4 + 2 * x.toNat) (Int32.ofInt y) h) _) none = _
    rw [zs_X H (by omega), cond_true, zw_at (H.2.2.2.2.1 x.toNat (by omega)) y hy, b2]
  · rw [if_neg e, if_neg e]
end ZCQ
