/-! lyndonWords, necklaces, lyndonShare, both sides. -/
def yd_py (L : Int64) : Nat → Int64 → Int64
  | 0, x => x
  | c + 1, x => yd_py L c (x * L)
/-- the class's sum over the divisors from d on -/
def yd_sum (L : Int64) (len : Nat) (wt : Nat → Int32) : Nat → Nat → Int64 → Int64
  | 0, _, s => s
  | c + 1, d, s => yd_sum L len wt c (d + 1) (if len % d = 0 then s + (wt d).toInt64 * yd_py L (len / d) (Int64.ofNat 1) else s)
def yd_mo (d : Nat) : Int32 := ([0, 1, -1, -1, 0, -1, 1, -1, 0, 0, 1, -1, 0, -1, 1, 1, 0, -1, 0] : List Int32).getD d 0
def yd_to (d : Nat) : Int32 := ([0, 1, 1, 2, 2, 4, 2, 6, 4, 6, 4, 10, 4, 12, 6, 8, 8, 16, 6] : List Int32).getD d 0
def yd_W (L len : Nat) (wt : Nat → Int32) : Int64 := yd_sum (Int32.ofInt (L : Int)).toInt64 len wt len 1 (Int64.ofNat 0) / (Int32.ofInt (len : Int)).toInt64
def yd_prl (f : Nat → Int64) (len : Nat) : Nat → Nat → Int64 → Int64
  | 0, _, s => s
  | c + 1, d, s => yd_prl f len c (d + 1) (s - (if len % d = 0 then f d else Int64.ofNat 0))
/-- the reference's primitive words -/
def yd_pr (L : Int64) : Nat → Nat → Int64
  | 0, _ => 0
  | R + 1, len => yd_prl (yd_pr L R) len (len - 1) 1 (yd_py L len (Int64.ofNat 1))
def yd_rg (L : Int64) (len : Nat) : Nat → Nat → Int64 → Int64
  | 0, _, s => s
  | c + 1, d, s => yd_rg L len c (d + 1) (s + (if len % d = 0 then yd_pr L 8 d / (Int32.ofInt (d : Int)).toInt64 else Int64.ofNat 0))
theorem yd_eqM {L len : Nat} (hL : 2 ≤ L ∧ L ≤ 9) (hl : 1 ≤ len ∧ len ≤ 18) : yd_W L len yd_mo = yd_pr (Int32.ofInt (L : Int)).toInt64 8 len / (Int32.ofInt (len : Int)).toInt64 := by
  have h := List.all_eq_true.mp (show ((List.range 10).all fun L => (List.range 19).all fun len => L == 0 || L == 1 || len == 0 || decide (yd_W L len yd_mo = yd_pr (Int32.ofInt (L : Int)).toInt64 8 len / (Int32.ofInt (len : Int)).toInt64)) = true by decide +kernel) L (List.mem_range.mpr (by omega))
  have h2 := List.all_eq_true.mp h len (List.mem_range.mpr (by omega))
  rw [Bool.or_eq_true, Bool.or_eq_true, Bool.or_eq_true, beq_iff_eq, beq_iff_eq, beq_iff_eq, decide_eq_true_eq] at h2
  rcases h2 with h2 | h2
  · omega
  · exact h2
theorem yd_eqT {L len : Nat} (hL : 2 ≤ L ∧ L ≤ 9) (hl : 1 ≤ len ∧ len ≤ 18) : yd_W L len yd_to = yd_rg (Int32.ofInt (L : Int)).toInt64 len len 1 (Int64.ofNat 0) := by
  have h := List.all_eq_true.mp (show ((List.range 10).all fun L => (List.range 19).all fun len => L == 0 || L == 1 || len == 0 || decide (yd_W L len yd_to = yd_rg (Int32.ofInt (L : Int)).toInt64 len len 1 (Int64.ofNat 0))) = true by decide +kernel) L (List.mem_range.mpr (by omega))
  have h2 := List.all_eq_true.mp h len (List.mem_range.mpr (by omega))
  rw [Bool.or_eq_true, Bool.or_eq_true, Bool.or_eq_true, beq_iff_eq, beq_iff_eq, beq_iff_eq, decide_eq_true_eq] at h2
  rcases h2 with h2 | h2
  · omega
  · exact h2
theorem yd_n0 {d : Nat} (h : 1 ≤ d ∧ d ≤ 18) : ¬ (Int32.ofInt (d : Int)).toInt64 = Int64.ofInt 0 := by
  have h := List.all_eq_true.mp (show ((List.range 19).all fun d => d == 0 || decide (¬ (Int32.ofInt (d : Int)).toInt64 = Int64.ofInt 0)) = true by decide +kernel) d (List.mem_range.mpr (by omega))
  rw [Bool.or_eq_true, beq_iff_eq, decide_eq_true_eq] at h
  rcases h with h | h
  · omega
  · exact h
/-- a share of one float by another, for 2 to 9 letters -/
def yd_share (L : Nat) : UInt32 := FP.fdiv (FP.l2f (yd_W L 6 yd_mo)) (FP.l2f (yd_W L 6 yd_to))
theorem yd_shareok {L : Nat} (hL : 2 ≤ L ∧ L ≤ 9) : z_cmp .le (Op.cmpValue (FP.fcmp (FP.l2f (yd_W L 6 yd_to)) FP.fconst0) .l) (Int32.ofInt 0) = false ∧ FP.fdiv (FP.l2f (yd_W L 6 yd_mo)) (FP.l2f (yd_W L 6 yd_to)) &&& 0x7fffffff ≤ 0x7f800000 := by
  have h := List.all_eq_true.mp (show ((List.range 10).all fun L => L == 0 || L == 1 || (!(z_cmp .le (Op.cmpValue (FP.fcmp (FP.l2f (yd_W L 6 yd_to)) FP.fconst0) .l) (Int32.ofInt 0)) && decide (FP.fdiv (FP.l2f (yd_W L 6 yd_mo)) (FP.l2f (yd_W L 6 yd_to)) &&& 0x7fffffff ≤ 0x7f800000))) = true by decide +kernel) L (List.mem_range.mpr (by omega))
  rw [Bool.or_eq_true, Bool.or_eq_true, beq_iff_eq, beq_iff_eq, Bool.and_eq_true, decide_eq_true_eq] at h
  rcases h with h | h
  · omega
  · refine ⟨?_, h.2⟩
    have := h.1
    cases hb : z_cmp .le (Op.cmpValue (FP.fcmp (FP.l2f (yd_W L 6 yd_to)) FP.fconst0) .l) (Int32.ofInt 0) with
    | false => rfl
    | true => rw [hb] at this; exact absurd this (by decide)
section YDA
variable {N : Nat} {h : zH}
theorem yd_pow5 {L : Int32} {e : Nat} (he : e ≤ 1000) : ∀ (c f i : Nat) (x : Int64), i + c = e → c < f → fB_power_5 N f L (Int32.ofInt (e : Int)) x (Int32.ofInt (i : Int)) h = some (yd_py L.toInt64 c x, h) := by
  intro c
  induction c with
  | zero =>
    intro f i x h1 h2
    obtain ⟨g, rfl⟩ : ∃ g, f = g + 1 := ⟨f - 1, by omega⟩
    rw [fB_power_5, zqo_ge _ _ (by omega) (by omega), decide_eq_true (by omega), cond_true]
    rfl
  | succ c ih =>
    intro f i x h1 h2
    obtain ⟨g, rfl⟩ : ∃ g, f = g + 1 := ⟨f - 1, by omega⟩
    rw [fB_power_5, zqo_ge _ _ (by omega) (by omega), decide_eq_false (by omega), cond_false, zh_inc, ih g (i + 1) _ (by omega) (by omega)]
    rfl
theorem yd_weigh12 (hN : 1000 ≤ N) {L : Int32} {len : Nat} (hl : 1 ≤ len ∧ len ≤ 18) {q : Nat} {wt : Nat → Int32} (h1 : fN h q 100 = some (Int32.ofInt 19)) (h2 : ∀ d : Nat, d < 19 → fAI h q 100 (Int32.ofInt (d : Int)) = some (wt d)) : ∀ (c f d : Nat) (s : Int64), d + c = len + 1 → 1 ≤ d → c < f → fB_weighPowers_12 N f L (Int32.ofInt (len : Int)) q s (Int32.ofInt (d : Int)) h = some (yd_sum L.toInt64 len wt c d s / (Int32.ofInt (len : Int)).toInt64, h) := by
  intro c
  induction c with
  | zero =>
    intro f d s h3 h4 h5
    obtain ⟨g, rfl⟩ : ∃ g, f = g + 1 := ⟨f - 1, by omega⟩
    rw [fB_weighPowers_12, zqo_gt _ _ (by omega) (by omega), decide_eq_true (by omega), cond_true]
    unfold fB_weighPowers_55
    rw [if_neg (yd_n0 hl)]
    rfl
  | succ c ih =>
    intro f d s h3 h4 h5
    obtain ⟨g, rfl⟩ : ∃ g, f = g + 1 := ⟨f - 1, by omega⟩
    have dv : len / d ≤ len := Nat.div_le_self _ _
    have pw := yd_pow5 (N := N) (h := h) (L := L) (e := len / d) (by omega) (len / d) N 0 (Int64.ofNat 1) (by omega) (by omega)
    have pw : fB_power N L (Int32.ofInt ((len / d : Nat) : Int)) h = _ := pw
    rw [fB_weighPowers_12, zqo_gt _ _ (by omega) (by omega), decide_eq_false (by omega), cond_false, h1, b1_s, zqo_ge _ _ (by omega) (by decide), decide_eq_false (by omega), cond_false, if_neg (zw_n0 _ (by omega) (by omega)), zw_modi _ _ (by omega) (by omega), zqo_ne _ _ (by have := Nat.mod_lt len (show d > 0 by omega); omega) (by decide), yd_sum]
    by_cases e : len % d = 0
    · rw [decide_eq_true (by omega), Bool.not_true, cond_false, h2 d (by omega), b1_s, if_neg (zw_n0 _ (by omega) (by omega)), zw_div _ _ (by omega) (by omega), pw, b2, if_pos e]
      unfold fB_weighPowers_49
      rw [zh_inc]
      exact ih g (d + 1) _ (by omega) (by omega) (by omega)
    · rw [decide_eq_false (by omega), Bool.not_false, cond_true, if_neg e]
      unfold fB_weighPowers_49
      rw [zh_inc]
      exact ih g (d + 1) _ (by omega) (by omega) (by omega)
theorem yd_weigh (hN : 1000 ≤ N) {L len : Nat} (hl : 1 ≤ len ∧ len ≤ 18) {q : Nat} {wt : Nat → Int32} (h1 : fN h q 100 = some (Int32.ofInt 19)) (h2 : ∀ d : Nat, d < 19 → fAI h q 100 (Int32.ofInt (d : Int)) = some (wt d)) : fB_weighPowers N (Int32.ofInt (L : Int)) (Int32.ofInt (len : Int)) q h = some (yd_W L len wt, h) := by
  unfold fB_weighPowers
  rw [zqo_ge _ _ (by omega) (by decide), decide_eq_true (by omega), cond_true]
  exact yd_weigh12 hN hl h1 h2 len N 1 _ (by omega) (Nat.le_refl 1) (by omega)
theorem yd_moA (h : zH) (d : Nat) (hd : d < 19) : fAI h 1000013 100 (Int32.ofInt (d : Int)) = some (yd_mo d) := by
  have c : d = 0 ∨ d = 1 ∨ d = 2 ∨ d = 3 ∨ d = 4 ∨ d = 5 ∨ d = 6 ∨ d = 7 ∨ d = 8 ∨ d = 9 ∨ d = 10 ∨ d = 11 ∨ d = 12 ∨ d = 13 ∨ d = 14 ∨ d = 15 ∨ d = 16 ∨ d = 17 ∨ d = 18 := by omega
  rcases c with e | e | e | e | e | e | e | e | e | e | e | e | e | e | e | e | e | e | e <;> subst e <;> rfl
theorem yd_toA (h : zH) (d : Nat) (hd : d < 19) : fAI h 1000014 100 (Int32.ofInt (d : Int)) = some (yd_to d) := by
  have c : d = 0 ∨ d = 1 ∨ d = 2 ∨ d = 3 ∨ d = 4 ∨ d = 5 ∨ d = 6 ∨ d = 7 ∨ d = 8 ∨ d = 9 ∨ d = 10 ∨ d = 11 ∨ d = 12 ∨ d = 13 ∨ d = 14 ∨ d = 15 ∨ d = 16 ∨ d = 17 ∨ d = 18 := by omega
  rcases c with e | e | e | e | e | e | e | e | e | e | e | e | e | e | e | e | e | e | e <;> subst e <;> rfl
end YDA
section YDB
variable {N : Nat} {h : zH} {fl : Nat → Int} {a : Nat → Nat → Int} {g : Nat}
theorem yd_L (H : zr h fl a) (e : a 233 0 = (g : Int)) : fAI h 233 100 (Int32.ofInt 0) = some (Int32.ofInt (g : Int)) := by
  have := zr_w H 0 (by decide)
  rw [e] at this
  exact this
theorem yd_pr5 {rc : Nat → Int32 → zH → Option (Int64 × zH)} (H : zr h fl a) (e : a 233 0 = (g : Int)) {len : Nat} (hl : len ≤ 18) : ∀ (c f i : Nat) (x : Int64), i + c = len → c < f → fM_primitives_5 N rc f 232 (Int32.ofInt (len : Int)) x (Int32.ofInt (i : Int)) h = fM_primitives_30 N rc N 232 (Int32.ofInt (len : Int)) (yd_py (Int32.ofInt (g : Int)).toInt64 c x) (Int32.ofInt 1) h := by
  intro c
  induction c with
  | zero =>
    intro f i x h1 h2
    obtain ⟨y, rfl⟩ : ∃ g, f = g + 1 := ⟨f - 1, by omega⟩
    rw [fM_primitives_5, zqo_ge _ _ (by omega) (by omega), decide_eq_true (by omega), cond_true]
    rfl
  | succ c ih =>
    intro f i x h1 h2
    obtain ⟨y, rfl⟩ : ∃ g, f = g + 1 := ⟨f - 1, by omega⟩
    rw [fM_primitives_5, zqo_ge _ _ (by omega) (by omega), decide_eq_false (by omega), cond_false, zr_r0 H, b1_s, yd_L H e, b1_s, zh_inc, ih y (i + 1) _ (by omega) (by omega)]
    rfl
theorem yd_pr30 {rc : Nat → Int32 → zH → Option (Int64 × zH)} {f0 : Nat → Int64} {len : Nat} (hl : 1 ≤ len ∧ len ≤ 18) (hrc : ∀ d, 1 ≤ d → d < len → len % d = 0 → rc 232 (Int32.ofInt (d : Int)) h = some (f0 d, h)) : ∀ (c f d : Nat) (s : Int64), d + c = len → 1 ≤ d → c < f → fM_primitives_30 N rc f 232 (Int32.ofInt (len : Int)) s (Int32.ofInt (d : Int)) h = some (yd_prl f0 len c d s, h) := by
  intro c
  induction c with
  | zero =>
    intro f d s h3 h4 h5
    obtain ⟨y, rfl⟩ : ∃ g, f = g + 1 := ⟨f - 1, by omega⟩
    rw [fM_primitives_30, zqo_ge _ _ (by omega) (by omega), decide_eq_true (by omega), cond_true]
    rfl
  | succ c ih =>
    intro f d s h3 h4 h5
    obtain ⟨y, rfl⟩ : ∃ g, f = g + 1 := ⟨f - 1, by omega⟩
    rw [fM_primitives_30, zqo_ge _ _ (by omega) (by omega), decide_eq_false (by omega), cond_false, if_neg (zw_n0 _ (by omega) (by omega)), zw_modi _ _ (by omega) (by omega), zqo_ne _ _ (by have := Nat.mod_lt len (show d > 0 by omega); omega) (by decide), yd_prl]
    by_cases e : len % d = 0
    · rw [decide_eq_true (by omega), Bool.not_true, cond_false, hrc d h4 (by omega) e, b2, if_pos e]
      unfold fM_primitives_54
      rw [zh_inc]
      exact ih y (d + 1) _ (by omega) (by omega) (by omega)
    · rw [decide_eq_false (by omega), Bool.not_false, cond_true, if_neg e]
      unfold fM_primitives_54
      rw [zh_inc]
      exact ih y (d + 1) _ (by omega) (by omega) (by omega)
theorem yd_prim (hN : 1000 ≤ N) (H : zr h fl a) (e : a 233 0 = (g : Int)) : ∀ (R len : Nat), 1 ≤ len → len ≤ 18 → len < 2 ^ R → fM_primitives N R 232 (Int32.ofInt (len : Int)) h = some (yd_pr (Int32.ofInt (g : Int)).toInt64 R len, h) := by
  intro R
  induction R with
  | zero => intro len h1 h2 h3; omega
  | succ R ih =>
    intro len h1 h2 h3
    show fM_primitives_B N (fM_primitives N R) 232 (Int32.ofInt (len : Int)) h = _
    unfold fM_primitives_B
    have p5 := yd_pr5 (N := N) (rc := fM_primitives N R) H e h2 len N 0 (Int64.ofNat 1) (by omega) (by omega)
    have p5 : fM_primitives_5 N (fM_primitives N R) N 232 (Int32.ofInt (len : Int)) (Int64.ofNat 1) (Int32.ofInt 0) h = _ := p5
    rw [zr_T H, cond_true, p5]
    refine yd_pr30 (N := N) ⟨h1, h2⟩ (f0 := yd_pr (Int32.ofInt (g : Int)).toInt64 R) (fun d d1 d2 d3 => ?_) (len - 1) N 1 _ (by omega) (Nat.le_refl 1) (by omega)
    refine ih d d1 (by omega) ?_
    have d4 : 2 * d ≤ len := by
      obtain ⟨k, hk⟩ := Nat.dvd_of_mod_eq_zero d3
      have k2 : 2 ≤ k := by
        rcases Nat.lt_or_ge k 2 with x | x
        · have : k = 0 ∨ k = 1 := by omega
          rcases this with y | y
          · rw [y, Nat.mul_zero] at hk
            omega
          · rw [y, Nat.mul_one] at hk
            omega
        · exact x
      rw [hk, Nat.mul_comm]
      exact Nat.mul_le_mul_left d k2
    rw [Nat.pow_succ] at h3
    omega
theorem yd_ring5 (hN : 1000 ≤ N) (H : zr h fl a) (e : a 233 0 = (g : Int)) {len : Nat} (hl : 1 ≤ len ∧ len ≤ 18) : ∀ (c f d : Nat) (s : Int64), d + c = len + 1 → 1 ≤ d → c < f → fM_rings_5 N f 232 (Int32.ofInt (len : Int)) s (Int32.ofInt (d : Int)) h = some (yd_rg (Int32.ofInt (g : Int)).toInt64 len c d s, h) := by
  intro c
  induction c with
  | zero =>
    intro f d s h3 h4 h5
    obtain ⟨y, rfl⟩ : ∃ g, f = g + 1 := ⟨f - 1, by omega⟩
    rw [fM_rings_5, zqo_gt _ _ (by omega) (by omega), decide_eq_true (by omega), cond_true]
    rfl
  | succ c ih =>
    intro f d s h3 h4 h5
    obtain ⟨y, rfl⟩ : ∃ g, f = g + 1 := ⟨f - 1, by omega⟩
    rw [fM_rings_5, zqo_gt _ _ (by omega) (by omega), decide_eq_false (by omega), cond_false, if_neg (zw_n0 _ (by omega) (by omega)), zw_modi _ _ (by omega) (by omega), zqo_ne _ _ (by have := Nat.mod_lt len (show d > 0 by omega); omega) (by decide), yd_rg]
    by_cases e2 : len % d = 0
    · rw [decide_eq_true (by omega), Bool.not_true, cond_false, yd_prim hN H e 8 d h4 (by omega) (by omega), b2, if_neg (yd_n0 ⟨h4, by omega⟩), if_pos e2]
      unfold fM_rings_33
      rw [zh_inc]
      exact ih y (d + 1) _ (by omega) (by omega) (by omega)
    · rw [decide_eq_false (by omega), Bool.not_false, cond_true, if_neg e2]
      unfold fM_rings_33
      rw [zh_inc]
      exact ih y (d + 1) _ (by omega) (by omega) (by omega)
theorem yd_rings (hN : 1000 ≤ N) (H : zr h fl a) (e : a 233 0 = (g : Int)) (hg : 2 ≤ g ∧ g ≤ 9) {len : Nat} (hl : 1 ≤ len ∧ len ≤ 18) : fM_rings N 232 (Int32.ofInt (len : Int)) h = some (yd_W g len yd_to, h) := by
  unfold fM_rings
  rw [zr_T H, cond_true, yd_eqT hg hl]
  exact yd_ring5 hN H e hl len N 1 _ (by omega) (Nat.le_refl 1) (by omega)
end YDB
section YDC
variable {N : Nat} {h : zH} {now snap : zA} {hist : List zA} {sv t : Int} {inp : List Nat} {rep : zvP}
theorem zv_L1 (V : zv h now hist snap sv inp rep) : fI h 1 3 0 = some (Int32.ofInt (now.1 : Int)) := by
  obtain ⟨ok, S, H, _⟩ := zv_open V
  exact zs_L H
theorem yd_checked (V : zv h now hist snap sv inp rep) (x : Int) (hx : -2147483648 ≤ x ∧ x < 2147483648) : fB_checkCountedLength N 0 (Int32.ofInt x) h = cond (decide (1 ≤ x ∧ x ≤ 18)) (some (.inl (), h)) (some (.inr 0, h)) := by
  unfold fB_checkCountedLength
  rw [zv_T0 V, cond_true, zqo_lt _ _ hx (by decide), zqo_le _ _ hx (by decide)]
  by_cases e1 : x < 1
  · rw [decide_eq_true e1, cond_true, decide_eq_false (by omega)]
    rfl
  · rw [decide_eq_false e1, cond_false]
    by_cases e2 : x ≤ 18
    · rw [decide_eq_true e2, cond_true, decide_eq_true (by omega), cond_true]
    · rw [decide_eq_false e2, cond_false, decide_eq_false (by omega), cond_false]
      rfl
theorem zk_lyndonWords (V : zv h now hist snap sv inp rep) (hN : 3000 ≤ N) (x : Int) (hx : -2147483648 ≤ x ∧ x < 2147483648) : (¬ (1 ≤ x ∧ x ≤ 18) ∧ fB_lyndonWords N 0 (Int32.ofInt x) h = some (.inr 0, h)) ∨ ((1 ≤ x ∧ x ≤ 18) ∧ fB_lyndonWords N 0 (Int32.ofInt x) h = some (.inl (yd_W now.1 x.toNat yd_mo), h)) := by
  unfold fB_lyndonWords
  rw [zv_T0 V, cond_true, yd_checked V x hx]
  by_cases e : 1 ≤ x ∧ x ≤ 18
  · obtain ⟨v, rfl⟩ : ∃ v : Nat, x = (v : Int) := ⟨x.toNat, by omega⟩
    refine Or.inr ⟨e, ?_⟩
    rw [decide_eq_true e, cond_true]
    show b1 (fR h 0 0 0) _ = _
    rw [zv_r00 V, b1_s, zv_L1 V, b1_s, yd_weigh (N := N) (L := now.1) (len := v) (by omega) (by omega) rfl (yd_moA h), b2]
    rfl
  · refine Or.inl ⟨e, ?_⟩
    rw [decide_eq_false e, cond_false]
    rfl
theorem zk_necklaces (V : zv h now hist snap sv inp rep) (hN : 3000 ≤ N) (x : Int) (hx : -2147483648 ≤ x ∧ x < 2147483648) : (¬ (1 ≤ x ∧ x ≤ 18) ∧ fB_necklaces N 0 (Int32.ofInt x) h = some (.inr 0, h)) ∨ ((1 ≤ x ∧ x ≤ 18) ∧ fB_necklaces N 0 (Int32.ofInt x) h = some (.inl (yd_W now.1 x.toNat yd_to), h)) := by
  unfold fB_necklaces
  rw [zv_T0 V, cond_true, yd_checked V x hx]
  by_cases e : 1 ≤ x ∧ x ≤ 18
  · obtain ⟨v, rfl⟩ : ∃ v : Nat, x = (v : Int) := ⟨x.toNat, by omega⟩
    refine Or.inr ⟨e, ?_⟩
    rw [decide_eq_true e, cond_true]
    show b1 (fR h 0 0 0) _ = _
    rw [zv_r00 V, b1_s, zv_L1 V, b1_s, yd_weigh (N := N) (L := now.1) (len := v) (by omega) (by omega) rfl (yd_toA h), b2]
    rfl
  · refine Or.inl ⟨e, ?_⟩
    rw [decide_eq_false e, cond_false]
    rfl
theorem zk_lyndonShare (V : zv h now hist snap sv inp rep) (hN : 3000 ≤ N) : fB_lyndonShare N 0 h = some (yd_share now.1, h) := by
  have ok := (zv_open V).1
  have s := yd_shareok ok.1
  have w1 := yd_weigh (N := N) (L := now.1) (len := 6) (by omega) (by decide) rfl (yd_moA h)
  have w2 := yd_weigh (N := N) (L := now.1) (len := 6) (by omega) (by decide) rfl (yd_toA h)
  have w1 : fB_weighPowers N (Int32.ofInt (now.1 : Int)) (Int32.ofInt 6) 1000013 h = _ := w1
  have w2 : fB_weighPowers N (Int32.ofInt (now.1 : Int)) (Int32.ofInt 6) 1000014 h = _ := w2
  unfold fB_lyndonShare yd_share
  rw [zv_T0 V, cond_true, zv_r00 V, b1_s, zv_L1 V, b1_s, w1, b2, zv_r00 V, b1_s, zv_L1 V, b1_s, w2, b2, s.1, cond_false, if_pos s.2]
  rfl
theorem zn_lyndonWords (Y : zy h now hist snap sv inp rep t) (ok : zv_ok now) (hN : 4000 ≤ N) (x : Int) (hx : -2147483648 ≤ x ∧ x < 2147483648) : (¬ (1 ≤ x ∧ x ≤ 18) ∧ ∃ h', fM_lyndonWords N 232 (Int32.ofInt x) h = some (Int64.ofNat 0, h') ∧ zy h' now hist snap sv inp rep 1 ∧ zr_F h h') ∨ ((1 ≤ x ∧ x ≤ 18) ∧ ∃ h', fM_lyndonWords N 232 (Int32.ofInt x) h = some (yd_W now.1 x.toNat yd_mo, h') ∧ zy h' now hist snap sv inp rep 0 ∧ zr_F h h') := by
  obtain ⟨fl0, a0, H0, R0⟩ := id Y
  unfold fM_lyndonWords
  rw [zr_T H0, cond_true, zr_in N x 1 18 hx (by decide) (by decide), b2]
  by_cases e : 1 ≤ x ∧ x ≤ 18
  · refine Or.inr ⟨e, ?_⟩
    obtain ⟨v, rfl⟩ : ∃ v : Nat, x = (v : Int) := ⟨x.toNat, by omega⟩
    obtain ⟨h1, e1, Y1, F1⟩ := zy_one0 (N := N) Y
    obtain ⟨fl, a, H, R⟩ := id Y1
    refine ⟨h1, ?_, Y1, F1⟩
    rw [decide_eq_true e, cond_true, show z_cmp .ne (Int32.ofInt 1) (Int32.ofInt 0) = true from rfl, cond_true]
    unfold fM_lyndonWords_16
    rw [e1, b2, show z_cmp .eq (Int32.ofInt 0) (Int32.ofInt 0) = true from rfl, cond_true, yd_prim (by omega) H R.1.1 8 v (by omega) (by omega) (by omega), b2, if_neg (yd_n0 (by omega)), show ((v : Nat) : Int).toNat = v by omega, yd_eqM ok.1 (by omega)]
    rfl
  · refine Or.inl ⟨e, ?_⟩
    obtain ⟨h1, e1, Y1, F1⟩ := zy_one1 (N := N) Y
    refine ⟨h1, ?_, Y1, F1⟩
    rw [decide_eq_false e, cond_false, show z_cmp .ne (Int32.ofInt 0) (Int32.ofInt 0) = false from rfl, cond_false]
    unfold fM_lyndonWords_16
    rw [e1, b2]
    rfl
theorem zn_necklaces (Y : zy h now hist snap sv inp rep t) (ok : zv_ok now) (hN : 4000 ≤ N) (x : Int) (hx : -2147483648 ≤ x ∧ x < 2147483648) : (¬ (1 ≤ x ∧ x ≤ 18) ∧ ∃ h', fM_necklaces N 232 (Int32.ofInt x) h = some (Int64.ofNat 0, h') ∧ zy h' now hist snap sv inp rep 1 ∧ zr_F h h') ∨ ((1 ≤ x ∧ x ≤ 18) ∧ ∃ h', fM_necklaces N 232 (Int32.ofInt x) h = some (yd_W now.1 x.toNat yd_to, h') ∧ zy h' now hist snap sv inp rep 0 ∧ zr_F h h') := by
  obtain ⟨fl0, a0, H0, R0⟩ := id Y
  unfold fM_necklaces
  rw [zr_T H0, cond_true, zr_in N x 1 18 hx (by decide) (by decide), b2]
  by_cases e : 1 ≤ x ∧ x ≤ 18
  · refine Or.inr ⟨e, ?_⟩
    obtain ⟨v, rfl⟩ : ∃ v : Nat, x = (v : Int) := ⟨x.toNat, by omega⟩
    obtain ⟨h1, e1, Y1, F1⟩ := zy_one0 (N := N) Y
    obtain ⟨fl, a, H, R⟩ := id Y1
    refine ⟨h1, ?_, Y1, F1⟩
    rw [decide_eq_true e, cond_true, show z_cmp .ne (Int32.ofInt 1) (Int32.ofInt 0) = true from rfl, cond_true]
    unfold fM_necklaces_16
    rw [e1, b2, show z_cmp .eq (Int32.ofInt 0) (Int32.ofInt 0) = true from rfl, cond_true, yd_rings (by omega) H R.1.1 ok.1 (by omega), b2]
    rfl
  · refine Or.inl ⟨e, ?_⟩
    obtain ⟨h1, e1, Y1, F1⟩ := zy_one1 (N := N) Y
    refine ⟨h1, ?_, Y1, F1⟩
    rw [decide_eq_false e, cond_false, show z_cmp .ne (Int32.ofInt 0) (Int32.ofInt 0) = false from rfl, cond_false]
    unfold fM_necklaces_16
    rw [e1, b2]
    rfl
theorem zn_lyndonShare (Y : zy h now hist snap sv inp rep t) (ok : zv_ok now) (hN : 4000 ≤ N) : ∃ h', fM_lyndonShare N 232 h = some (yd_share now.1, h') ∧ zy h' now hist snap sv inp rep 0 ∧ zr_F h h' := by
  obtain ⟨h1, e1, Y1, F1⟩ := zy_throw Y 0
  obtain ⟨fl, a, H, R⟩ := id Y1
  obtain ⟨fl0, a0, H0, R0⟩ := Y
  have s := yd_shareok ok.1
  have p1 := yd_prim (N := N) (by omega) H R.1.1 8 6 (by decide) (by decide) (by decide)
  have p1 : fM_primitives N 8 232 (Int32.ofInt 6) h1 = _ := p1
  have p2 := yd_rings (N := N) (by omega) H R.1.1 ok.1 (len := 6) (by decide)
  have p2 : fM_rings N 232 (Int32.ofInt 6) h1 = _ := p2
  have em := yd_eqM ok.1 (len := 6) (by decide)
  have e6 : (Int32.ofInt ((6 : Nat) : Int)).toInt64 = (6 : Int64) := by decide +kernel
  rw [e6] at em
  refine ⟨h1, ?_, Y1, F1⟩
  unfold fM_lyndonShare yd_share
  rw [zr_T H0, cond_true, e1, b1_s, p1, b2, if_neg (by decide +kernel), p2, b2, ← em, if_pos s.2]
end YDC
