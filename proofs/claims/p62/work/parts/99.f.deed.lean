/-! p62: THE LAW'S DEED: what it leaves is a state again; how many changes it made. -/
theorem zV_h8 {h : zH} {now snap : zA} {hist : List zA} {sv : Int} {inp : List Nat} {rep : zvP} (V : zv h now hist snap sv inp rep) : hist.length ≤ 8 := by
  obtain ⟨sL, sT, sS, sK, wd, nu, hs, C, v1, v2, v3, -⟩ := V
  exact v3
/-- k changes have been made -/
def yK (H0 : List zA) (A0 : zA) (hist : List zA) (A : zA) (k : Nat) : Prop := hist.length = min (H0.length + k) 8 ∧ (k = 0 → A = A0 ∧ hist = H0) ∧ (k = 1 → hist = zv_push H0 A0)
theorem yK_0 {H0 : List zA} {A0 : zA} (h : H0.length ≤ 8) : yK H0 A0 H0 A0 0 := ⟨by omega, fun _ => ⟨rfl, rfl⟩, fun z => absurd z (by decide)⟩
theorem yK_s {H0 hist : List zA} {A0 A A' : zA} {k : Nat} (h8 : hist.length ≤ 8) (h : yK H0 A0 hist A k) : yK H0 A0 (zv_push hist A) A' (k + 1) := by
  obtain ⟨a, b, c⟩ := h
  refine ⟨by rw [zv_pushl h8]; omega, fun z => absurd z (Nat.succ_ne_zero k), fun z => ?_⟩
  obtain ⟨b1, b2⟩ := b (by omega)
  rw [b1, b2]
theorem zw_min (a b : Nat) (ha : a < 2147483648) (hb : b < 2147483648) : (if Int32.ofInt (b : Int) < Int32.ofInt (a : Int) then Int32.ofInt (b : Int) else Int32.ofInt (a : Int)) = Int32.ofInt ((min a b : Nat) : Int) := by
  by_cases h1 : b < a
  · rw [if_pos (by rw [Int32.lt_iff_toInt_lt, zqo_i _ (by omega), zqo_i _ (by omega)]; omega), Nat.min_eq_right (by omega)]
  · rw [if_neg (by rw [Int32.lt_iff_toInt_lt, zqo_i _ (by omega), zqo_i _ (by omega)]; omega), Nat.min_eq_left (by omega)]
theorem zw_mul (a b : Nat) : Int32.ofInt (a : Int) * Int32.ofInt (b : Int) = Int32.ofInt ((a * b : Nat) : Int) := by
  rw [← Int32.ofInt_mul, Int.natCast_mul]
/-- some low bits -/
theorem zw_bits (x : Int32) (k : Nat) (hk : k < 31) : ∃ n : Nat, n < 2 ^ k ∧ x &&& Int32.ofInt ((2 ^ k - 1 : Nat) : Int) = Int32.ofInt (n : Int) := by
  have hp : 2 ^ k ≤ 2 ^ 30 := Nat.pow_le_pow_right (by decide) (by omega)
  have h0 : 0 < 2 ^ k := Nat.two_pow_pos k
  refine ⟨x.toBitVec.toNat % 2 ^ k, Nat.mod_lt _ h0, ?_⟩
  have hm := Nat.mod_lt x.toBitVec.toNat h0
  apply Int32.toInt_inj.mp
  rw [zqo_i _ (by omega)]
  have h1 : (x &&& Int32.ofInt ((2 ^ k - 1 : Nat) : Int)).toBitVec = x.toBitVec &&& BitVec.ofInt 32 ((2 ^ k - 1 : Nat) : Int) := rfl
  show (x &&& Int32.ofInt ((2 ^ k - 1 : Nat) : Int)).toBitVec.toInt = _
  rw [h1]
  have h2 : (x.toBitVec &&& BitVec.ofInt 32 ((2 ^ k - 1 : Nat) : Int)).toNat = x.toBitVec.toNat % 2 ^ k := by
    rw [BitVec.toNat_and, BitVec.ofInt_natCast, BitVec.toNat_ofNat, Nat.mod_eq_of_lt (by omega)]
    exact Nat.and_two_pow_sub_one_eq_mod x.toBitVec.toNat k
  rw [BitVec.toInt_eq_toNat_cond, h2]
  rw [if_pos (by omega)]
section YDD
variable {N : Nat} {h : zH} {A snap : zA} {hist : List zA} {sv : Int} {inp : List Nat} {rep : zvP}
/-- a deed's end -/
def yD (H0 : List zA) (A0 : zA) (h : zH) (snap : zA) (sv : Int) (inp : List Nat) (rep : zvP) (X : Option (Unit × zH)) : Prop := ∃ h' A' hist' k, X = some ((), h') ∧ zv h' A' hist' snap sv inp rep ∧ zc_F h h' ∧ yK H0 A0 hist' A' k
theorem yD_0 (V : zv h A hist snap sv inp rep) : yD hist A h snap sv inp rep (some ((), h)) := ⟨h, A, hist, 0, rfl, V, zc_Fr h, yK_0 (zV_h8 V)⟩
theorem yD_1 {X : Option (Unit × zH)} {h' : zH} {A' : zA} (V : zv h A hist snap sv inp rep) (e : X = some ((), h')) (V' : zv h' A' (zv_push hist A) snap sv inp rep) (F : zc_F h h') : yD hist A h snap sv inp rep X := ⟨h', A', _, 1, e, V', F, yK_s (zV_h8 V) (yK_0 (zV_h8 V))⟩
theorem yd_103 (hN : 3000 ≤ N) {H0 : List zA} {A0 : zA} {x y : Nat} (hx : x < 1024) (hy : y < 256) : ∀ (c f k : Nat) (h : zH) (A : zA) (hist : List zA) (n : Nat), zv h A hist snap sv inp rep → yK H0 A0 hist A n → k + c = 6 → c < f → ∃ h' A' hist' n', fL_deed_103 N f 0 (Int32.ofInt (x : Int)) (Int32.ofInt (y : Int)) (Int32.ofInt (k : Int)) h = some ((), h') ∧ zv h' A' hist' snap sv inp rep ∧ zc_F h h' ∧ yK H0 A0 hist' A' n' := by
  have m5 : Int32.ofInt (x : Int) - Int32.ofInt (x : Int) / Int32.ofInt 5 * Int32.ofInt 5 = Int32.ofInt ((x % 5 : Nat) : Int) := zw_modi x 5 (by omega) (by omega)
  have l5 := Nat.mod_lt x (show 0 < 5 by decide)
  intro c
  induction c with
  | zero =>
    intro f k h A hist n V K h1 h2
    obtain ⟨f, rfl⟩ : ∃ f', f = f' + 1 := ⟨f - 1, by omega⟩
    rw [fL_deed_103, if_neg (by decide), m5, zqo_gt _ _ (by omega) (by omega), decide_eq_true (by omega), cond_true]
    exact ⟨h, A, hist, n, rfl, V, zc_Fr h, K⟩
  | succ c ih =>
    intro f k h A hist n V K h1 h2
    obtain ⟨f, rfl⟩ : ∃ f', f = f' + 1 := ⟨f - 1, by omega⟩
    rw [fL_deed_103, if_neg (by decide), m5, zqo_gt _ _ (by omega) (by omega)]
    by_cases e1 : x % 5 < k
    · rw [decide_eq_true (by omega), cond_true]
      exact ⟨h, A, hist, n, rfl, V, zc_Fr h, K⟩
    · have ok := (zv_open V).1
      have o1 := ok.1
      have o2 := ok.2.1
      rw [decide_eq_false (by omega), cond_false, zV_length V, b2_s]
      show ∃ h' A' hist' n', cond (z_cmp .ge (Int32.ofInt (A.2.1.length : Int)) (Int32.ofInt 40)) _ _ = _ ∧ _
      rw [zqo_ge _ _ (by omega) (by omega)]
      by_cases e2 : 40 ≤ A.2.1.length
      · rw [decide_eq_true (by omega), cond_true]
        exact ⟨h, A, hist, n, rfl, V, zc_Fr h, K⟩
      · have hk5 : k * x ≤ 5 * 1024 := Nat.mul_le_mul (by omega) (by omega)
        have hm := Nat.mod_lt (y + k * x) (show 0 < A.1 by omega)
        rw [decide_eq_false (by omega), cond_false, zV_letters V, b2_s, if_neg (zw_n0 _ (by omega) (by omega)), zw_mul, zw_add, show (y : Int) + ((k * x : Nat) : Int) = ((y + k * x : Nat) : Int) by omega, zw_modi _ _ (by omega) (by omega), zw_add]
        rcases zk_appendLetter (N := N) V hN (97 + (((y + k * x) % A.1 : Nat) : Int)) (by omega) with ⟨z, -⟩ | ⟨-, z, -⟩ | ⟨-, -, g, e3, V', F⟩
        · exact absurd ⟨by omega, by omega⟩ z
        · omega
        · rw [e3, bN_s, zw_add, show (k : Int) + 1 = ((k + 1 : Nat) : Int) by omega]
          obtain ⟨h', A', hist', n', e4, V2, F2, K2⟩ := ih f (k + 1) g _ _ (n + 1) V' (yK_s (zV_h8 V) K) (by omega) (by omega)
          exact ⟨h', A', hist', n', e4, V2, zc_Ft F F2, K2⟩
theorem yd_100 (V : zv h A hist snap sv inp rep) (hN : 3000 ≤ N) {x y : Nat} (hx : x < 1024) (hy : y < 256) : yD hist A h snap sv inp rep (fL_deed_100 N 0 (Int32.ofInt (x : Int)) (Int32.ofInt (y : Int)) h) := by
  unfold fL_deed_100
  exact yd_103 hN hx hy 6 N 0 h A hist 0 V (yK_0 (zV_h8 V)) (by omega) (by omega)
theorem yd_4 (V : zv h A hist snap sv inp rep) (hN : 3000 ≤ N) {d : Nat} (hd : d ≤ A.2.1.length) : yD hist A h snap sv inp rep (fL_deed_168 N (Int32.ofInt (d : Int)) 0 h) := by
  have o2 := (zv_open V).1.2.1
  unfold fL_deed_168
  rcases zk_dropLast (N := N) V hN (d : Int) (by omega) with ⟨z, -⟩ | ⟨-, g, e, V', F⟩
  · exact absurd ⟨by omega, by omega⟩ z
  · exact yD_1 V (by rw [e]; rfl) V' F
theorem yd_5 (V : zv h A hist snap sv inp rep) (hN : 3000 ≤ N) {d : Nat} (hd : d ≤ A.2.1.length) : yD hist A h snap sv inp rep (fL_deed_189 N (Int32.ofInt (d : Int)) 0 h) := by
  have o2 := (zv_open V).1.2.1
  unfold fL_deed_189
  rcases zk_rotate (N := N) V hN (d : Int) (by omega) with ⟨z, -⟩ | ⟨-, g, e, V', F⟩
  · exact absurd ⟨by omega, by omega⟩ z
  · exact yD_1 V (by rw [e]; rfl) V' F
theorem yd_9 (V : zv h A hist snap sv inp rep) (hN : 3000 ≤ N) {x : Nat} (hx : x < 1024) : yD hist A h snap sv inp rep (fL_deed_254 N 0 (Int32.ofInt (A.2.1.length : Int)) (Int32.ofInt (x : Int)) h) := by
  have ok := (zv_open V).1
  have o2 := ok.2.1
  have o8 := ok.2.2.2.1
  have lm : (zw_fs A.2.1).length ≤ A.2.1.length := zw_itl _ _ _ _
  obtain ⟨F1, F2, F3⟩ := zm_F A.2.1
  unfold fL_deed_254
  rw [zqo_le _ _ (by omega) (by omega)]
  by_cases e1 : A.2.1.length = 0
  · rw [decide_eq_true (by omega), cond_true]
    exact yD_0 V
  · have hm := (F2 (by omega)).1
    have hmod := Nat.mod_lt x hm
    rw [decide_eq_false (by omega), cond_false, zV_keptCount V, b2_s]
    show yD _ _ _ _ _ _ _ (cond (z_cmp .ge (Int32.ofInt (A.2.2.length : Int)) (Int32.ofInt 8)) _ _)
    rw [zqo_ge _ _ (by omega) (by omega)]
    by_cases e2 : 8 ≤ A.2.2.length
    · rw [decide_eq_true (by omega), cond_true]
      exact yD_0 V
    · rw [decide_eq_false (by omega), cond_false, zV_factorCount V hN, b2_s, if_neg (zw_n0 _ (by omega) (by omega)), zw_modi _ _ (by omega) (by omega), zV_factorLength V hN hmod (by omega), bN_s]
      have hb := zw_lEb (F1 _ hmod).1
      rw [zqo_gt _ _ (by omega) (by omega)]
      by_cases e3 : 40 < zw_lE A.2.1 ((zw_fs A.2.1).getD (x % (zw_fs A.2.1).length) (0, 0)).1 - ((zw_fs A.2.1).getD (x % (zw_fs A.2.1).length) (0, 0)).1
      · rw [decide_eq_true (by omega), cond_true]
        exact yD_0 V
      · rw [decide_eq_false (by omega), cond_false, zV_factorCount V hN, b2_s, if_neg (zw_n0 _ (by omega) (by omega)), zw_modi _ _ (by omega) (by omega)]
        have hbf : zw_bF A.2.1 ((x % (zw_fs A.2.1).length : Nat) : Int) = (((zw_fs A.2.1).getD (x % (zw_fs A.2.1).length) (0, 0)).1 : Int) := by
          unfold zw_bF
          rw [if_neg (by omega), Int.toNat_natCast, List.getElem?_eq_getElem hmod, List.getD_eq_getElem?_getD, List.getElem?_eq_getElem hmod]
          rfl
        rcases zk_keepFactor (N := N) V hN ((x % (zw_fs A.2.1).length : Nat) : Int) (by omega) with ⟨z, -⟩ | ⟨b, b1, b2', ⟨z, -⟩ | ⟨-, g, e, V', F⟩⟩
        · rw [hbf] at z
          omega
        · rw [hbf] at b1
          have hb' : ((zw_fs A.2.1).getD (x % (zw_fs A.2.1).length) (0, 0)).1 = b := by omega
          rw [hb'] at e3
          exact absurd ⟨by omega, by omega⟩ z
        · exact yD_1 V (by rw [e]; rfl) V' F
theorem yd_381 (V : zv h A hist snap sv inp rep) (hN : 3000 ≤ N) {y s : Nat} (hy : y < 256) (hs : s ≤ A.2.1.length) : yD hist A h snap sv inp rep (fL_deed_381 N 0 (Int32.ofInt (A.2.1.length : Int)) (Int32.ofInt (y : Int)) (Int32.ofInt (s : Int)) h) := by
  have o2 := (zv_open V).1.2.1
  have e408 : ∀ d : Nat, s + d ≤ A.2.1.length → yD hist A h snap sv inp rep (fL_deed_408 N (Int32.ofInt (d : Int)) (Int32.ofInt (s : Int)) (Int32.ofInt (s : Int)) 0 h) := by
    intro d hd
    unfold fL_deed_408
    rw [zw_add]
    rcases zk_cutPart (N := N) V hN (s : Int) ((s : Int) + (d : Int)) (by omega) (by omega) with ⟨z, -⟩ | ⟨-, g, e, V', F⟩
    · unfold zc_part at z
      rw [decide_eq_true (by omega)] at z
      cases z
    · exact yD_1 V (by rw [e]; rfl) V' F
  unfold fL_deed_381
  rw [zw_sub, show (A.2.1.length : Int) - (s : Int) = ((A.2.1.length - s : Nat) : Int) by omega, zqo_ne _ _ (by omega) (by omega)]
  by_cases e1 : A.2.1.length - s = 0
  · rw [decide_eq_true (by omega), Bool.not_true, cond_false]
    exact e408 0 (by omega)
  · have hm := Nat.mod_lt y (show 0 < A.2.1.length - s + 1 by omega)
    rw [decide_eq_false (by omega), Bool.not_false, cond_true, zw_add, show ((A.2.1.length - s : Nat) : Int) + 1 = ((A.2.1.length - s + 1 : Nat) : Int) by omega, if_neg (zw_n0 _ (by omega) (by omega)), zw_modi _ _ (by omega) (by omega)]
    exact e408 _ (by omega)
theorem yd_7 (V : zv h A hist snap sv inp rep) (hN : 3000 ≤ N) : yD hist A h snap sv inp rep (cond (z_cmp .le (Int32.ofInt (A.2.1.length : Int)) (Int32.ofInt 0)) (some ((), h)) (bN (fB_rotateToLeast N 0 h) fun x12 h13 => some ((), h13))) := by
  have o2 := (zv_open V).1.2.1
  rw [zqo_le _ _ (by omega) (by omega)]
  by_cases e1 : A.2.1.length = 0
  · rw [decide_eq_true (by omega), cond_true]
    exact yD_0 V
  · rw [decide_eq_false (by omega), cond_false]
    rcases zk_rotateToLeast (N := N) V hN with ⟨z, -⟩ | ⟨-, g, e, V', F⟩
    · exact absurd z e1
    · exact yD_1 V (by rw [e]; rfl) V' F
theorem yd_8 (V : zv h A hist snap sv inp rep) (hN : 3000 ≤ N) {x : Nat} (hx : x < 1024) : yD hist A h snap sv inp rep (b2 (fB_isLyndon N 0 h) fun x14 h15 => cond (z_cmp .eq x14 (Int32.ofInt 0)) (some ((), h15)) ((if (Int32.ofInt 20) = Int32.ofInt 0 then none else cond (z_cmp .gt (Int32.ofInt (A.2.1.length : Int)) ((Int32.ofInt 1) + (Int32.ofInt (x : Int) - Int32.ofInt (x : Int) / (Int32.ofInt 20) * (Int32.ofInt 20)))) (some ((), h15)) (b2 (fL_isGreatest N 0 h15) fun x17 h18 => cond (z_cmp .ne x17 (Int32.ofInt 0)) (some ((), h18)) ((if (Int32.ofInt 20) = Int32.ofInt 0 then none else bN (fB_nextLyndon N 0 ((Int32.ofInt 1) + (Int32.ofInt (x : Int) - Int32.ofInt (x : Int) / (Int32.ofInt 20) * (Int32.ofInt 20))) h18) fun x20 h21 => some ((), h21))))))) := by
  have ok := (zv_open V).1
  have o1 := ok.1
  have o2 := ok.2.1
  have m20 : Int32.ofInt (x : Int) - Int32.ofInt (x : Int) / Int32.ofInt 20 * Int32.ofInt 20 = Int32.ofInt ((x % 20 : Nat) : Int) := zw_modi x 20 (by omega) (by omega)
  have l20 := Nat.mod_lt x (show 0 < 20 by decide)
  rw [zV_isLyndon V hN, b2_s, m20, zw_add, if_neg (by decide)]
  by_cases e1 : 0 < A.2.1.length ∧ zw_lE A.2.1 0 = A.2.1.length
  · rw [decide_eq_true e1, cond_true]
    show yD _ _ _ _ _ _ _ (cond (z_cmp .gt (Int32.ofInt (A.2.1.length : Int)) (Int32.ofInt (1 + ((x % 20 : Nat) : Int)))) _ _)
    rw [zqo_gt _ _ (by omega) (by omega)]
    by_cases e2 : 1 + x % 20 < A.2.1.length
    · rw [decide_eq_true (by omega), cond_true]
      exact yD_0 V
    · rw [decide_eq_false (by omega), cond_false, yH_greatest V, b2_s]
      by_cases e3 : A.2.1.length = 1 ∧ A.2.1.getD 0 0 = 96 + A.1
      · rw [if_pos e3]
        exact yD_0 V
      · rw [if_neg e3]
        show yD _ _ _ _ _ _ _ (if Int32.ofInt 20 = Int32.ofInt 0 then none else bN (fB_nextLyndon N 0 (Int32.ofInt (1 + ((x % 20 : Nat) : Int))) h) _)
        rw [if_neg (by decide)]
        rcases zk_nextLyndon (N := N) V hN (1 + ((x % 20 : Nat) : Int)) (by omega) with ⟨z, -⟩ | ⟨-, z, -⟩ | ⟨-, -, g, e, V', F⟩
        · exact absurd ⟨by omega, by omega⟩ z
        · unfold zs_hn at z
          rw [decide_eq_true (show (A.2.1.length : Int) ≤ 1 + ((x % 20 : Nat) : Int) by omega), decide_eq_true e1, Bool.true_and, Bool.true_and] at z
          have z2 : A.2.1.getD 0 0 = 97 + A.1 - 1 := by
            by_cases z3 : A.2.1.getD 0 0 = 97 + A.1 - 1
            · exact z3
            · rw [decide_eq_false z3] at z
              cases z
          have top := zm_top (g := 97 + A.1 - 1) (fun v hv => by have := ok.2.2.1 v hv; omega) e1.1 e1.2 z2
          exact absurd ⟨top, by omega⟩ e3
        · exact yD_1 V (by rw [e]; rfl) V' F
  · rw [decide_eq_false e1, cond_false]
    exact yD_0 V
theorem yd_11 (V : zv h A hist snap sv inp rep) (hN : 3000 ≤ N) : yD hist A h snap sv inp rep (cond (z_cmp .le (Int32.ofInt (A.2.1.length : Int)) (Int32.ofInt 0)) (some ((), h)) (cond (z_cmp .gt (Int32.ofInt (A.2.1.length : Int)) (Int32.ofInt 40)) (some ((), h)) (b2 (fB_keptCount N 0 h) fun x22 h23 => cond (z_cmp .ge x22 (Int32.ofInt 8)) (some ((), h23)) (bN (fB_keepText N 0 h23) fun x24 h25 => some ((), h25))))) := by
  have ok := (zv_open V).1
  have o2 := ok.2.1
  have o8 := ok.2.2.2.1
  rw [zqo_le _ _ (by omega) (by omega), zqo_gt _ _ (by omega) (by omega)]
  by_cases e1 : A.2.1.length = 0
  · rw [decide_eq_true (by omega), cond_true]
    exact yD_0 V
  · rw [decide_eq_false (by omega), cond_false]
    by_cases e2 : 40 < A.2.1.length
    · rw [decide_eq_true (by omega), cond_true]
      exact yD_0 V
    · rw [decide_eq_false (by omega), cond_false, zV_keptCount V, b2_s]
      show yD _ _ _ _ _ _ _ (cond (z_cmp .ge (Int32.ofInt (A.2.2.length : Int)) (Int32.ofInt 8)) _ _)
      rw [zqo_ge _ _ (by omega) (by omega)]
      by_cases e3 : 8 ≤ A.2.2.length
      · rw [decide_eq_true (by omega), cond_true]
        exact yD_0 V
      · rw [decide_eq_false (by omega), cond_false]
        rcases zk_keepText (N := N) V hN with ⟨z, -⟩ | ⟨-, g, e, V', F⟩
        · exact absurd ⟨by omega, by omega, by omega⟩ z
        · exact yD_1 V (by rw [e]; rfl) V' F
theorem yd_12 (V : zv h A hist snap sv inp rep) (hN : 3000 ≤ N) {x : Nat} (hx : x < 1024) : yD hist A h snap sv inp rep (b2 (fB_keptCount N 0 h) fun x26 h27 => cond (z_cmp .le x26 (Int32.ofInt 0)) (some ((), h27)) (b2 (fB_keptCount N 0 h27) fun x28 h29 => (if x28 = Int32.ofInt 0 then none else bN (fB_removeKept N 0 (Int32.ofInt (x : Int) - Int32.ofInt (x : Int) / x28 * x28) h29) fun x31 h32 => some ((), h32)))) := by
  have ok := (zv_open V).1
  have o8 := ok.2.2.2.1
  rw [zV_keptCount V, b2_s]
  show yD _ _ _ _ _ _ _ (cond (z_cmp .le (Int32.ofInt (A.2.2.length : Int)) (Int32.ofInt 0)) _ _)
  rw [zqo_le _ _ (by omega) (by omega)]
  by_cases e1 : A.2.2.length = 0
  · rw [decide_eq_true (by omega), cond_true]
    exact yD_0 V
  · have hm := Nat.mod_lt x (show 0 < A.2.2.length by omega)
    rw [decide_eq_false (by omega), cond_false, zV_keptCount V, b2_s, if_neg (zw_n0 _ (by omega) (by omega)), zw_modi _ _ (by omega) (by omega)]
    rcases zk_removeKept (N := N) V hN ((x % A.2.2.length : Nat) : Int) (by omega) with ⟨z, -⟩ | ⟨-, g, e, V', F⟩
    · exact absurd ⟨by omega, by omega⟩ z
    · exact yD_1 V (by rw [e]; rfl) V' F
theorem yd_13 (V : zv h A hist snap sv inp rep) (hN : 3000 ≤ N) : yD hist A h snap sv inp rep (b2 (fB_keptCount N 0 h) fun x33 h34 => cond (z_cmp .le x33 (Int32.ofInt 0)) (some ((), h34)) (b2 (fL_shelf N 0 h34) fun x35 h36 => cond (z_cmp .gt x35 (Int32.ofInt 60)) (some ((), h36)) (bN (fB_joinKept N 0 h36) fun x37 h38 => some ((), h38)))) := by
  have ok := (zv_open V).1
  have o8 := ok.2.2.2.1
  rw [zV_keptCount V, b2_s]
  show yD _ _ _ _ _ _ _ (cond (z_cmp .le (Int32.ofInt (A.2.2.length : Int)) (Int32.ofInt 0)) _ _)
  rw [zqo_le _ _ (by omega) (by omega)]
  by_cases e1 : A.2.2.length = 0
  · rw [decide_eq_true (by omega), cond_true]
    exact yD_0 V
  · have hsum : ∀ l : List (List Nat), (∀ w ∈ l, w.length ≤ 40) → (l.map List.length).sum ≤ l.length * 40 := by
      intro l
      induction l with
      | nil => intro _; exact Nat.le_refl _
      | cons w l ih =>
        intro hw
        have h1 := hw w List.mem_cons_self
        have h2 := ih (fun v hv => hw v (List.mem_cons_of_mem _ hv))
        rw [List.map_cons, List.sum_cons, List.length_cons]
        omega
    have hs := hsum A.2.2 (fun w hw => (ok.2.2.2.2 w hw).2.1)
    rw [decide_eq_false (by omega), cond_false, yH_shelf V hN, b2_s]
    show yD _ _ _ _ _ _ _ (cond (z_cmp .gt (Int32.ofInt (((A.2.2.map List.length).sum : Nat) : Int)) (Int32.ofInt 60)) _ _)
    rw [zqo_gt _ _ (by omega) (by omega)]
    by_cases e2 : 60 < (A.2.2.map List.length).sum
    · rw [decide_eq_true (by omega), cond_true]
      exact yD_0 V
    · rw [decide_eq_false (by omega), cond_false]
      rcases zk_joinKept (N := N) V hN with ⟨z, -⟩ | ⟨-, g, e, V', F⟩
      · exact absurd ⟨by omega, by omega⟩ z
      · exact yD_1 V (by rw [e]; rfl) V' F
theorem yd_15 (V : zv h A hist snap sv inp rep) (hN : 3000 ≤ N) {x : Nat} (hx : x < 1024) : yD hist A h snap sv inp rep (b2 (fB_letters N 0 h) fun x3 h4 => (if (Int32.ofInt 4) = Int32.ofInt 0 then none else bN (fB_setLetters N 0 (if x3 < ((Int32.ofInt 2) + (Int32.ofInt (x : Int) - Int32.ofInt (x : Int) / (Int32.ofInt 4) * (Int32.ofInt 4))) then ((Int32.ofInt 2) + (Int32.ofInt (x : Int) - Int32.ofInt (x : Int) / (Int32.ofInt 4) * (Int32.ofInt 4))) else x3) h4) fun x6 h7 => some ((), h7))) := by
  have ok := (zv_open V).1
  have o1 := ok.1
  have m4 : Int32.ofInt (x : Int) - Int32.ofInt (x : Int) / Int32.ofInt 4 * Int32.ofInt 4 = Int32.ofInt ((x % 4 : Nat) : Int) := zw_modi x 4 (by omega) (by omega)
  have l4 := Nat.mod_lt x (show 0 < 4 by decide)
  have mx := zw_max A.1 (2 + x % 4) (by omega) (by omega)
  rw [show ((2 + x % 4 : Nat) : Int) = 2 + ((x % 4 : Nat) : Int) by omega] at mx
  rw [zV_letters V, b2_s, if_neg (by decide), m4, zw_add, mx]
  rcases zk_setLetters (N := N) V hN ((max A.1 (2 + x % 4) : Nat) : Int) (by omega) with ⟨z, -⟩ | ⟨-, z, -⟩ | ⟨-, -, g, e, V', F⟩
  · exact absurd ⟨by omega, by omega⟩ z
  · exfalso
    have fit : zv_fit A (((max A.1 (2 + x % 4) : Nat) : Int)).toNat = true := by
      unfold zv_fit
      rw [Int.toNat_natCast, Bool.and_eq_true]
      refine ⟨List.all_eq_true.mpr fun w hw => List.all_eq_true.mpr fun v hv => decide_eq_true ?_, List.all_eq_true.mpr fun v hv => decide_eq_true ?_⟩
      · have := (ok.2.2.2.2 w hw).2.2 v hv
        omega
      · have := ok.2.2.1 v hv
        omega
    rw [fit] at z
    cases z
  · exact yD_1 V (by rw [e]; rfl) V' F
theorem yd_sw {α : Type} {P : Option α → Prop} {l : List (Option α)} (hl : l.length = 15) (h : ∀ x ∈ l, P x) (n : Nat) (hn : n ≤ 14) : P (z_nth l n none) := by
  have : ∀ (l : List (Option α)) (n : Nat), (∀ x ∈ l, P x) → n < l.length → P (z_nth l n none) := by
    intro l
    induction l with
    | nil => intro n _ hn; exact absurd hn (Nat.not_lt_zero n)
    | cons a l ih =>
      intro n h hn
      cases n with
      | zero => exact h a List.mem_cons_self
      | succ n => exact ih n (fun x hx => h x (List.mem_cons_of_mem _ hx)) (Nat.lt_of_succ_lt_succ hn)
  exact this l n h (by omega)
set_option maxRecDepth 20000 in
theorem yd_deed (V : zv h A hist snap sv inp rep) (hN : 3000 ≤ N) (w : Int32) : yD hist A h snap sv inp rep (fL_deed N 0 w h) := by
  have o2 := (zv_open V).1.2.1
  obtain ⟨x, hx, ex⟩ := zw_bits ((w.toUInt32 >>> ((Int32.ofInt 4).toUInt32 &&& Int32.toUInt32 31)).toInt32) 10 (by decide)
  obtain ⟨y, hy, ey⟩ := zw_bits ((w.toUInt32 >>> ((Int32.ofInt 14).toUInt32 &&& Int32.toUInt32 31)).toInt32) 8 (by decide)
  obtain ⟨s, hs, es⟩ := zw_bits w 4 (by decide)
  have ex : (w.toUInt32 >>> ((Int32.ofInt 4).toUInt32 &&& Int32.toUInt32 31)).toInt32 &&& Int32.ofInt 1023 = Int32.ofInt (x : Int) := ex
  have ey : (w.toUInt32 >>> ((Int32.ofInt 14).toUInt32 &&& Int32.toUInt32 31)).toInt32 &&& Int32.ofInt 255 = Int32.ofInt (y : Int) := ey
  have es : w &&& Int32.ofInt 15 = Int32.ofInt (s : Int) := es
  have hx : x < 1024 := hx
  have hy : y < 256 := hy
  have hs : s < 16 := hs
  unfold fL_deed
  rw [zV_length V, b2_s, ex, ey, es, zqo_i _ (by omega)]
  by_cases e15 : s = 15
  · rw [show (decide ((s : Int) < 0) || decide (14 < (s : Int))) = true by rw [decide_eq_true (show 14 < (s : Int) by omega), Bool.or_true], cond_true]
    exact yd_15 V hN hx
  · rw [show (decide ((s : Int) < 0) || decide (14 < (s : Int))) = false by rw [decide_eq_false (show ¬ (14 < (s : Int)) by omega), decide_eq_false (show ¬ ((s : Int) < 0) by omega)]; rfl, cond_false, Int.sub_zero, Int.toNat_natCast]
    refine yd_sw rfl ?_ s (by omega)
    have c4 : yD hist A h snap sv inp rep (cond (z_cmp .ne (Int32.ofInt (A.2.1.length : Int)) (Int32.ofInt 0)) ((if (if (Int32.ofInt 6) < (Int32.ofInt (A.2.1.length : Int) + (Int32.ofInt 1)) then (Int32.ofInt 6) else (Int32.ofInt (A.2.1.length : Int) + (Int32.ofInt 1))) = Int32.ofInt 0 then none else fL_deed_168 N (Int32.ofInt (x : Int) - Int32.ofInt (x : Int) / (if (Int32.ofInt 6) < (Int32.ofInt (A.2.1.length : Int) + (Int32.ofInt 1)) then (Int32.ofInt 6) else (Int32.ofInt (A.2.1.length : Int) + (Int32.ofInt 1))) * (if (Int32.ofInt 6) < (Int32.ofInt (A.2.1.length : Int) + (Int32.ofInt 1)) then (Int32.ofInt 6) else (Int32.ofInt (A.2.1.length : Int) + (Int32.ofInt 1)))) 0 h)) (fL_deed_168 N (Int32.ofInt 0) 0 h)) := by
      have mn := zw_min (A.2.1.length + 1) 6 (by omega) (by omega)
      rw [show ((A.2.1.length + 1 : Nat) : Int) = (A.2.1.length : Int) + 1 by omega] at mn
      have mn : (if Int32.ofInt 6 < Int32.ofInt ((A.2.1.length : Int) + 1) then Int32.ofInt 6 else Int32.ofInt ((A.2.1.length : Int) + 1)) = Int32.ofInt ((min (A.2.1.length + 1) 6 : Nat) : Int) := mn
      rw [zw_add, mn, zqo_ne _ _ (by omega) (by omega)]
      by_cases e1 : A.2.1.length = 0
      · rw [decide_eq_true (by omega), Bool.not_true, cond_false]
        exact yd_4 V hN (d := 0) (Nat.zero_le _)
      · have hm := Nat.mod_lt x (show 0 < min (A.2.1.length + 1) 6 by omega)
        rw [decide_eq_false (by omega), Bool.not_false, cond_true, if_neg (zw_n0 _ (by omega) (by omega)), zw_modi _ _ (by omega) (by omega)]
        exact yd_4 V hN (by omega)
    have c5 : ∀ {X : Int32 → Option (Unit × zH)}, (∀ d : Nat, d ≤ A.2.1.length → yD hist A h snap sv inp rep (X (Int32.ofInt (d : Int)))) → yD hist A h snap sv inp rep (cond (z_cmp .ne (Int32.ofInt (A.2.1.length : Int)) (Int32.ofInt 0)) ((if (Int32.ofInt (A.2.1.length : Int) + (Int32.ofInt 1)) = Int32.ofInt 0 then none else X (Int32.ofInt (x : Int) - Int32.ofInt (x : Int) / (Int32.ofInt (A.2.1.length : Int) + (Int32.ofInt 1)) * (Int32.ofInt (A.2.1.length : Int) + (Int32.ofInt 1))))) (X (Int32.ofInt 0))) := by
      intro X hX
      rw [zqo_ne _ _ (by omega) (by omega), zw_add, show (A.2.1.length : Int) + 1 = ((A.2.1.length + 1 : Nat) : Int) by omega]
      by_cases e1 : A.2.1.length = 0
      · rw [decide_eq_true (by omega), Bool.not_true, cond_false]
        exact hX 0 (Nat.zero_le _)
      · have hm := Nat.mod_lt x (show 0 < A.2.1.length + 1 by omega)
        rw [decide_eq_false (by omega), Bool.not_false, cond_true, if_neg (zw_n0 _ (by omega) (by omega)), zw_modi _ _ (by omega) (by omega)]
        exact hX _ (by omega)
    have c6 : yD hist A h snap sv inp rep (b2 (fB_reverse N 0 h) fun x10 h11 => some ((), h11)) := by
      obtain ⟨g, e, V', F⟩ := zk_reverse (N := N) V hN
      exact yD_1 V (by rw [e]; rfl) V' F
    have c0 := yd_100 (N := N) V hN hx hy
    exact z_fc c0 <| z_fc c0 <| z_fc c0 <| z_fc c0 <| z_fc c4 <| z_fc (c5 (X := fun d => fL_deed_189 N d 0 h) (fun d hd => yd_5 V hN hd)) <| z_fc c6 <| z_fc (yd_7 V hN) <| z_fc (yd_8 V hN hx) <| z_fc (yd_9 V hN hx) <| z_fc (yd_9 V hN hx) <| z_fc (yd_11 V hN) <| z_fc (yd_12 V hN hx) <| z_fc (yd_13 V hN) <| z_fc (c5 (X := fun d => fL_deed_381 N 0 (Int32.ofInt (A.2.1.length : Int)) (Int32.ofInt (y : Int)) d h) (fun d hd => yd_381 V hN hy hd)) z_fn
end YDD
