/-! rankOf and bruijnLetter: both sides answer. -/
theorem yd_lg (x y : Int64) : z_cmp .gt (lg_cmp x y) (Int32.ofInt 0) = decide (x > y) := by
  unfold lg_cmp
  by_cases e : x > y
  · rw [if_pos e, decide_eq_true e]
    rfl
  · rw [if_neg e, decide_eq_false e]
    by_cases e2 : x = y
    · rw [if_pos e2]
      rfl
    · rw [if_neg e2]
      rfl
theorem yd_lgn (a : Nat) (ha : a < 1000000) : z_cmp .gt (lg_cmp (Int64.ofInt (a : Int)) (4096 : Int64)) (Int32.ofInt 0) = decide (4096 < a) := by
  rw [yd_lg]
  refine decide_eq_decide.mpr ?_
  show (4096 : Int64) < Int64.ofInt (a : Int) ↔ _
  rw [Int64.lt_iff_toInt_lt, Int64.toInt_ofInt_of_le (by omega) (by omega), show (4096 : Int64).toInt = 4096 by decide +kernel]
  omega
theorem yd_L64 {L : Nat} (hL : L ≤ 9) : (Int32.ofInt (L : Int)).toInt64 = Int64.ofInt (L : Int) := by
  have h := List.all_eq_true.mp (show ((List.range 10).all fun L => decide ((Int32.ofInt (L : Int)).toInt64 = Int64.ofInt (L : Int))) = true by decide +kernel) L (List.mem_range.mpr (by omega))
  exact of_decide_eq_true h
theorem yd_12 {L n : Nat} (hL : 2 ≤ L) (h : L ^ n ≤ 4096) : n ≤ 12 := by
  rcases Nat.lt_or_ge 12 n with x | x
  · have h1 : 2 ^ 13 ≤ 2 ^ n := Nat.pow_le_pow_right (by decide) x
    have h2 : 2 ^ n ≤ L ^ n := Nat.pow_le_pow_left hL n
    omega
  · exact x
section YDD
variable {N : Nat} {h : zH}
theorem yd_fits5 {L len : Nat} (hL : 2 ≤ L ∧ L ≤ 9) (hl : len ≤ 1000) : ∀ (c f i : Nat), i + c = len → c < f → L ^ i ≤ 40000 → fB_fitsRow_5 N f (Int32.ofInt (L : Int)) (Int32.ofInt (len : Int)) (Int64.ofInt ((L ^ i : Nat) : Int)) (Int32.ofInt (i : Int)) h = some (cond (decide (L ^ len ≤ 4096)) (Int32.ofInt 1) (Int32.ofInt 0), h) := by
  have s30 : ∀ a : Nat, a < 1000000 → fB_fitsRow_30 N (Int64.ofInt (a : Int)) h = some (cond (decide (a ≤ 4096)) (Int32.ofInt 1) (Int32.ofInt 0), h) := fun a ha => by
    unfold fB_fitsRow_30
    rw [yd_lgn a ha]
    by_cases e : a ≤ 4096
    · rw [decide_eq_false (show ¬ 4096 < a by omega), decide_eq_true e]
      rfl
    · rw [decide_eq_true (show 4096 < a by omega), decide_eq_false e]
      rfl
  intro c
  induction c with
  | zero =>
    intro f i h1 h2 h3
    obtain ⟨g, rfl⟩ : ∃ g, f = g + 1 := ⟨f - 1, by omega⟩
    have : i = len := by omega
    subst this
    rw [fB_fitsRow_5, zqo_ge _ _ (by omega) (by omega), decide_eq_true (by omega), cond_true, s30 _ (by omega)]
  | succ c ih =>
    intro f i h1 h2 h3
    obtain ⟨g, rfl⟩ : ∃ g, f = g + 1 := ⟨f - 1, by omega⟩
    rw [fB_fitsRow_5, zqo_ge _ _ (by omega) (by omega), decide_eq_false (by omega), cond_false, yd_lgn _ (by omega)]
    by_cases e : L ^ i ≤ 4096
    · have m1 : Int64.ofInt ((L ^ i : Nat) : Int) * (Int32.ofInt (L : Int)).toInt64 = Int64.ofInt ((L ^ (i + 1) : Nat) : Int) := by
        rw [yd_L64 hL.2, ← Int64.ofInt_mul, Nat.pow_succ]
        congr 1
      have m2 : L ^ (i + 1) ≤ 40000 := by
        rw [Nat.pow_succ]
        exact Nat.le_trans (Nat.mul_le_mul e hL.2) (by decide)
      rw [decide_eq_false (by omega), cond_false, m1, zh_inc]
      exact ih g (i + 1) (by omega) (by omega) m2
    · have m2 : L ^ i ≤ L ^ len := Nat.pow_le_pow_right (by omega) (by omega)
      rw [decide_eq_true (by omega), cond_true, s30 _ (by omega), decide_eq_false e, decide_eq_false (by omega)]
theorem yd_fits (hN : 2000 ≤ N) {L len : Nat} (hL : 2 ≤ L ∧ L ≤ 9) (hl : len ≤ 1000) : fB_fitsRow N (Int32.ofInt (L : Int)) (Int32.ofInt (len : Int)) h = some (cond (decide (L ^ len ≤ 4096)) (Int32.ofInt 1) (Int32.ofInt 0), h) := by
  have := yd_fits5 (N := N) (h := h) hL hl len N 0 (Nat.zero_add _) (by omega) (by rw [Nat.pow_zero]; decide)
  exact this
theorem yd_nxL {t : List Nat} {m L : Nat} (h0 : 0 < t.length) (hm : t.length ≤ m) (hL : 1 ≤ L) (hv : ∀ v ∈ t, 97 ≤ v ∧ v < 97 + L) : (zw_nx t m (97 + L - 1)).length ≤ m ∧ ∀ v ∈ zw_nx t m (97 + L - 1), 97 ≤ v ∧ v < 97 + L := by
  have x1 := zm_nx (T := t) (m := m) (g := 97 + L - 1) h0 hm
  refine ⟨by rw [x1.2.1]; exact x1.1, zm_mem (P := fun u => 97 ≤ u ∧ u < 97 + L) (fun j hj => ?_)⟩
  rw [x1.2.1] at hj
  rw [x1.2.2.1 j hj]
  have a1 := zm_cget (P := fun u => 97 ≤ u ∧ u < 97 + L) hv h0 j
  by_cases e6 : j = zm_nr t m (97 + L - 1) - 1
  · rw [if_pos e6]
    rcases x1.2.2.2 with x2 | x2
    · omega
    · rw [← e6] at x2
      omega
  · rw [if_neg e6]
    exact a1
end YDD
section YDE
variable {N : Nat} {h : zH} {now snap : zA} {hist : List zA} {sv t : Int} {inp : List Nat} {rep : zvP}
/-- the trial word -/
theorem zv_trial (V : zv h now hist snap sv inp rep) : (∃ w, zw_W h 230 121 w) ∧ ∀ h' l, zw_W h' 230 121 l → zw_F h h' 230 → zv h' now hist snap sv inp rep ∧ zc_F h h' := by
  obtain ⟨sL, sT, sS, sK, wd, nu, hs, C, v1, v2, v3, v4, v5, v6, v7, v8, v9⟩ := V
  refine ⟨⟨_, zq_trial C⟩, fun h' l W' F => ?_⟩
  obtain ⟨C2, F2⟩ := zc_word C (Or.inr (Or.inr ⟨rfl, rfl⟩)) W' F
  exact ⟨⟨_, _, _, _, _, _, _, C2, v1, v2, v3, v4, v5, v6, by rw [zc_un _ _ (show (204 : Nat) ≠ 230 by decide)]; exact v7, ⟨by rw [zc_un _ _ (show (228 : Nat) ≠ 230 by decide)]; exact v8.1, v8.2⟩, v9⟩, F2⟩
theorem zv_r06 (V : zv h now hist snap sv inp rep) : fR h 0 0 6 = some 230 := by
  obtain ⟨sL, sT, sS, sK, wd, nu, hs, C, _⟩ := V
  exact zc_r06 C
theorem zv_start (V : zv h now hist snap sv inp rep) : ∃ h', fB_startListing N 0 h = some ((), h') ∧ zv h' now hist snap sv inp rep ∧ zw_W h' 230 121 [97] ∧ zc_F h h' := by
  obtain ⟨⟨w, W⟩, cl⟩ := zv_trial V
  obtain ⟨h1, e1, W1, F1⟩ := zw_clear (N := N) W
  obtain ⟨V1, G1⟩ := cl h1 _ W1 F1
  obtain ⟨h2, e2, W2, F2⟩ := zw_addN (N := N) W1 97 (by decide) (by decide)
  obtain ⟨V2, G2⟩ := (zv_trial V1).2 h2 _ W2 F2
  refine ⟨h2, ?_, V2, W2, zc_Ft G1 G2⟩
  have e2 : fW_add N 230 (Int32.ofInt 97) h1 = some ((), h2) := e2
  unfold fB_startListing
  rw [zv_T0 V, cond_true, zv_r06 V, b1_s, e1, b2, zv_r06 V1, b1_s, e2, b2]
/-- the trial word becomes the next one -/
theorem zv_step (V : zv h now hist snap sv inp rep) (hN : 3000 ≤ N) {w : List Nat} (W : zw_W h 230 121 w) {m : Nat} (hm : m ≤ 12) (hw : ∀ v ∈ w, 97 ≤ v ∧ v < 97 + now.1) : ∃ h', (∀ g : Unit → zH → Option (Int32 × zH), (b1 (fR h 0 0 6) fun x14 => b1 (fR h 0 0 0) fun x15 => b2 (fS_greatestLetter N x15 h) fun x16 h17 => b2 (fW_stepLyndon N x14 (Int32.ofInt (m : Int)) x16 h17) g) = g () h') ∧ zv h' now hist snap sv inp rep ∧ zw_W h' 230 121 (zw_nx w m (97 + now.1 - 1)) ∧ zc_F h h' := by
  obtain ⟨ok, S, H, _⟩ := zv_open V
  have o1 := ok.1
  obtain ⟨h1, e1, W1, F1⟩ := zw_step (N := N) W (by omega) (m := m) (g := 97 + now.1 - 1) (by omega) (by omega) (by omega) (fun u hu => by
    have := hw u hu
    omega)
  obtain ⟨V1, G1⟩ := (zv_trial V).2 h1 _ W1 F1
  refine ⟨h1, fun g => ?_, V1, W1, G1⟩
  rw [zv_r06 V, b1_s, zv_r00 V, b1_s, zs_greatest H, b2, zw_sub, show ((97 + now.1 : Nat) : Int) - 1 = ((97 + now.1 - 1 : Nat) : Int) by omega, e1, b2]
theorem zk_small14 (hN : 3000 ≤ N) {b e m : Nat} (hbe : b ≤ e) (he : e ≤ now.2.1.length) (hm : 1 ≤ m ∧ m ≤ 12) : ∀ (c f i : Nat) (x : Int32) (h : zH) (w : List Nat), zv h now hist snap sv inp rep → zw_W h 230 121 w → (∀ v ∈ w, 97 ≤ v ∧ v < 97 + now.1) → w.length ≤ m → i + c = m * 4096 → c < f → ∃ y h', fB_countSmaller_14 N f 0 (Int32.ofInt (b : Int)) (Int32.ofInt (e : Int)) (Int32.ofInt (m : Int)) x (Int32.ofInt (i : Int)) h = some (y, h') ∧ zv h' now hist snap sv inp rep ∧ zc_F h h' := by
  intro c
  induction c with
  | zero =>
    intro f i x h w V W hw hl h1 h2
    obtain ⟨g, rfl⟩ : ∃ g, f = g + 1 := ⟨f - 1, by omega⟩
    refine ⟨x, h, ?_, V, zc_Fr h⟩
    rw [fB_countSmaller_14, zw_mul, zqo_ge _ _ (by omega) (by omega), decide_eq_true (by omega), cond_true]
    rfl
  | succ c ih =>
    intro f i x h w V W hw hl h1 h2
    obtain ⟨g, rfl⟩ : ∃ g, f = g + 1 := ⟨f - 1, by omega⟩
    have ok := (zv_open V).1
    have o1 := ok.1
    rw [fB_countSmaller_14, zw_mul, zqo_ge _ _ (by omega) (by omega), decide_eq_false (by omega), cond_false, zv_r06 V, b1_s, zw_z W, b1_s, zqo_le _ _ (by omega) (by decide)]
    by_cases e0 : w.length = 0
    · refine ⟨x, h, ?_, V, zc_Fr h⟩
      rw [decide_eq_true (by omega), cond_true]
      rfl
    · have ord := zw_order (N := N) W (zv_txt V) (by omega) (Nat.le_refl w.length) he (Nat.zero_le w.length) hbe
      have ord : fW_order N 230 (Int32.ofInt 0) (Int32.ofInt (w.length : Int)) (1 + 1) (Int32.ofInt (b : Int)) (Int32.ofInt (e : Int)) h = _ := ord
      rw [decide_eq_false (by omega), cond_false, b1_s, b1_s, zw_z W, b1_s, zv_r00 V, b1_s, zv_t V, b1_s, ord, b2]
      cases z_cmp .lt (Int32.ofInt (zw_cmp (zw_p w 0 w.length) (zw_p now.2.1 b e))) (Int32.ofInt 0) with
      | false => exact ⟨x, h, rfl, V, zc_Fr h⟩
      | true =>
        obtain ⟨h3, e3, V3, W3, F3⟩ := zv_step V hN W hm.2 hw
        have nx := yd_nxL (m := m) (by omega) hl (show 1 ≤ now.1 by omega) hw
        have s78 : ∀ z : Int32, fB_countSmaller_78 N (fB_countSmaller_14 N g) 0 (Int32.ofInt (b : Int)) (Int32.ofInt (e : Int)) (Int32.ofInt (m : Int)) z (Int32.ofInt (i : Int)) h = fB_countSmaller_14 N g 0 (Int32.ofInt (b : Int)) (Int32.ofInt (e : Int)) (Int32.ofInt (m : Int)) z (Int32.ofInt ((i + 1 : Nat) : Int)) h3 := fun z => by
          unfold fB_countSmaller_78
          rw [e3, zh_inc]
        rw [cond_true, zv_r06 V, b1_s, zw_z W, b1_s, s78, s78]
        cases z_cmp .ne (Int32.ofInt (w.length : Int)) (Int32.ofInt (m : Int)) with
        | true =>
          obtain ⟨y, h4, e4, V4, F4⟩ := ih g (i + 1) x h3 _ V3 W3 nx.2 nx.1 (by omega) (by omega)
          exact ⟨y, h4, e4, V4, zc_Ft F3 F4⟩
        | false =>
          obtain ⟨y, h4, e4, V4, F4⟩ := ih g (i + 1) (x + Int32.ofInt 1) h3 _ V3 W3 nx.2 nx.1 (by omega) (by omega)
          exact ⟨y, h4, e4, V4, zc_Ft F3 F4⟩
theorem zk_rankOf (V : zv h now hist snap sv inp rep) (hN : 1000001 ≤ N) (x : Int) (hx : -2147483648 ≤ x ∧ x < 2147483648) : (zw_bF now.2.1 x = -1 ∧ fB_rankOf N 0 (Int32.ofInt x) h = some (.inr 2, h)) ∨ (zw_bF now.2.1 x ≠ -1 ∧ ∃ y h', fB_rankOf N 0 (Int32.ofInt x) h = some (.inl y, h') ∧ zv h' now hist snap sv inp rep ∧ zc_F h h') := by
  have ok := (zv_open V).1
  have o1 := ok.1
  have o2 := ok.2.1
  have bb := zw_bFb now.2.1 x
  unfold fB_rankOf
  rw [zv_T0 V, cond_true, zv_checked V (by omega) x hx]
  by_cases e0 : zw_bF now.2.1 x = -1
  · refine Or.inl ⟨e0, ?_⟩
    rw [if_pos e0]
    rfl
  · obtain ⟨b, hb⟩ : ∃ b : Nat, zw_bF now.2.1 x = (b : Int) := ⟨(zw_bF now.2.1 x).toNat, by omega⟩
    refine Or.inr ⟨e0, ?_⟩
    rw [if_neg e0]
    rw [hb] at bb ⊢
    have hbl : b < now.2.1.length := by omega
    have le := zw_lEb hbl
    show ∃ y h', b1 (fR h 0 0 0) _ = _ ∧ _
    rw [zv_r00 V, b1_s, zv_t V, b1_s, zw_lyn (zv_txt V) (by omega) hbl, b2, zv_r00 V, b1_s, zv_L1 V, b1_s, zw_sub, show ((zw_lE now.2.1 b : Nat) : Int) - (b : Int) = ((zw_lE now.2.1 b - b : Nat) : Int) by omega, yd_fits (by omega) o1 (by omega), b2]
    by_cases e : now.1 ^ (zw_lE now.2.1 b - b) ≤ 4096
    · have m12 := yd_12 o1.1 e
      obtain ⟨h1, e1, V1, W1, F1⟩ := zv_start (N := N) V
      obtain ⟨y, h2, e2, V2, F2⟩ := zk_small14 (N := N) (by omega) (b := b) (e := zw_lE now.2.1 b) (m := zw_lE now.2.1 b - b) (by omega) le.2 (by omega) ((zw_lE now.2.1 b - b) * 4096) N 0 (Int32.ofInt 0) h1 _ V1 W1 (fun v hv => by
        rw [List.mem_singleton] at hv
        omega) (by show 1 ≤ zw_lE now.2.1 b - b; omega) (Nat.zero_add _) (by omega)
      have e2 : fB_countSmaller_14 N N 0 (Int32.ofInt (b : Int)) (Int32.ofInt ((zw_lE now.2.1 b : Nat) : Int)) (Int32.ofInt ((zw_lE now.2.1 b - b : Nat) : Int)) (Int32.ofInt 0) (Int32.ofInt 0) h1 = some (y, h2) := e2
      refine ⟨y, h2, ?_, V2, zc_Ft F1 F2⟩
      rw [decide_eq_true e, cond_true, show z_cmp .ne (Int32.ofInt 1) (Int32.ofInt 0) = true from rfl, cond_true]
      unfold fB_countSmaller
      rw [zv_T0 V, cond_true, e1, b2, zw_sub, show ((zw_lE now.2.1 b : Nat) : Int) - (b : Int) = ((zw_lE now.2.1 b - b : Nat) : Int) by omega, e2, b2]
    · refine ⟨Int32.ofInt (-1), h, ?_, V, zc_Fr h⟩
      rw [decide_eq_false e, cond_false, show z_cmp .ne (Int32.ofInt 0) (Int32.ofInt 0) = false from rfl, cond_false]
theorem zk_find9 (hN : 3000 ≤ N) {m : Nat} (hm : 1 ≤ m ∧ m ≤ 12) {x : Int} (hx : 0 ≤ x ∧ x < 2147483648) : ∀ (c f i p : Nat) (h : zH) (w : List Nat), zv h now hist snap sv inp rep → zw_W h 230 121 w → (∀ v ∈ w, 97 ≤ v ∧ v < 97 + now.1) → w.length ≤ m → i + c = m * 4096 → c < f → p ≤ 12 * i → ∃ y h', fB_findRowLetter_9 N f 0 (Int32.ofInt (m : Int)) (Int32.ofInt x) (Int32.ofInt (p : Int)) (Int32.ofInt (i : Int)) h = some (y, h') ∧ zv h' now hist snap sv inp rep ∧ zc_F h h' := by
  intro c
  induction c with
  | zero =>
    intro f i p h w V W hw hl h1 h2 hp
    obtain ⟨g, rfl⟩ : ∃ g, f = g + 1 := ⟨f - 1, by omega⟩
    refine ⟨Int32.ofInt (-1), h, ?_, V, zc_Fr h⟩
    rw [fB_findRowLetter_9, zw_mul, zqo_ge _ _ (by omega) (by omega), decide_eq_true (by omega), cond_true]
    rfl
  | succ c ih =>
    intro f i p h w V W hw hl h1 h2 hp
    obtain ⟨g, rfl⟩ : ∃ g, f = g + 1 := ⟨f - 1, by omega⟩
    have ok := (zv_open V).1
    have o1 := ok.1
    rw [fB_findRowLetter_9, zw_mul, zqo_ge _ _ (by omega) (by omega), decide_eq_false (by omega), cond_false, zv_r06 V, b1_s, zw_z W, b1_s, zqo_le _ _ (by omega) (by decide)]
    by_cases e0 : w.length = 0
    · refine ⟨Int32.ofInt (-1), h, ?_, V, zc_Fr h⟩
      rw [decide_eq_true (by omega), cond_true]
      rfl
    · obtain ⟨h3, e3, V3, W3, F3⟩ := zv_step V hN W hm.2 hw
      have nx := yd_nxL (m := m) (by omega) hl (show 1 ≤ now.1 by omega) hw
      have s75 : ∀ q : Nat, fB_findRowLetter_75 N (fB_findRowLetter_9 N g) 0 (Int32.ofInt (m : Int)) (Int32.ofInt x) (Int32.ofInt (q : Int)) (Int32.ofInt (i : Int)) h = fB_findRowLetter_9 N g 0 (Int32.ofInt (m : Int)) (Int32.ofInt x) (Int32.ofInt (q : Int)) (Int32.ofInt ((i + 1 : Nat) : Int)) h3 := fun q => by
        unfold fB_findRowLetter_75
        rw [e3, zh_inc]
      rw [decide_eq_false (by omega), cond_false, b1_s, zw_z W, b1_s, if_neg (zw_n0 _ (by omega) (by omega)), zw_modi _ _ (by omega) (by omega), zqo_ne _ _ (by have := Nat.mod_lt m (show w.length > 0 by omega); omega) (by decide), s75 p]
      by_cases e4 : m % w.length = 0
      · rw [decide_eq_true (by omega), Bool.not_true, cond_false, b1_s, zw_z W, b1_s, zw_add, zqo_ge _ _ (by omega) (by omega)]
        by_cases e5 : (p : Int) + (w.length : Int) ≤ x
        · obtain ⟨y, h4, e6, V4, F4⟩ := ih g (i + 1) (p + w.length) h3 _ V3 W3 nx.2 nx.1 (by omega) (by omega) (by omega)
          refine ⟨y, h4, ?_, V4, zc_Ft F3 F4⟩
          rw [decide_eq_true e5, cond_true, b1_s, zw_z W, b1_s, zw_add, show (p : Int) + (w.length : Int) = ((p + w.length : Nat) : Int) by omega, s75]
          exact e6
        · refine ⟨Int32.ofInt (zw_g w (x - (p : Int))), h, ?_, V, zc_Fr h⟩
          rw [decide_eq_false e5, cond_false, b1_s, zw_sub, zw_at W _ (by omega), b2]
      · obtain ⟨y, h4, e6, V4, F4⟩ := ih g (i + 1) p h3 _ V3 W3 nx.2 nx.1 (by omega) (by omega) (by omega)
        refine ⟨y, h4, ?_, V4, zc_Ft F3 F4⟩
        rw [decide_eq_false (by omega), Bool.not_false, cond_true]
        exact e6
theorem zk_bruijnLetter (V : zv h now hist snap sv inp rep) (hN : 1000001 ≤ N) (x y : Int) (hx : -2147483648 ≤ x ∧ x < 2147483648) (hy : -2147483648 ≤ y ∧ y < 2147483648) : ∃ r h', fB_bruijnLetter N 0 (Int32.ofInt x) (Int32.ofInt y) h = some (r, h') ∧ (r = .inr 0 ∨ r = .inr 2 ∨ ∃ z, r = .inl z) ∧ zv h' now hist snap sv inp rep ∧ zc_F h h' := by
  have ok := (zv_open V).1
  have o1 := ok.1
  unfold fB_bruijnLetter
  rw [zv_T0 V, cond_true, zqo_lt _ _ hx (by decide), zqo_gt _ _ hx (by decide)]
  by_cases e1 : x < 1
  · refine ⟨_, h, ?_, Or.inl rfl, V, zc_Fr h⟩
    rw [decide_eq_true e1, cond_true]
    rfl
  · rw [decide_eq_false e1, cond_false]
    by_cases e2 : 12 < x
    · refine ⟨_, h, ?_, Or.inl rfl, V, zc_Fr h⟩
      rw [decide_eq_true e2, cond_true]
      rfl
    · obtain ⟨m, rfl⟩ : ∃ v : Nat, x = (v : Int) := ⟨x.toNat, by omega⟩
      rw [decide_eq_false e2, cond_false, zv_r00 V, b1_s, zv_L1 V, b1_s, yd_fits (by omega) o1 (by omega), b2]
      by_cases e3 : now.1 ^ m ≤ 4096
      · rw [decide_eq_true e3, cond_true, show z_cmp .ne (Int32.ofInt 1) (Int32.ofInt 0) = true from rfl, cond_true, zqo_ge _ _ hy (by decide)]
        by_cases e4 : 0 ≤ y
        · obtain ⟨h1, e5, V1, W1, F1⟩ := zv_start (N := N) V
          obtain ⟨z, h2, e6, V2, F2⟩ := zk_find9 (N := N) (by omega) (m := m) (by omega) (x := y) (by omega) (m * 4096) N 0 0 h1 _ V1 W1 (fun v hv => by
            rw [List.mem_singleton] at hv
            omega) (by show 1 ≤ m; omega) (Nat.zero_add _) (by omega) (Nat.le_refl _)
          have e6 : fB_findRowLetter_9 N N 0 (Int32.ofInt (m : Int)) (Int32.ofInt y) (Int32.ofInt 0) (Int32.ofInt 0) h1 = some (z, h2) := e6
          rw [decide_eq_true e4, cond_true]
          unfold fB_findRowLetter
          rw [zv_T0 V, cond_true, e5, b2, e6, b2]
          unfold fB_bruijnLetter_50
          cases z_cmp .ne z (Int32.ofInt (-1)) with
          | true => exact ⟨_, h2, rfl, Or.inr (Or.inr ⟨z, rfl⟩), V2, zc_Ft F1 F2⟩
          | false => exact ⟨_, h2, rfl, Or.inr (Or.inl rfl), V2, zc_Ft F1 F2⟩
        · refine ⟨_, h, ?_, Or.inr (Or.inl rfl), V, zc_Fr h⟩
          rw [decide_eq_false e4, cond_false]
          rfl
      · refine ⟨_, h, ?_, Or.inl rfl, V, zc_Fr h⟩
        rw [decide_eq_false e3, cond_false, show z_cmp .ne (Int32.ofInt 0) (Int32.ofInt 0) = false from rfl, cond_false]
        rfl
end YDE
section YDF
variable {N : Nat} {h : zH} {fl : Nat → Int} {a : Nat → Nat → Int} {L : Nat}
theorem yd_power4 (H : zr h fl a) (e : a 233 0 = (L : Int)) (hL : 2 ≤ L ∧ L ≤ 9) {len : Nat} (hl : len ≤ 1000) : ∀ (c f i : Nat), i + c = len → c < f → L ^ i ≤ 40000 → ∃ p : Nat, fM_power_4 N f 232 (Int32.ofInt (len : Int)) (Int32.ofInt ((L ^ i : Nat) : Int)) (Int32.ofInt (i : Int)) h = some (Int32.ofInt (p : Int), h) ∧ p ≤ 40000 ∧ (p ≤ 4096 ↔ L ^ len ≤ 4096) ∧ (p ≤ 4096 → p = L ^ len) := by
  intro c
  induction c with
  | zero =>
    intro f i h1 h2 h3
    obtain ⟨g, rfl⟩ : ∃ g, f = g + 1 := ⟨f - 1, by omega⟩
    have : i = len := by omega
    subst this
    refine ⟨L ^ i, ?_, h3, Iff.rfl, fun _ => rfl⟩
    rw [fM_power_4, zqo_ge _ _ (by omega) (by omega), decide_eq_true (by omega), cond_true]
    rfl
  | succ c ih =>
    intro f i h1 h2 h3
    obtain ⟨g, rfl⟩ : ∃ g, f = g + 1 := ⟨f - 1, by omega⟩
    rw [fM_power_4, zqo_ge _ _ (by omega) (by omega), decide_eq_false (by omega), cond_false, zqo_gt _ _ (by omega) (by decide)]
    by_cases e2 : L ^ i ≤ 4096
    · have m2 : L ^ (i + 1) ≤ 40000 := by
        rw [Nat.pow_succ]
        exact Nat.le_trans (Nat.mul_le_mul e2 hL.2) (by decide)
      have m1 : ((L ^ i : Nat) : Int) * (L : Int) = ((L ^ (i + 1) : Nat) : Int) := by
        rw [Nat.pow_succ]
        exact (Int.natCast_mul _ _).symm
      rw [decide_eq_false (by omega), cond_false, zr_r0 H, b1_s, yd_L H e, b1_s, zw_mul, m1, zh_inc]
      exact ih g (i + 1) (by omega) (by omega) m2
    · have m2 : L ^ i ≤ L ^ len := Nat.pow_le_pow_right (by omega) (by omega)
      refine ⟨L ^ i, ?_, h3, ⟨fun x => absurd x e2, fun x => by omega⟩, fun x => absurd x e2⟩
      rw [decide_eq_true (by omega), cond_true]
      rfl
theorem yd_power (hN : 2000 ≤ N) (H : zr h fl a) (e : a 233 0 = (L : Int)) (hL : 2 ≤ L ∧ L ≤ 9) {len : Nat} (hl : len ≤ 1000) : ∃ p : Nat, fM_power N 232 (Int32.ofInt (len : Int)) h = some (Int32.ofInt (p : Int), h) ∧ p ≤ 40000 ∧ (p ≤ 4096 ↔ L ^ len ≤ 4096) ∧ (p ≤ 4096 → p = L ^ len) := by
  obtain ⟨p, e1, p2⟩ := yd_power4 (N := N) H e hL hl len N 0 (Nat.zero_add _) (by omega) (by rw [Nat.pow_zero]; decide)
  refine ⟨p, ?_, p2⟩
  unfold fM_power
  rw [zr_T H, cond_true]
  exact e1
theorem yd_number5 (H : zr h fl a) (e : a 233 0 = (L : Int)) (hL : 2 ≤ L ∧ L ≤ 9) {T : List Nat} (tx : zr_tx a T) (hT : T.length ≤ 120) (hv : ∀ v ∈ T, 97 ≤ v ∧ v < 97 + L) {b m : Nat} (hb : b + m ≤ T.length) (hm : L ^ m ≤ 4096) : ∀ (c f i x : Nat), i + c = m → c < f → x + 1 ≤ L ^ i → ∃ q : Nat, fM_numberOf_5 N f 232 (Int32.ofInt (b : Int)) (Int32.ofInt (m : Int)) (Int32.ofInt (x : Int)) (Int32.ofInt ((b + i : Nat) : Int)) h = some (Int32.ofInt (q : Int), h) ∧ q + 1 ≤ L ^ m := by
  intro c
  induction c with
  | zero =>
    intro f i x h1 h2 h3
    obtain ⟨g, rfl⟩ : ∃ g, f = g + 1 := ⟨f - 1, by omega⟩
    have : i = m := by omega
    subst this
    refine ⟨x, ?_, h3⟩
    rw [fM_numberOf_5, zw_add, zqo_ge _ _ (by omega) (by omega), decide_eq_true (by omega), cond_true]
  | succ c ih =>
    intro f i x h1 h2 h3
    obtain ⟨g, rfl⟩ : ∃ g, f = g + 1 := ⟨f - 1, by omega⟩
    have vi := zm_get (P := fun v => 97 ≤ v ∧ v < 97 + L) hv (j := b + i) (by omega)
    have m2 : L ^ (i + 1) ≤ L ^ m := Nat.pow_le_pow_right (by omega) (by omega)
    have g3 : fAI h 233 100 (Int32.ofInt 3 + Int32.ofInt ((b + i : Nat) : Int)) = some (Int32.ofInt ((T.getD (b + i) 0 : Int) - 97)) := by
      rw [zw_add, show (3 : Int) + ((b + i : Nat) : Int) = ((3 + (b + i) : Nat) : Int) by omega, zr_w H _ (by omega), tx.2 _ (by omega)]
    have nx : (L : Int) * (x : Int) + ((T.getD (b + i) 0 : Int) - 97) = ((L * x + (T.getD (b + i) 0 - 97) : Nat) : Int) := by
      rw [Int.natCast_add, Int.natCast_mul]
      omega
    have lt : L * x + (T.getD (b + i) 0 - 97) + 1 ≤ L ^ (i + 1) := by
      rw [Nat.pow_succ, Nat.mul_comm (L ^ i) L]
      have : L * (x + 1) ≤ L * L ^ i := Nat.mul_le_mul_left _ h3
      rw [Nat.mul_add] at this
      omega
    rw [fM_numberOf_5, zw_add, zqo_ge _ _ (by omega) (by omega), decide_eq_false (by omega), cond_false, zr_r0 H, b1_s, yd_L H e, b1_s, b1_s, g3, b1_s, zw_mul, zw_add, nx, zh_inc]
    exact ih g (i + 1) _ (by omega) (by omega) lt
theorem yd_number (hN : 2000 ≤ N) (H : zr h fl a) (e : a 233 0 = (L : Int)) (hL : 2 ≤ L ∧ L ≤ 9) {T : List Nat} (tx : zr_tx a T) (hT : T.length ≤ 120) (hv : ∀ v ∈ T, 97 ≤ v ∧ v < 97 + L) {b m : Nat} (hb : b + m ≤ T.length) (hm : L ^ m ≤ 4096) : ∃ q : Nat, fM_numberOf N 232 (Int32.ofInt (b : Int)) (Int32.ofInt (m : Int)) h = some (Int32.ofInt (q : Int), h) ∧ q + 1 ≤ L ^ m := by
  obtain ⟨q, e1, q2⟩ := yd_number5 (N := N) H e hL tx hT hv hb hm m N 0 0 (Nat.zero_add _) (by omega) (by rw [Nat.pow_zero]; decide)
  refine ⟨q, ?_, q2⟩
  unfold fM_numberOf
  rw [zr_T H, cond_true]
  exact e1
theorem yd_spells12 (hL : 2 ≤ L ∧ L ≤ 9) : ∀ (c f k : Nat) (h : zH) (a : Nat → Nat → Int), zr h fl a → a 233 0 = (L : Int) → c ≤ 120 → k ≤ 40000 → c < f → ∃ h' a', fM_spells_12 N f 232 (Int32.ofInt (k : Int)) (Int32.ofInt ((c : Int) - 1)) h = some ((), h') ∧ zr h' fl a' ∧ zr_F h h' ∧ (∀ p j, (p ≠ 239 ∨ c ≤ j) → a' p j = a p j) ∧ ∀ j, j < c → ∃ d : Nat, d < L ∧ a' 239 j = (d : Int) := by
  intro c
  induction c with
  | zero =>
    intro f k h a H e hc hk h2
    obtain ⟨g, rfl⟩ : ∃ g, f = g + 1 := ⟨f - 1, by omega⟩
    refine ⟨h, a, ?_, H, zr_Fr h, fun _ _ _ => rfl, fun j hj => absurd hj (Nat.not_lt_zero j)⟩
    rw [fM_spells_12, zqo_lt _ _ (by omega) (by decide), decide_eq_true (by omega), cond_true]
  | succ c ih =>
    intro f k h a H e hc hk h2
    obtain ⟨g, rfl⟩ : ∃ g, f = g + 1 := ⟨f - 1, by omega⟩
    have l1 := yd_L H e
    have ml := Nat.mod_lt k (show L > 0 by omega)
    have dl : k / L ≤ k := Nat.div_le_self _ _
    obtain ⟨h5, e5, H5, F5⟩ := zr_p H 239 c (by decide) (by decide) (by show c < 130; omega) ((k % L : Nat) : Int)
    have e5 : fAS h 239 100 (Int32.ofInt (c : Int)) (.int (Int32.ofInt ((k % L : Nat) : Int))) = some h5 := e5
    have l5 : fAI h5 233 100 (Int32.ofInt 0) = some (Int32.ofInt (L : Int)) := yd_L H5 ((zr_vn a _ (Or.inl (by decide))).trans e)
    obtain ⟨h6, a6, e6, H6, F6, p6, q6⟩ := ih g (k / L) h5 _ H5 ((zr_vn a _ (Or.inl (by decide))).trans e) (by omega) (by omega) (by omega)
    refine ⟨h6, a6, ?_, H6, zr_Ft F5 F6, fun p j hp => (p6 p j (by omega)).trans (zr_vn a _ (by omega)), fun j hj => ?_⟩
    · rw [fM_spells_12, zqo_lt _ _ (by omega) (by decide), decide_eq_false (by omega), cond_false, zr_r8 H, b1_s, zr_r0 H, b1_s, l1, b1_s, if_neg (zw_n0 _ (by omega) (by omega)), zw_modi _ _ (by omega) (by omega), show ((c + 1 : Nat) : Int) - 1 = (c : Int) by omega, e5, b1_s, zr_r0 H5, b1_s, l5, b1_s, if_neg (zw_n0 _ (by omega) (by omega)), zw_div _ _ (by omega) (by omega), zw_add, show (c : Int) + -1 = (c : Int) - 1 by omega]
      exact e6
    · by_cases ej : j = c
      · refine ⟨k % L, ml, ?_⟩
        rw [ej, p6 239 c (Or.inr (Nat.le_refl c)), zr_vs]
      · exact q6 j (by omega)
/-- the row holds some word of the letters -/
theorem yd_spells (hN : 2000 ≤ N) (H : zr h fl a) (e : a 233 0 = (L : Int)) (hL : 2 ≤ L ∧ L ≤ 9) {k m : Nat} (hm : 1 ≤ m ∧ m ≤ 120) (hk : k ≤ 40000) : ∃ h' fl' a' T, fM_spells N 232 (Int32.ofInt (k : Int)) (Int32.ofInt (m : Int)) h = some ((), h') ∧ zr h' fl' a' ∧ zr_F h h' ∧ zr_Q fl a fl' a' ∧ zr_rw fl' a' T ∧ T.length = m ∧ ∀ v ∈ T, v < 256 := by
  obtain ⟨h1, e1, H1, F1⟩ := zr_s H 14 rfl (m : Int)
  obtain ⟨h2, a2, e2, H2, F2, p2, q2⟩ := yd_spells12 (N := N) hL m N k h1 a H1 e (by omega) hk (by omega)
  have q2' : ∀ j, j < m → ((a2 239 j).toNat : Int) = a2 239 j ∧ (a2 239 j).toNat < L := fun j hj => by
    obtain ⟨d, d1, d2⟩ := q2 j hj
    rw [d2]
    omega
  have tl : ((List.range m).map fun j => (a2 239 j).toNat + 97).length = m := by rw [List.length_map, List.length_range]
  refine ⟨h2, _, a2, (List.range m).map fun j => (a2 239 j).toNat + 97, ?_, H2, zr_Ft F1 F2, ⟨fun j hj => if_neg hj, fun p i h3 h4 => p2 p i (Or.inl h3)⟩, ⟨by rw [tl]; exact if_pos rfl, fun i hi => ?_⟩, tl, fun v hv => ?_⟩
  · unfold fM_spells
    rw [zr_T H, cond_true, e1, b1_s, zw_sub]
    exact e2
  · rw [tl] at hi
    rw [List.getD_eq_getElem?_getD, List.getElem?_map, List.getElem?_range hi]
    have := (q2' i hi).1
    show a2 239 i = (((a2 239 i).toNat + 97 : Nat) : Int) - 97
    omega
  · rw [List.mem_map] at hv
    obtain ⟨j, j1, j2⟩ := hv
    rw [List.mem_range] at j1
    have := (q2' j j1).2
    omega
theorem yd_prim1 (hN : 2000 ≤ N) (H : zr h fl a) {T : List Nat} (r : zr_rw fl a T) (hT : 1 ≤ T.length ∧ T.length ≤ 120) (hv : ∀ v ∈ T, v < 256) : ∃ b : Bool, fM_isPrimitiveRow N 232 h = some (cond b (Int32.ofInt 1) (Int32.ofInt 0), h) := by
  obtain ⟨b, e, _⟩ := zr_prim2 (N := N) (by omega) H r hT.2 hv (by omega) (T.length - 1) N 1 (by omega) (by omega)
  refine ⟨b, ?_⟩
  unfold fM_isPrimitiveRow
  rw [zr_T H, cond_true]
  exact e
theorem yd_least1 (hN : 2000 ≤ N) (H : zr h fl a) {T : List Nat} (r : zr_rw fl a T) (hT : 1 ≤ T.length ∧ T.length ≤ 120) (hv : ∀ v ∈ T, v < 256) : ∃ b : Bool, fM_isLeastRow N 232 h = some (cond b (Int32.ofInt 1) (Int32.ofInt 0), h) := by
  obtain ⟨b, e, _⟩ := zr_lea2 (N := N) (by omega) H r hT.2 hv (by omega) (T.length - 1) N 1 (by omega) (by omega)
  refine ⟨b, ?_⟩
  unfold fM_isLeastRow
  rw [zr_T H, cond_true]
  exact e
theorem yd_root1 (hN : 2000 ≤ N) (H : zr h fl a) {T : List Nat} (r : zr_rw fl a T) (hT : 1 ≤ T.length ∧ T.length ≤ 120) (hv : ∀ v ∈ T, v < 256) : ∃ q : Nat, fM_rootLength N 232 h = some (Int32.ofInt (q : Int), h) ∧ q ≤ T.length := by
  have e := zr_root2 (N := N) (by omega) H r hT.2 hv (T.length - 1) N 1 (by omega) (by omega)
  refine ⟨_, ?_, (zm_rtE (l := T) (T.length - 1) (by omega)).2.1⟩
  unfold fM_rootLength
  rw [zr_T H, cond_true]
  exact e
end YDF
section YDG
variable {N : Nat} {h : zH} {now snap : zA} {hist : List zA} {sv t : Int} {inp : List Nat} {rep : zvP}
theorem zn_rank57 (hN : 3000 ≤ N) (ok : zv_ok now) {m q : Nat} (hm : 1 ≤ m ∧ m ≤ 12) (hq : q ≤ 4096) : ∀ (c f k : Nat) (x : Int32) (h : zH) (fl : Nat → Int) (a : Nat → Nat → Int), zr h fl a → zyR fl a now hist snap sv inp rep t → k + c = q → c < f → ∃ y h' fl' a', fM_rankOf_57 N f 232 (Int32.ofInt (m : Int)) (Int32.ofInt (q : Int)) x (Int32.ofInt (k : Int)) h = some (y, h') ∧ zr h' fl' a' ∧ zyR fl' a' now hist snap sv inp rep t ∧ zr_F h h' := by
  intro c
  induction c with
  | zero =>
    intro f k x h fl a H R h1 h2
    obtain ⟨g, rfl⟩ : ∃ g, f = g + 1 := ⟨f - 1, by omega⟩
    refine ⟨x, h, fl, a, ?_, H, R, zr_Fr h⟩
    rw [fM_rankOf_57, zqo_ge _ _ (by omega) (by omega), decide_eq_true (by omega), cond_true]
  | succ c ih =>
    intro f k x h fl a H R h1 h2
    obtain ⟨g, rfl⟩ : ∃ g, f = g + 1 := ⟨f - 1, by omega⟩
    obtain ⟨h3, f3, a3, T, e3, H3, F3, Q3, r3, l3, v3⟩ := yd_spells (N := N) (by omega) H R.1.1 ok.1 (k := k) (m := m) (by omega) (by omega)
    have R3 := zyR_Q R Q3
    obtain ⟨b4, e4⟩ := yd_prim1 (N := N) (by omega) H3 r3 (by omega) v3
    obtain ⟨b5, e5⟩ := yd_least1 (N := N) (by omega) H3 r3 (by omega) v3
    have fin : ∀ z : Int32, ∃ y h' fl' a', fM_rankOf_57 N g 232 (Int32.ofInt (m : Int)) (Int32.ofInt (q : Int)) z (Int32.ofInt ((k + 1 : Nat) : Int)) h3 = some (y, h') ∧ zr h' fl' a' ∧ zyR fl' a' now hist snap sv inp rep t ∧ zr_F h h' := fun z => by
      obtain ⟨y, h', f', a', e', H', R', F'⟩ := ih g (k + 1) z h3 f3 a3 H3 R3 (by omega) (by omega)
      exact ⟨y, h', f', a', e', H', R', zr_Ft F3 F'⟩
    rw [fM_rankOf_57, zqo_ge _ _ (by omega) (by omega), decide_eq_false (by omega), cond_false, e3, b2, e4, b2]
    cases b4 with
    | false =>
      rw [cond_false, show z_cmp .eq (Int32.ofInt 0) (Int32.ofInt 0) = true from rfl, cond_true]
      unfold fM_rankOf_90 fM_rankOf_91
      rw [zh_inc]
      exact fin _
    | true =>
      rw [cond_true, show z_cmp .eq (Int32.ofInt 1) (Int32.ofInt 0) = false from rfl, cond_false, e5, b2]
      cases b5 with
      | false =>
        rw [cond_false, show z_cmp .eq (Int32.ofInt 0) (Int32.ofInt 0) = true from rfl, cond_true]
        unfold fM_rankOf_90 fM_rankOf_91
        rw [zh_inc]
        exact fin _
      | true =>
        rw [cond_true, show z_cmp .eq (Int32.ofInt 1) (Int32.ofInt 0) = false from rfl, cond_false]
        unfold fM_rankOf_91
        rw [zh_inc]
        exact fin _
theorem zn_rankOf (Y : zy h now hist snap sv inp rep t) (ok : zv_ok now) (hN : 4100 ≤ N) (x : Int) (hx : -2147483648 ≤ x ∧ x < 2147483648) : ∃ y t' h', fM_rankOf N 232 (Int32.ofInt x) h = some (y, h') ∧ zy h' now hist snap sv inp rep t' ∧ zr_F h h' ∧ (zw_bF now.2.1 x = -1 → t' = 1) ∧ (zw_bF now.2.1 x ≠ -1 → t' = 0) := by
  have o1 := ok.1
  have o2 := ok.2.1
  have o5 := zm_fsl now.2.1
  obtain ⟨fl0, a0, H0, R0⟩ := id Y
  unfold fM_rankOf
  rw [zr_T H0, cond_true]
  rcases zy_throwsFactor (N := N) Y ok (by omega) x hx with ⟨e, h1, e1, Y1, F1⟩ | ⟨k, b, ek, hk, eb, h1, fl, a, e1, H, R, a1, a2, F1⟩
  · refine ⟨Int32.ofInt 0, 1, h1, ?_, Y1, F1, fun _ => rfl, fun z => absurd e z⟩
    rw [e1, b2]
    rfl
  · have bb := zw_bFb now.2.1 x
    have hbl : b < now.2.1.length := by omega
    have le := zw_lEb hbl
    have g3 : fAI h1 240 100 (Int32.ofInt ((k : Int) + 1)) = some (Int32.ofInt (a 240 (k + 1))) := zr_st H (k + 1) (by omega)
    subst ek
    rw [e1, b2, show z_cmp .eq (Int32.ofInt 0) (Int32.ofInt 0) = true from rfl, cond_true, zr_r9 H, b1_s, zw_add, g3, b1_s, b1_s, zr_st H k (by omega), b1_s, a1, a2, zw_sub, show (zw_lE now.2.1 b : Int) - (b : Int) = ((zw_lE now.2.1 b - b : Nat) : Int) by omega]
    obtain ⟨p, e2, p1, p2, p3⟩ := yd_power (N := N) (by omega) H R.1.1 o1 (len := zw_lE now.2.1 b - b) (by omega)
    rw [e2, b2, zqo_le _ _ (by omega) (by decide)]
    by_cases e : p ≤ 4096
    · have pw := p2.mp e
      have m12 := yd_12 o1.1 pw
      obtain ⟨q, e3, q1⟩ := yd_number (N := N) (by omega) H R.1.1 o1 (zyR_tx R) o2 ok.2.2.1 (b := b) (m := zw_lE now.2.1 b - b) (by omega) pw
      obtain ⟨y, h', f', a', e4, H', R', F'⟩ := zn_rank57 (N := N) (by omega) ok (m := zw_lE now.2.1 b - b) (q := q) (by omega) (by omega) q N 0 (Int32.ofInt 0) h1 fl a H R (Nat.zero_add _) (by omega)
      refine ⟨y, 0, h', ?_, ⟨f', a', H', R'⟩, zr_Ft F1 F', fun z => by omega, fun _ => rfl⟩
      rw [decide_eq_true (by omega), cond_true, zr_r9 H, b1_s, zr_st H k (by omega), b1_s, a1, e3, b2]
      exact e4
    · refine ⟨Int32.ofInt (-1), 0, h1, ?_, ⟨fl, a, H, R⟩, F1, fun z => by omega, fun _ => rfl⟩
      rw [decide_eq_false (by omega), cond_false]
theorem zn_bruijn67 (hN : 4100 ≤ N) (ok : zv_ok now) {m : Nat} (hm : 1 ≤ m ∧ m ≤ 12) (hp : now.1 ^ m ≤ 4096) : ∀ (c f k x : Nat) (h : zH) (fl : Nat → Int) (a : Nat → Nat → Int), zr h fl a → zyR fl a now hist snap sv inp rep t → k + c = now.1 ^ m → c < f → x ≤ 4096 → ∃ y h' fl' a', fM_bruijnLetter_67 N f 232 (Int32.ofInt (m : Int)) (Int32.ofInt (x : Int)) (Int32.ofInt (k : Int)) h = some (y, h') ∧ zr h' fl' a' ∧ zyR fl' a' now hist snap sv inp rep t ∧ zr_F h h' := by
  have o1 := ok.1
  intro c
  induction c with
  | zero =>
    intro f k x h fl a H R h1 h2 hx
    obtain ⟨g, rfl⟩ : ∃ g, f = g + 1 := ⟨f - 1, by omega⟩
    obtain ⟨p, e2, p1, p2, p3⟩ := yd_power (N := N) (by omega) H R.1.1 o1 (len := m) (by omega)
    have pe := p3 (p2.mpr hp)
    refine ⟨Int32.ofInt (-1), h, fl, a, ?_, H, R, zr_Fr h⟩
    rw [fM_bruijnLetter_67, e2, b2, zqo_ge _ _ (by omega) (by omega), decide_eq_true (by omega), cond_true]
  | succ c ih =>
    intro f k x h fl a H R h1 h2 hx
    obtain ⟨g, rfl⟩ : ∃ g, f = g + 1 := ⟨f - 1, by omega⟩
    obtain ⟨p, e2, p1, p2, p3⟩ := yd_power (N := N) (by omega) H R.1.1 o1 (len := m) (by omega)
    have pe := p3 (p2.mpr hp)
    obtain ⟨h3, f3, a3, T, e3, H3, F3, Q3, r3, l3, v3⟩ := yd_spells (N := N) (by omega) H R.1.1 o1 (k := k) (m := m) (by omega) (by omega)
    have R3 := zyR_Q R Q3
    obtain ⟨b5, e5⟩ := yd_least1 (N := N) (by omega) H3 r3 (by omega) v3
    obtain ⟨q, e6, q6⟩ := yd_root1 (N := N) (by omega) H3 r3 (by omega) v3
    have fin : ∀ s0 : Nat, s0 ≤ m → ∃ y h' fl' a', fM_bruijnLetter_99 N (fM_bruijnLetter_67 N g) 232 (Int32.ofInt (m : Int)) (Int32.ofInt (x : Int)) (Int32.ofInt (k : Int)) (Int32.ofInt (s0 : Int)) h3 = some (y, h') ∧ zr h' fl' a' ∧ zyR fl' a' now hist snap sv inp rep t ∧ zr_F h h' := fun s0 hs => by
      unfold fM_bruijnLetter_99
      rw [zqo_ge _ _ (by omega) (by omega)]
      by_cases e7 : s0 ≤ x
      · rw [decide_eq_true (by omega), cond_true, zw_sub, show (x : Int) - (s0 : Int) = ((x - s0 : Nat) : Int) by omega, zh_inc]
        obtain ⟨y, h', f', a', e', H', R', F'⟩ := ih g (k + 1) (x - s0) h3 f3 a3 H3 R3 (by omega) (by omega) (by omega)
        exact ⟨y, h', f', a', e', H', R', zr_Ft F3 F'⟩
      · refine ⟨Int32.ofInt 97 + Int32.ofInt (a3 239 x), h3, f3, a3, ?_, H3, R3, F3⟩
        rw [decide_eq_false (by omega), cond_false, zr_r8 H3, b1_s, zr_row H3 x (by omega), b1_s]
    rw [fM_bruijnLetter_67, e2, b2, zqo_ge _ _ (by omega) (by omega), decide_eq_false (by omega), cond_false, e3, b2, e5, b2]
    cases b5 with
    | false =>
      rw [cond_false, show z_cmp .eq (Int32.ofInt 0) (Int32.ofInt 0) = true from rfl, cond_true]
      exact fin 0 (Nat.zero_le m)
    | true =>
      rw [cond_true, show z_cmp .eq (Int32.ofInt 1) (Int32.ofInt 0) = false from rfl, cond_false, e6, b2]
      exact fin q (by omega)
theorem zn_bruijnLetter (Y : zy h now hist snap sv inp rep t) (ok : zv_ok now) (hN : 4100 ≤ N) (x y : Int) (hx : -2147483648 ≤ x ∧ x < 2147483648) (hy : -2147483648 ≤ y ∧ y < 2147483648) : ∃ r t' h', fM_bruijnLetter N 232 (Int32.ofInt x) (Int32.ofInt y) h = some (r, h') ∧ zy h' now hist snap sv inp rep t' ∧ zr_F h h' := by
  have o1 := ok.1
  obtain ⟨fl0, a0, H0, R0⟩ := id Y
  have s53 : ∀ (u v : Int32), (u = Int32.ofInt 0 ∨ u = Int32.ofInt 1) → v = Int32.ofInt 1 ∨ (v = Int32.ofInt 0 ∧ u = Int32.ofInt 1) → ∃ r t' h', fM_bruijnLetter_53 N (232) (Int32.ofInt x) (Int32.ofInt y) u v 232 h = some (r, h') ∧ zy h' now hist snap sv inp rep t' ∧ zr_F h h' := by
    intro u v hu hv
    unfold fM_bruijnLetter_53
    rcases hv with hv | ⟨hv, hu⟩
    · obtain ⟨h1, e1, Y1, F1⟩ := zy_two1 (N := N) Y u
      refine ⟨Int32.ofInt 0, 1, h1, ?_, Y1, F1⟩
      rw [hv, e1, b2]
      rfl
    · obtain ⟨h1, e1, Y1, F1⟩ := zy_two01 (N := N) Y
      refine ⟨Int32.ofInt 0, 2, h1, ?_, Y1, F1⟩
      rw [hv, hu, e1, b2]
      rfl
  have thr : ∃ r t' h', fM_bruijnLetter_26 N 232 (Int32.ofInt x) (Int32.ofInt y) (Int32.ofInt 1) h = some (r, h') ∧ zy h' now hist snap sv inp rep t' ∧ zr_F h h' := s53 (Int32.ofInt 0) (Int32.ofInt 1) (Or.inl rfl) (Or.inl rfl)
  unfold fM_bruijnLetter
  rw [zr_T H0, cond_true, zr_in N x 1 12 hx (by decide) (by decide), b2]
  by_cases e1 : 1 ≤ x ∧ x ≤ 12
  · obtain ⟨m, rfl⟩ : ∃ v : Nat, x = (v : Int) := ⟨x.toNat, by omega⟩
    obtain ⟨p, e2, p1, p2, p3⟩ := yd_power (N := N) (by omega) H0 R0.1.1 o1 (len := m) (by omega)
    rw [decide_eq_true e1, cond_true, show z_cmp .eq (Int32.ofInt 1) (Int32.ofInt 0) = false from rfl, cond_false, e2, b2, zqo_le _ _ (by omega) (by decide)]
    by_cases e3 : p ≤ 4096
    · have pw := p2.mp e3
      have pe := p3 e3
      rw [decide_eq_true (by omega), cond_true]
      unfold fM_bruijnLetter_26
      rw [show z_cmp .ne (Int32.ofInt 0) (Int32.ofInt 0) = false from rfl, cond_false, e2, b2, zw_sub, zr_in N y 0 ((p : Int) - 1) hy (by decide) (by omega), b2]
      by_cases e4 : 0 ≤ y ∧ y ≤ (p : Int) - 1
      · obtain ⟨v, rfl⟩ : ∃ v : Nat, y = (v : Int) := ⟨y.toNat, by omega⟩
        rw [decide_eq_true e4, cond_true, show z_cmp .ne (Int32.ofInt 1) (Int32.ofInt 0) = true from rfl, cond_true]
        unfold fM_bruijnLetter_52 fM_bruijnLetter_53
        obtain ⟨h1, e5, ⟨fl, a, H, R⟩, F1⟩ := zy_two00 (N := N) Y
        obtain ⟨r, h2, f2, a2, e6, H2, R2, F2⟩ := zn_bruijn67 (N := N) hN ok (m := m) (by omega) pw (now.1 ^ m) N 0 v h1 fl a H R (Nat.zero_add _) (by omega) (by omega)
        refine ⟨r, 0, h2, ?_, ⟨f2, a2, H2, R2⟩, zr_Ft F1 F2⟩
        rw [e5, b2, show z_cmp .eq (Int32.ofInt 0) (Int32.ofInt 0) = true from rfl, cond_true]
        exact e6
      · rw [decide_eq_false e4, cond_false, show z_cmp .ne (Int32.ofInt 0) (Int32.ofInt 0) = false from rfl, cond_false]
        exact s53 (Int32.ofInt 1) (Int32.ofInt 0) (Or.inr rfl) (Or.inr ⟨rfl, rfl⟩)
    · rw [decide_eq_false (by omega), cond_false]
      exact thr
  · rw [decide_eq_false e1, cond_false, show z_cmp .eq (Int32.ofInt 0) (Int32.ofInt 0) = true from rfl, cond_true]
    exact thr
end YDG
