/-! THE REFERENCE'S QUESTIONS, two. -/
section ZYR
variable {N : Nat} {h : zH} {fl fl' : Nat → Int} {a a' : Nat → Nat → Int} {bef now snap : zA} {hist : List zA} {sv t : Int} {inp : List Nat} {rep : zvP} {T : List Nat}
theorem zr_period14 (H : zr h fl a) (tx : zr_tx a T) (hT : T.length ≤ 120) (hv : ∀ v ∈ T, v < 256) {p : Nat} (hp : 1 ≤ p ∧ p ≤ T.length) {k2 : Nat → Int32 → zH → Option (Int32 × zH)} : ∀ (c f i : Nat), i + p + c = T.length → c < f → ∃ b : Bool, fM_period_14 N f k2 232 (Int32.ofInt (p : Int)) (Int32.ofInt (i : Int)) h = cond b (some (Int32.ofInt (p : Int), h)) (k2 232 (Int32.ofInt ((p + 1 : Nat) : Int)) h) ∧ (b = true ↔ ∀ j, i ≤ j → j + p < T.length → T.getD j 0 = T.getD (j + p) 0) := by
  have g1 : fAI h 233 100 (Int32.ofInt 1) = some (Int32.ofInt (a 233 1)) := zr_w H 1 (by decide)
  intro c
  induction c with
  | zero =>
    intro f i h1 h2
    obtain ⟨g, rfl⟩ : ∃ g, f = g + 1 := ⟨f - 1, by omega⟩
    refine ⟨true, ?_, ⟨fun _ j j1 j2 => absurd j2 (by omega), fun _ => rfl⟩⟩
    rw [fM_period_14, zr_r0 H, b1_s, g1, b1_s, tx.1, zw_add, zqo_ge _ _ (by omega) (by omega), decide_eq_true (by omega), cond_true]
    unfold fM_period_53
    rw [zr_r0 H, b1_s, g1, b1_s, tx.1, zw_add, zqo_ne _ _ (by omega) (by omega), decide_eq_true (by omega)]
    rfl
  | succ c ih =>
    intro f i h1 h2
    obtain ⟨g, rfl⟩ : ∃ g, f = g + 1 := ⟨f - 1, by omega⟩
    have x1 := zd_lt hv i
    have x2 := zd_lt hv (i + p)
    have g2 : fAI h 233 100 (Int32.ofInt (3 + (i : Int))) = some (Int32.ofInt ((T.getD i 0 : Int) - 97)) := by
      rw [show 3 + (i : Int) = ((3 + i : Nat) : Int) by omega, zr_w H _ (by omega), tx.2 i (by omega)]
    have g3 : fAI h 233 100 (Int32.ofInt (3 + (i : Int) + (p : Int))) = some (Int32.ofInt ((T.getD (i + p) 0 : Int) - 97)) := by
      rw [show 3 + (i : Int) + (p : Int) = ((3 + (i + p) : Nat) : Int) by omega, zr_w H _ (by omega), tx.2 _ (by omega)]
    rw [fM_period_14, zr_r0 H, b1_s, g1, b1_s, tx.1, zw_add, zqo_ge _ _ (by omega) (by omega), decide_eq_false (by omega), cond_false, b1_s, zw_add, g2, b1_s, b1_s, zw_add, g3, b1_s, zqo_ne _ _ (by omega) (by omega)]
    by_cases e : T.getD i 0 = T.getD (i + p) 0
    · obtain ⟨b, e1, e2⟩ := ih g (i + 1) (by omega) (by omega)
      refine ⟨b, ?_, e2.trans ⟨fun x j j1 j2 => ?_, fun x j j1 j2 => x j (by omega) j2⟩⟩
      · rw [decide_eq_true (by omega), Bool.not_true, cond_false, zh_inc]
        exact e1
      · by_cases ej : j = i
        · rw [ej]
          exact e
        · exact x j (by omega) j2
    · refine ⟨false, ?_, ⟨fun x => absurd x (by decide), fun x => absurd (x i (Nat.le_refl _) (by omega)) e⟩⟩
      rw [decide_eq_false (by omega), Bool.not_false, cond_true]
      unfold fM_period_53
      rw [zr_r0 H, b1_s, g1, b1_s, tx.1, zw_add, zqo_ne _ _ (by omega) (by omega), decide_eq_false (by omega), zh_inc]
      rfl
theorem zr_period2 (H : zr h fl a) (tx : zr_tx a T) (hT : T.length ≤ 120) (hv : ∀ v ∈ T, v < 256) (hN : 1000 ≤ N) : ∀ (c f p : Nat), p + c = T.length → 1 ≤ p → c < f → (∀ r, 0 < r → r < p → ¬ zm_Q T r) → fM_period_2 N f 232 (Int32.ofInt (p : Int)) h = some (Int32.ofInt ((zw_per T : Nat) : Int), h) := by
  have g1 : fAI h 233 100 (Int32.ofInt 1) = some (Int32.ofInt (a 233 1)) := zr_w H 1 (by decide)
  intro c
  induction c with
  | zero =>
    intro f p h1 h2 h3 h4
    obtain ⟨g, rfl⟩ : ∃ g, f = g + 1 := ⟨f - 1, by omega⟩
    obtain ⟨b, e1, e2⟩ := zr_period14 (N := N) H tx hT hv (p := p) (by omega) (k2 := fM_period_2 N g) (T.length - p) N 0 (by omega) (by omega)
    have e1 : fM_period_14 N N (fM_period_2 N g) 232 (Int32.ofInt (p : Int)) (Int32.ofInt 0) h = _ := e1
    obtain ⟨q1, q2⟩ := zm_perQ (l := T) (by omega)
    have q3 := zw_perb T
    have hb : b = true := e2.mpr (fun j j1 j2 => absurd j2 (by omega))
    have ep : zw_per T = p := by
      by_cases x : zw_per T < p
      · exact absurd q1 (h4 _ (by omega) x)
      · omega
    rw [fM_period_2, zr_r0 H, b1_s, g1, b1_s, tx.1, zqo_gt _ _ (by omega) (by omega), decide_eq_false (by omega), cond_false, e1, hb, cond_true, ep]
  | succ c ih =>
    intro f p h1 h2 h3 h4
    obtain ⟨g, rfl⟩ : ∃ g, f = g + 1 := ⟨f - 1, by omega⟩
    obtain ⟨b, e1, e2⟩ := zr_period14 (N := N) H tx hT hv (p := p) (by omega) (k2 := fM_period_2 N g) (T.length - p) N 0 (by omega) (by omega)
    have e1 : fM_period_14 N N (fM_period_2 N g) 232 (Int32.ofInt (p : Int)) (Int32.ofInt 0) h = _ := e1
    obtain ⟨q1, q2⟩ := zm_perQ (l := T) (by omega)
    have q3 := zw_perb T
    have hq : b = true ↔ zm_Q T p := by
      rw [← zm_hpQ (by omega)]
      rw [zm_hpQ (by omega)]
      unfold zm_Q
      rw [e2]
      constructor
      · intro x j j1 j2
        have := x (j - p) (Nat.zero_le _) (by omega)
        rw [show j - p + p = j by omega] at this
        exact this.symm
      · intro x j j1 j2
        have := x (j + p) (by omega) j2
        rw [show j + p - p = j by omega] at this
        exact this.symm
    rw [fM_period_2, zr_r0 H, b1_s, g1, b1_s, tx.1, zqo_gt _ _ (by omega) (by omega), decide_eq_false (by omega), cond_false, e1]
    cases b with
    | true =>
      have q := hq.mp rfl
      have ep : zw_per T = p := by
        by_cases x : zw_per T < p
        · exact absurd q1 (h4 _ (by omega) x)
        · by_cases y : p < zw_per T
          · exact absurd q (q2 p (by omega) y)
          · omega
      rw [cond_true, ep]
    | false =>
      rw [cond_false]
      exact ih g (p + 1) (by omega) (by omega) (by omega) (fun r r1 r2 => by
        by_cases er : r = p
        · rw [er]
          exact fun x => absurd (hq.mpr x) (by decide)
        · exact h4 r r1 (by omega))
theorem zr_period (H : zr h fl a) (tx : zr_tx a T) (hT : T.length ≤ 120) (hv : ∀ v ∈ T, v < 256) (hN : 1000 ≤ N) : fM_period N 232 h = some (Int32.ofInt ((zw_per T : Nat) : Int), h) := by
  unfold fM_period
  rw [zr_T H, cond_true]
  by_cases e : T.length = 0
  · obtain ⟨g, rfl⟩ : ∃ g, N = g + 1 := ⟨N - 1, by omega⟩
    have g1 : fAI h 233 100 (Int32.ofInt 1) = some (Int32.ofInt (a 233 1)) := zr_w H 1 (by decide)
    rw [fM_period_2, zr_r0 H, b1_s, g1, b1_s, tx.1, zqo_gt _ _ (by decide) (by omega), decide_eq_true (by omega), cond_true, List.eq_nil_of_length_eq_zero e]
    rfl
  · exact zr_period2 H tx hT hv hN (T.length - 1) N 1 (by omega) (Nat.le_refl 1) (by omega) (fun r r1 r2 => absurd r1 (by omega))
theorem zn_smallestPeriod (Y : zy h now hist snap sv inp rep t) (ok : zv_ok now) (hN : 4000 ≤ N) : ∃ h', fM_smallestPeriod N 232 h = some (Int32.ofInt ((zw_per now.2.1 : Nat) : Int), h') ∧ zy h' now hist snap sv inp rep 0 ∧ zr_F h h' := by
  obtain ⟨h1, e1, ⟨fl, a, H, R⟩, F1⟩ := zy_throw Y 0
  obtain ⟨fl0, a0, H0, R0⟩ := Y
  refine ⟨h1, ?_, ⟨fl, a, H, R⟩, F1⟩
  unfold fM_smallestPeriod
  rw [zr_T H0, cond_true, e1, b1_s, zr_period H (zyR_tx R) ok.2.1 (zv_256 ok) (by omega)]
  rfl
theorem zn_longestBorder (Y : zy h now hist snap sv inp rep t) (ok : zv_ok now) (hN : 4000 ≤ N) : ∃ h', fM_longestBorder N 232 h = some (Int32.ofInt ((now.2.1.length : Int) - (zw_per now.2.1 : Int)), h') ∧ zy h' now hist snap sv inp rep 0 ∧ zr_F h h' := by
  obtain ⟨h1, e1, ⟨fl, a, H, R⟩, F1⟩ := zy_throw Y 0
  obtain ⟨fl0, a0, H0, R0⟩ := Y
  have g1 : fAI h1 233 100 (Int32.ofInt 1) = some (Int32.ofInt (a 233 1)) := zr_w H 1 (by decide)
  refine ⟨h1, ?_, ⟨fl, a, H, R⟩, F1⟩
  unfold fM_longestBorder
  rw [zr_T H0, cond_true, e1, b1_s, zr_r0 H, b1_s, g1, b1_s, zr_period H (zyR_tx R) ok.2.1 (zv_256 ok) (by omega), b2, R.1.2.1, zw_sub]
theorem zn_leastRotation (Y : zy h now hist snap sv inp rep t) (ok : zv_ok now) (hN : 4000 ≤ N) : ∃ h', fM_leastRotation N 232 h = some (Int32.ofInt ((zw_lT now.2.1 : Nat) : Int), h') ∧ zy h' now hist snap sv inp rep 0 ∧ zr_F h h' := by
  obtain ⟨h1, e1, ⟨fl, a, H, R⟩, F1⟩ := zy_throw Y 0
  obtain ⟨fl0, a0, H0, R0⟩ := Y
  refine ⟨h1, ?_, ⟨fl, a, H, R⟩, F1⟩
  unfold fM_leastRotation
  rw [zr_T H0, cond_true, e1, b1_s]
  by_cases e : now.2.1.length = 0
  · obtain ⟨g, rfl⟩ : ∃ g, N = g + 1 := ⟨N - 1, by omega⟩
    have g1 : fAI h1 233 100 (Int32.ofInt 1) = some (Int32.ofInt (a 233 1)) := zr_w H 1 (by decide)
    unfold fM_least
    rw [zr_T H, cond_true, fM_least_4, zr_r0 H, b1_s, g1, b1_s, R.1.2.1, zqo_ge _ _ (by decide) (by omega), decide_eq_true (by omega), cond_true, List.eq_nil_of_length_eq_zero e]
    rfl
  · rw [zr_least (by omega) H (zyR_tx R) ok.2.1 (zv_256 ok) (by omega), zm_lT (by omega)]
    rfl
theorem zn_isNecklace (Y : zy h now hist snap sv inp rep t) (ok : zv_ok now) (hN : 4000 ≤ N) : ∃ h', fM_isNecklace N 232 h = some (cond (decide (0 < now.2.1.length ∧ zw_lT now.2.1 = 0)) (Int32.ofInt 1) (Int32.ofInt 0), h') ∧ zy h' now hist snap sv inp rep 0 ∧ zr_F h h' := by
  obtain ⟨h1, e1, ⟨fl, a, H, R⟩, F1⟩ := zy_throw Y 0
  obtain ⟨fl0, a0, H0, R0⟩ := Y
  have o2 := ok.2.1
  obtain ⟨h2, f2, a2, e2, H2, F2, Q2, r2⟩ := zr_loads (N := N) (by omega) H (zyR_tx R) ok.2.1
  refine ⟨h2, ?_, ⟨f2, a2, H2, zyR_Q R Q2⟩, zr_Ft F1 F2⟩
  unfold fM_isNecklace
  rw [zr_T H0, cond_true, e1, b1_s, e2, b2]
  unfold fM_isLeastRow
  rw [zr_T H2, cond_true]
  by_cases e : now.2.1.length = 0
  · obtain ⟨g, rfl⟩ : ∃ g, N = g + 1 := ⟨N - 1, by omega⟩
    rw [fM_isLeastRow_2, zr_i H2 14 rfl, b1_s, r2.1, zqo_ge _ _ (by decide) (by omega), decide_eq_true (by omega), cond_true, b1_s, zqo_le _ _ (by omega) (by decide), decide_eq_true (by omega), decide_eq_false (by omega)]
    rfl
  · obtain ⟨q, q1, q2⟩ := zr_lea2 (N := N) (by omega) H2 r2 ok.2.1 (zv_256 ok) (by omega) (now.2.1.length - 1) N 1 (by omega) (by omega)
    have q1 : fM_isLeastRow_2 N N 232 (Int32.ofInt 1) h2 = _ := q1
    rw [q1, b2]
    cases q with
    | false =>
      rw [decide_eq_false (fun x : 0 < now.2.1.length ∧ zw_lT now.2.1 = 0 => absurd (q2.mpr ((zm_leE x.1).mp x.2)) (by decide))]
      rfl
    | true =>
      rw [decide_eq_true (show 0 < now.2.1.length ∧ zw_lT now.2.1 = 0 from ⟨by omega, (zm_leE (by omega)).mpr (q2.mp rfl)⟩)]
      rfl
end ZYR
