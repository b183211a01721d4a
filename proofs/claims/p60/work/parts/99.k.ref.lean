section
/-! THE REFERENCE'S SCRIPT: its source, its tokens. -/
abbrev yH : Type := zA × List zA × zA × Int × List Nat × List Nat × Int × List Nat
/-- the source -/
def yX (G : yH) : List Nat := G.2.2.2.2.2.2.2
/-- the reference at a script, with its numbers fl and arrays a; w holds A; what was before, what is remembered, the snapshot, the input, the report and the source are G's -/
def yv (G : yH) (h : zH) (A : zA) (fl : Nat → Int) (a : Nat → Nat → Int) : Prop := zr h fl a ∧ zyR fl a A G.2.1 G.2.2.1 G.2.2.2.1 G.2.2.2.2.1 (G.2.2.2.2.2.1, fl 12, fl 13) G.2.2.2.2.2.2.1 ∧ zy_is (a 234) G.1 ∧ (fl 11 = ((yX G).length : Int) ∧ ∀ i, i < (yX G).length → a 238 i = ((yX G).getD i 0 : Int)) ∧ ((yX G).length ≤ 600 ∧ ∀ v ∈ yX G, v < 256) ∧ zv_ok A
/-- a kind of token, as the reference counts them -/
def yt_m (q : Nat) : Nat := if q = 0 then 0 else if q = 1 then 2 else if q = 2 then 3 else if q = 3 then 4 else if q = 4 then 5 else if q = 5 then 1 else 6
theorem yt_mb (q : Nat) : yt_m q ≤ 6 := by
  unfold yt_m
  repeat' split
  all_goals omega
theorem yt_mi {q : Nat} : (yt_m q = 0 ↔ q = 0) ∧ (yt_m q = 2 ↔ q = 1) ∧ (yt_m q = 3 ↔ q = 2) ∧ (yt_m q = 4 ↔ q = 3) ∧ (yt_m q = 5 ↔ q = 4) ∧ (yt_m q = 1 ↔ q = 5) := by
  unfold yt_m
  repeat' split
  all_goals omega
theorem yt_k6 {v : Nat} : yt_k v = 6 ↔ v = 10 ∨ v = 32 := by
  unfold yt_k
  repeat' split
  all_goals omega
theorem yt_sort (N v : Nat) (hv : v < 256) (h : zH) : fM_sortOf N (Int32.ofInt (v : Int)) h = some (Int32.ofInt ((yt_m (yt_k v) : Nat) : Int), h) := by
  have s42 : v ≠ 59 → ¬ (97 ≤ v ∧ v ≤ 122) → ¬ (48 ≤ v ∧ v ≤ 57) → fM_sortOf_42 N (Int32.ofInt (v : Int)) h = some (Int32.ofInt ((yt_m (yt_k v) : Nat) : Int), h) := by
    intro n0 n1 n2
    unfold fM_sortOf_42 fM_sortOf_64
    rw [zqo_ne _ _ (by omega) (by decide), zqo_ne _ _ (by omega) (by decide)]
    by_cases e1 : v = 40
    · subst e1
      rfl
    · rw [decide_eq_false (show ¬ (v : Int) = 40 by omega), Bool.not_false, cond_true]
      by_cases e2 : v = 41
      · subst e2
        rfl
      · rw [decide_eq_false (show ¬ (v : Int) = 41 by omega), Bool.not_false, cond_true]
        have : yt_m (yt_k v) = 6 := by
          unfold yt_k
          rw [if_neg n1, if_neg n2]
          by_cases e3 : v = 10 ∨ v = 32
          · rw [if_pos e3]
            rfl
          · rw [if_neg e3, if_neg e1, if_neg e2, if_neg n0]
            rfl
        rw [this]
        rfl
  have s26 : v ≠ 59 → ¬ (97 ≤ v ∧ v ≤ 122) → fM_sortOf_26 N (Int32.ofInt (v : Int)) h = some (Int32.ofInt ((yt_m (yt_k v) : Nat) : Int), h) := by
    intro n0 n1
    unfold fM_sortOf_26
    rw [zqo_lt _ _ (by omega) (by decide), zqo_gt _ _ (by omega) (by decide)]
    by_cases e1 : (v : Int) < 48
    · rw [decide_eq_true e1, cond_true]
      exact s42 n0 n1 (by omega)
    · rw [decide_eq_false e1, cond_false]
      by_cases e2 : (57 : Int) < (v : Int)
      · rw [decide_eq_true e2, cond_true]
        exact s42 n0 n1 (by omega)
      · rw [decide_eq_false e2, cond_false]
        have e : yt_k v = 2 := by
          unfold yt_k
          rw [if_neg n1, if_pos (by omega)]
        rw [e]
        rfl
  unfold fM_sortOf
  rw [zqo_ne _ _ (by omega) (by decide), zqo_lt _ _ (by omega) (by decide), zqo_gt _ _ (by omega) (by decide)]
  by_cases e0 : v = 59
  · subst e0
    rfl
  · rw [decide_eq_false (show ¬ (v : Int) = 59 by omega), Bool.not_false, cond_true]
    by_cases e1 : (v : Int) < 97
    · rw [decide_eq_true e1, cond_true]
      exact s26 e0 (by omega)
    · rw [decide_eq_false e1, cond_false]
      by_cases e2 : (122 : Int) < (v : Int)
      · rw [decide_eq_true e2, cond_true]
        exact s26 e0 (by omega)
      · rw [decide_eq_false e2, cond_false]
        have e : yt_k v = 1 := by
          unfold yt_k
          rw [if_pos (by omega)]
        rw [e]
        rfl
theorem zr_us (fl : Nat → Int) (k : Nat) (x : Int) : zr_u fl k x k = x := if_pos rfl
theorem zr_un (fl : Nat → Int) {k j : Nat} (x : Int) (h : j ≠ k) : zr_u fl k x j = fl j := if_neg h
section YVA
variable {N : Nat} {G : yH} {h h' : zH} {A : zA} {fl fl' : Nat → Int} {a : Nat → Nat → Int}
/-- numbers of the script changed -/
theorem yv_fl (Y : yv G h A fl a) (H : zr h' fl' a) (f : ∀ k, k = 4 ∨ k = 5 ∨ k = 10 ∨ k = 11 ∨ k = 16 ∨ k = 17 → fl' k = fl k) : yv G h' A fl' a := by
  obtain ⟨y1, ⟨r1, r2, r3, r4, r5, r6, r7, r8⟩, y3, y4, y5⟩ := Y
  exact ⟨H, ⟨r1, (f 4 (by decide)).trans r2, r3, (f 5 (by decide)).trans r4, r5, ⟨(f 10 (by decide)).trans r6.1, r6.2⟩, ⟨⟨(f 16 (by decide)).trans r7.1.1, rfl, rfl⟩, r7.2⟩, (f 17 (by decide)).trans r8⟩, y3, ⟨(f 11 (by decide)).trans y4.1, y4.2⟩, y5⟩
theorem yv_s (Y : yv G h A fl a) (k : Nat) (hk : k = 12 ∨ k = 13 ∨ (18 ≤ k ∧ k ≤ 22)) (x : Int) : ∃ h', fS h 232 5 k (.int (Int32.ofInt x)) = some h' ∧ yv G h' A (zr_u fl k x) a ∧ zr_F h h' := by
  obtain ⟨h1, e1, H1, F1⟩ := zr_s Y.1 k (decide_eq_true (by omega)) x
  exact ⟨h1, e1, yv_fl Y H1 (fun j hj => zr_un fl x (by omega)), F1⟩
theorem yv_i (Y : yv G h A fl a) (k : Nat) (hk : zr_ok k = true) : fI h 232 5 k = some (Int32.ofInt (fl k)) := zr_i Y.1 k hk
theorem yv_T (Y : yv G h A fl a) : fT h 232 5 = true := zr_T Y.1
theorem yv_src (Y : yv G h A fl a) {i : Nat} (hi : i < (yX G).length) : fAI h 238 100 (Int32.ofInt (i : Int)) = some (Int32.ofInt ((yX G).getD i 0 : Int)) := by
  have l6 := Y.2.2.2.2.1.1
  have g : fAI h 238 100 (Int32.ofInt (i : Int)) = some (Int32.ofInt (a 238 i)) := zr_g Y.1 238 i (by decide) (by decide) (by show i < 600; omega)
  rw [g, Y.2.2.2.1.2 i hi]
theorem yv_11 (Y : yv G h A fl a) : fI h 232 5 11 = some (Int32.ofInt ((yX G).length : Int)) := by
  rw [yv_i Y 11 rfl, Y.2.2.2.1.1]
/-- blanks passed -/
theorem yv_skip : ∀ (c f p : Nat) (h : zH) (fl : Nat → Int), yv G h A fl a → fl 19 = (p : Int) → p + c = (yX G).length → c < f → ∃ h' fl', fM_next_8 N f 232 h = fM_next_60 N 232 h' ∧ yv G h' A fl' a ∧ zr_F h h' ∧ fl' 19 = (yt_b (yX G) c p : Int) ∧ ∀ k, k ≠ 19 → fl' k = fl k := by
  intro c
  induction c with
  | zero =>
    intro f p h fl Y h6 h1 h2
    obtain ⟨g, rfl⟩ : ∃ g, f = g + 1 := ⟨f - 1, by omega⟩
    have l6 := Y.2.2.2.2.1.1
    refine ⟨h, fl, ?_, Y, zr_Fr h, h6, fun _ _ => rfl⟩
    rw [fM_next_8, yv_i Y 19 rfl, b1_s, h6, yv_11 Y, b1_s, zqo_ge _ _ (by omega) (by omega), decide_eq_true (by omega), cond_true]
  | succ c ih =>
    intro f p h fl Y h6 h1 h2
    obtain ⟨g, rfl⟩ : ∃ g, f = g + 1 := ⟨f - 1, by omega⟩
    have l6 := Y.2.2.2.2.1.1
    have g1 := zw_gD Y.2.2.2.2.1.2 p
    have sr := yv_src Y (i := p) (by omega)
    by_cases e : yt_k ((yX G).getD p 0) = 6
    · obtain ⟨h5, e5, Y5, F5⟩ := yv_s Y 19 (by decide) ((p : Int) + 1)
      obtain ⟨h7, n7, e7, Y7, F7, p7, r7⟩ := ih g (p + 1) h5 _ Y5 (zr_us _ _ _) (by omega) (by omega)
      have e47 : fM_next_47 N (fM_next_8 N g) 232 h = fM_next_60 N 232 h7 := by
        unfold fM_next_47
        rw [yv_i Y 19 rfl, b1_s, h6, zw_add, e5, b1_s]
        exact e7
      refine ⟨h7, n7, ?_, Y7, zr_Ft F5 F7, ?_, fun k hk => (r7 k hk).trans (zr_un fl _ hk)⟩
      · rw [fM_next_8, yv_i Y 19 rfl, b1_s, h6, yv_11 Y, b1_s, zqo_ge _ _ (by omega) (by omega), decide_eq_false (by omega), cond_false, zr_r7 Y.1, b1_s, b1_s, sr, b1_s, zqo_eq _ _ (by omega) (by decide)]
        by_cases e32 : (yX G).getD p 0 = 32
        · rw [decide_eq_true (by omega), cond_true]
          exact e47
        · have e10 : (yX G).getD p 0 = 10 := by
            have := yt_k6.mp e
            omega
          rw [decide_eq_false (by omega), cond_false, b1_s, b1_s, sr, b1_s, zqo_ne _ _ (by omega) (by decide), decide_eq_true (by omega), Bool.not_true, cond_false]
          exact e47
      · rw [yt_b, if_pos e]
        exact p7
    · have n6 : ¬ ((yX G).getD p 0 = 10 ∨ (yX G).getD p 0 = 32) := fun x => e (yt_k6.mpr x)
      refine ⟨h, fl, ?_, Y, zr_Fr h, ?_, fun _ _ => rfl⟩
      · rw [fM_next_8, yv_i Y 19 rfl, b1_s, h6, yv_11 Y, b1_s, zqo_ge _ _ (by omega) (by omega), decide_eq_false (by omega), cond_false, zr_r7 Y.1, b1_s, b1_s, sr, b1_s, zqo_eq _ _ (by omega) (by decide), decide_eq_false (by omega), cond_false, b1_s, b1_s, sr, b1_s, zqo_ne _ _ (by omega) (by decide), decide_eq_false (by omega), Bool.not_false, cond_true]
      · rw [yt_b, if_neg e]
        exact h6
/-- bytes of the token's kind passed -/
theorem yv_more {q : Nat} (hq : q = 1 ∨ q = 2) : ∀ (c f p : Nat) (h : zH) (fl : Nat → Int), yv G h A fl a → fl 20 = (p : Int) → fl 18 = (yt_m q : Int) → p + c = (yX G).length → c < f → ∃ h' fl', fM_next_111 N f 232 h = fM_next_170 N 232 h' ∧ yv G h' A fl' a ∧ zr_F h h' ∧ fl' 20 = (yt_r (yX G) q c p : Int) ∧ ∀ k, k ≠ 20 → fl' k = fl k := by
  have s0 : ∀ (g : Nat) (h : zH) (fl : Nat → Int), yv G h A fl a → fl 18 = (yt_m q : Int) → fM_next_111 N (g + 1) 232 h = fM_next_127 N (fM_next_111 N g) 232 h := by
    intro g h fl Y h4
    rw [fM_next_111, yv_i Y 18 rfl, b1_s, h4]
    rcases hq with e | e <;> subst e <;> rfl
  intro c
  induction c with
  | zero =>
    intro f p h fl Y h6 h4 h1 h2
    obtain ⟨g, rfl⟩ : ∃ g, f = g + 1 := ⟨f - 1, by omega⟩
    have l6 := Y.2.2.2.2.1.1
    refine ⟨h, fl, ?_, Y, zr_Fr h, h6, fun _ _ => rfl⟩
    rw [s0 g h fl Y h4]
    unfold fM_next_127
    rw [yv_i Y 20 rfl, b1_s, h6, yv_11 Y, b1_s, zqo_ge _ _ (by omega) (by omega), decide_eq_true (by omega), cond_true]
  | succ c ih =>
    intro f p h fl Y h6 h4 h1 h2
    obtain ⟨g, rfl⟩ : ∃ g, f = g + 1 := ⟨f - 1, by omega⟩
    have l6 := Y.2.2.2.2.1.1
    have g1 := zw_gD Y.2.2.2.2.1.2 p
    have sr := yv_src Y (i := p) (by omega)
    have mb := yt_mb (yt_k ((yX G).getD p 0))
    have mb2 := yt_mb q
    have mi : yt_m (yt_k ((yX G).getD p 0)) = yt_m q ↔ yt_k ((yX G).getD p 0) = q := by
      have := yt_mi (q := yt_k ((yX G).getD p 0))
      have := yt_mi (q := q)
      rcases hq with e | e <;> subst e <;> omega
    rw [s0 g h fl Y h4]
    unfold fM_next_127
    rw [yv_i Y 20 rfl, b1_s, h6, yv_11 Y, b1_s, zqo_ge _ _ (by omega) (by omega), decide_eq_false (by omega), cond_false, zr_r7 Y.1, b1_s, b1_s, sr, b1_s, yt_sort N _ g1, b2, yv_i Y 18 rfl, b1_s, h4, zqo_ne _ _ (by omega) (by omega)]
    by_cases e : yt_k ((yX G).getD p 0) = q
    · obtain ⟨h5, e5, Y5, F5⟩ := yv_s Y 20 (by decide) ((p : Int) + 1)
      obtain ⟨h7, n7, e7, Y7, F7, p7, r7⟩ := ih g (p + 1) h5 _ Y5 (zr_us _ _ _) ((zr_un fl _ (by decide)).trans h4) (by omega) (by omega)
      refine ⟨h7, n7, ?_, Y7, zr_Ft F5 F7, ?_, fun k hk => (r7 k hk).trans (zr_un fl _ hk)⟩
      · have := mi.mpr e
        rw [decide_eq_true (by omega), Bool.not_true, cond_false, yv_i Y 20 rfl, b1_s, h6, zw_add, e5, b1_s]
        exact e7
      · rw [yt_r, if_pos e]
        exact p7
    · refine ⟨h, fl, ?_, Y, zr_Fr h, ?_, fun _ _ => rfl⟩
      · have : ¬ yt_m (yt_k ((yX G).getD p 0)) = yt_m q := fun x => e (mi.mp x)
        rw [decide_eq_false (by omega), Bool.not_false, cond_true]
      · rw [yt_r, if_neg e]
        exact h6
/-- a number's value -/
theorem yv_value {e0 : Nat} : ∀ (c f i x : Nat) (h : zH) (fl : Nat → Int), yv G h A fl a → fl 20 = (e0 : Int) → fl 18 = 3 → fl 21 = (x : Int) → i + c = e0 → e0 ≤ (yX G).length → c < f → (∀ j, i ≤ j → j < e0 → yt_k ((yX G).getD j 0) = 2) → ∃ h' fl', fM_next_207 N f 232 (Int32.ofInt (i : Int)) h = some ((), h') ∧ yv G h' A fl' a ∧ zr_F h h' ∧ fl' 21 = (yt_w (yX G) c i x : Int) ∧ ∀ k, k ≠ 21 → fl' k = fl k := by
  intro c
  induction c with
  | zero =>
    intro f i x h fl Y h6 h4 h7 h1 h8 h2 h3
    obtain ⟨g, rfl⟩ : ∃ g, f = g + 1 := ⟨f - 1, by omega⟩
    have l6 := Y.2.2.2.2.1.1
    refine ⟨h, fl, ?_, Y, zr_Fr h, h7, fun _ _ => rfl⟩
    rw [fM_next_207, yv_i Y 20 rfl, b1_s, h6, zqo_ge _ _ (by omega) (by omega), decide_eq_true (by omega), cond_true]
  | succ c ih =>
    intro f i x h fl Y h6 h4 h7 h1 h8 h2 h3
    obtain ⟨g, rfl⟩ : ∃ g, f = g + 1 := ⟨f - 1, by omega⟩
    have l6 := Y.2.2.2.2.1.1
    have sr := yv_src Y (i := i) (by omega)
    have d := yt_k2 (h3 i (Nat.le_refl i) (by omega))
    obtain ⟨h5, e5, Y5, F5⟩ := yv_s Y 21 (by decide) (10 * (x : Int) + ((yX G).getD i 0 : Int) - 48)
    obtain ⟨h9, n9, e9, Y9, F9, p9, r9⟩ := ih g (i + 1) (10 * x + ((yX G).getD i 0 - 48)) h5 _ Y5 ((zr_un fl _ (by decide)).trans h6) ((zr_un fl _ (by decide)).trans h4) (by rw [zr_us]; omega) (by omega) h8 (by omega) (fun j a b => h3 j (by omega) b)
    refine ⟨h9, n9, ?_, Y9, zr_Ft F5 F9, p9, fun k hk => (r9 k hk).trans (zr_un fl _ hk)⟩
    rw [fM_next_207, yv_i Y 20 rfl, b1_s, h6, zqo_ge _ _ (by omega) (by omega), decide_eq_false (by omega), cond_false, yv_i Y 18 rfl, b1_s, h4, show z_cmp .ne (Int32.ofInt 3) (Int32.ofInt 3) = false from rfl, cond_false, yv_i Y 21 rfl, b1_s, h7, zr_r7 Y.1, b1_s, sr, b1_s, zw_mul, zw_add, zw_sub, e5, b1_s, zh_inc]
    exact e9
/-- the token that begins at p, as the reference notes it -/
def yT (s : List Nat) (p : Nat) (fl : Nat → Int) : Prop := fl 18 = (yt_m (yt_q s p) : Int) ∧ fl 19 = (p : Int) ∧ fl 20 = (yt_e s p : Int) ∧ (yt_q s p = 2 → fl 21 = (yt_v s p : Int))
theorem yv_170 (hN : 1000 ≤ N) (Y : yv G h A fl a) {p : Nat} (h5 : fl 19 = (p : Int)) (h6 : fl 20 = (yt_e (yX G) p : Int)) (h4 : fl 18 = (yt_m (yt_k ((yX G).getD p 0)) : Int)) (hp : p < (yX G).length) : ∃ h' fl', fM_next_170 N 232 h = some ((), h') ∧ yv G h' A fl' a ∧ zr_F h h' ∧ yT (yX G) p fl' ∧ ∀ k, (k < 18 ∨ 21 < k) → fl' k = fl k := by
  have l6 := Y.2.2.2.2.1.1
  have eb := yt_eb (s := yX G) (p := p) (by omega)
  have kb := yt_kb ((yX G).getD p 0)
  have mb := yt_mb (yt_k ((yX G).getD p 0))
  have mi := yt_mi (q := yt_k ((yX G).getD p 0))
  -- with another kind than a number's, 197 ends at once
  have no : ∀ (h : zH) (fl : Nat → Int), yv G h A fl a → fl 19 = (p : Int) → fl 20 = (yt_e (yX G) p : Int) → (∃ m : Nat, fl 18 = (m : Int) ∧ m ≤ 6 ∧ m ≠ 3) → ∃ h' fl', fM_next_197 N 232 h = some ((), h') ∧ yv G h' A fl' a ∧ zr_F h h' ∧ ∀ k, k ≠ 21 → fl' k = fl k := by
    intro h fl Y h5 h6 ⟨m, h4, m6, m3⟩
    obtain ⟨h1, e1, Y1, F1⟩ := yv_s Y 21 (by decide) 0
    obtain ⟨g, hg⟩ : ∃ g, N = g + 1 := ⟨N - 1, by omega⟩
    refine ⟨h1, _, ?_, Y1, F1, fun k hk => zr_un fl _ hk⟩
    unfold fM_next_197
    rw [e1, b1_s, yv_i Y1 19 rfl, b1_s, zr_un fl _ (show (19 : Nat) ≠ 21 by decide), h5]
    generalize hM : N = M
    have e2 : fM_next_207 M (g + 1) 232 (Int32.ofInt (p : Int)) h1 = some ((), h1) := by
      rw [fM_next_207, yv_i Y1 20 rfl, b1_s, zr_un fl _ (show (20 : Nat) ≠ 21 by decide), h6, zqo_ge _ _ (by omega) (by omega), decide_eq_false (by omega), cond_false, yv_i Y1 18 rfl, b1_s, zr_un fl _ (show (18 : Nat) ≠ 21 by decide), h4, zqo_ne _ _ (by omega) (by decide), decide_eq_false (by omega), Bool.not_false, cond_true]
    rw [← hM, hg] at e2 ⊢
    exact e2
  by_cases e : yt_k ((yX G).getD p 0) = 2
  · have m3 : fl 18 = 3 := by omega
    by_cases e3 : yt_e (yX G) p - p ≤ 3
    · have q2 : yt_q (yX G) p = 2 := by
        unfold yt_q
        rw [if_neg (by omega), if_neg (by omega)]
        exact e
      obtain ⟨_, _, dg⟩ := yt_q2 q2
      obtain ⟨h1, e1, Y1, F1⟩ := yv_s Y 21 (by decide) 0
      obtain ⟨h2, n2, e2, Y2, F2, p2, r2⟩ := yv_value (N := N) (e0 := yt_e (yX G) p) (yt_e (yX G) p - p) N p 0 h1 _ Y1 ((zr_un fl _ (by decide)).trans h6) ((zr_un fl _ (by decide)).trans m3) (zr_us _ _ _) (by omega) eb.2.1 (by omega) dg
      have n2k : ∀ k, k ≠ 21 → n2 k = fl k := fun k hk => (r2 k hk).trans (zr_un fl _ hk)
      refine ⟨h2, n2, ?_, Y2, zr_Ft F1 F2, ⟨(n2k 18 (by decide)).trans (by rw [q2]; exact m3), (n2k 19 (by decide)).trans h5, (n2k 20 (by decide)).trans h6, fun _ => p2⟩, fun k hk => n2k k (by omega)⟩
      unfold fM_next_170
      rw [yv_i Y 18 rfl, b1_s, m3, show z_cmp .ne (Int32.ofInt 3) (Int32.ofInt 3) = false from rfl, cond_false, yv_i Y 20 rfl, b1_s, h6, yv_i Y 19 rfl, b1_s, h5, zw_sub, zqo_le _ _ (by omega) (by decide), decide_eq_true (by omega), cond_true]
      unfold fM_next_197
      rw [e1, b1_s, yv_i Y1 19 rfl, b1_s, zr_un fl _ (show (19 : Nat) ≠ 21 by decide), h5]
      exact e2
    · have q7 : yt_q (yX G) p = 7 := by
        unfold yt_q
        rw [if_neg (by omega), if_pos ⟨e, by omega⟩]
      obtain ⟨h1, e1, Y1, F1⟩ := yv_s Y 18 (by decide) 6
      obtain ⟨h2, n2, e2, Y2, F2, r2⟩ := no h1 _ Y1 ((zr_un fl _ (by decide)).trans h5) ((zr_un fl _ (by decide)).trans h6) ⟨6, zr_us _ _ _, Nat.le_refl 6, by decide⟩
      refine ⟨h2, n2, ?_, Y2, zr_Ft F1 F2, ⟨(r2 18 (by decide)).trans (by rw [q7, zr_us]; rfl), (r2 19 (by decide)).trans ((zr_un fl _ (by decide)).trans h5), (r2 20 (by decide)).trans ((zr_un fl _ (by decide)).trans h6), fun x => absurd (q7.symm.trans x) (by decide)⟩, fun k hk => (r2 k (by omega)).trans (zr_un fl _ (by omega))⟩
      unfold fM_next_170
      rw [yv_i Y 18 rfl, b1_s, m3, show z_cmp .ne (Int32.ofInt 3) (Int32.ofInt 3) = false from rfl, cond_false, yv_i Y 20 rfl, b1_s, h6, yv_i Y 19 rfl, b1_s, h5, zw_sub, zqo_le _ _ (by omega) (by decide), decide_eq_false (by omega), cond_false, e1, b1_s]
      exact e2
  · have q : yt_q (yX G) p = yt_k ((yX G).getD p 0) := by
      unfold yt_q
      rw [if_neg (by omega), if_neg (fun x => e x.1)]
    obtain ⟨h2, n2, e2, Y2, F2, r2⟩ := no h fl Y h5 h6 ⟨_, h4, mb, by omega⟩
    refine ⟨h2, n2, ?_, Y2, F2, ⟨(r2 18 (by decide)).trans (by rw [q]; exact h4), (r2 19 (by decide)).trans h5, (r2 20 (by decide)).trans h6, fun x => absurd (q.symm.trans x) e⟩, fun k hk => r2 k (by omega)⟩
    unfold fM_next_170
    rw [yv_i Y 18 rfl, b1_s, h4, zqo_ne _ _ (by omega) (by decide), decide_eq_false (by omega), Bool.not_false, cond_true]
    exact e2
theorem yv_60 (hN : 1000 ≤ N) (Y : yv G h A fl a) {p : Nat} (h6 : fl 19 = (p : Int)) (hp : p ≤ (yX G).length) : ∃ h' fl', fM_next_60 N 232 h = some ((), h') ∧ yv G h' A fl' a ∧ zr_F h h' ∧ yT (yX G) p fl' ∧ ∀ k, (k < 18 ∨ 21 < k) → fl' k = fl k := by
  have l6 := Y.2.2.2.2.1.1
  obtain ⟨h1, e1, Y1, F1⟩ := yv_s Y 20 (by decide) (p : Int)
  have m19 : zr_u fl 20 (p : Int) 19 = (p : Int) := (zr_un fl _ (by decide)).trans h6
  unfold fM_next_60
  rw [yv_i Y 19 rfl, b1_s, h6, e1, b1_s, yv_i Y1 19 rfl, b1_s, m19, yv_11 Y1, b1_s, zqo_ne _ _ (by omega) (by omega)]
  by_cases e : (yX G).length ≤ p
  · obtain ⟨h2, e2, Y2, F2⟩ := yv_s Y1 18 (by decide) 0
    have q0 : yt_q (yX G) p = 0 := (yt_q0 hp).mpr (by omega)
    have ee : yt_e (yX G) p = p := by
      unfold yt_e
      rw [if_pos e]
    refine ⟨h2, _, ?_, Y2, zr_Ft F1 F2, ⟨?_, ?_, ?_, fun x => absurd (q0.symm.trans x) (by decide)⟩, fun k hk => ?_⟩
    · rw [decide_eq_true (by omega), Bool.not_true, cond_false, e2, b1_s]
    · rw [q0]
      exact zr_us _ _ _
    · rw [zr_un _ _ (show (19 : Nat) ≠ 18 by decide)]
      exact m19
    · rw [zr_un _ _ (show (20 : Nat) ≠ 18 by decide), zr_us, ee]
    · rw [zr_un _ _ (show k ≠ 18 by omega), zr_un _ _ (show k ≠ 20 by omega)]
  · have kb := yt_kb ((yX G).getD p 0)
    have mb := yt_mb (yt_k ((yX G).getD p 0))
    have mi := yt_mi (q := yt_k ((yX G).getD p 0))
    have g1 := zw_gD Y.2.2.2.2.1.2 p
    obtain ⟨h2, e2, Y2, F2⟩ := yv_s Y1 18 (by decide) (yt_m (yt_k ((yX G).getD p 0)) : Int)
    obtain ⟨h3, e3, Y3, F3⟩ := yv_s Y2 20 (by decide) ((p : Int) + 1)
    generalize hf : zr_u (zr_u (zr_u fl 20 (p : Int)) 18 (yt_m (yt_k ((yX G).getD p 0)) : Int)) 20 ((p : Int) + 1) = f3 at Y3
    have n18 : f3 18 = (yt_m (yt_k ((yX G).getD p 0)) : Int) := by rw [← hf, zr_un _ _ (show (18 : Nat) ≠ 20 by decide), zr_us]
    have n19 : f3 19 = (p : Int) := by
      rw [← hf, zr_un _ _ (show (19 : Nat) ≠ 20 by decide), zr_un _ _ (show (19 : Nat) ≠ 18 by decide)]
      exact m19
    have n20 : f3 20 = (p : Int) + 1 := by rw [← hf, zr_us]
    have nk : ∀ k, (k < 18 ∨ 21 < k) → f3 k = fl k := fun k hk => by rw [← hf, zr_un _ _ (show k ≠ 20 by omega), zr_un _ _ (show k ≠ 18 by omega), zr_un _ _ (show k ≠ 20 by omega)]
    have s1 : ∀ g : zH → Option (Unit × zH), (b1 (fR h1 232 5 7) fun x9 => b1 (fI h1 232 5 19) fun x10 => b1 (fAI h1 x9 100 x10) fun x11 => b2 (fM_sortOf N x11 h1) fun x12 h13 => b1 (fS h13 232 5 18 (.int x12)) fun h14 => b1 (fI h14 232 5 20) fun x15 => b1 (fS h14 232 5 20 (.int (x15 + (Int32.ofInt 1)))) g) = g h3 := fun g => by
      rw [zr_r7 Y1.1, b1_s, yv_i Y1 19 rfl, b1_s, m19, yv_src Y1 (by omega), b1_s, yt_sort N _ g1, b2, e2, b1_s, yv_i Y2 20 rfl, b1_s, zr_un _ _ (show (20 : Nat) ≠ 18 by decide), zr_us, zw_add, e3, b1_s]
    have s2 := s1 (fun h16 => fM_next_111 N N 232 h16)
    rw [yv_i Y1 19 rfl, m19] at s2
    rw [decide_eq_false (by omega), Bool.not_false, cond_true, s2]
    by_cases ek : yt_k ((yX G).getD p 0) = 1 ∨ yt_k ((yX G).getD p 0) = 2
    · obtain ⟨h4, m4, e4, Y4, F4, p4, r4⟩ := yv_more (N := N) ek ((yX G).length - (p + 1)) N (p + 1) h3 _ Y3 (by rw [n20]; omega) n18 (by omega) (by omega)
      have ee : yt_e (yX G) p = yt_r (yX G) (yt_k ((yX G).getD p 0)) ((yX G).length - (p + 1)) (p + 1) := by
        unfold yt_e
        rw [if_neg e, if_pos ek]
      obtain ⟨h5, m5, e5, Y5, F5, T5, K5⟩ := yv_170 hN Y4 (p := p) ((r4 19 (by decide)).trans n19) (by rw [ee]; exact p4) ((r4 18 (by decide)).trans n18) (by omega)
      exact ⟨h5, m5, by rw [e4, e5], Y5, zr_Ft F1 (zr_Ft F2 (zr_Ft F3 (zr_Ft F4 F5))), T5, fun k hk => (K5 k hk).trans ((r4 k (by omega)).trans (nk k hk))⟩
    · obtain ⟨g, hg⟩ : ∃ g, N = g + 1 := ⟨N - 1, by omega⟩
      have s3 : fM_next_111 N N 232 h3 = fM_next_170 N 232 h3 := by
        generalize hM : fM_next_170 N 232 h3 = R
        rw [hg, fM_next_111, ← hg, hM, yv_i Y3 18 rfl, b1_s, n18, zqo_eq _ _ (by omega) (by decide), decide_eq_false (by omega), cond_false, b1_s, zqo_ne _ _ (by omega) (by decide), decide_eq_false (by omega), Bool.not_false, cond_true]
      have ee : yt_e (yX G) p = p + 1 := by
        unfold yt_e
        rw [if_neg e, if_neg ek]
      obtain ⟨h5, m5, e5, Y5, F5, T5, K5⟩ := yv_170 hN Y3 (p := p) n19 (by rw [ee, n20]; omega) n18 (by omega)
      exact ⟨h5, m5, by rw [s3, e5], Y5, zr_Ft F1 (zr_Ft F2 (zr_Ft F3 F5)), T5, fun k hk => (K5 k hk).trans (nk k hk)⟩
/-- the next token -/
theorem yv_next (hN : 1000 ≤ N) (Y : yv G h A fl a) {p : Nat} (h6 : fl 20 = (p : Int)) (hp : p ≤ (yX G).length) : ∃ h' fl', fM_next N 232 h = some ((), h') ∧ yv G h' A fl' a ∧ zr_F h h' ∧ yT (yX G) (yt_s (yX G) p) fl' ∧ ∀ k, (k < 18 ∨ 21 < k) → fl' k = fl k := by
  have l6 := Y.2.2.2.2.1.1
  obtain ⟨h0, e0, Y0, F0⟩ := yv_s Y 19 (by decide) (p : Int)
  obtain ⟨h1, n1, e1, Y1, F1, p1, r1⟩ := yv_skip (N := N) ((yX G).length - p) N p h0 _ Y0 (zr_us _ _ _) (by omega) (by omega)
  obtain ⟨h2, n2, e2, Y2, F2, T2, k2⟩ := yv_60 hN Y1 (p := yt_s (yX G) p) p1 (yt_sb hp).2
  refine ⟨h2, n2, ?_, Y2, zr_Ft F0 (zr_Ft F1 F2), T2, fun k hk => (k2 k hk).trans ((r1 k (by omega)).trans (zr_un fl _ (by omega)))⟩
  unfold fM_next
  rw [yv_T Y, cond_true, yv_i Y 20 rfl, b1_s, h6, e0, b1_s, e1, e2]
end YVA
end
section
/-! THE REFERENCE'S SCRIPT: what its commands do to w. -/
/-- nothing but w and scratch has changed -/
def yQ (fl : Nat → Int) (a : Nat → Nat → Int) (fl' : Nat → Int) (a' : Nat → Nat → Int) : Prop := (∀ k, k ≠ 14 → fl' k = fl k) ∧ ∀ p i, p ≠ 233 → p ≠ 239 → p ≠ 240 → a' p i = a p i
theorem yQ_r (fl : Nat → Int) (a : Nat → Nat → Int) : yQ fl a fl a := ⟨fun _ _ => rfl, fun _ _ _ _ _ => rfl⟩
theorem yQ_t {f1 f2 f3 : Nat → Int} {a1 a2 a3 : Nat → Nat → Int} (x : yQ f1 a1 f2 a2) (y : yQ f2 a2 f3 a3) : yQ f1 a1 f3 a3 := ⟨fun k hk => (y.1 k hk).trans (x.1 k hk), fun p i h1 h2 h3 => (y.2 p i h1 h2 h3).trans (x.2 p i h1 h2 h3)⟩
theorem yQ_of {fl fl' : Nat → Int} {a a' : Nat → Nat → Int} (q : zr_Q fl a fl' a') : yQ fl a fl' a' := ⟨q.1, fun p i _ h2 h3 => q.2 p i h2 h3⟩
section YVB
variable {N : Nat} {G : yH} {h h' : zH} {A : zA} {fl fl' : Nat → Int} {a a' : Nat → Nat → Int} {T : List Nat}
theorem yv_op {A' : zA} (Y : yv G h A fl a) (H : zr h' fl' a') (Q : yQ fl a fl' a') (n : zy_is (a' 233) A') (ok : zv_ok A') : yv G h' A' fl' a' := by
  obtain ⟨y1, R, y3, y4, y5, y6⟩ := Y
  have R' := zyR_a R (fl' := fl') (a' := a') (fun k hk => Q.1 k (by omega)) (fun p i hp => Q.2 p i (by omega) (by omega) (by omega)) n
  have e12 : fl' 12 = fl 12 := Q.1 12 (by decide)
  have e13 : fl' 13 = fl 13 := Q.1 13 (by decide)
  refine ⟨H, ?_, ?_, ⟨(Q.1 11 (by decide)).trans y4.1, fun i hi => (Q.2 238 i (by decide) (by decide) (by decide)).trans (y4.2 i hi)⟩, y5, ok⟩
  · rw [e12, e13]
    exact R'
  · rw [show a' 234 = a 234 from funext fun i => Q.2 234 i (by decide) (by decide) (by decide)]
    exact y3
theorem yv_Q (Y : yv G h A fl a) (H : zr h' fl' a') (Q : zr_Q fl a fl' a') : yv G h' A fl' a' := by
  refine yv_op Y H (yQ_of Q) ?_ Y.2.2.2.2.2
  rw [show a' 233 = a 233 from funext fun i => Q.2 233 i (by decide) (by decide)]
  exact Y.2.1.1
theorem yv_tx (Y : yv G h A fl a) : zr_tx a A.2.1 := zyR_tx Y.2.1
theorem yv_ok (Y : yv G h A fl a) : zv_ok A := Y.2.2.2.2.2
theorem yv_takes (hN : 1000 ≤ N) (Y : yv G h A fl a) (r : zr_rw fl a T) (hL : T.length ≤ 120) (hT : zv_L A T) : ∃ h' a', fM_takes N 232 h = some (Int32.ofInt (T.length : Int), h') ∧ yv G h' (A.1, T, A.2.2) fl a' ∧ zr_F h h' ∧ yQ fl a fl a' := by
  have ok := yv_ok Y
  obtain ⟨h1, a1, e1, H1, F1, p1, t1⟩ := zr_takes hN Y.1 r hL
  have Q : yQ fl a fl a1 := ⟨fun _ _ => rfl, fun p i h1 _ _ => p1 p i (Or.inl h1)⟩
  exact ⟨h1, a1, e1, yv_op Y H1 Q (zy_isT Y.2.1.1 t1.1 t1.2 (fun j h3 h4 => p1 233 j (Or.inr ⟨h3, h4⟩))) ⟨ok.1, hL, hT, ok.2.2.2⟩, F1, Q⟩
theorem yv_factors (hN : 1000 ≤ N) (Y : yv G h A fl a) : ∃ h' fl' a', fM_factors N 232 h = some (Int32.ofInt ((zw_fs A.2.1).length : Int), h') ∧ yv G h' A fl' a' ∧ zr_F h h' ∧ yQ fl a fl' a' ∧ zr_fs a' A.2.1 := by
  have ok := yv_ok Y
  obtain ⟨h2, f2, a2, e2, H2, F2, Q2, _, S2⟩ := zr_factors hN Y.1 (yv_tx Y) ⟨by have := ok.2.1; omega, zv_256 ok⟩ ok.2.1
  exact ⟨h2, f2, a2, e2, yv_Q Y H2 Q2, F2, yQ_of Q2, S2⟩
theorem yv_drops (hN : 1000 ≤ N) (Y : yv G h A fl a) (x : Nat) (hx : x ≤ A.2.1.length) : ∃ r h' fl' a', fM_drops N 232 (Int32.ofInt (x : Int)) h = some (r, h') ∧ yv G h' (A.1, A.2.1.take (A.2.1.length - x), A.2.2) fl' a' ∧ zr_F h h' ∧ yQ fl a fl' a' := by
  have ok := yv_ok Y
  have o2 := ok.2.1
  obtain ⟨h1, f1, a1, e1, H1, F1, Q1, r1⟩ := zr_loads hN Y.1 (yv_tx Y) o2
  obtain ⟨h2, e2, H2, F2⟩ := zr_s H1 14 rfl ((A.2.1.length - x : Nat) : Int)
  have Q : zr_Q fl a (zr_u f1 14 ((A.2.1.length - x : Nat) : Int)) a1 := ⟨fun k hk => (if_neg hk).trans (Q1.1 k hk), Q1.2⟩
  have Y2 := yv_Q Y H2 Q
  have hl : (A.2.1.take (A.2.1.length - x)).length = A.2.1.length - x := by
    rw [List.length_take]
    omega
  obtain ⟨h3, a3, e3, Y3, F3, Q3⟩ := yv_takes hN Y2 (T := A.2.1.take (A.2.1.length - x)) ⟨by rw [hl]; rfl, fun i hi => by
    rw [hl] at hi
    rw [zr_tl _ hi]
    exact r1.2 i (by omega)⟩ (by omega) (fun u hu => ok.2.2.1 u (List.mem_of_mem_take hu))
  obtain ⟨h4, f4, a4, e4, Y4, F4, Q4, _⟩ := yv_factors hN Y3
  refine ⟨Int32.ofInt ((zw_fs (A.2.1.take (A.2.1.length - x))).length : Int), h4, f4, a4, ?_, Y4, zr_Ft F1 (zr_Ft F2 (zr_Ft F3 F4)), yQ_t (yQ_of Q) (yQ_t Q3 Q4)⟩
  · unfold fM_drops
    rw [yv_T Y, cond_true, e1, b2, zr_i H1 14 rfl, b1_s, r1.1, zw_sub, show (A.2.1.length : Int) - (x : Int) = ((A.2.1.length - x : Nat) : Int) by omega, e2, b1_s, e3, b2, e4]
    rfl
theorem yv_turns (hN : 1000 ≤ N) (Y : yv G h A fl a) (x : Nat) (hx : x ≤ A.2.1.length) : ∃ r h' fl' a', fM_turns N 232 (Int32.ofInt (x : Int)) h = some (r, h') ∧ yv G h' (A.1, zw_trn A.2.1 x, A.2.2) fl' a' ∧ zr_F h h' ∧ yQ fl a fl' a' := by
  have ok := yv_ok Y
  have o2 := ok.2.1
  have tx := yv_tx Y
  have g1 : fAI h 233 100 (Int32.ofInt 1) = some (Int32.ofInt (a 233 1)) := zr_w Y.1 1 (by decide)
  have hl := zw_trnl A.2.1 x
  unfold fM_turns
  rw [yv_T Y, cond_true, zr_r0 Y.1, b1_s, g1, b1_s, tx.1, zqo_le _ _ (by omega) (by decide)]
  by_cases e : A.2.1.length = 0
  · rw [decide_eq_true (by omega), cond_true]
    have e1 : A.2.1 = [] := List.eq_nil_of_length_eq_zero e
    have e2 : zw_trn A.2.1 x = A.2.1 := by
      rw [List.eq_nil_of_length_eq_zero (hl.trans e), e1]
    obtain ⟨h2, f2, a2, e3, Y2, F2, Q2, _⟩ := yv_factors hN Y
    rw [e2]
    refine ⟨Int32.ofInt ((zw_fs A.2.1).length : Int), h2, f2, a2, ?_, Y2, F2, Q2⟩
    · unfold fM_turns_19
      rw [e3]
      rfl
  · rw [decide_eq_false (by omega), cond_false]
    obtain ⟨h1, f1, a1, e1, H1, F1, Q1, r1⟩ := zr_rotated hN Y.1 tx o2 hx
    have Y1 := yv_Q Y H1 Q1
    obtain ⟨h3, a3, e3, Y3, F3, Q3⟩ := yv_takes hN Y1 r1 (by omega) (zv_trnL ok.2.2.1 hx)
    obtain ⟨h4, f4, a4, e4, Y4, F4, Q4, _⟩ := yv_factors hN Y3
    refine ⟨Int32.ofInt ((zw_fs (zw_trn A.2.1 x)).length : Int), h4, f4, a4, ?_, Y4, zr_Ft F1 (zr_Ft F3 F4), yQ_t (yQ_of Q1) (yQ_t Q3 Q4)⟩
    · rw [e1, b2, e3, b2]
      unfold fM_turns_19
      rw [e4]
      rfl
theorem yv_least (hN : 1000 ≤ N) (Y : yv G h A fl a) (hn : 0 < A.2.1.length) : ∃ r h' fl' a', fM_turnsToLeast N 232 h = some (r, h') ∧ yv G h' (A.1, zw_trn A.2.1 (zm_least A.2.1), A.2.2) fl' a' ∧ zr_F h h' ∧ yQ fl a fl' a' := by
  have ok := yv_ok Y
  have hl : zm_least A.2.1 < A.2.1.length := (zm_leastM hn).1
  obtain ⟨r, h1, f1, a1, e1, Y1, F1, Q1⟩ := yv_turns hN Y (zm_least A.2.1) (by omega)
  refine ⟨Int32.ofInt ((zm_least A.2.1 : Nat) : Int), h1, f1, a1, ?_, Y1, F1, Q1⟩
  · unfold fM_turnsToLeast
    rw [yv_T Y, cond_true, zr_least hN Y.1 (yv_tx Y) ok.2.1 (zv_256 ok) hn, b2, e1]
    rfl
theorem yv_parts (hN : 1000 ≤ N) (Y : yv G h A fl a) (x y : Nat) (hxy : x ≤ y) (hy : y ≤ A.2.1.length) : ∃ r h' fl' a', fM_parts N 232 (Int32.ofInt (x : Int)) (Int32.ofInt (y : Int)) h = some (r, h') ∧ yv G h' (A.1, zw_p A.2.1 x y, A.2.2) fl' a' ∧ zr_F h h' ∧ yQ fl a fl' a' := by
  have ok := yv_ok Y
  have o2 := ok.2.1
  have tx := yv_tx Y
  have hl := zw_pl A.2.1 x y hy
  obtain ⟨h1, e1, H1, F1⟩ := zr_s Y.1 14 rfl ((y - x : Nat) : Int)
  obtain ⟨h2, a2, H2, F2, p2, r2, d2⟩ := zr_parts9 (N := N) tx o2 hxy hy (fl := zr_u fl 14 ((y - x : Nat) : Int)) rfl (y - x) N x h1 a H1 (fun _ _ _ => rfl) (by omega) (Nat.le_refl _) (by omega) (fun j hj => absurd hj (by omega))
  have Q : zr_Q fl a (zr_u fl 14 ((y - x : Nat) : Int)) a2 := ⟨fun k hk => if_neg hk, fun p i h3 h4 => p2 p i h3⟩
  have Y2 := yv_Q Y H2 Q
  obtain ⟨h3, a3, e3, Y3, F3, Q3⟩ := yv_takes hN Y2 (T := zw_p A.2.1 x y) ⟨by rw [hl]; rfl, fun i hi => by
    rw [hl] at hi
    rw [r2 i hi, zw_pd hi]⟩ (by omega) (fun u hu => ok.2.2.1 u (List.mem_of_mem_drop (List.mem_of_mem_take hu)))
  refine ⟨Int32.ofInt ((zw_p A.2.1 x y).length : Int), h3, _, a3, ?_, Y3, zr_Ft F1 (zr_Ft F2 F3), yQ_t (yQ_of Q) Q3⟩
  · unfold fM_parts
    rw [yv_T Y, cond_true, zw_sub, show (y : Int) - (x : Int) = ((y - x : Nat) : Int) by omega, e1, b1_s]
    exact d2 _ _ e3
theorem yv_mirrors (hN : 1000 ≤ N) (Y : yv G h A fl a) : ∃ r h' fl' a', fM_mirrors N 232 h = some (r, h') ∧ yv G h' (A.1, zw_mir A.2.1 0 A.2.1.length, A.2.2) fl' a' ∧ zr_F h h' ∧ yQ fl a fl' a' := by
  have ok := yv_ok Y
  have o2 := ok.2.1
  have tx := yv_tx Y
  have g1 : fAI h 233 100 (Int32.ofInt 1) = some (Int32.ofInt (a 233 1)) := zr_w Y.1 1 (by decide)
  have hl := zm_mirl A.2.1 0 A.2.1.length
  obtain ⟨h1, e1, H1, F1⟩ := zr_s Y.1 14 rfl (A.2.1.length : Int)
  obtain ⟨h2, a2, H2, F2, p2, r2, d2⟩ := zr_mirrors12 (N := N) tx o2 (fl := zr_u fl 14 (A.2.1.length : Int)) rfl A.2.1.length N 0 h1 a H1 (fun _ _ _ => rfl) (by omega) (by omega) (fun j hj => absurd hj (Nat.not_lt_zero j))
  have Q : zr_Q fl a (zr_u fl 14 (A.2.1.length : Int)) a2 := ⟨fun k hk => if_neg hk, fun p i h3 h4 => p2 p i h3⟩
  have Y2 := yv_Q Y H2 Q
  obtain ⟨h3, a3, e3, Y3, F3, Q3⟩ := yv_takes hN Y2 (T := zw_mir A.2.1 0 A.2.1.length) ⟨by rw [hl]; rfl, fun i hi => by
    rw [hl] at hi
    rw [r2 i hi, zm_rev hi]⟩ (by omega) (zm_mem (P := fun v => 97 ≤ v ∧ v < 97 + A.1) (fun j hj => by
    rw [zm_mirl] at hj
    rw [zm_rev hj]
    exact zm_get (P := fun v => 97 ≤ v ∧ v < 97 + A.1) ok.2.2.1 (by omega)))
  obtain ⟨h4, f4, a4, e4, Y4, F4, Q4, _⟩ := yv_factors hN Y3
  refine ⟨Int32.ofInt ((zw_fs (zw_mir A.2.1 0 A.2.1.length)).length : Int), h4, f4, a4, ?_, Y4, zr_Ft F1 (zr_Ft F2 (zr_Ft F3 F4)), yQ_t (yQ_of Q) (yQ_t Q3 Q4)⟩
  · unfold fM_mirrors
    rw [yv_T Y, cond_true, zr_r0 Y.1, b1_s, g1, b1_s, tx.1, e1, b1_s]
    exact d2 _ _ _ _ e3 e4
theorem yv_hasNext (hN : 1000 ≤ N) (Y : yv G h A fl a) {m : Nat} (hm : m ≤ 120) : ∃ h' fl' a', fM_hasNext N 232 (Int32.ofInt (m : Int)) h = some (cond (zs_hn A.1 A.2.1 (m : Int)) (Int32.ofInt 1) (Int32.ofInt 0), h') ∧ yv G h' A fl' a' ∧ zr_F h h' ∧ yQ fl a fl' a' := by
  have ok := yv_ok Y
  have o2 := ok.2.1
  have o1 := ok.1
  obtain ⟨h1, f1, a1, e1, H1, F1, Q1, _⟩ := zr_why hN Y.1 (yv_tx Y) o2 (zv_256 ok)
  have Y1 := yv_Q Y H1 Q1
  have g1 : fAI h1 233 100 (Int32.ofInt 1) = some (Int32.ofInt (a1 233 1)) := zr_w H1 1 (by decide)
  have wb : zc_why A.2.1 = 0 ∨ zc_why A.2.1 = 1 ∨ zc_why A.2.1 = 2 ∨ zc_why A.2.1 = 3 := by
    unfold zc_why
    repeat' split
    all_goals omega
  unfold fM_hasNext
  rw [yv_T Y, cond_true, e1, b2, zqo_ne _ _ (by omega) (by decide)]
  unfold zs_hn
  by_cases e : zc_why A.2.1 = 0
  · have w := zm_why0.mp e
    rw [decide_eq_true e, Bool.not_true, cond_false, zr_r0 H1, b1_s, g1, b1_s, Y1.2.1.1.2.1, zqo_le _ _ (by omega) (by omega)]
    by_cases em : A.2.1.length ≤ m
    · obtain ⟨h2, f2, a2, e2, H2, F2, Q2, r2, l2⟩ := zr_nexts (N := N) hN H1 (yv_tx Y1) o2 (zv_256 ok) w.1 o1 Y1.2.1.1.1 em hm
      have hb := zw_spl (zw_xt A.2.1.length (m - A.2.1.length) A.2.1) (97 + A.1 - 1) m m
      have hh := zm_hn (g := A.1) w.1 w.2 em (fun v hv => (ok.2.2.1 v hv).2) o1.1
      refine ⟨h2, f2, a2, ?_, yv_Q Y1 H2 Q2, zr_Ft F1 F2, yQ_of (zr_Qt Q1 Q2)⟩
      rw [decide_eq_true (by omega : (A.2.1.length : Int) ≤ (m : Int)), cond_true, e2, b2, zr_i H2 14 rfl, b1_s, r2.1, l2, zqo_le _ _ (by omega) (by decide), decide_eq_true w]
      by_cases e3 : A.2.1.getD 0 0 = 97 + A.1 - 1
      · have : ¬ 0 < zw_sp (zw_xt A.2.1.length (m - A.2.1.length) A.2.1) (97 + A.1 - 1) m m := fun x => hh.mp x e3
        rw [decide_eq_true (by omega), decide_eq_true e3]
        rfl
      · have := hh.mpr e3
        rw [decide_eq_false (by omega), decide_eq_false e3]
        rfl
    · refine ⟨h1, f1, a1, ?_, Y1, F1, yQ_of Q1⟩
      rw [decide_eq_false (by omega : ¬ (A.2.1.length : Int) ≤ (m : Int))]
      rfl
  · refine ⟨h1, f1, a1, ?_, Y1, F1, yQ_of Q1⟩
    rw [decide_eq_false e, decide_eq_false (fun x => e (zm_why0.mpr x)), Bool.not_false, cond_true, Bool.false_and, Bool.and_false]
    rfl
theorem yv_goesOn (hN : 1000 ≤ N) (Y : yv G h A fl a) {v : Nat} (hv : v ≤ 120) (hn : zs_hn A.1 A.2.1 (v : Int) = true) : ∃ r h' fl' a', fM_goesOn N 232 (Int32.ofInt (v : Int)) h = some (r, h') ∧ yv G h' (A.1, zw_nx A.2.1 v (97 + A.1 - 1), A.2.2) fl' a' ∧ zr_F h h' ∧ yQ fl a fl' a' := by
  have ok := yv_ok Y
  have o1 := ok.1
  have b' := hn
  unfold zs_hn at b'
  rw [Bool.and_eq_true, Bool.and_eq_true] at b'
  have q1 := of_decide_eq_true b'.1
  have q2 := of_decide_eq_true b'.2.1
  have x1 := zm_nx (T := A.2.1) (m := v) (g := 97 + A.1 - 1) q2.1 (by omega)
  obtain ⟨h3, f3, a3, e4, H3, F3, Q3, r3, l3⟩ := zr_nexts (N := N) (by omega) Y.1 (yv_tx Y) ok.2.1 (zv_256 ok) q2.1 o1 Y.2.1.1.1 (m := v) (by omega) hv
  have Y3 := yv_Q Y H3 Q3
  obtain ⟨h4, a4, e5, Y4, F4, Q4⟩ := yv_takes (N := N) (by omega) Y3 r3 (by omega) (zm_mem (P := fun u => 97 ≤ u ∧ u < 97 + A.1) (fun j hj => by
    rw [x1.2.1] at hj
    rw [x1.2.2.1 j hj]
    have a1 := zm_cget (P := fun u => 97 ≤ u ∧ u < 97 + A.1) ok.2.2.1 q2.1 j
    by_cases e6 : j = zm_nr A.2.1 v (97 + A.1 - 1) - 1
    · rw [if_pos e6]
      rcases x1.2.2.2 with x2 | x2
      · omega
      · rw [← e6] at x2
        omega
    · rw [if_neg e6]
      exact a1))
  refine ⟨Int32.ofInt ((zw_nx A.2.1 v (97 + A.1 - 1)).length : Int), h4, f3, a4, ?_, Y4, zr_Ft F3 F4, yQ_t (yQ_of Q3) Q4⟩
  · unfold fM_goesOn
    rw [yv_T Y, cond_true, e4, b2, e5]
    rfl
theorem yv_shelves (hN : 1000 ≤ N) (Y : yv G h A fl a) (b n : Nat) (hb : b + n ≤ A.2.1.length) (hn : 1 ≤ n ∧ n ≤ 40) (hK : A.2.2.length < 8) : ∃ r h' a', fM_shelves N 232 (Int32.ofInt (b : Int)) (Int32.ofInt (n : Int)) h = some (r, h') ∧ yv G h' (A.1, A.2.1, A.2.2 ++ [zw_p A.2.1 b (b + n)]) fl a' ∧ zr_F h h' ∧ yQ fl a fl a' := by
  have ok := yv_ok Y
  have H := Y.1
  have o2 := ok.2.1
  have g1 : fAI h 233 100 (Int32.ofInt 2) = some (Int32.ofInt (a 233 2)) := zr_w H 2 (by decide)
  have n2 := Y.2.1.1.2.2.2.1
  obtain ⟨h1, e1, H1, F1⟩ := zr_p H 233 (123 + A.2.2.length) (by decide) (by decide) (by show 123 + A.2.2.length < 451; omega) (n : Int)
  obtain ⟨h2, a2, e2, H2, F2, p2, q2, r2⟩ := zr_shelves32 (N := N) hK hn.2 hb o2 (a0 := zr_v a 233 (123 + A.2.2.length) (n : Int)) (fun i hi => (zr_vn a _ (Or.inr (by omega))).trans (Y.2.1.1.2.2.1 i hi)) ((zr_vn a _ (Or.inr (by omega))).trans n2) n N 0 h1 _ H1 (Nat.zero_add _) (by omega) (fun _ _ _ => rfl) (fun j hj => absurd hj (Nat.not_lt_zero j))
  have hl : (zw_p A.2.1 b (b + n)).length = n := by
    rw [zw_pl _ _ _ hb]
    omega
  have n3 : zy_is (a2 233) (A.1, A.2.1, A.2.2 ++ [zw_p A.2.1 b (b + n)]) := zy_isS ok Y.2.1.1 hK q2 (by rw [p2 233 _ (Or.inr (by omega)), zr_vs, hl]) (fun i hi => by
    rw [hl] at hi
    rw [r2 i hi, zw_pd (by omega)]) (fun j j1 j2 j3 => (p2 233 j (Or.inr ⟨j3, j1⟩)).trans (zr_vn a _ (Or.inr j2)))
  have g2 : ∀ p i, p ≠ 233 → a2 p i = a p i := fun p i hp => (p2 p i (Or.inl hp)).trans (zr_vn a _ (Or.inl hp))
  have Q : yQ fl a fl a2 := ⟨fun _ _ => rfl, fun p i h1 _ _ => g2 p i h1⟩
  refine ⟨Int32.ofInt ((A.2.2.length + 1 : Nat) : Int), h2, a2, ?_, yv_op Y H2 Q n3 ⟨ok.1, ok.2.1, ok.2.2.1, ?_, fun w hw => ?_⟩, zr_Ft F1 F2, Q⟩
  · unfold fM_shelves
    rw [zr_T H, cond_true, zr_r0 H, b1_s, g1, b1_s, b1_s, b1_s, g1, b1_s, n2, zw_add]
    have e1 : fAS h 233 100 (Int32.ofInt (123 + (A.2.2.length : Int))) (.int (Int32.ofInt (n : Int))) = some h1 := e1
    rw [e1, b1_s, show Int32.ofInt 131 + Int32.ofInt 40 * Int32.ofInt (A.2.2.length : Int) = Int32.ofInt ((131 + 40 * A.2.2.length : Nat) : Int) from (by rw [← Int32.ofInt_mul, ← Int32.ofInt_add]; rfl)]
    exact e2
  · show (A.2.2 ++ [zw_p A.2.1 b (b + n)]).length ≤ 8
    rw [List.length_append]
    show A.2.2.length + 1 ≤ 8
    omega
  · have hw : w ∈ A.2.2 ++ [zw_p A.2.1 b (b + n)] := hw
    rw [List.mem_append, List.mem_singleton] at hw
    rcases hw with hw | hw
    · exact ok.2.2.2.2 w hw
    · rw [hw]
      exact ⟨by omega, by omega, fun v hv => ok.2.2.1 v (List.mem_of_mem_drop (List.mem_of_mem_take hv))⟩
theorem yv_keepsFactor (hN : 1000 ≤ N) (Y : yv G h A fl a) {k b : Nat} (hk : k < (zw_fs A.2.1).length) (hb : zw_bF A.2.1 (k : Int) = (b : Int)) (h40 : zw_lE A.2.1 b - b ≤ 40) (hK : A.2.2.length < 8) : ∃ r h' fl' a', fM_keepsFactor N 232 (Int32.ofInt (k : Int)) h = some (r, h') ∧ yv G h' (A.1, A.2.1, A.2.2 ++ [zw_p A.2.1 b (zw_lE A.2.1 b)]) fl' a' ∧ zr_F h h' ∧ yQ fl a fl' a' := by
  have ok := yv_ok Y
  have o2 := ok.2.1
  have o5 := zm_fsl A.2.1
  obtain ⟨h1, f1, a1, e1, Y1, F1, Q1, S⟩ := yv_factors hN Y
  have H := Y1.1
  obtain ⟨b', b1, b2', b3, b4, b5, b6⟩ := zr_fk S hk
  have eb : b' = b := by omega
  subst eb
  obtain ⟨r, h2, a2, e2, Y2, F2, Q2⟩ := yv_shelves (N := N) hN Y1 b' (zw_lE A.2.1 b' - b') (by omega) (by omega) hK
  rw [show b' + (zw_lE A.2.1 b' - b') = zw_lE A.2.1 b' by omega] at Y2
  refine ⟨r, h2, f1, a2, ?_, Y2, zr_Ft F1 F2, yQ_t Q1 Q2⟩
  have g3 : fAI h1 240 100 (Int32.ofInt ((k : Int) + 1)) = some (Int32.ofInt (a1 240 (k + 1))) := zr_st H (k + 1) (by omega)
  unfold fM_keepsFactor
  rw [yv_T Y, cond_true, e1, b2, zr_r9 H, b1_s, zr_st H k (by omega), b1_s, b1_s, zw_add, g3, b1_s, b1_s, zr_st H k (by omega), b1_s, b3, b4, zw_sub, show (zw_lE A.2.1 b' : Int) - (b' : Int) = ((zw_lE A.2.1 b' - b' : Nat) : Int) by omega, e2]
  rfl
theorem yv_removes (hN : 1000 ≤ N) (Y : yv G h A fl a) {v : Nat} (hv : v < A.2.2.length) : ∃ r h' a', fM_removes N 232 (Int32.ofInt (v : Int)) h = some (r, h') ∧ yv G h' (A.1, A.2.1, A.2.2.eraseIdx v) fl a' ∧ zr_F h h' ∧ yQ fl a fl a' := by
  have ok := yv_ok Y
  have o4 := ok.2.2.2.1
  have H := Y.1
  obtain ⟨h3, a3, e3, H3, F3, c3, p3, q3⟩ := zr_rem2 (N := N) (by omega) (K := A.2.2.length - 1) (x := v) (by omega) (by omega) (a0 := a) (by rw [Y.2.1.1.2.2.2.1]; congr 1; omega) (A.2.2.length - 1 - v) N v h a H (by omega) (Nat.le_refl _) (by omega) (fun _ _ _ => rfl) (fun k k1 k2 => absurd k2 (by omega))
  have n3 : zy_is (a3 233) (A.1, A.2.1, A.2.2.eraseIdx v) := zy_isE ok Y.2.1.1 (by omega) c3 (fun j hj => p3 233 j (Or.inr hj)) q3
  have Q : yQ fl a fl a3 := ⟨fun _ _ => rfl, fun p i h1 _ _ => p3 p i (Or.inl h1)⟩
  refine ⟨Int32.ofInt ((A.2.2.length - 1 : Nat) : Int), h3, a3, ?_, yv_op Y H3 Q n3 ⟨ok.1, ok.2.1, ok.2.2.1, ?_, fun w hw => ok.2.2.2.2 w (List.mem_of_mem_eraseIdx hw)⟩, F3, Q⟩
  · unfold fM_removes
    rw [zr_T H, cond_true, e3]
  · show (A.2.2.eraseIdx v).length ≤ 8
    rw [List.length_eraseIdx_of_lt hv]
    omega
theorem yv_joins (hN : 1000 ≤ N) (Y : yv G h A fl a) (hj : 0 < A.2.2.length ∧ (A.2.2.map List.length).sum ≤ 120) : ∃ r h' fl' a', fM_joins N 232 h = some (r, h') ∧ yv G h' (A.1, zv_jn A.2.2, A.2.2) fl' a' ∧ zr_F h h' ∧ yQ fl a fl' a' := by
  have ok := yv_ok Y
  have o4 := ok.2.2.2.1
  have H := Y.1
  obtain ⟨h3, e3, H3, F3⟩ := zr_s H 14 rfl 0
  have Q3 : zr_Q fl a (zr_u fl 14 0) a := ⟨fun k hk => if_neg hk, fun _ _ _ _ => rfl⟩
  have Y3 := yv_Q Y H3 Q3
  have us := zs_usS (l := A.2.2) A.2.2.length 0 (Nat.zero_add _)
  rw [List.drop_zero] at us
  obtain ⟨h4, f4, a4, z, e4, H4, F4, Q4, z4, r4, l4⟩ := zr_joins9 (N := N) (by omega) ok A.2.2.length N 0 0 h3 _ a [] H3 Y3.2.1 ⟨rfl, fun i hi => by cases hi⟩ (Nat.zero_add _) (by omega) (by decide) (zs_one0 _ _) (by rw [us]; show 0 + _ ≤ 120; omega)
  have z4 : z = zv_jn A.2.2 := z4
  subst z4
  have Y4 := yv_Q Y3 H4 Q4
  obtain ⟨h5, a5, e5, Y5, F5, Q5⟩ := yv_takes (N := N) hN Y4 r4 l4 (by
    intro v hv
    refine zs_jnL (S := fun i => A.2.2.getD i []) (P := fun v => 97 ≤ v ∧ v < 97 + A.1) (fun j hj v hv => ?_) _ _ _ (fun v hv => by cases hv) v hv
    have : A.2.2.getD j [] ∈ A.2.2 := by
      rw [List.getD_eq_getElem?_getD, List.getElem?_eq_getElem hj]
      exact List.getElem_mem hj
    exact (ok.2.2.2.2 _ this).2.2 v hv)
  refine ⟨Int32.ofInt ((zv_jn A.2.2).length : Int), h5, f4, a5, ?_, Y5, zr_Ft F3 (zr_Ft F4 F5), yQ_t (yQ_of (zr_Qt Q3 Q4)) Q5⟩
  have e4 : fM_joins_9 N N 232 (Int32.ofInt 0) (Int32.ofInt 0) h3 = _ := e4
  unfold fM_joins
  rw [zr_T H, cond_true, e3, b1_s, e4, e5]
  rfl
end YVB
end
section
/-! THE REFERENCE'S COMMANDS. -/
/-- refused -/
def yFr (G : yH) (h : zH) (r : Option (Int32 × zH)) : Prop := ∃ h' A' fl' a', r = some (Int32.ofInt 0, h') ∧ yv G h' A' fl' a' ∧ zr_F h h'
theorem yFr_t {G : yH} {h h1 : zH} {r : Option (Int32 × zH)} (F : zr_F h h1) (o : yFr G h1 r) : yFr G h r := by
  obtain ⟨h', A', f', a', e, Y, F'⟩ := o
  exact ⟨h', A', f', a', e, Y, zr_Ft F F'⟩
/-- how a command ends: refused, or done and at its semicolon -/
def yU (G : yH) (h : zH) (ex : Int) (r : Option (Int32 × zH)) (x : Option (zA × Nat)) : Prop := (x = none ∧ yFr G h r) ∨ (∃ A' p', x = some (A', p') ∧ ∃ h' fl' a', r = some (Int32.ofInt 1, h') ∧ yv G h' A' fl' a' ∧ zr_F h h' ∧ fl' 20 = (p' : Int) ∧ fl' 22 = ex)
section YVC
variable {N : Nat} {G : yH} {h : zH} {A : zA} {fl : Nat → Int} {a : Nat → Nat → Int}
theorem yv_fail (Y : yv G h A fl a) (x : Int) : ∃ h' fl', fM_fail N 232 (Int32.ofInt x) h = some (Int32.ofInt 0, h') ∧ yv G h' A fl' a ∧ zr_F h h' := by
  unfold fM_fail fM_fail_20
  rw [yv_T Y, cond_true, yv_i Y 12 rfl, b1_s]
  cases z_cmp .ne (Int32.ofInt (fl 12)) (Int32.ofInt 0) with
  | true => exact ⟨h, fl, rfl, Y, zr_Fr h⟩
  | false =>
    obtain ⟨h1, e1, Y1, F1⟩ := yv_s Y 12 (by decide) x
    obtain ⟨h2, e2, Y2, F2⟩ := yv_s Y1 13 (by decide) (fl 19)
    refine ⟨h2, _, ?_, Y2, zr_Ft F1 F2⟩
    rw [cond_false, e1, b1_s, yv_i Y1 19 rfl, b1_s, zr_un fl _ (show (19 : Nat) ≠ 12 by decide), e2, b1_s]
theorem yv_failF (Y : yv G h A fl a) (x : Int) : yFr G h (fM_fail N 232 (Int32.ofInt x) h) := by
  obtain ⟨h1, f1, e1, Y1, F1⟩ := yv_fail (N := N) Y x
  exact ⟨h1, A, f1, a, e1, Y1, F1⟩
theorem yFr_w {r : Option (Int32 × zH)} (o : yFr G h r) : yFr G h (b2 r (fun x g => cond (decide (x = Int32.ofInt 0) || decide (x = Int32.ofInt 1)) (some (x, g)) none)) := by
  obtain ⟨h', A', f', a', e, Y, F'⟩ := o
  refine ⟨h', A', f', a', ?_, Y, F'⟩
  rw [e, b2]
  rfl
theorem yv_is (Y : yv G h A fl a) {m : Nat} (h4 : fl 18 = (m : Int)) (hm : m ≤ 6) (w : Int) (hw : 0 ≤ w ∧ w ≤ 6) : ((m : Int) = w ∧ fM_is N 232 (Int32.ofInt w) h = some (Int32.ofInt 1, h)) ∨ ((m : Int) ≠ w ∧ ∃ h' fl', fM_is N 232 (Int32.ofInt w) h = some (Int32.ofInt 0, h') ∧ yv G h' A fl' a ∧ zr_F h h') := by
  unfold fM_is
  rw [yv_T Y, cond_true, yv_i Y 18 rfl, b1_s, h4, zqo_eq _ _ (by omega) (by omega)]
  by_cases e : (m : Int) = w
  · refine Or.inl ⟨e, ?_⟩
    rw [decide_eq_true e]
    rfl
  · obtain ⟨h1, f1, e1, Y1, F1⟩ := yv_fail (N := N) Y 1
    refine Or.inr ⟨e, h1, f1, ?_, Y1, F1⟩
    rw [decide_eq_false e, cond_false, e1, b2]
    rfl
/-- a number in its bounds -/
theorem yv_num (hN : 1000 ≤ N) (Y : yv G h A fl a) {p : Nat} (hp : p ≤ (yX G).length) (T : yT (yX G) (yt_s (yX G) p) fl) (pl : Nat) (hpl : pl < 2) (lo hi : Int) (hlo : -2147483648 ≤ lo ∧ lo < 2147483648) (hhi : -2147483648 ≤ hi ∧ hi < 2147483648) : (∃ v e, ym_num (yX G) p lo hi = some (v, e) ∧ ∃ h' fl' a', fM_number N 232 (Int32.ofInt (pl : Int)) (Int32.ofInt lo) (Int32.ofInt hi) h = some (Int32.ofInt 1, h') ∧ yv G h' A fl' a' ∧ zr_F h h' ∧ yT (yX G) (yt_s (yX G) e) fl' ∧ fl' 22 = fl 22 ∧ a' 242 pl = (v : Int) ∧ (∀ r i, r ≠ 242 → a' r i = a r i) ∧ ∀ i, i ≠ pl → a' 242 i = a 242 i) ∨ (ym_num (yX G) p lo hi = none ∧ ∃ h' fl', fM_number N 232 (Int32.ofInt (pl : Int)) (Int32.ofInt lo) (Int32.ofInt hi) h = some (Int32.ofInt 0, h') ∧ yv G h' A fl' a ∧ zr_F h h') := by
  have mi := yt_mi (q := yt_q (yX G) (yt_s (yX G) p))
  have mb := yt_mb (yt_q (yX G) (yt_s (yX G) p))
  have sb := yt_sb hp
  have eb := yt_eb sb.2
  unfold fM_number
  rw [yv_T Y, cond_true]
  rcases yv_is (N := N) Y T.1 mb 3 (by decide) with ⟨q1, e1⟩ | ⟨q1, h1, f1, e1, Y1, F1⟩
  · have q2 : yt_q (yX G) (yt_s (yX G) p) = 2 := by omega
    have v9 := yt_v999 q2
    have t21 := T.2.2.2 q2
    rw [e1, b2, show z_cmp .ne (Int32.ofInt 1) (Int32.ofInt 0) = true from rfl, cond_true, yv_i Y 21 rfl, b1_s, t21, zr_in N _ lo hi (by omega) hlo hhi, b2]
    by_cases e : lo ≤ (yt_v (yX G) (yt_s (yX G) p) : Int) ∧ (yt_v (yX G) (yt_s (yX G) p) : Int) ≤ hi
    · obtain ⟨h2, e2, H2, F2⟩ := zr_p Y.1 242 pl (by decide) (by decide) (show pl < 2 from hpl) (yt_v (yX G) (yt_s (yX G) p) : Int)
      have e2 : fAS h 242 100 (Int32.ofInt (pl : Int)) (.int (Int32.ofInt (yt_v (yX G) (yt_s (yX G) p) : Int))) = some h2 := e2
      have Q : yQ fl a fl a := yQ_r fl a
      have Y2 : yv G h2 A fl (zr_v a 242 pl (yt_v (yX G) (yt_s (yX G) p) : Int)) := by
        obtain ⟨y1, R, y3, y4, y5, y6⟩ := Y
        refine ⟨H2, zyR_a R (fun _ _ => rfl) (fun p i hp => zr_vn a _ (by omega)) ?_, ?_, ⟨y4.1, fun i hi => (zr_vn a _ (Or.inl (by decide))).trans (y4.2 i hi)⟩, y5, y6⟩
        · rw [show zr_v a 242 pl (yt_v (yX G) (yt_s (yX G) p) : Int) 233 = a 233 from funext fun i => zr_vn a _ (Or.inl (by decide))]
          exact R.1
        · rw [show zr_v a 242 pl (yt_v (yX G) (yt_s (yX G) p) : Int) 234 = a 234 from funext fun i => zr_vn a _ (Or.inl (by decide))]
          exact y3
      obtain ⟨h3, f3, e3, Y3, F3, T3, k3⟩ := yv_next hN Y2 T.2.2.1 eb.2.1
      refine Or.inl ⟨_, _, if_pos ⟨q2, e.1, e.2⟩, h3, f3, _, ?_, Y3, zr_Ft F2 F3, T3, k3 22 (by omega), zr_vs _ _ _ _, fun r i hr => zr_vn a _ (Or.inl hr), fun i hi => zr_vn a _ (Or.inr hi)⟩
      rw [decide_eq_true e, cond_true, show z_cmp .ne (Int32.ofInt 1) (Int32.ofInt 0) = true from rfl, cond_true, zr_r23 Y.1, b1_s, yv_i Y 21 rfl, b1_s, t21, e2, b1_s, e3, b2]
    · obtain ⟨h2, f2, e2, Y2, F2⟩ := yv_fail (N := N) Y 2
      refine Or.inr ⟨if_neg (fun x => e ⟨x.2.1, x.2.2⟩), h2, f2, ?_, Y2, F2⟩
      rw [decide_eq_false e, cond_false, show z_cmp .ne (Int32.ofInt 0) (Int32.ofInt 0) = false from rfl, cond_false, e2, b2]
      rfl
  · refine Or.inr ⟨if_neg (fun x => q1 (by omega)), h1, f1, ?_, Y1, F1⟩
    rw [e1, b2, show z_cmp .ne (Int32.ofInt 0) (Int32.ofInt 0) = false from rfl, cond_false]
/-- the semicolon behind a command that must be possible -/
theorem yv_stops (Y : yv G h A fl a) {p : Nat} (T : yT (yX G) (yt_s (yX G) p) fl) (b : Bool) : (∃ e, ym_sem (yX G) p = some e ∧ b = true ∧ fM_stops N 232 (cond b (Int32.ofInt 1) (Int32.ofInt 0)) h = some (Int32.ofInt 1, h) ∧ fl 20 = (e : Int)) ∨ ((ym_sem (yX G) p = none ∨ b = false) ∧ ∃ h' fl', fM_stops N 232 (cond b (Int32.ofInt 1) (Int32.ofInt 0)) h = some (Int32.ofInt 0, h') ∧ yv G h' A fl' a ∧ zr_F h h') := by
  have mi := yt_mi (q := yt_q (yX G) (yt_s (yX G) p))
  have mb := yt_mb (yt_q (yX G) (yt_s (yX G) p))
  unfold fM_stops
  rw [yv_T Y, cond_true]
  rcases yv_is (N := N) Y T.1 mb 1 (by decide) with ⟨q1, e1⟩ | ⟨q1, h1, f1, e1, Y1, F1⟩
  · rw [e1, b2, show z_cmp .eq (Int32.ofInt 1) (Int32.ofInt 0) = false from rfl, cond_false]
    cases b with
    | true => exact Or.inl ⟨_, if_pos (by omega), rfl, rfl, T.2.2.1⟩
    | false =>
      obtain ⟨h2, f2, e2, Y2, F2⟩ := yv_fail (N := N) Y 3
      refine Or.inr ⟨Or.inr rfl, h2, f2, ?_, Y2, F2⟩
      rw [cond_false, show z_cmp .ne (Int32.ofInt 0) (Int32.ofInt 0) = false from rfl, cond_false, e2, b2]
      rfl
  · refine Or.inr ⟨Or.inl (if_neg (fun x => q1 (by omega))), h1, f1, ?_, Y1, F1⟩
    rw [e1, b2, show z_cmp .eq (Int32.ofInt 0) (Int32.ofInt 0) = true from rfl, cond_true]
    rfl
theorem yv_w1 (Y : yv G h A fl a) : fAI h 233 100 (Int32.ofInt 1) = some (Int32.ofInt (A.2.1.length : Int)) := by
  have g1 : fAI h 233 100 (Int32.ofInt 1) = some (Int32.ofInt (a 233 1)) := zr_w Y.1 1 (by decide)
  rw [g1, Y.2.1.1.2.1]
theorem yv_w2 (Y : yv G h A fl a) : fAI h 233 100 (Int32.ofInt 2) = some (Int32.ofInt (A.2.2.length : Int)) := by
  have g1 : fAI h 233 100 (Int32.ofInt 2) = some (Int32.ofInt (a 233 2)) := zr_w Y.1 2 (by decide)
  rw [g1, Y.2.1.1.2.2.2.1]
theorem yv_n0 (Y : yv G h A fl a) : fAI h 242 100 (Int32.ofInt 0) = some (Int32.ofInt (a 242 0)) := zr_g Y.1 242 0 (by decide) (by decide) (by decide)
theorem yv_n1 (Y : yv G h A fl a) : fAI h 242 100 (Int32.ofInt 1) = some (Int32.ofInt (a 242 1)) := zr_g Y.1 242 1 (by decide) (by decide) (by decide)
/-- behind a number: a semicolon, then what the command does -/
theorem yv_ns {f : Nat → Option zA} {lo hi : Int} {p v e : Nat} {ex : Int} {r : Option (Int32 × zH)} (m1 : ym_num (yX G) p lo hi = some (v, e)) (o : yU G h ex r ((ym_sem (yX G) e).bind fun q => (f v).bind fun A => some (A, q))) : yU G h ex r (yx_n (yX G) p lo hi f) := by
  rw [yx_n, m1]
  exact o
theorem yv_drop (hN : 4000 ≤ N) (Y : yv G h A fl a) {p : Nat} (hp : p ≤ (yX G).length) (T : yT (yX G) (yt_s (yX G) p) fl) : yU G h (fl 22) (fM_readsDrop N 232 h) (yx 2 (yX G) A p) := by
  have o2 := (yv_ok Y).2.1
  show yU G h (fl 22) (fM_readsDrop N 232 h) (yx_n (yX G) p 0 (A.2.1.length : Int) (yf_drop A))
  have s0 : ∀ g : Int32 → zH → Option (Int32 × zH), cond (fT h 232 5) (b1 (fR h 232 5 0) fun x1 => b1 (fAI h x1 100 (Int32.ofInt 1)) fun x2 => b2 (fM_number N 232 (Int32.ofInt 0) (Int32.ofInt 0) x2 h) g) none = b2 (fM_number N 232 (Int32.ofInt ((0 : Nat) : Int)) (Int32.ofInt 0) (Int32.ofInt (A.2.1.length : Int)) h) g := fun g => by
    rw [yv_T Y, cond_true, zr_r0 Y.1, b1_s, yv_w1 Y, b1_s]
    rfl
  unfold fM_readsDrop
  rw [s0]
  rcases yv_num (N := N) (by omega) Y hp T 0 (by decide) 0 (A.2.1.length : Int) (by decide) (by omega) with ⟨v, e, m1, h1, f1, a1, e1, Y1, F1, T1, x1, n1, _, _⟩ | ⟨m1, h1, f1, e1, Y1, F1⟩
  · obtain ⟨_, _, _, pe, el, _, vl, _⟩ := ym_numb hp m1
    refine yv_ns m1 ?_
    rw [e1, b2, show z_cmp .eq (Int32.ofInt 1) (Int32.ofInt 0) = false from rfl, cond_false]
    rcases yv_stops (N := N) Y1 T1 true with ⟨q, m2, _, e2, q20⟩ | ⟨m2, h2, f2, e2, Y2, F2⟩
    · obtain ⟨r, h3, f3, a3, e3, Y3, F3, Q3⟩ := yv_drops (N := N) (by omega) Y1 v (by omega)
      refine Or.inr ⟨(A.1, A.2.1.take (A.2.1.length - v), A.2.2), q, by rw [m2]; rfl, h3, f3, a3, ?_, Y3, zr_Ft F1 F3, (Q3.1 20 (by decide)).trans q20, (Q3.1 22 (by decide)).trans x1⟩
      have e2 : fM_stops N 232 (Int32.ofInt 1) h1 = _ := e2
      rw [e2, b2, show z_cmp .ne (Int32.ofInt 1) (Int32.ofInt 0) = true from rfl, cond_true, zr_r23 Y1.1, b1_s, yv_n0 Y1, b1_s, n1, e3, b2]
    · have m2 : ym_sem (yX G) e = none := m2.resolve_right (by decide)
      refine Or.inl ⟨by rw [m2]; rfl, h2, A, f2, a1, ?_, Y2, zr_Ft F1 F2⟩
      have e2 : fM_stops N 232 (Int32.ofInt 1) h1 = _ := e2
      rw [e2, b2, show z_cmp .ne (Int32.ofInt 0) (Int32.ofInt 0) = false from rfl, cond_false]
      rfl
  · refine Or.inl ⟨by rw [yx_n, m1]; rfl, h1, A, f1, a, ?_, Y1, F1⟩
    rw [e1, b2, show z_cmp .eq (Int32.ofInt 0) (Int32.ofInt 0) = true from rfl, cond_true]
    rfl
theorem yv_rotate (hN : 4000 ≤ N) (Y : yv G h A fl a) {p : Nat} (hp : p ≤ (yX G).length) (T : yT (yX G) (yt_s (yX G) p) fl) : yU G h (fl 22) (fM_readsRotate N 232 h) (yx 4 (yX G) A p) := by
  have o2 := (yv_ok Y).2.1
  show yU G h (fl 22) (fM_readsRotate N 232 h) (yx_n (yX G) p 0 (A.2.1.length : Int) (yf_rot A))
  have s0 : ∀ g : Int32 → zH → Option (Int32 × zH), cond (fT h 232 5) (b1 (fR h 232 5 0) fun x1 => b1 (fAI h x1 100 (Int32.ofInt 1)) fun x2 => b2 (fM_number N 232 (Int32.ofInt 0) (Int32.ofInt 0) x2 h) g) none = b2 (fM_number N 232 (Int32.ofInt ((0 : Nat) : Int)) (Int32.ofInt 0) (Int32.ofInt (A.2.1.length : Int)) h) g := fun g => by
    rw [yv_T Y, cond_true, zr_r0 Y.1, b1_s, yv_w1 Y, b1_s]
    rfl
  unfold fM_readsRotate
  rw [s0]
  rcases yv_num (N := N) (by omega) Y hp T 0 (by decide) 0 (A.2.1.length : Int) (by decide) (by omega) with ⟨v, e, m1, h1, f1, a1, e1, Y1, F1, T1, x1, n1, _, _⟩ | ⟨m1, h1, f1, e1, Y1, F1⟩
  · obtain ⟨_, _, _, pe, el, _, vl, _⟩ := ym_numb hp m1
    refine yv_ns m1 ?_
    rw [e1, b2, show z_cmp .eq (Int32.ofInt 1) (Int32.ofInt 0) = false from rfl, cond_false]
    rcases yv_stops (N := N) Y1 T1 true with ⟨q, m2, _, e2, q20⟩ | ⟨m2, h2, f2, e2, Y2, F2⟩
    · obtain ⟨r, h3, f3, a3, e3, Y3, F3, Q3⟩ := yv_turns (N := N) (by omega) Y1 v (by omega)
      refine Or.inr ⟨(A.1, zw_trn A.2.1 v, A.2.2), q, by rw [m2]; rfl, h3, f3, a3, ?_, Y3, zr_Ft F1 F3, (Q3.1 20 (by decide)).trans q20, (Q3.1 22 (by decide)).trans x1⟩
      have e2 : fM_stops N 232 (Int32.ofInt 1) h1 = _ := e2
      rw [e2, b2, show z_cmp .ne (Int32.ofInt 1) (Int32.ofInt 0) = true from rfl, cond_true, zr_r23 Y1.1, b1_s, yv_n0 Y1, b1_s, n1, e3, b2]
    · have m2 : ym_sem (yX G) e = none := m2.resolve_right (by decide)
      refine Or.inl ⟨by rw [m2]; rfl, h2, A, f2, a1, ?_, Y2, zr_Ft F1 F2⟩
      have e2 : fM_stops N 232 (Int32.ofInt 1) h1 = _ := e2
      rw [e2, b2, show z_cmp .ne (Int32.ofInt 0) (Int32.ofInt 0) = false from rfl, cond_false]
      rfl
  · refine Or.inl ⟨by rw [yx_n, m1]; rfl, h1, A, f1, a, ?_, Y1, F1⟩
    rw [e1, b2, show z_cmp .eq (Int32.ofInt 0) (Int32.ofInt 0) = true from rfl, cond_true]
    rfl
theorem yv_remove (hN : 4000 ≤ N) (Y : yv G h A fl a) {p : Nat} (hp : p ≤ (yX G).length) (T : yT (yX G) (yt_s (yX G) p) fl) : yU G h (fl 22) (fM_readsRemove N 232 h) (yx 9 (yX G) A p) := by
  have o4 := (yv_ok Y).2.2.2.1
  show yU G h (fl 22) (fM_readsRemove N 232 h) (yx_n (yX G) p 0 ((A.2.2.length : Int) - 1) (yf_rem A))
  have s0 : ∀ g : Int32 → zH → Option (Int32 × zH), cond (fT h 232 5) (b1 (fR h 232 5 0) fun x1 => b1 (fAI h x1 100 (Int32.ofInt 2)) fun x2 => b2 (fM_number N 232 (Int32.ofInt 0) (Int32.ofInt 0) (x2 - (Int32.ofInt 1)) h) g) none = b2 (fM_number N 232 (Int32.ofInt ((0 : Nat) : Int)) (Int32.ofInt 0) (Int32.ofInt ((A.2.2.length : Int) - 1)) h) g := fun g => by
    rw [yv_T Y, cond_true, zr_r0 Y.1, b1_s, yv_w2 Y, b1_s, zw_sub]
    rfl
  unfold fM_readsRemove
  rw [s0]
  rcases yv_num (N := N) (by omega) Y hp T 0 (by decide) 0 ((A.2.2.length : Int) - 1) (by decide) (by omega) with ⟨v, e, m1, h1, f1, a1, e1, Y1, F1, T1, x1, n1, _, _⟩ | ⟨m1, h1, f1, e1, Y1, F1⟩
  · obtain ⟨_, _, _, pe, el, _, vl, _⟩ := ym_numb hp m1
    refine yv_ns m1 ?_
    rw [e1, b2, show z_cmp .eq (Int32.ofInt 1) (Int32.ofInt 0) = false from rfl, cond_false]
    rcases yv_stops (N := N) Y1 T1 true with ⟨q, m2, _, e2, q20⟩ | ⟨m2, h2, f2, e2, Y2, F2⟩
    · obtain ⟨r, h3, a3, e3, Y3, F3, Q3⟩ := yv_removes (N := N) (by omega) Y1 (v := v) (by omega)
      refine Or.inr ⟨(A.1, A.2.1, A.2.2.eraseIdx v), q, by rw [m2]; rfl, h3, f1, a3, ?_, Y3, zr_Ft F1 F3, q20, x1⟩
      have e2 : fM_stops N 232 (Int32.ofInt 1) h1 = _ := e2
      rw [e2, b2, show z_cmp .ne (Int32.ofInt 1) (Int32.ofInt 0) = true from rfl, cond_true, zr_r23 Y1.1, b1_s, yv_n0 Y1, b1_s, n1, e3, b2]
    · have m2 : ym_sem (yX G) e = none := m2.resolve_right (by decide)
      refine Or.inl ⟨by rw [m2]; rfl, h2, A, f2, a1, ?_, Y2, zr_Ft F1 F2⟩
      have e2 : fM_stops N 232 (Int32.ofInt 1) h1 = _ := e2
      rw [e2, b2, show z_cmp .ne (Int32.ofInt 0) (Int32.ofInt 0) = false from rfl, cond_false]
      rfl
  · refine Or.inl ⟨by rw [yx_n, m1]; rfl, h1, A, f1, a, ?_, Y1, F1⟩
    rw [e1, b2, show z_cmp .eq (Int32.ofInt 0) (Int32.ofInt 0) = true from rfl, cond_true]
    rfl
theorem yv_part (hN : 4000 ≤ N) (Y : yv G h A fl a) {p : Nat} (hp : p ≤ (yX G).length) (T : yT (yX G) (yt_s (yX G) p) fl) : yU G h (fl 22) (fM_readsPart N 232 h) (yx 3 (yX G) A p) := by
  have o2 := (yv_ok Y).2.1
  show yU G h (fl 22) (fM_readsPart N 232 h) (yx_part (yX G) A p)
  have s0 : ∀ g : Int32 → zH → Option (Int32 × zH), cond (fT h 232 5) (b1 (fR h 232 5 0) fun x1 => b1 (fAI h x1 100 (Int32.ofInt 1)) fun x2 => b2 (fM_number N 232 (Int32.ofInt 0) (Int32.ofInt 0) x2 h) g) none = b2 (fM_number N 232 (Int32.ofInt ((0 : Nat) : Int)) (Int32.ofInt 0) (Int32.ofInt (A.2.1.length : Int)) h) g := fun g => by
    rw [yv_T Y, cond_true, zr_r0 Y.1, b1_s, yv_w1 Y, b1_s]
    rfl
  -- the class asks for a number of at most 999, the reference for one of at most the length; the second number decides
  have ex : ∀ v e, ym_num (yX G) p 0 (A.2.1.length : Int) = some (v, e) → ym_num (yX G) p 0 999 = some (v, e) := by
    intro v e m1
    obtain ⟨b1, b2, b3, b4, b5, b6, b7, b8⟩ := ym_numb hp m1
    rw [ym_num, if_pos ⟨b1, by omega, by omega⟩, b2, b3]
  have en : ym_num (yX G) p 0 (A.2.1.length : Int) = none → yx_part (yX G) A p = none := by
    intro m1
    unfold yx_part
    cases m2 : ym_num (yX G) p 0 999 with
    | none => rfl
    | some n =>
      obtain ⟨v, e⟩ := n
      obtain ⟨b1, b2, b3, b4, b5, b6, b7, b8⟩ := ym_numb hp m2
      show (ym_num (yX G) e (v : Int) (A.2.1.length : Int)).bind _ = none
      have : ym_num (yX G) e (v : Int) (A.2.1.length : Int) = none := by
        unfold ym_num
        by_cases c : yt_q (yX G) (yt_s (yX G) e) = 2 ∧ (v : Int) ≤ (yt_v (yX G) (yt_s (yX G) e) : Int) ∧ (yt_v (yX G) (yt_s (yX G) e) : Int) ≤ (A.2.1.length : Int)
        · exfalso
          rw [ym_num, if_pos ⟨b1, by omega, by omega⟩] at m1
          cases m1
        · exact if_neg c
      rw [this]
      rfl
  unfold fM_readsPart
  rw [s0]
  rcases yv_num (N := N) (by omega) Y hp T 0 (by decide) 0 (A.2.1.length : Int) (by decide) (by omega) with ⟨v, e, m1, h1, f1, a1, e1, Y1, F1, T1, x1, n1, _, _⟩ | ⟨m1, h1, f1, e1, Y1, F1⟩
  · obtain ⟨_, _, _, pe, el, _, vl, _⟩ := ym_numb hp m1
    rw [yx_part, ex v e m1]
    show yU G h (fl 22) _ ((ym_num (yX G) e (v : Int) (A.2.1.length : Int)).bind fun b => (ym_sem (yX G) b.2).bind fun q => some ((A.1, zw_p A.2.1 v b.1, A.2.2), q))
    rw [e1, b2, show z_cmp .eq (Int32.ofInt 1) (Int32.ofInt 0) = false from rfl, cond_false, zr_r23 Y1.1, b1_s, yv_n0 Y1, b1_s, n1, zr_r0 Y1.1, b1_s, yv_w1 Y1, b1_s]
    rcases yv_num (N := N) (by omega) Y1 el T1 1 (by decide) (v : Int) (A.2.1.length : Int) (by omega) (by omega) with ⟨u, g, m2, h2, f2, a2, e2, Y2, F2, T2, x2, n2, _, k2⟩ | ⟨m2, h2, f2, e2, Y2, F2⟩
    · obtain ⟨_, _, _, pg, gl, vu, ul, _⟩ := ym_numb el m2
      have e2 : fM_number N 232 (Int32.ofInt 1) (Int32.ofInt (v : Int)) (Int32.ofInt (A.2.1.length : Int)) h1 = _ := e2
      rw [m2, e2, b2, show z_cmp .eq (Int32.ofInt 1) (Int32.ofInt 0) = false from rfl, cond_false]
      show yU G h (fl 22) _ ((ym_sem (yX G) g).bind fun q => some ((A.1, zw_p A.2.1 v u, A.2.2), q))
      rcases yv_stops (N := N) Y2 T2 true with ⟨q, m3, _, e3, q20⟩ | ⟨m3, h3, f3, e3, Y3, F3⟩
      · obtain ⟨r, h4, f4, a4, e4, Y4, F4, Q4⟩ := yv_parts (N := N) (by omega) Y2 v u (by omega) (by omega)
        refine Or.inr ⟨(A.1, zw_p A.2.1 v u, A.2.2), q, by rw [m3]; rfl, h4, f4, a4, ?_, Y4, zr_Ft F1 (zr_Ft F2 F4), (Q4.1 20 (by decide)).trans q20, (Q4.1 22 (by decide)).trans (x2.trans x1)⟩
        have e3 : fM_stops N 232 (Int32.ofInt 1) h2 = _ := e3
        rw [e3, b2, show z_cmp .ne (Int32.ofInt 1) (Int32.ofInt 0) = true from rfl, cond_true, zr_r23 Y2.1, b1_s, yv_n0 Y2, b1_s, k2 0 (by decide), n1, b1_s, yv_n1 Y2, b1_s, n2, e4, b2]
      · have m3 : ym_sem (yX G) g = none := m3.resolve_right (by decide)
        refine Or.inl ⟨by rw [m3]; rfl, h3, A, f3, a2, ?_, Y3, zr_Ft F1 (zr_Ft F2 F3)⟩
        have e3 : fM_stops N 232 (Int32.ofInt 1) h2 = _ := e3
        rw [e3, b2, show z_cmp .ne (Int32.ofInt 0) (Int32.ofInt 0) = false from rfl, cond_false]
        rfl
    · have e2 : fM_number N 232 (Int32.ofInt 1) (Int32.ofInt (v : Int)) (Int32.ofInt (A.2.1.length : Int)) h1 = _ := e2
      refine Or.inl ⟨by rw [m2]; rfl, h2, A, f2, a1, ?_, Y2, zr_Ft F1 F2⟩
      rw [e2, b2, show z_cmp .eq (Int32.ofInt 0) (Int32.ofInt 0) = true from rfl, cond_true]
      rfl
  · refine Or.inl ⟨en m1, h1, A, f1, a, ?_, Y1, F1⟩
    rw [e1, b2, show z_cmp .eq (Int32.ofInt 0) (Int32.ofInt 0) = true from rfl, cond_true]
    rfl
end YVC
end
section
/-! THE REFERENCE'S COMMANDS, further ones. -/
section YVD
variable {N : Nat} {G : yH} {h : zH} {A : zA} {fl : Nat → Int} {a : Nat → Nat → Int}
theorem yv_reverse (hN : 4000 ≤ N) (Y : yv G h A fl a) {p : Nat} (hp : p ≤ (yX G).length) (T : yT (yX G) (yt_s (yX G) p) fl) : yU G h (fl 22) (fM_readsReverse N 232 h) (yx 5 (yX G) A p) := by
  show yU G h (fl 22) (fM_readsReverse N 232 h) (yx_s (yX G) p (some (A.1, zw_mir A.2.1 0 A.2.1.length, A.2.2)))
  unfold fM_readsReverse yx_s
  rw [yv_T Y, cond_true]
  rcases yv_stops (N := N) Y T true with ⟨q, m2, _, e2, q20⟩ | ⟨m2, h2, f2, e2, Y2, F2⟩
  · obtain ⟨r, h3, f3, a3, e3, Y3, F3, Q3⟩ := yv_mirrors (N := N) (by omega) Y
    have e2 : fM_stops N 232 (Int32.ofInt 1) h = _ := e2
    refine Or.inr ⟨(A.1, zw_mir A.2.1 0 A.2.1.length, A.2.2), q, by rw [m2]; rfl, h3, f3, a3, ?_, Y3, F3, (Q3.1 20 (by decide)).trans q20, Q3.1 22 (by decide)⟩
    rw [e2, b2, show z_cmp .ne (Int32.ofInt 1) (Int32.ofInt 0) = true from rfl, cond_true, e3, b2]
  · have m2 : ym_sem (yX G) p = none := m2.resolve_right (by decide)
    have e2 : fM_stops N 232 (Int32.ofInt 1) h = _ := e2
    refine Or.inl ⟨by rw [m2]; rfl, h2, A, f2, a, ?_, Y2, F2⟩
    rw [e2, b2, show z_cmp .ne (Int32.ofInt 0) (Int32.ofInt 0) = false from rfl, cond_false]
theorem yv_leastc (hN : 4000 ≤ N) (Y : yv G h A fl a) {p : Nat} (hp : p ≤ (yX G).length) (T : yT (yX G) (yt_s (yX G) p) fl) : yU G h (fl 22) (fM_readsLeast N 232 h) (yx 6 (yX G) A p) := by
  have o2 := (yv_ok Y).2.1
  show yU G h (fl 22) (fM_readsLeast N 232 h) (yx_s (yX G) p (yf_least A))
  have s0 : fM_readsLeast N 232 h = fM_readsLeast_15 N 232 (cond (decide (0 < A.2.1.length)) (Int32.ofInt 1) (Int32.ofInt 0)) 232 h := by
    unfold fM_readsLeast
    rw [yv_T Y, cond_true, zr_r0 Y.1, b1_s, yv_w1 Y, b1_s, zqo_le _ _ (by omega) (by decide)]
    by_cases e : 0 < A.2.1.length
    · rw [decide_eq_false (show ¬ ((A.2.1.length : Int) ≤ 0) by omega), cond_false, decide_eq_true e, cond_true]
    · rw [decide_eq_true (show (A.2.1.length : Int) ≤ 0 by omega), cond_true, decide_eq_false e, cond_false]
  rw [s0]
  unfold fM_readsLeast_15 yx_s
  rcases yv_stops (N := N) Y T (decide (0 < A.2.1.length)) with ⟨q, m2, b, e2, q20⟩ | ⟨m2, h2, f2, e2, Y2, F2⟩
  · have b' := of_decide_eq_true b
    obtain ⟨r, h3, f3, a3, e3, Y3, F3, Q3⟩ := yv_least (N := N) (by omega) Y b'
    refine Or.inr ⟨(A.1, zw_trn A.2.1 (zm_least A.2.1), A.2.2), q, ?_, h3, f3, a3, ?_, Y3, F3, (Q3.1 20 (by decide)).trans q20, Q3.1 22 (by decide)⟩
    · rw [m2]
      show (yf_least A).bind _ = _
      rw [yf_least, if_pos b']
      rfl
    · rw [e2, b2, show z_cmp .ne (Int32.ofInt 1) (Int32.ofInt 0) = true from rfl, cond_true, e3, b2]
  · refine Or.inl ⟨?_, h2, A, f2, a, ?_, Y2, F2⟩
    · rcases m2 with m2 | m2
      · rw [m2]
        rfl
      · cases ym_sem (yX G) p with
        | none => rfl
        | some q =>
          show (yf_least A).bind _ = _
          rw [yf_least, if_neg (of_decide_eq_false m2)]
          rfl
    · rw [e2, b2, show z_cmp .ne (Int32.ofInt 0) (Int32.ofInt 0) = false from rfl, cond_false]
theorem yv_join (hN : 4000 ≤ N) (Y : yv G h A fl a) {p : Nat} (hp : p ≤ (yX G).length) (T : yT (yX G) (yt_s (yX G) p) fl) : yU G h (fl 22) (fM_readsJoin N 232 h) (yx 10 (yX G) A p) := by
  have ok := yv_ok Y
  show yU G h (fl 22) (fM_readsJoin N 232 h) (yx_s (yX G) p (yf_join A))
  unfold fM_readsJoin yx_s
  rw [yv_T Y, cond_true, zr_canJoin (by omega) Y.1 Y.2.1 ok, b2]
  rcases yv_stops (N := N) Y T (decide (0 < A.2.2.length ∧ (A.2.2.map List.length).sum ≤ 120)) with ⟨q, m2, b, e2, q20⟩ | ⟨m2, h2, f2, e2, Y2, F2⟩
  · have b' := of_decide_eq_true b
    obtain ⟨r, h3, f3, a3, e3, Y3, F3, Q3⟩ := yv_joins (N := N) (by omega) Y b'
    refine Or.inr ⟨(A.1, zv_jn A.2.2, A.2.2), q, ?_, h3, f3, a3, ?_, Y3, F3, (Q3.1 20 (by decide)).trans q20, Q3.1 22 (by decide)⟩
    · rw [m2]
      show (yf_join A).bind _ = _
      rw [yf_join, if_pos b']
      rfl
    · rw [e2, b2, show z_cmp .ne (Int32.ofInt 1) (Int32.ofInt 0) = true from rfl, cond_true, e3, b2]
  · refine Or.inl ⟨?_, h2, A, f2, a, ?_, Y2, F2⟩
    · rcases m2 with m2 | m2
      · rw [m2]
        rfl
      · cases ym_sem (yX G) p with
        | none => rfl
        | some q =>
          show (yf_join A).bind _ = _
          rw [yf_join, if_neg (of_decide_eq_false m2)]
          rfl
    · rw [e2, b2, show z_cmp .ne (Int32.ofInt 0) (Int32.ofInt 0) = false from rfl, cond_false]
theorem yv_nextc (hN : 4000 ≤ N) (Y : yv G h A fl a) {p : Nat} (hp : p ≤ (yX G).length) (T : yT (yX G) (yt_s (yX G) p) fl) : yU G h (fl 22) (fM_readsNext N 232 h) (yx 7 (yX G) A p) := by
  show yU G h (fl 22) (fM_readsNext N 232 h) (yx_n (yX G) p 1 120 (yf_next A))
  unfold fM_readsNext
  rw [yv_T Y, cond_true]
  rcases yv_num (N := N) (by omega) Y hp T 0 (by decide) 1 120 (by decide) (by decide) with ⟨v, e, m1, h1, f1, a1, e1, Y1, F1, T1, x1, n1, _, _⟩ | ⟨m1, h1, f1, e1, Y1, F1⟩
  · obtain ⟨_, _, _, pe, el, vl0, vl, _⟩ := ym_numb hp m1
    have e1 : fM_number N 232 (Int32.ofInt 0) (Int32.ofInt 1) (Int32.ofInt 120) h = _ := e1
    refine yv_ns m1 ?_
    obtain ⟨h2, f2, a2, e2, Y2, F2, Q2⟩ := yv_hasNext (N := N) (by omega) Y1 (m := v) (by omega)
    have T2 : yT (yX G) (yt_s (yX G) e) f2 := ⟨(Q2.1 18 (by decide)).trans T1.1, (Q2.1 19 (by decide)).trans T1.2.1, (Q2.1 20 (by decide)).trans T1.2.2.1, fun x => (Q2.1 21 (by decide)).trans (T1.2.2.2 x)⟩
    rw [e1, b2, show z_cmp .eq (Int32.ofInt 1) (Int32.ofInt 0) = false from rfl, cond_false, zr_r23 Y1.1, b1_s, yv_n0 Y1, b1_s, n1, e2, b2]
    rcases yv_stops (N := N) Y2 T2 (zs_hn A.1 A.2.1 (v : Int)) with ⟨q, m2, b, e3, q20⟩ | ⟨m2, h3, f3, e3, Y3, F3⟩
    · obtain ⟨r, h4, f4, a4, e4, Y4, F4, Q4⟩ := yv_goesOn (N := N) (by omega) Y2 (v := v) (by omega) b
      refine Or.inr ⟨(A.1, zw_nx A.2.1 v (97 + A.1 - 1), A.2.2), q, ?_, h4, f4, a4, ?_, Y4, zr_Ft F1 (zr_Ft F2 F4), (Q4.1 20 (by decide)).trans q20, (Q4.1 22 (by decide)).trans ((Q2.1 22 (by decide)).trans x1)⟩
      · rw [m2]
        show (yf_next A v).bind _ = _
        rw [yf_next, if_pos b]
        rfl
      · rw [e3, b2, show z_cmp .ne (Int32.ofInt 1) (Int32.ofInt 0) = true from rfl, cond_true, zr_r23 Y2.1, b1_s, yv_n0 Y2, b1_s, Q2.2 242 0 (by decide) (by decide) (by decide), n1, e4, b2]
    · refine Or.inl ⟨?_, h3, A, f3, a2, ?_, Y3, zr_Ft F1 (zr_Ft F2 F3)⟩
      · rcases m2 with m2 | m2
        · rw [m2]
          rfl
        · cases ym_sem (yX G) e with
          | none => rfl
          | some q =>
            show (yf_next A v).bind _ = _
            rw [yf_next, if_neg (by rw [m2]; decide)]
            rfl
      · rw [e3, b2, show z_cmp .ne (Int32.ofInt 0) (Int32.ofInt 0) = false from rfl, cond_false]
        rfl
  · have e1 : fM_number N 232 (Int32.ofInt 0) (Int32.ofInt 1) (Int32.ofInt 120) h = _ := e1
    refine Or.inl ⟨by rw [yx_n, m1]; rfl, h1, A, f1, a, ?_, Y1, F1⟩
    rw [e1, b2, show z_cmp .eq (Int32.ofInt 0) (Int32.ofInt 0) = true from rfl, cond_true]
    rfl
theorem yv_keep (hN : 4000 ≤ N) (Y : yv G h A fl a) {p : Nat} (hp : p ≤ (yX G).length) (T : yT (yX G) (yt_s (yX G) p) fl) : yU G h (fl 22) (fM_readsKeep N 232 h) (yx 8 (yX G) A p) := by
  have ok := yv_ok Y
  have o2 := ok.2.1
  have mi := yt_mi (q := yt_q (yX G) (yt_s (yX G) p))
  have mb := yt_mb (yt_q (yX G) (yt_s (yX G) p))
  have o5 := zm_fsl A.2.1
  show yU G h (fl 22) (fM_readsKeep N 232 h) (yx_keep (yX G) A p)
  unfold fM_readsKeep
  rw [yv_T Y, cond_true, yv_i Y 18 rfl, b1_s, T.1, zqo_eq _ _ (by omega) (by decide)]
  by_cases e0 : yt_q (yX G) (yt_s (yX G) p) = 2
  · rw [decide_eq_true (by omega), cond_true, yx_keep, if_pos e0]
    obtain ⟨h0, f0, a0, e0', Y0, F0, Q0, S0⟩ := yv_factors (N := N) (by omega) Y
    have T0 : yT (yX G) (yt_s (yX G) p) f0 := ⟨(Q0.1 18 (by decide)).trans T.1, (Q0.1 19 (by decide)).trans T.2.1, (Q0.1 20 (by decide)).trans T.2.2.1, fun x => (Q0.1 21 (by decide)).trans (T.2.2.2 x)⟩
    rw [e0', b2, zw_sub]
    rcases yv_num (N := N) (by omega) Y0 hp T0 0 (by decide) 0 (((zw_fs A.2.1).length : Int) - 1) (by decide) (by omega) with ⟨v, e, m1, h1, f1, a1, e1, Y1, F1, T1, x1, n1, k1, _⟩ | ⟨m1, h1, f1, e1, Y1, F1⟩
    · obtain ⟨_, _, _, pe, el, vl0, vl, _⟩ := ym_numb hp m1
      have e1 : fM_number N 232 (Int32.ofInt 0) (Int32.ofInt 0) (Int32.ofInt (((zw_fs A.2.1).length : Int) - 1)) h0 = _ := e1
      refine yv_ns m1 ?_
      have S1 : zr_fs a1 A.2.1 := ⟨fun j hj => (k1 240 j (by decide)).trans (S0.1 j hj), (k1 240 _ (by decide)).trans S0.2⟩
      have hv : v < (zw_fs A.2.1).length := by omega
      obtain ⟨b, c1, c2, _⟩ := zr_fk S1 hv
      have hcan := zr_canKeepFactor (N := N) Y1.1 Y1.2.1 ok S1 hv c1
      rw [e1, b2, show z_cmp .eq (Int32.ofInt 1) (Int32.ofInt 0) = false from rfl, cond_false, zr_r23 Y1.1, b1_s, yv_n0 Y1, b1_s, n1, hcan, b2]
      have ef : yf_fac A v = if zw_lE A.2.1 b - b ≤ 40 ∧ A.2.2.length < 8 then some (A.1, A.2.1, A.2.2 ++ [zw_p A.2.1 b (zw_lE A.2.1 b)]) else none := by
        unfold yf_fac
        rw [c1, show ((b : Nat) : Int).toNat = b by omega]
      rcases yv_stops (N := N) Y1 T1 (decide (zw_lE A.2.1 b - b ≤ 40 ∧ A.2.2.length < 8)) with ⟨q, m2, d, e3, q20⟩ | ⟨m2, h3, f3, e3, Y3, F3⟩
      · have d' := of_decide_eq_true d
        obtain ⟨r, h4, f4, a4, e4, Y4, F4, Q4⟩ := yv_keepsFactor (N := N) (by omega) Y1 hv c1 d'.1 d'.2
        refine Or.inr ⟨(A.1, A.2.1, A.2.2 ++ [zw_p A.2.1 b (zw_lE A.2.1 b)]), q, ?_, h4, f4, a4, ?_, Y4, zr_Ft F0 (zr_Ft F1 F4), (Q4.1 20 (by decide)).trans q20, (Q4.1 22 (by decide)).trans (x1.trans (Q0.1 22 (by decide)))⟩
        · rw [m2]
          show (yf_fac A v).bind _ = _
          rw [ef, if_pos d']
          rfl
        · rw [e3, b2, show z_cmp .ne (Int32.ofInt 1) (Int32.ofInt 0) = true from rfl, cond_true, zr_r23 Y1.1, b1_s, yv_n0 Y1, b1_s, n1, e4, b2]
      · refine Or.inl ⟨?_, h3, A, f3, a1, ?_, Y3, zr_Ft F0 (zr_Ft F1 F3)⟩
        · rcases m2 with m2 | m2
          · rw [m2]
            rfl
          · cases ym_sem (yX G) e with
            | none => rfl
            | some q =>
              show (yf_fac A v).bind _ = _
              rw [ef, if_neg (of_decide_eq_false m2)]
              rfl
        · rw [e3, b2, show z_cmp .ne (Int32.ofInt 0) (Int32.ofInt 0) = false from rfl, cond_false]
          rfl
    · have e1 : fM_number N 232 (Int32.ofInt 0) (Int32.ofInt 0) (Int32.ofInt (((zw_fs A.2.1).length : Int) - 1)) h0 = _ := e1
      refine Or.inl ⟨by rw [yx_n, m1]; rfl, h1, A, f1, a0, ?_, Y1, zr_Ft F0 F1⟩
      rw [e1, b2, show z_cmp .eq (Int32.ofInt 0) (Int32.ofInt 0) = true from rfl, cond_true]
      rfl
  · rw [decide_eq_false (by omega), cond_false, yx_keep, if_neg e0, zr_canKeepText Y.1 Y.2.1 ok, b2]
    unfold yx_s
    rcases yv_stops (N := N) Y T (decide (1 ≤ A.2.1.length ∧ A.2.1.length ≤ 40 ∧ A.2.2.length < 8)) with ⟨q, m2, d, e3, q20⟩ | ⟨m2, h3, f3, e3, Y3, F3⟩
    · have d' := of_decide_eq_true d
      obtain ⟨r, h4, a4, e4, Y4, F4, Q4⟩ := yv_shelves (N := N) (by omega) Y 0 A.2.1.length (by omega) ⟨d'.1, d'.2.1⟩ d'.2.2
      rw [Nat.zero_add, zw_pall] at Y4
      refine Or.inr ⟨(A.1, A.2.1, A.2.2 ++ [A.2.1]), q, ?_, h4, fl, a4, ?_, Y4, F4, q20, rfl⟩
      · rw [m2]
        show (yf_keep A).bind _ = _
        rw [yf_keep, if_pos d']
        rfl
      · have e4 : fM_shelves N 232 (Int32.ofInt 0) (Int32.ofInt (A.2.1.length : Int)) h = _ := e4
        rw [e3, b2, show z_cmp .ne (Int32.ofInt 1) (Int32.ofInt 0) = true from rfl, cond_true, zr_r0 Y.1, b1_s, yv_w1 Y, b1_s, e4, b2]
    · refine Or.inl ⟨?_, h3, A, f3, a, ?_, Y3, F3⟩
      · rcases m2 with m2 | m2
        · rw [m2]
          rfl
        · cases ym_sem (yX G) p with
          | none => rfl
          | some q =>
            show (yf_keep A).bind _ = _
            rw [yf_keep, if_neg (of_decide_eq_false m2)]
            rfl
      · rw [e3, b2, show z_cmp .ne (Int32.ofInt 0) (Int32.ofInt 0) = false from rfl, cond_false]
/-- the letters of a word looked at -/
theorem yv_15 {x1 : Int32} {p b : Nat} (hb : b ≤ (yX G).length) (Y : yv G h A fl a) (h20 : fl 20 = (b : Int)) (hk : ∀ j, p ≤ j → j < b → yt_k ((yX G).getD j 0) = 1) : ∀ c f i, p ≤ i → i + c = b → c < f → ((∀ j, i ≤ j → j < b → (yX G).getD j 0 < 97 + A.1) ∧ ∃ g, fM_readsWordInto_15 N f 232 x1 (Int32.ofInt (i : Int)) h = fM_readsWordInto_15 N (g + 1) 232 x1 (Int32.ofInt (b : Int)) h) ∨ ((∃ j, i ≤ j ∧ j < b ∧ ¬ (yX G).getD j 0 < 97 + A.1) ∧ ∃ h' fl', fM_readsWordInto_15 N f 232 x1 (Int32.ofInt (i : Int)) h = some (Int32.ofInt 0, h') ∧ yv G h' A fl' a ∧ zr_F h h') := by
  have l6 := Y.2.2.2.2.1.1
  have ok := yv_ok Y
  have o1 := ok.1
  intro c
  induction c with
  | zero =>
    intro f i h1 h2 h3
    obtain ⟨g, rfl⟩ : ∃ g, f = g + 1 := ⟨f - 1, by omega⟩
    have : i = b := by omega
    subst this
    exact Or.inl ⟨fun j h4 h5 => absurd h5 (by omega), g, rfl⟩
  | succ c ih =>
    intro f i h1 h2 h3
    obtain ⟨g, rfl⟩ : ∃ g, f = g + 1 := ⟨f - 1, by omega⟩
    have k1 := yt_k1 (hk i h1 (by omega))
    have s0 : ∀ (u : Option (Int32 × zH)) (w : Int32 → zH → Option (Int32 × zH)), (b1 (fI h 232 5 20) fun x4 => cond (z_cmp .ge (Int32.ofInt (i : Int)) x4) u (b1 (fR h 232 5 7) fun x7 => b1 (fAI h x7 100 (Int32.ofInt (i : Int))) fun x8 => b2 (fM_isLetter N 232 x8 h) w)) = w (cond (decide ((yX G).getD i 0 < 97 + A.1)) (Int32.ofInt 1) (Int32.ofInt 0)) h := fun u w => by
      rw [yv_i Y 20 rfl, b1_s, h20, zqo_ge _ _ (by omega) (by omega), decide_eq_false (by omega), cond_false, zr_r7 Y.1, b1_s, yv_src Y (by omega), b1_s, zr_isLetter Y.1 Y.2.1.1.1 o1.2 _ (by omega), b2]
      by_cases e : (yX G).getD i 0 < 97 + A.1
      · rw [decide_eq_true e, decide_eq_true (by omega)]
      · rw [decide_eq_false e, decide_eq_false (by omega)]
    by_cases e : (yX G).getD i 0 < 97 + A.1
    · have s1 : fM_readsWordInto_15 N (g + 1) 232 x1 (Int32.ofInt (i : Int)) h = fM_readsWordInto_15 N g 232 x1 (Int32.ofInt ((i + 1 : Nat) : Int)) h := by
        have s2 := s0 (b1 (fI h 232 5 20) fun x5 => b1 (fI h 232 5 19) fun x6 => fM_readsWordInto_60 N N 232 x1 (x5 - x6) (Int32.ofInt 0) h) (fun x9 h10 => cond (z_cmp .ne x9 (Int32.ofInt 0)) (fM_readsWordInto_15 N g 232 x1 (Int32.ofInt (i : Int) + Int32.ofInt 1) h10) (b2 (fM_fail N 232 (Int32.ofInt 2) h10) fun x11 h12 => cond (decide (x11 = Int32.ofInt 0) || decide (x11 = Int32.ofInt 1)) (some (x11, h12)) none))
        rw [fM_readsWordInto_15, s2, decide_eq_true e, cond_true, show z_cmp .ne (Int32.ofInt 1) (Int32.ofInt 0) = true from rfl, cond_true, zh_inc]
      rw [s1]
      rcases ih g (i + 1) (by omega) (by omega) (by omega) with ⟨q, r⟩ | ⟨⟨j, j1, j2, j3⟩, r⟩
      · refine Or.inl ⟨fun j h4 h5 => ?_, r⟩
        by_cases e2 : j = i
        · rw [e2]
          exact e
        · exact q j (by omega) h5
      · exact Or.inr ⟨⟨j, by omega, j2, j3⟩, r⟩
    · obtain ⟨h2, f2, e2, Y2, F2⟩ := yv_fail (N := N) Y 2
      refine Or.inr ⟨⟨i, Nat.le_refl i, by omega, e⟩, h2, f2, ?_, Y2, F2⟩
      have s2 := s0 (b1 (fI h 232 5 20) fun x5 => b1 (fI h 232 5 19) fun x6 => fM_readsWordInto_60 N N 232 x1 (x5 - x6) (Int32.ofInt 0) h) (fun x9 h10 => cond (z_cmp .ne x9 (Int32.ofInt 0)) (fM_readsWordInto_15 N g 232 x1 (Int32.ofInt (i : Int) + Int32.ofInt 1) h10) (b2 (fM_fail N 232 (Int32.ofInt 2) h10) fun x11 h12 => cond (decide (x11 = Int32.ofInt 0) || decide (x11 = Int32.ofInt 1)) (some (x11, h12)) none))
      rw [fM_readsWordInto_15, s2, decide_eq_false e, cond_false, show z_cmp .ne (Int32.ofInt 0) (Int32.ofInt 0) = false from rfl, cond_false, e2, b2]
      rfl
/-- the letters copied to the row -/
theorem yv_60w {p b t : Nat} (hb : b ≤ (yX G).length) (hpb : p ≤ b) (ht : t + (b - p) ≤ 120) {a0 : Nat → Nat → Int} : ∀ (c f i : Nat) (h : zH) (a : Nat → Nat → Int), yv G h A fl a → fl 19 = (p : Int) → i + c = b - p → c < f → (∀ r j, r ≠ 239 → a r j = a0 r j) → (∀ j, j < t → a 239 j = a0 239 j) → (∀ j, j < i → a 239 (t + j) = ((yX G).getD (p + j) 0 : Int) - 97) → ∃ h' a', fM_readsWordInto_60 N f 232 (Int32.ofInt (t : Int)) (Int32.ofInt ((b - p : Nat) : Int)) (Int32.ofInt (i : Int)) h = fM_readsWordInto_101 N 232 (Int32.ofInt (t : Int)) (Int32.ofInt ((b - p : Nat) : Int)) h' ∧ yv G h' A fl a' ∧ zr_F h h' ∧ (∀ r j, r ≠ 239 → a' r j = a0 r j) ∧ (∀ j, j < t → a' 239 j = a0 239 j) ∧ ∀ j, j < b - p → a' 239 (t + j) = ((yX G).getD (p + j) 0 : Int) - 97 := by
  intro c
  induction c with
  | zero =>
    intro f i h a Y h19 h1 h2 h3 h4 h5
    obtain ⟨g, rfl⟩ : ∃ g, f = g + 1 := ⟨f - 1, by omega⟩
    refine ⟨h, a, ?_, Y, zr_Fr h, h3, h4, fun j hj => h5 j (by omega)⟩
    rw [fM_readsWordInto_60, zqo_ge _ _ (by omega) (by omega), decide_eq_true (by omega), cond_true]
  | succ c ih =>
    intro f i h a Y h19 h1 h2 h3 h4 h5
    obtain ⟨g, rfl⟩ : ∃ g, f = g + 1 := ⟨f - 1, by omega⟩
    have l6 := Y.2.2.2.2.1.1
    have sr := yv_src Y (i := p + i) (by omega)
    obtain ⟨h6, e6, H6, F6⟩ := zr_p Y.1 239 (t + i) (by decide) (by decide) (by show t + i < 130; omega) (((yX G).getD (p + i) 0 : Int) - 97)
    have e6 : fAS h 239 100 (Int32.ofInt ((t + i : Nat) : Int)) (.int (Int32.ofInt (((yX G).getD (p + i) 0 : Int) - 97))) = some h6 := e6
    have Y6 := yv_Q Y H6 ⟨fun _ _ => rfl, fun r j h7 _ => zr_vn a _ (Or.inl h7)⟩
    obtain ⟨h7, a7, e7, Y7, F7, k7, l7, m7⟩ := ih g (i + 1) h6 _ Y6 h19 (by omega) (by omega) (fun r j hr => (zr_vn a _ (Or.inl hr)).trans (h3 r j hr)) (fun j hj => (zr_vn a _ (Or.inr (by omega))).trans (h4 j hj)) (fun j hj => by
      by_cases e : j = i
      · rw [e, zr_vs]
      · rw [zr_vn a _ (Or.inr (by omega))]
        exact h5 j (by omega))
    refine ⟨h7, a7, ?_, Y7, zr_Ft F6 F7, k7, l7, m7⟩
    rw [fM_readsWordInto_60, zqo_ge _ _ (by omega) (by omega), decide_eq_false (by omega), cond_false, zw_add, zqo_gt _ _ (by omega) (by decide), decide_eq_false (by omega), cond_false, zr_r8 Y.1, b1_s, zr_r7 Y.1, b1_s, yv_i Y 19 rfl, b1_s, h19, zw_add, show (p : Int) + (i : Int) = ((p + i : Nat) : Int) by omega, sr, b1_s, zw_sub, zw_add, show (t : Int) + (i : Int) = ((t + i : Nat) : Int) by omega, e6, b1_s, zh_inc]
    exact e7
/-- a word read behind the letters of the row -/
theorem yv_into (hN : 4000 ≤ N) (Y : yv G h A fl a) {p : Nat} (hp : p ≤ (yX G).length) (T : yT (yX G) (yt_s (yX G) p) fl) {T0 : List Nat} (r0 : ∀ i, i < T0.length → a 239 i = (T0.getD i 0 : Int) - 97) (hT0 : T0.length ≤ 120) : (∃ w e, ym_word (yX G) A.1 p = some (w, e) ∧ ∃ h' fl' a', fM_readsWordInto N 232 (Int32.ofInt (T0.length : Int)) h = some (Int32.ofInt 1, h') ∧ yv G h' A fl' a' ∧ zr_F h h' ∧ yT (yX G) (yt_s (yX G) e) fl' ∧ fl' 22 = fl 22 ∧ fl' 14 = ((T0.length + w.length : Nat) : Int) ∧ (T0.length + w.length ≤ 120 → zr_rw fl' a' (T0 ++ w))) ∨ (ym_word (yX G) A.1 p = none ∧ ∃ h' fl', fM_readsWordInto N 232 (Int32.ofInt (T0.length : Int)) h = some (Int32.ofInt 0, h') ∧ yv G h' A fl' a ∧ zr_F h h') := by
  have mi := yt_mi (q := yt_q (yX G) (yt_s (yX G) p))
  have mb := yt_mb (yt_q (yX G) (yt_s (yX G) p))
  have sb := yt_sb hp
  have eb := yt_eb sb.2
  have l6 := Y.2.2.2.2.1.1
  unfold fM_readsWordInto
  rw [yv_T Y, cond_true]
  rcases yv_is (N := N) Y T.1 mb 2 (by decide) with ⟨q1, e1⟩ | ⟨q1, h1, f1, e1, Y1, F1⟩
  · have q1' : yt_q (yX G) (yt_s (yX G) p) = 1 := by omega
    have wk := (yt_q1 q1').2
    have hl := zw_pl (yX G) (yt_s (yX G) p) (yt_e (yX G) (yt_s (yX G) p)) eb.2.1
    rw [e1, b2, show z_cmp .ne (Int32.ofInt 1) (Int32.ofInt 0) = true from rfl, cond_true, yv_i Y 19 rfl, b1_s, T.2.1]
    rcases yv_15 (N := N) (x1 := Int32.ofInt (T0.length : Int)) eb.2.1 Y T.2.2.1 wk (yt_e (yX G) (yt_s (yX G) p) - yt_s (yX G) p) N (yt_s (yX G) p) (Nat.le_refl _) (by omega) (by omega) with ⟨r1, g, r2⟩ | ⟨⟨j, j1, j2, j3⟩, h2, f2, e2, Y2, F2⟩
    · refine Or.inl ⟨_, _, if_pos ⟨q1', (yt_pm (P := fun v => v < 97 + A.1) eb.2.1).mpr (fun j a b => r1 j a b)⟩, ?_⟩
      rw [r2, fM_readsWordInto_15, yv_i Y 20 rfl, b1_s, T.2.2.1, zqo_ge _ _ (by omega) (by omega), decide_eq_true (by omega), cond_true, b1_s, yv_i Y 19 rfl, b1_s, T.2.1, zw_sub, show (yt_e (yX G) (yt_s (yX G) p) : Int) - (yt_s (yX G) p : Int) = ((yt_e (yX G) (yt_s (yX G) p) - yt_s (yX G) p : Nat) : Int) by omega, hl]
      -- behind the letters
      have fin : ∀ (h1 : zH) (a1 : Nat → Nat → Int), yv G h1 A fl a1 → ∃ h' fl', fM_readsWordInto_101 N 232 (Int32.ofInt (T0.length : Int)) (Int32.ofInt ((yt_e (yX G) (yt_s (yX G) p) - yt_s (yX G) p : Nat) : Int)) h1 = some (Int32.ofInt 1, h') ∧ yv G h' A fl' a1 ∧ zr_F h1 h' ∧ yT (yX G) (yt_s (yX G) (yt_e (yX G) (yt_s (yX G) p))) fl' ∧ fl' 22 = fl 22 ∧ fl' 14 = ((T0.length + (yt_e (yX G) (yt_s (yX G) p) - yt_s (yX G) p) : Nat) : Int) := by
        intro h1 a1 Y1
        obtain ⟨h2, e2, H2, F2⟩ := zr_s Y1.1 14 rfl ((T0.length + (yt_e (yX G) (yt_s (yX G) p) - yt_s (yX G) p) : Nat) : Int)
        have Y2 := yv_Q Y1 H2 ⟨fun k hk => if_neg hk, fun _ _ _ _ => rfl⟩
        obtain ⟨h3, f3, e3, Y3, F3, T3, k3⟩ := yv_next (N := N) (by omega) Y2 (p := yt_e (yX G) (yt_s (yX G) p)) ((if_neg (by decide)).trans T.2.2.1) eb.2.1
        refine ⟨h3, f3, ?_, Y3, zr_Ft F2 F3, T3, (k3 22 (by omega)).trans (if_neg (by decide)), (k3 14 (by omega)).trans (if_pos rfl)⟩
        unfold fM_readsWordInto_101
        rw [zw_add, show (T0.length : Int) + ((yt_e (yX G) (yt_s (yX G) p) - yt_s (yX G) p : Nat) : Int) = ((T0.length + (yt_e (yX G) (yt_s (yX G) p) - yt_s (yX G) p) : Nat) : Int) by omega, e2, b1_s, e3, b2]
      by_cases e120 : T0.length + (yt_e (yX G) (yt_s (yX G) p) - yt_s (yX G) p) ≤ 120
      · obtain ⟨h3, a3, e3, Y3, F3, k3, l3, m3⟩ := yv_60w (N := N) (t := T0.length) eb.2.1 eb.1 e120 (a0 := a) (yt_e (yX G) (yt_s (yX G) p) - yt_s (yX G) p) N 0 h a Y T.2.1 (by omega) (by omega) (fun _ _ _ => rfl) (fun _ _ => rfl) (fun j hj => absurd hj (Nat.not_lt_zero j))
        obtain ⟨h4, f4, e4, Y4, F4, T4, x4, n4⟩ := fin h3 a3 Y3
        refine ⟨h4, f4, a3, e3.trans e4, Y4, zr_Ft F3 F4, T4, x4, n4, fun _ => ⟨?_, fun i hi => ?_⟩⟩
        · rw [n4, List.length_append, hl]
        · rw [List.length_append, hl] at hi
          by_cases c : i < T0.length
          · rw [List.getD_eq_getElem?_getD, List.getElem?_append_left c, ← List.getD_eq_getElem?_getD, l3 i c, r0 i c]
          · have := m3 (i - T0.length) (by omega)
            rw [show T0.length + (i - T0.length) = i by omega] at this
            have ew : (T0 ++ zw_p (yX G) (yt_s (yX G) p) (yt_e (yX G) (yt_s (yX G) p))).getD i 0 = (yX G).getD (yt_s (yX G) p + (i - T0.length)) 0 := by
              rw [List.getD_eq_getElem?_getD, List.getElem?_append_right (by omega), ← List.getD_eq_getElem?_getD, zw_pd (by omega)]
            rw [this, ew]
      · obtain ⟨h4, f4, e4, Y4, F4, T4, x4, n4⟩ := fin h a Y
        refine ⟨h4, f4, a, ?_, Y4, F4, T4, x4, n4, fun x => absurd x e120⟩
        have e5 : ∀ f, fM_readsWordInto_60 N (f + 1) 232 (Int32.ofInt (T0.length : Int)) (Int32.ofInt ((yt_e (yX G) (yt_s (yX G) p) - yt_s (yX G) p : Nat) : Int)) (Int32.ofInt 0) h = some (Int32.ofInt 1, h4) := fun f => by
          rw [fM_readsWordInto_60, zw_add, zqo_gt _ _ (by omega) (by decide), decide_eq_true (show (120 : Int) < (T0.length : Int) + ((yt_e (yX G) (yt_s (yX G) p) - yt_s (yX G) p : Nat) : Int) by omega), cond_true, e4]
          cases z_cmp .ge (Int32.ofInt 0) (Int32.ofInt ((yt_e (yX G) (yt_s (yX G) p) - yt_s (yX G) p : Nat) : Int)) <;> rfl
        have e6 := e5 (N - 1)
        rw [show N - 1 + 1 = N by omega] at e6
        exact e6
    · refine Or.inr ⟨if_neg (fun x => j3 ((yt_pm (P := fun v => v < 97 + A.1) eb.2.1).mp x.2 j j1 j2)), h2, f2, e2, Y2, F2⟩
  · refine Or.inr ⟨if_neg (fun x => q1 (by omega)), h1, f1, ?_, Y1, F1⟩
    rw [e1, b2, show z_cmp .ne (Int32.ofInt 0) (Int32.ofInt 0) = false from rfl, cond_false]
end YVD
end
section
/-! THE REFERENCE'S SCRIPT: words, repeats, all of it. -/
section YVE
variable {N : Nat} {G : yH} {h : zH} {A : zA} {fl : Nat → Int} {a : Nat → Nat → Int}
theorem yv_textF {T0 : List Nat} {p e : Nat} {w : List Nat} {ex : Int} (hN : 4000 ≤ N) (Y : yv G h A fl a) (T : yT (yX G) (yt_s (yX G) e) fl) (x22 : fl 22 = ex) (n14 : fl 14 = ((T0.length + w.length : Nat) : Int)) (rw0 : T0.length + w.length ≤ 120 → zr_rw fl a (T0 ++ w)) (hL : zv_L A (T0 ++ w)) {F : Int32 → Nat → zH → Option (Int32 × zH)} (hF : ∀ x, F x 232 h = b2 (fM_stops N 232 x h) fun x4 h5 => cond (z_cmp .ne x4 (Int32.ofInt 0)) (b2 (fM_takes N 232 h5) fun x6 h7 => some ((Int32.ofInt 1), h7)) (some ((Int32.ofInt 0), h5))) : yU G h ex (F (cond (decide (T0.length + w.length ≤ 120)) (Int32.ofInt 1) (Int32.ofInt 0)) 232 h) ((ym_sem (yX G) e).bind fun q => if T0.length + w.length ≤ 120 then some ((A.1, T0 ++ w, A.2.2), q) else none) := by
  rw [hF]
  rcases yv_stops (N := N) Y T (decide (T0.length + w.length ≤ 120)) with ⟨q, m2, b, e2, q20⟩ | ⟨m2, h2, f2, e2, Y2, F2⟩
  · have b' := of_decide_eq_true b
    obtain ⟨h3, a3, e3, Y3, F3, Q3⟩ := yv_takes (N := N) (by omega) Y (rw0 b') (by rw [List.length_append]; exact b') hL
    refine Or.inr ⟨(A.1, T0 ++ w, A.2.2), q, ?_, h3, fl, a3, ?_, Y3, F3, q20, x22⟩
    · rw [m2]
      show (if _ then _ else _) = _
      rw [if_pos b']
    · rw [e2, b2, show z_cmp .ne (Int32.ofInt 1) (Int32.ofInt 0) = true from rfl, cond_true, e3, b2]
  · refine Or.inl ⟨?_, h2, A, f2, a, ?_, Y2, F2⟩
    · rcases m2 with m2 | m2
      · rw [m2]
        rfl
      · cases ym_sem (yX G) e with
        | none => rfl
        | some q =>
          show (if _ then _ else _) = _
          rw [if_neg (of_decide_eq_false m2)]
    · rw [e2, b2, show z_cmp .ne (Int32.ofInt 0) (Int32.ofInt 0) = false from rfl, cond_false]
theorem yv_wordL {p e : Nat} {w : List Nat} {L : Nat} (hp : p ≤ (yX G).length) (h : ym_word (yX G) L p = some (w, e)) : ∀ v ∈ w, 97 ≤ v ∧ v < 97 + L := by
  obtain ⟨b1, b2, b3, b4, b5, b6⟩ := ym_wordb hp h
  have wk := (yt_q1 b1).2
  intro v hv
  refine ⟨?_, b6 v hv⟩
  rw [b2] at hv
  exact (yt_pm (P := fun v => 97 ≤ v) b5).mpr (fun j x y => (yt_k1 (wk j x (by rw [← b3]; exact y))).1) v hv
theorem yv_text (hN : 4000 ≤ N) (Y : yv G h A fl a) {p : Nat} (hp : p ≤ (yX G).length) (T : yT (yX G) (yt_s (yX G) p) fl) : yU G h (fl 22) (fM_readsText N 232 h) (yx 0 (yX G) A p) := by
  have l6 := Y.2.2.2.2.1.1
  show yU G h (fl 22) (fM_readsText N 232 h) (yx_text [] (yX G) A p)
  unfold fM_readsText yx_text
  rw [yv_T Y, cond_true]
  rcases yv_into hN Y hp T (T0 := []) (fun i hi => by cases hi) (Nat.zero_le _) with ⟨w, e, m1, h1, f1, a1, e1, Y1, F1, T1, x1, n1, r1⟩ | ⟨m1, h1, f1, e1, Y1, F1⟩
  · obtain ⟨b1, b2', b3, b4, b5, b6⟩ := ym_wordb hp m1
    have wl : w.length ≤ 600 := by
      rw [b2', zw_pl _ _ _ b5]
      omega
    have e1 : fM_readsWordInto N 232 (Int32.ofInt 0) h = _ := e1
    have hL : zv_L A ([] ++ w) := yv_wordL hp m1
    have o := yv_textF (T0 := []) (p := p) (w := w) (F := fun x y z => fM_readsText_23 N y x y z) hN Y1 T1 x1 n1 r1 hL (fun x => rfl)
    rw [m1, e1, b2, show z_cmp .eq (Int32.ofInt 1) (Int32.ofInt 0) = false from rfl, cond_false, yv_i Y1 14 rfl, b1_s, n1, zqo_gt _ _ (by show -2147483648 ≤ (((0 + w.length : Nat)) : Int) ∧ (((0 + w.length : Nat)) : Int) < 2147483648; omega) (by decide)]
    have sw : (cond (decide ((120 : Int) < ((([] : List Nat).length + w.length : Nat) : Int))) (fM_readsText_23 N 232 (Int32.ofInt 0) 232 h1) (fM_readsText_23 N 232 (Int32.ofInt 1) 232 h1)) = fM_readsText_23 N 232 (cond (decide (([] : List Nat).length + w.length ≤ 120)) (Int32.ofInt 1) (Int32.ofInt 0)) 232 h1 := by
      by_cases c : ([] : List Nat).length + w.length ≤ 120
      · rw [decide_eq_true c, decide_eq_false (by omega)]
        rfl
      · rw [decide_eq_false c, decide_eq_true (by omega)]
        rfl
    rw [sw]
    rcases o with ⟨o1, o2⟩ | ⟨A', q, o1, h2, f2, a2, o2, Y2, F2, o3⟩
    · exact Or.inl ⟨o1, yFr_t F1 o2⟩
    · exact Or.inr ⟨A', q, o1, h2, f2, a2, o2, Y2, zr_Ft F1 F2, o3⟩
  · have e1 : fM_readsWordInto N 232 (Int32.ofInt 0) h = _ := e1
    refine Or.inl ⟨by rw [m1]; rfl, h1, A, f1, a, ?_, Y1, F1⟩
    rw [e1, b2, show z_cmp .eq (Int32.ofInt 0) (Int32.ofInt 0) = true from rfl, cond_true]
    rfl
theorem yv_append (hN : 4000 ≤ N) (Y : yv G h A fl a) {p : Nat} (hp : p ≤ (yX G).length) (T : yT (yX G) (yt_s (yX G) p) fl) : yU G h (fl 22) (fM_readsAppend N 232 h) (yx 1 (yX G) A p) := by
  have l6 := Y.2.2.2.2.1.1
  have ok := yv_ok Y
  have o2 := ok.2.1
  show yU G h (fl 22) (fM_readsAppend N 232 h) (yx_text A.2.1 (yX G) A p)
  obtain ⟨h0, f0, a0, e0, H0, F0, Q0, r0⟩ := zr_loads (N := N) (by omega) Y.1 (yv_tx Y) o2
  have Y0 := yv_Q Y H0 Q0
  have T0 : yT (yX G) (yt_s (yX G) p) f0 := ⟨(Q0.1 18 (by decide)).trans T.1, (Q0.1 19 (by decide)).trans T.2.1, (Q0.1 20 (by decide)).trans T.2.2.1, fun x => (Q0.1 21 (by decide)).trans (T.2.2.2 x)⟩
  unfold fM_readsAppend yx_text
  rw [yv_T Y, cond_true, e0, b2, zr_r0 Y0.1, b1_s, yv_w1 Y0, b1_s]
  rcases yv_into hN Y0 hp T0 (T0 := A.2.1) r0.2 o2 with ⟨w, e, m1, h1, f1, a1, e1, Y1, F1, T1, x1, n1, r1⟩ | ⟨m1, h1, f1, e1, Y1, F1⟩
  · obtain ⟨b1, b2', b3, b4, b5, b6⟩ := ym_wordb hp m1
    have wl : w.length ≤ 600 := by
      rw [b2', zw_pl _ _ _ b5]
      omega
    have hL : zv_L A (A.2.1 ++ w) := fun v hv => by
      rw [List.mem_append] at hv
      rcases hv with hv | hv
      · exact ok.2.2.1 v hv
      · exact yv_wordL hp m1 v hv
    have o := yv_textF (T0 := A.2.1) (p := p) (w := w) (F := fun x y z => fM_readsAppend_32 N y x y z) hN Y1 T1 (x1.trans (Q0.1 22 (by decide))) n1 r1 hL (fun x => rfl)
    rw [m1, e1, b2, show z_cmp .eq (Int32.ofInt 1) (Int32.ofInt 0) = false from rfl, cond_false, yv_i Y1 14 rfl, b1_s, n1, zqo_gt _ _ (by omega) (by decide)]
    have sw : (cond (decide ((120 : Int) < ((A.2.1.length + w.length : Nat) : Int))) (fM_readsAppend_32 N 232 (Int32.ofInt 0) 232 h1) (fM_readsAppend_32 N 232 (Int32.ofInt 1) 232 h1)) = fM_readsAppend_32 N 232 (cond (decide (A.2.1.length + w.length ≤ 120)) (Int32.ofInt 1) (Int32.ofInt 0)) 232 h1 := by
      by_cases c : A.2.1.length + w.length ≤ 120
      · rw [decide_eq_true c, decide_eq_false (by omega)]
        rfl
      · rw [decide_eq_false c, decide_eq_true (by omega)]
        rfl
    rw [sw]
    rcases o with ⟨o1, o2⟩ | ⟨A', q, o1, h2, f2, a2, o2, Y2, F2, o3⟩
    · exact Or.inl ⟨o1, yFr_t (zr_Ft F0 F1) o2⟩
    · exact Or.inr ⟨A', q, o1, h2, f2, a2, o2, Y2, zr_Ft F0 (zr_Ft F1 F2), o3⟩
  · refine Or.inl ⟨by rw [m1]; rfl, h1, A, f1, a0, ?_, Y1, zr_Ft F0 F1⟩
    rw [e1, b2, show z_cmp .eq (Int32.ofInt 0) (Int32.ofInt 0) = true from rfl, cond_true]
    rfl
/-- the word ahead against a string -/
theorem yv_says28 (Y : yv G h A fl a) {l3 : Nat} {b : List Nat} (hS : yS l3 b) (hb : b.length ≤ 20 ∧ ∀ v ∈ b, v < 256) {x y : Nat} (h19 : fl 19 = (x : Int)) (hxy : x ≤ y) (hy : y ≤ (yX G).length) (hl : y - x = b.length) : ∀ c f i, i + c = b.length → c < f → (∀ j, j < i → (yX G).getD (x + j) 0 = b.getD j 0) → fM_says_28 N f 232 l3 (Int32.ofInt (i : Int)) h = some (cond (decide (zw_p (yX G) x y = b)) (Int32.ofInt 1) (Int32.ofInt 0), h) := by
  have l6 := Y.2.2.2.2.1.1
  obtain ⟨s1, s2⟩ := hS N h
  have pl := zw_pl (yX G) x y hy
  intro c
  induction c with
  | zero =>
    intro f i h1 h2 h3
    obtain ⟨g, rfl⟩ : ∃ g, f = g + 1 := ⟨f - 1, by omega⟩
    have e : zw_p (yX G) x y = b := zm_same (by omega) (fun j hj => by
      rw [pl] at hj
      rw [zw_pd hj]
      exact h3 j (by omega))
    rw [fM_says_28, s1, b2, zqo_ge _ _ (by omega) (by omega), decide_eq_true (by omega), cond_true, decide_eq_true e, cond_true]
  | succ c ih =>
    intro f i h1 h2 h3
    obtain ⟨g, rfl⟩ : ∃ g, f = g + 1 := ⟨f - 1, by omega⟩
    have g1 := zw_gD Y.2.2.2.2.1.2 (x + i)
    have g2 := zw_gD hb.2 i
    have sr := yv_src Y (i := x + i) (by omega)
    rw [fM_says_28, s1, b2, zqo_ge _ _ (by omega) (by omega), decide_eq_false (by omega), cond_false, zr_r7 Y.1, b1_s, yv_i Y 19 rfl, b1_s, h19, zw_add, show (x : Int) + (i : Int) = ((x + i : Nat) : Int) by omega, sr, b1_s, s2 i (by omega), b2, zqo_eq _ _ (by omega) (by omega)]
    by_cases e : (yX G).getD (x + i) 0 = b.getD i 0
    · rw [decide_eq_true (by omega), cond_true, zh_inc]
      refine ih g (i + 1) (by omega) (by omega) (fun j hj => ?_)
      by_cases e2 : j = i
      · rw [e2]
        exact e
      · exact h3 j (by omega)
    · have e3 : ¬ zw_p (yX G) x y = b := fun z => e (by
        rw [← z, zw_pd (by omega)])
      rw [decide_eq_false (by omega), cond_false, decide_eq_false e3, cond_false]
theorem yv_says (hN : 1000 ≤ N) (Y : yv G h A fl a) {p : Nat} (hp : p ≤ (yX G).length) (T : yT (yX G) (yt_s (yX G) p) fl) {l3 : Nat} {b : List Nat} (hS : yS l3 b) (hb : b.length ≤ 20 ∧ ∀ v ∈ b, v < 256) : fM_says N 232 l3 h = some (cond (decide (yt_q (yX G) (yt_s (yX G) p) = 1 ∧ zw_p (yX G) (yt_s (yX G) p) (yt_e (yX G) (yt_s (yX G) p)) = b)) (Int32.ofInt 1) (Int32.ofInt 0), h) := by
  have l6 := Y.2.2.2.2.1.1
  have mi := yt_mi (q := yt_q (yX G) (yt_s (yX G) p))
  have mb := yt_mb (yt_q (yX G) (yt_s (yX G) p))
  have sb := yt_sb hp
  have eb := yt_eb sb.2
  have pl := zw_pl (yX G) (yt_s (yX G) p) (yt_e (yX G) (yt_s (yX G) p)) eb.2.1
  unfold fM_says
  rw [yv_T Y, cond_true, yv_i Y 18 rfl, b1_s, T.1, zqo_ne _ _ (by omega) (by decide)]
  by_cases e : yt_q (yX G) (yt_s (yX G) p) = 1
  · rw [decide_eq_true (by omega), Bool.not_true, cond_false, yv_i Y 20 rfl, b1_s, T.2.2.1, yv_i Y 19 rfl, b1_s, T.2.1, (hS N h).1, b2, zw_sub, zqo_eq _ _ (by omega) (by omega)]
    by_cases e2 : yt_e (yX G) (yt_s (yX G) p) - yt_s (yX G) p = b.length
    · rw [decide_eq_true (by omega), cond_true]
      have := yv_says28 (N := N) Y hS hb T.2.1 eb.1 eb.2.1 e2 b.length N 0 (by omega) (by omega) (fun j hj => absurd hj (Nat.not_lt_zero j))
      refine this.trans ?_
      by_cases e3 : zw_p (yX G) (yt_s (yX G) p) (yt_e (yX G) (yt_s (yX G) p)) = b
      · rw [decide_eq_true e3, decide_eq_true ⟨e, e3⟩]
      · rw [decide_eq_false e3, decide_eq_false (fun x => e3 x.2)]
    · have e3 : ¬ (yt_q (yX G) (yt_s (yX G) p) = 1 ∧ zw_p (yX G) (yt_s (yX G) p) (yt_e (yX G) (yt_s (yX G) p)) = b) := fun z => e2 (by rw [← z.2, pl])
      rw [decide_eq_false (by omega), cond_false, decide_eq_false e3]
      rfl
  · rw [decide_eq_false (by omega), Bool.not_false, cond_true, decide_eq_false (fun z => e z.1)]
    rfl
/-- the number of the word ahead, 12 if there is none -/
def ym_wi (s : List Nat) (p : Nat) : Nat := if yt_q s (yt_s s p) = 1 then ym_w s p else 12
theorem yv_ahead (hN : 1000 ≤ N) (Y : yv G h A fl a) {p : Nat} (hp : p ≤ (yX G).length) (T : yT (yX G) (yt_s (yX G) p) fl) : fM_wordAhead N 232 h = some (Int32.ofInt (if ym_wi (yX G) p < 12 then (ym_wi (yX G) p : Int) else -1), h) := by
  have sy : ∀ i, i < 12 → fM_says N 232 (1000049 + 2 * i) h = some (cond (decide (yt_q (yX G) (yt_s (yX G) p) = 1 ∧ zw_p (yX G) (yt_s (yX G) p) (yt_e (yX G) (yt_s (yX G) p)) = yt_words.getD i [])) (Int32.ofInt 1) (Int32.ofInt 0), h) := fun i hi => yv_says hN Y hp T (yS_ref i hi) ⟨by have := (yt_wl i hi).1; omega, (yt_wl i hi).2⟩
  have t : z_cmp .eq (Int32.ofInt 1) (Int32.ofInt 0) = false := rfl
  have u : z_cmp .eq (Int32.ofInt 0) (Int32.ofInt 0) = true := rfl
  unfold fM_wordAhead fM_laterWord fM_wordAhead_82 fM_laterWord_87 ym_wi ym_w yt_cmd
  rw [yv_T Y, cond_true]
  generalize zw_p (yX G) (yt_s (yX G) p) (yt_e (yX G) (yt_s (yX G) p)) = w at sy
  by_cases k1 : yt_q (yX G) (yt_s (yX G) p) = 1
  · rw [if_pos k1]
    have ix : ∀ i, i < 12 → yt_ix w (yt_words.drop i) i = if w = yt_words.getD i [] then i else yt_ix w (yt_words.drop (i + 1)) (i + 1) := fun i hi => by
      rw [yt_drop hi, yt_ix]
    have iy : ∀ i, i < 12 → w = yt_words.getD i [] → yt_ix w (yt_words.drop i) i = i := fun i hi e => by rw [ix i hi, if_pos e]
    have iz : ∀ i, i < 12 → ¬ w = yt_words.getD i [] → yt_ix w (yt_words.drop i) i = yt_ix w (yt_words.drop (i + 1)) (i + 1) := fun i hi e => by rw [ix i hi, if_neg e]
    have st : ∀ i, i < 12 → w = yt_words.getD i [] → fM_says N 232 (1000049 + 2 * i) h = some (Int32.ofInt 1, h) := fun i hi e => by rw [sy i hi, decide_eq_true ⟨k1, e⟩]; rfl
    have sf : ∀ i, i < 12 → ¬ w = yt_words.getD i [] → fM_says N 232 (1000049 + 2 * i) h = some (Int32.ofInt 0, h) := fun i hi e => by rw [sy i hi, decide_eq_false (fun x => e x.2)]; rfl
    show _ = some (Int32.ofInt (if yt_ix w (yt_words.drop 0) 0 < 12 then ((yt_ix w (yt_words.drop 0) 0 : Nat) : Int) else -1), h)
    by_cases c0 : w = yt_words.getD 0 []
    · rw [iy 0 (by decide) c0, show fM_says N 232 1000049 h = some (Int32.ofInt 1, h) from st 0 (by decide) c0, b2, t, cond_false]
      rfl
    rw [iz 0 (by decide) c0, show fM_says N 232 1000049 h = some (Int32.ofInt 0, h) from sf 0 (by decide) c0, b2, u, cond_true]
    by_cases c1 : w = yt_words.getD 1 []
    · rw [iy 1 (by decide) c1, show fM_says N 232 1000051 h = some (Int32.ofInt 1, h) from st 1 (by decide) c1, b2, t, cond_false]
      rfl
    rw [iz 1 (by decide) c1, show fM_says N 232 1000051 h = some (Int32.ofInt 0, h) from sf 1 (by decide) c1, b2, u, cond_true]
    by_cases c2 : w = yt_words.getD 2 []
    · rw [iy 2 (by decide) c2, show fM_says N 232 1000053 h = some (Int32.ofInt 1, h) from st 2 (by decide) c2, b2, t, cond_false]
      rfl
    rw [iz 2 (by decide) c2, show fM_says N 232 1000053 h = some (Int32.ofInt 0, h) from sf 2 (by decide) c2, b2, u, cond_true]
    by_cases c3 : w = yt_words.getD 3 []
    · rw [iy 3 (by decide) c3, show fM_says N 232 1000055 h = some (Int32.ofInt 1, h) from st 3 (by decide) c3, b2, t, cond_false]
      rfl
    rw [iz 3 (by decide) c3, show fM_says N 232 1000055 h = some (Int32.ofInt 0, h) from sf 3 (by decide) c3, b2, u, cond_true]
    by_cases c4 : w = yt_words.getD 4 []
    · rw [iy 4 (by decide) c4, show fM_says N 232 1000057 h = some (Int32.ofInt 1, h) from st 4 (by decide) c4, b2, t, cond_false]
      rfl
    rw [iz 4 (by decide) c4, show fM_says N 232 1000057 h = some (Int32.ofInt 0, h) from sf 4 (by decide) c4, b2, u, cond_true]
    by_cases c5 : w = yt_words.getD 5 []
    · rw [iy 5 (by decide) c5, show fM_says N 232 1000059 h = some (Int32.ofInt 1, h) from st 5 (by decide) c5, b2, t, cond_false]
      rfl
    rw [iz 5 (by decide) c5, show fM_says N 232 1000059 h = some (Int32.ofInt 0, h) from sf 5 (by decide) c5, b2, u, cond_true, yv_T Y, cond_true]
    by_cases c6 : w = yt_words.getD 6 []
    · rw [iy 6 (by decide) c6, show fM_says N 232 1000061 h = some (Int32.ofInt 1, h) from st 6 (by decide) c6, b2, t, cond_false]
      rfl
    rw [iz 6 (by decide) c6, show fM_says N 232 1000061 h = some (Int32.ofInt 0, h) from sf 6 (by decide) c6, b2, u, cond_true]
    by_cases c7 : w = yt_words.getD 7 []
    · rw [iy 7 (by decide) c7, show fM_says N 232 1000063 h = some (Int32.ofInt 1, h) from st 7 (by decide) c7, b2, t, cond_false]
      rfl
    rw [iz 7 (by decide) c7, show fM_says N 232 1000063 h = some (Int32.ofInt 0, h) from sf 7 (by decide) c7, b2, u, cond_true]
    by_cases c8 : w = yt_words.getD 8 []
    · rw [iy 8 (by decide) c8, show fM_says N 232 1000065 h = some (Int32.ofInt 1, h) from st 8 (by decide) c8, b2, t, cond_false]
      rfl
    rw [iz 8 (by decide) c8, show fM_says N 232 1000065 h = some (Int32.ofInt 0, h) from sf 8 (by decide) c8, b2, u, cond_true]
    by_cases c9 : w = yt_words.getD 9 []
    · rw [iy 9 (by decide) c9, show fM_says N 232 1000067 h = some (Int32.ofInt 1, h) from st 9 (by decide) c9, b2, t, cond_false]
      rfl
    rw [iz 9 (by decide) c9, show fM_says N 232 1000067 h = some (Int32.ofInt 0, h) from sf 9 (by decide) c9, b2, u, cond_true]
    by_cases c10 : w = yt_words.getD 10 []
    · rw [iy 10 (by decide) c10, show fM_says N 232 1000069 h = some (Int32.ofInt 1, h) from st 10 (by decide) c10, b2, t, cond_false]
      rfl
    rw [iz 10 (by decide) c10, show fM_says N 232 1000069 h = some (Int32.ofInt 0, h) from sf 10 (by decide) c10, b2, u, cond_true]
    by_cases c11 : w = yt_words.getD 11 []
    · rw [iy 11 (by decide) c11, show fM_says N 232 1000071 h = some (Int32.ofInt 1, h) from st 11 (by decide) c11, b2, t, cond_false]
      rfl
    rw [iz 11 (by decide) c11, show fM_says N 232 1000071 h = some (Int32.ofInt 0, h) from sf 11 (by decide) c11, b2, u, cond_true]
    rfl
  · rw [if_neg k1]
    have sf : ∀ i, i < 12 → fM_says N 232 (1000049 + 2 * i) h = some (Int32.ofInt 0, h) := fun i hi => by rw [sy i hi, decide_eq_false (fun x => k1 x.1)]; rfl
    rw [show fM_says N 232 1000049 h = some (Int32.ofInt 0, h) from sf 0 (by decide), b2, u, cond_true]
    rw [show fM_says N 232 1000051 h = some (Int32.ofInt 0, h) from sf 1 (by decide), b2, u, cond_true]
    rw [show fM_says N 232 1000053 h = some (Int32.ofInt 0, h) from sf 2 (by decide), b2, u, cond_true]
    rw [show fM_says N 232 1000055 h = some (Int32.ofInt 0, h) from sf 3 (by decide), b2, u, cond_true]
    rw [show fM_says N 232 1000057 h = some (Int32.ofInt 0, h) from sf 4 (by decide), b2, u, cond_true]
    rw [show fM_says N 232 1000059 h = some (Int32.ofInt 0, h) from sf 5 (by decide), b2, u, cond_true, yv_T Y, cond_true]
    rw [show fM_says N 232 1000061 h = some (Int32.ofInt 0, h) from sf 6 (by decide), b2, u, cond_true]
    rw [show fM_says N 232 1000063 h = some (Int32.ofInt 0, h) from sf 7 (by decide), b2, u, cond_true]
    rw [show fM_says N 232 1000065 h = some (Int32.ofInt 0, h) from sf 8 (by decide), b2, u, cond_true]
    rw [show fM_says N 232 1000067 h = some (Int32.ofInt 0, h) from sf 9 (by decide), b2, u, cond_true]
    rw [show fM_says N 232 1000069 h = some (Int32.ofInt 0, h) from sf 10 (by decide), b2, u, cond_true]
    rw [show fM_says N 232 1000071 h = some (Int32.ofInt 0, h) from sf 11 (by decide), b2, u, cond_true]
    rfl
theorem yU_w {r : Option (Int32 × zH)} {ex : Int} {x : Option (zA × Nat)} (o : yU G h ex r x) : b2 r (fun a g => cond (decide (a = Int32.ofInt 0) || decide (a = Int32.ofInt 1)) (some (a, g)) none) = r := by
  rcases o with ⟨_, h', _, _, _, b, _⟩ | ⟨_, _, _, h', _, _, b, _⟩
  · rw [b, b2]
    rfl
  · rw [b, b2]
    rfl
/-- a command that is none of repeat, behind its word -/
theorem yv_word (hN : 4000 ≤ N) (Y : yv G h A fl a) {p i : Nat} (hp : p ≤ (yX G).length) (T : yT (yX G) (yt_s (yX G) p) fl) (hi : i < 11) : yU G h (fl 22) (fM_readsWord N 232 (Int32.ofInt (i : Int)) h) (yx i (yX G) A p) := by
  have c : i = 0 ∨ i = 1 ∨ i = 2 ∨ i = 3 ∨ i = 4 ∨ i = 5 ∨ i = 6 ∨ i = 7 ∨ i = 8 ∨ i = 9 ∨ i = 10 := by omega
  unfold fM_readsWord
  rw [yv_T Y, cond_true]
  rcases c with c | c | c | c | c | c | c | c | c | c | c <;> subst c
  · have o := yv_text hN Y hp T
    show yU G h (fl 22) (b2 (fM_readsText N 232 h) (fun a g => cond (decide (a = Int32.ofInt 0) || decide (a = Int32.ofInt 1)) (some (a, g)) none)) _
    rw [yU_w o]
    exact o
  · have o := yv_append hN Y hp T
    show yU G h (fl 22) (b2 (fM_readsAppend N 232 h) (fun a g => cond (decide (a = Int32.ofInt 0) || decide (a = Int32.ofInt 1)) (some (a, g)) none)) _
    rw [yU_w o]
    exact o
  · have o := yv_drop hN Y hp T
    show yU G h (fl 22) (b2 (fM_readsDrop N 232 h) (fun a g => cond (decide (a = Int32.ofInt 0) || decide (a = Int32.ofInt 1)) (some (a, g)) none)) _
    rw [yU_w o]
    exact o
  · have o := yv_part hN Y hp T
    show yU G h (fl 22) (b2 (fM_readsPart N 232 h) (fun a g => cond (decide (a = Int32.ofInt 0) || decide (a = Int32.ofInt 1)) (some (a, g)) none)) _
    rw [yU_w o]
    exact o
  · have o := yv_rotate hN Y hp T
    show yU G h (fl 22) (b2 (fM_readsRotate N 232 h) (fun a g => cond (decide (a = Int32.ofInt 0) || decide (a = Int32.ofInt 1)) (some (a, g)) none)) _
    rw [yU_w o]
    exact o
  · have o := yv_reverse hN Y hp T
    show yU G h (fl 22) (b2 (fM_readsReverse N 232 h) (fun a g => cond (decide (a = Int32.ofInt 0) || decide (a = Int32.ofInt 1)) (some (a, g)) none)) _
    rw [yU_w o]
    exact o
  · have o := yv_leastc hN Y hp T
    show yU G h (fl 22) (b2 (fM_readsLeast N 232 h) (fun a g => cond (decide (a = Int32.ofInt 0) || decide (a = Int32.ofInt 1)) (some (a, g)) none)) _
    rw [yU_w o]
    exact o
  · have o := yv_nextc hN Y hp T
    show yU G h (fl 22) (b2 (fM_readsNext N 232 h) (fun a g => cond (decide (a = Int32.ofInt 0) || decide (a = Int32.ofInt 1)) (some (a, g)) none)) _
    rw [yU_w o]
    exact o
  · have o := yv_keep hN Y hp T
    show yU G h (fl 22) (b2 (fM_readsKeep N 232 h) (fun a g => cond (decide (a = Int32.ofInt 0) || decide (a = Int32.ofInt 1)) (some (a, g)) none)) _
    rw [yU_w o]
    exact o
  · have o := yv_remove hN Y hp T
    show yU G h (fl 22) (b2 (fM_readsRemove N 232 h) (fun a g => cond (decide (a = Int32.ofInt 0) || decide (a = Int32.ofInt 1)) (some (a, g)) none)) _
    rw [yU_w o]
    exact o
  · have o := yv_join hN Y hp T
    show yU G h (fl 22) (b2 (fM_readsJoin N 232 h) (fun a g => cond (decide (a = Int32.ofInt 0) || decide (a = Int32.ofInt 1)) (some (a, g)) none)) _
    rw [yU_w o]
    exact o
end YVE
end
section
/-! THE REFERENCE'S SCRIPT before w holds a state that can be: the same of its tokens. -/
/-- as yv, whatever w's state is -/
def yv0 (G : yH) (h : zH) (A : zA) (fl : Nat → Int) (a : Nat → Nat → Int) : Prop := zr h fl a ∧ zyR fl a A G.2.1 G.2.2.1 G.2.2.2.1 G.2.2.2.2.1 (G.2.2.2.2.2.1, fl 12, fl 13) G.2.2.2.2.2.2.1 ∧ zy_is (a 234) G.1 ∧ (fl 11 = ((yX G).length : Int) ∧ ∀ i, i < (yX G).length → a 238 i = ((yX G).getD i 0 : Int)) ∧ ((yX G).length ≤ 600 ∧ ∀ v ∈ yX G, v < 256) ∧ True
theorem yv0_of {G : yH} {h : zH} {A : zA} {fl : Nat → Int} {a : Nat → Nat → Int} (Y : yv G h A fl a) : yv0 G h A fl a := ⟨Y.1, Y.2.1, Y.2.2.1, Y.2.2.2.1, Y.2.2.2.2.1, trivial⟩
theorem yv_of0 {G : yH} {h : zH} {A : zA} {fl : Nat → Int} {a : Nat → Nat → Int} (Y : yv0 G h A fl a) (ok : zv_ok A) : yv G h A fl a := ⟨Y.1, Y.2.1, Y.2.2.1, Y.2.2.2.1, Y.2.2.2.2.1, ok⟩
section YVW
variable {N : Nat} {G : yH} {h h' : zH} {A : zA} {fl fl' : Nat → Int} {a : Nat → Nat → Int}
/-- numbers of the script changed -/
theorem yw_fl (Y : yv0 G h A fl a) (H : zr h' fl' a) (f : ∀ k, k = 4 ∨ k = 5 ∨ k = 10 ∨ k = 11 ∨ k = 16 ∨ k = 17 → fl' k = fl k) : yv0 G h' A fl' a := by
  obtain ⟨y1, ⟨r1, r2, r3, r4, r5, r6, r7, r8⟩, y3, y4, y5⟩ := Y
  exact ⟨H, ⟨r1, (f 4 (by decide)).trans r2, r3, (f 5 (by decide)).trans r4, r5, ⟨(f 10 (by decide)).trans r6.1, r6.2⟩, ⟨⟨(f 16 (by decide)).trans r7.1.1, rfl, rfl⟩, r7.2⟩, (f 17 (by decide)).trans r8⟩, y3, ⟨(f 11 (by decide)).trans y4.1, y4.2⟩, y5⟩
theorem yw_s (Y : yv0 G h A fl a) (k : Nat) (hk : k = 12 ∨ k = 13 ∨ (18 ≤ k ∧ k ≤ 22)) (x : Int) : ∃ h', fS h 232 5 k (.int (Int32.ofInt x)) = some h' ∧ yv0 G h' A (zr_u fl k x) a ∧ zr_F h h' := by
  obtain ⟨h1, e1, H1, F1⟩ := zr_s Y.1 k (decide_eq_true (by omega)) x
  exact ⟨h1, e1, yw_fl Y H1 (fun j hj => zr_un fl x (by omega)), F1⟩
theorem yw_i (Y : yv0 G h A fl a) (k : Nat) (hk : zr_ok k = true) : fI h 232 5 k = some (Int32.ofInt (fl k)) := zr_i Y.1 k hk
theorem yw_T (Y : yv0 G h A fl a) : fT h 232 5 = true := zr_T Y.1
theorem yw_src (Y : yv0 G h A fl a) {i : Nat} (hi : i < (yX G).length) : fAI h 238 100 (Int32.ofInt (i : Int)) = some (Int32.ofInt ((yX G).getD i 0 : Int)) := by
  have l6 := Y.2.2.2.2.1.1
  have g : fAI h 238 100 (Int32.ofInt (i : Int)) = some (Int32.ofInt (a 238 i)) := zr_g Y.1 238 i (by decide) (by decide) (by show i < 600; omega)
  rw [g, Y.2.2.2.1.2 i hi]
theorem yw_11 (Y : yv0 G h A fl a) : fI h 232 5 11 = some (Int32.ofInt ((yX G).length : Int)) := by
  rw [yw_i Y 11 rfl, Y.2.2.2.1.1]
/-- blanks passed -/
theorem yw_skip : ∀ (c f p : Nat) (h : zH) (fl : Nat → Int), yv0 G h A fl a → fl 19 = (p : Int) → p + c = (yX G).length → c < f → ∃ h' fl', fM_next_8 N f 232 h = fM_next_60 N 232 h' ∧ yv0 G h' A fl' a ∧ zr_F h h' ∧ fl' 19 = (yt_b (yX G) c p : Int) ∧ ∀ k, k ≠ 19 → fl' k = fl k := by
  intro c
  induction c with
  | zero =>
    intro f p h fl Y h6 h1 h2
    obtain ⟨g, rfl⟩ : ∃ g, f = g + 1 := ⟨f - 1, by omega⟩
    have l6 := Y.2.2.2.2.1.1
    refine ⟨h, fl, ?_, Y, zr_Fr h, h6, fun _ _ => rfl⟩
    rw [fM_next_8, yw_i Y 19 rfl, b1_s, h6, yw_11 Y, b1_s, zqo_ge _ _ (by omega) (by omega), decide_eq_true (by omega), cond_true]
  | succ c ih =>
    intro f p h fl Y h6 h1 h2
    obtain ⟨g, rfl⟩ : ∃ g, f = g + 1 := ⟨f - 1, by omega⟩
    have l6 := Y.2.2.2.2.1.1
    have g1 := zw_gD Y.2.2.2.2.1.2 p
    have sr := yw_src Y (i := p) (by omega)
    by_cases e : yt_k ((yX G).getD p 0) = 6
    · obtain ⟨h5, e5, Y5, F5⟩ := yw_s Y 19 (by decide) ((p : Int) + 1)
      obtain ⟨h7, n7, e7, Y7, F7, p7, r7⟩ := ih g (p + 1) h5 _ Y5 (zr_us _ _ _) (by omega) (by omega)
      have e47 : fM_next_47 N (fM_next_8 N g) 232 h = fM_next_60 N 232 h7 := by
        unfold fM_next_47
        rw [yw_i Y 19 rfl, b1_s, h6, zw_add, e5, b1_s]
        exact e7
      refine ⟨h7, n7, ?_, Y7, zr_Ft F5 F7, ?_, fun k hk => (r7 k hk).trans (zr_un fl _ hk)⟩
      · rw [fM_next_8, yw_i Y 19 rfl, b1_s, h6, yw_11 Y, b1_s, zqo_ge _ _ (by omega) (by omega), decide_eq_false (by omega), cond_false, zr_r7 Y.1, b1_s, b1_s, sr, b1_s, zqo_eq _ _ (by omega) (by decide)]
        by_cases e32 : (yX G).getD p 0 = 32
        · rw [decide_eq_true (by omega), cond_true]
          exact e47
        · have e10 : (yX G).getD p 0 = 10 := by
            have := yt_k6.mp e
            omega
          rw [decide_eq_false (by omega), cond_false, b1_s, b1_s, sr, b1_s, zqo_ne _ _ (by omega) (by decide), decide_eq_true (by omega), Bool.not_true, cond_false]
          exact e47
      · rw [yt_b, if_pos e]
        exact p7
    · have n6 : ¬ ((yX G).getD p 0 = 10 ∨ (yX G).getD p 0 = 32) := fun x => e (yt_k6.mpr x)
      refine ⟨h, fl, ?_, Y, zr_Fr h, ?_, fun _ _ => rfl⟩
      · rw [fM_next_8, yw_i Y 19 rfl, b1_s, h6, yw_11 Y, b1_s, zqo_ge _ _ (by omega) (by omega), decide_eq_false (by omega), cond_false, zr_r7 Y.1, b1_s, b1_s, sr, b1_s, zqo_eq _ _ (by omega) (by decide), decide_eq_false (by omega), cond_false, b1_s, b1_s, sr, b1_s, zqo_ne _ _ (by omega) (by decide), decide_eq_false (by omega), Bool.not_false, cond_true]
      · rw [yt_b, if_neg e]
        exact h6
/-- bytes of the token's kind passed -/
theorem yw_more {q : Nat} (hq : q = 1 ∨ q = 2) : ∀ (c f p : Nat) (h : zH) (fl : Nat → Int), yv0 G h A fl a → fl 20 = (p : Int) → fl 18 = (yt_m q : Int) → p + c = (yX G).length → c < f → ∃ h' fl', fM_next_111 N f 232 h = fM_next_170 N 232 h' ∧ yv0 G h' A fl' a ∧ zr_F h h' ∧ fl' 20 = (yt_r (yX G) q c p : Int) ∧ ∀ k, k ≠ 20 → fl' k = fl k := by
  have s0 : ∀ (g : Nat) (h : zH) (fl : Nat → Int), yv0 G h A fl a → fl 18 = (yt_m q : Int) → fM_next_111 N (g + 1) 232 h = fM_next_127 N (fM_next_111 N g) 232 h := by
    intro g h fl Y h4
    rw [fM_next_111, yw_i Y 18 rfl, b1_s, h4]
    rcases hq with e | e <;> subst e <;> rfl
  intro c
  induction c with
  | zero =>
    intro f p h fl Y h6 h4 h1 h2
    obtain ⟨g, rfl⟩ : ∃ g, f = g + 1 := ⟨f - 1, by omega⟩
    have l6 := Y.2.2.2.2.1.1
    refine ⟨h, fl, ?_, Y, zr_Fr h, h6, fun _ _ => rfl⟩
    rw [s0 g h fl Y h4]
    unfold fM_next_127
    rw [yw_i Y 20 rfl, b1_s, h6, yw_11 Y, b1_s, zqo_ge _ _ (by omega) (by omega), decide_eq_true (by omega), cond_true]
  | succ c ih =>
    intro f p h fl Y h6 h4 h1 h2
    obtain ⟨g, rfl⟩ : ∃ g, f = g + 1 := ⟨f - 1, by omega⟩
    have l6 := Y.2.2.2.2.1.1
    have g1 := zw_gD Y.2.2.2.2.1.2 p
    have sr := yw_src Y (i := p) (by omega)
    have mb := yt_mb (yt_k ((yX G).getD p 0))
    have mb2 := yt_mb q
    have mi : yt_m (yt_k ((yX G).getD p 0)) = yt_m q ↔ yt_k ((yX G).getD p 0) = q := by
      have := yt_mi (q := yt_k ((yX G).getD p 0))
      have := yt_mi (q := q)
      rcases hq with e | e <;> subst e <;> omega
    rw [s0 g h fl Y h4]
    unfold fM_next_127
    rw [yw_i Y 20 rfl, b1_s, h6, yw_11 Y, b1_s, zqo_ge _ _ (by omega) (by omega), decide_eq_false (by omega), cond_false, zr_r7 Y.1, b1_s, b1_s, sr, b1_s, yt_sort N _ g1, b2, yw_i Y 18 rfl, b1_s, h4, zqo_ne _ _ (by omega) (by omega)]
    by_cases e : yt_k ((yX G).getD p 0) = q
    · obtain ⟨h5, e5, Y5, F5⟩ := yw_s Y 20 (by decide) ((p : Int) + 1)
      obtain ⟨h7, n7, e7, Y7, F7, p7, r7⟩ := ih g (p + 1) h5 _ Y5 (zr_us _ _ _) ((zr_un fl _ (by decide)).trans h4) (by omega) (by omega)
      refine ⟨h7, n7, ?_, Y7, zr_Ft F5 F7, ?_, fun k hk => (r7 k hk).trans (zr_un fl _ hk)⟩
      · have := mi.mpr e
        rw [decide_eq_true (by omega), Bool.not_true, cond_false, yw_i Y 20 rfl, b1_s, h6, zw_add, e5, b1_s]
        exact e7
      · rw [yt_r, if_pos e]
        exact p7
    · refine ⟨h, fl, ?_, Y, zr_Fr h, ?_, fun _ _ => rfl⟩
      · have : ¬ yt_m (yt_k ((yX G).getD p 0)) = yt_m q := fun x => e (mi.mp x)
        rw [decide_eq_false (by omega), Bool.not_false, cond_true]
      · rw [yt_r, if_neg e]
        exact h6
/-- a number's value -/
theorem yw_value {e0 : Nat} : ∀ (c f i x : Nat) (h : zH) (fl : Nat → Int), yv0 G h A fl a → fl 20 = (e0 : Int) → fl 18 = 3 → fl 21 = (x : Int) → i + c = e0 → e0 ≤ (yX G).length → c < f → (∀ j, i ≤ j → j < e0 → yt_k ((yX G).getD j 0) = 2) → ∃ h' fl', fM_next_207 N f 232 (Int32.ofInt (i : Int)) h = some ((), h') ∧ yv0 G h' A fl' a ∧ zr_F h h' ∧ fl' 21 = (yt_w (yX G) c i x : Int) ∧ ∀ k, k ≠ 21 → fl' k = fl k := by
  intro c
  induction c with
  | zero =>
    intro f i x h fl Y h6 h4 h7 h1 h8 h2 h3
    obtain ⟨g, rfl⟩ : ∃ g, f = g + 1 := ⟨f - 1, by omega⟩
    have l6 := Y.2.2.2.2.1.1
    refine ⟨h, fl, ?_, Y, zr_Fr h, h7, fun _ _ => rfl⟩
    rw [fM_next_207, yw_i Y 20 rfl, b1_s, h6, zqo_ge _ _ (by omega) (by omega), decide_eq_true (by omega), cond_true]
  | succ c ih =>
    intro f i x h fl Y h6 h4 h7 h1 h8 h2 h3
    obtain ⟨g, rfl⟩ : ∃ g, f = g + 1 := ⟨f - 1, by omega⟩
    have l6 := Y.2.2.2.2.1.1
    have sr := yw_src Y (i := i) (by omega)
    have d := yt_k2 (h3 i (Nat.le_refl i) (by omega))
    obtain ⟨h5, e5, Y5, F5⟩ := yw_s Y 21 (by decide) (10 * (x : Int) + ((yX G).getD i 0 : Int) - 48)
    obtain ⟨h9, n9, e9, Y9, F9, p9, r9⟩ := ih g (i + 1) (10 * x + ((yX G).getD i 0 - 48)) h5 _ Y5 ((zr_un fl _ (by decide)).trans h6) ((zr_un fl _ (by decide)).trans h4) (by rw [zr_us]; omega) (by omega) h8 (by omega) (fun j a b => h3 j (by omega) b)
    refine ⟨h9, n9, ?_, Y9, zr_Ft F5 F9, p9, fun k hk => (r9 k hk).trans (zr_un fl _ hk)⟩
    rw [fM_next_207, yw_i Y 20 rfl, b1_s, h6, zqo_ge _ _ (by omega) (by omega), decide_eq_false (by omega), cond_false, yw_i Y 18 rfl, b1_s, h4, show z_cmp .ne (Int32.ofInt 3) (Int32.ofInt 3) = false from rfl, cond_false, yw_i Y 21 rfl, b1_s, h7, zr_r7 Y.1, b1_s, sr, b1_s, zw_mul, zw_add, zw_sub, e5, b1_s, zh_inc]
    exact e9
theorem yw_170 (hN : 1000 ≤ N) (Y : yv0 G h A fl a) {p : Nat} (h5 : fl 19 = (p : Int)) (h6 : fl 20 = (yt_e (yX G) p : Int)) (h4 : fl 18 = (yt_m (yt_k ((yX G).getD p 0)) : Int)) (hp : p < (yX G).length) : ∃ h' fl', fM_next_170 N 232 h = some ((), h') ∧ yv0 G h' A fl' a ∧ zr_F h h' ∧ yT (yX G) p fl' ∧ ∀ k, (k < 18 ∨ 21 < k) → fl' k = fl k := by
  have l6 := Y.2.2.2.2.1.1
  have eb := yt_eb (s := yX G) (p := p) (by omega)
  have kb := yt_kb ((yX G).getD p 0)
  have mb := yt_mb (yt_k ((yX G).getD p 0))
  have mi := yt_mi (q := yt_k ((yX G).getD p 0))
  -- with another kind than a number's, 197 ends at once
  have no : ∀ (h : zH) (fl : Nat → Int), yv0 G h A fl a → fl 19 = (p : Int) → fl 20 = (yt_e (yX G) p : Int) → (∃ m : Nat, fl 18 = (m : Int) ∧ m ≤ 6 ∧ m ≠ 3) → ∃ h' fl', fM_next_197 N 232 h = some ((), h') ∧ yv0 G h' A fl' a ∧ zr_F h h' ∧ ∀ k, k ≠ 21 → fl' k = fl k := by
    intro h fl Y h5 h6 ⟨m, h4, m6, m3⟩
    obtain ⟨h1, e1, Y1, F1⟩ := yw_s Y 21 (by decide) 0
    obtain ⟨g, hg⟩ : ∃ g, N = g + 1 := ⟨N - 1, by omega⟩
    refine ⟨h1, _, ?_, Y1, F1, fun k hk => zr_un fl _ hk⟩
    unfold fM_next_197
    rw [e1, b1_s, yw_i Y1 19 rfl, b1_s, zr_un fl _ (show (19 : Nat) ≠ 21 by decide), h5]
    generalize hM : N = M
    have e2 : fM_next_207 M (g + 1) 232 (Int32.ofInt (p : Int)) h1 = some ((), h1) := by
      rw [fM_next_207, yw_i Y1 20 rfl, b1_s, zr_un fl _ (show (20 : Nat) ≠ 21 by decide), h6, zqo_ge _ _ (by omega) (by omega), decide_eq_false (by omega), cond_false, yw_i Y1 18 rfl, b1_s, zr_un fl _ (show (18 : Nat) ≠ 21 by decide), h4, zqo_ne _ _ (by omega) (by decide), decide_eq_false (by omega), Bool.not_false, cond_true]
    rw [← hM, hg] at e2 ⊢
    exact e2
  by_cases e : yt_k ((yX G).getD p 0) = 2
  · have m3 : fl 18 = 3 := by omega
    by_cases e3 : yt_e (yX G) p - p ≤ 3
    · have q2 : yt_q (yX G) p = 2 := by
        unfold yt_q
        rw [if_neg (by omega), if_neg (by omega)]
        exact e
      obtain ⟨_, _, dg⟩ := yt_q2 q2
      obtain ⟨h1, e1, Y1, F1⟩ := yw_s Y 21 (by decide) 0
      obtain ⟨h2, n2, e2, Y2, F2, p2, r2⟩ := yw_value (N := N) (e0 := yt_e (yX G) p) (yt_e (yX G) p - p) N p 0 h1 _ Y1 ((zr_un fl _ (by decide)).trans h6) ((zr_un fl _ (by decide)).trans m3) (zr_us _ _ _) (by omega) eb.2.1 (by omega) dg
      have n2k : ∀ k, k ≠ 21 → n2 k = fl k := fun k hk => (r2 k hk).trans (zr_un fl _ hk)
      refine ⟨h2, n2, ?_, Y2, zr_Ft F1 F2, ⟨(n2k 18 (by decide)).trans (by rw [q2]; exact m3), (n2k 19 (by decide)).trans h5, (n2k 20 (by decide)).trans h6, fun _ => p2⟩, fun k hk => n2k k (by omega)⟩
      unfold fM_next_170
      rw [yw_i Y 18 rfl, b1_s, m3, show z_cmp .ne (Int32.ofInt 3) (Int32.ofInt 3) = false from rfl, cond_false, yw_i Y 20 rfl, b1_s, h6, yw_i Y 19 rfl, b1_s, h5, zw_sub, zqo_le _ _ (by omega) (by decide), decide_eq_true (by omega), cond_true]
      unfold fM_next_197
      rw [e1, b1_s, yw_i Y1 19 rfl, b1_s, zr_un fl _ (show (19 : Nat) ≠ 21 by decide), h5]
      exact e2
    · have q7 : yt_q (yX G) p = 7 := by
        unfold yt_q
        rw [if_neg (by omega), if_pos ⟨e, by omega⟩]
      obtain ⟨h1, e1, Y1, F1⟩ := yw_s Y 18 (by decide) 6
      obtain ⟨h2, n2, e2, Y2, F2, r2⟩ := no h1 _ Y1 ((zr_un fl _ (by decide)).trans h5) ((zr_un fl _ (by decide)).trans h6) ⟨6, zr_us _ _ _, Nat.le_refl 6, by decide⟩
      refine ⟨h2, n2, ?_, Y2, zr_Ft F1 F2, ⟨(r2 18 (by decide)).trans (by rw [q7, zr_us]; rfl), (r2 19 (by decide)).trans ((zr_un fl _ (by decide)).trans h5), (r2 20 (by decide)).trans ((zr_un fl _ (by decide)).trans h6), fun x => absurd (q7.symm.trans x) (by decide)⟩, fun k hk => (r2 k (by omega)).trans (zr_un fl _ (by omega))⟩
      unfold fM_next_170
      rw [yw_i Y 18 rfl, b1_s, m3, show z_cmp .ne (Int32.ofInt 3) (Int32.ofInt 3) = false from rfl, cond_false, yw_i Y 20 rfl, b1_s, h6, yw_i Y 19 rfl, b1_s, h5, zw_sub, zqo_le _ _ (by omega) (by decide), decide_eq_false (by omega), cond_false, e1, b1_s]
      exact e2
  · have q : yt_q (yX G) p = yt_k ((yX G).getD p 0) := by
      unfold yt_q
      rw [if_neg (by omega), if_neg (fun x => e x.1)]
    obtain ⟨h2, n2, e2, Y2, F2, r2⟩ := no h fl Y h5 h6 ⟨_, h4, mb, by omega⟩
    refine ⟨h2, n2, ?_, Y2, F2, ⟨(r2 18 (by decide)).trans (by rw [q]; exact h4), (r2 19 (by decide)).trans h5, (r2 20 (by decide)).trans h6, fun x => absurd (q.symm.trans x) e⟩, fun k hk => r2 k (by omega)⟩
    unfold fM_next_170
    rw [yw_i Y 18 rfl, b1_s, h4, zqo_ne _ _ (by omega) (by decide), decide_eq_false (by omega), Bool.not_false, cond_true]
    exact e2
theorem yw_60 (hN : 1000 ≤ N) (Y : yv0 G h A fl a) {p : Nat} (h6 : fl 19 = (p : Int)) (hp : p ≤ (yX G).length) : ∃ h' fl', fM_next_60 N 232 h = some ((), h') ∧ yv0 G h' A fl' a ∧ zr_F h h' ∧ yT (yX G) p fl' ∧ ∀ k, (k < 18 ∨ 21 < k) → fl' k = fl k := by
  have l6 := Y.2.2.2.2.1.1
  obtain ⟨h1, e1, Y1, F1⟩ := yw_s Y 20 (by decide) (p : Int)
  have m19 : zr_u fl 20 (p : Int) 19 = (p : Int) := (zr_un fl _ (by decide)).trans h6
  unfold fM_next_60
  rw [yw_i Y 19 rfl, b1_s, h6, e1, b1_s, yw_i Y1 19 rfl, b1_s, m19, yw_11 Y1, b1_s, zqo_ne _ _ (by omega) (by omega)]
  by_cases e : (yX G).length ≤ p
  · obtain ⟨h2, e2, Y2, F2⟩ := yw_s Y1 18 (by decide) 0
    have q0 : yt_q (yX G) p = 0 := (yt_q0 hp).mpr (by omega)
    have ee : yt_e (yX G) p = p := by
      unfold yt_e
      rw [if_pos e]
    refine ⟨h2, _, ?_, Y2, zr_Ft F1 F2, ⟨?_, ?_, ?_, fun x => absurd (q0.symm.trans x) (by decide)⟩, fun k hk => ?_⟩
    · rw [decide_eq_true (by omega), Bool.not_true, cond_false, e2, b1_s]
    · rw [q0]
      exact zr_us _ _ _
    · rw [zr_un _ _ (show (19 : Nat) ≠ 18 by decide)]
      exact m19
    · rw [zr_un _ _ (show (20 : Nat) ≠ 18 by decide), zr_us, ee]
    · rw [zr_un _ _ (show k ≠ 18 by omega), zr_un _ _ (show k ≠ 20 by omega)]
  · have kb := yt_kb ((yX G).getD p 0)
    have mb := yt_mb (yt_k ((yX G).getD p 0))
    have mi := yt_mi (q := yt_k ((yX G).getD p 0))
    have g1 := zw_gD Y.2.2.2.2.1.2 p
    obtain ⟨h2, e2, Y2, F2⟩ := yw_s Y1 18 (by decide) (yt_m (yt_k ((yX G).getD p 0)) : Int)
    obtain ⟨h3, e3, Y3, F3⟩ := yw_s Y2 20 (by decide) ((p : Int) + 1)
    generalize hf : zr_u (zr_u (zr_u fl 20 (p : Int)) 18 (yt_m (yt_k ((yX G).getD p 0)) : Int)) 20 ((p : Int) + 1) = f3 at Y3
    have n18 : f3 18 = (yt_m (yt_k ((yX G).getD p 0)) : Int) := by rw [← hf, zr_un _ _ (show (18 : Nat) ≠ 20 by decide), zr_us]
    have n19 : f3 19 = (p : Int) := by
      rw [← hf, zr_un _ _ (show (19 : Nat) ≠ 20 by decide), zr_un _ _ (show (19 : Nat) ≠ 18 by decide)]
      exact m19
    have n20 : f3 20 = (p : Int) + 1 := by rw [← hf, zr_us]
    have nk : ∀ k, (k < 18 ∨ 21 < k) → f3 k = fl k := fun k hk => by rw [← hf, zr_un _ _ (show k ≠ 20 by omega), zr_un _ _ (show k ≠ 18 by omega), zr_un _ _ (show k ≠ 20 by omega)]
    have s1 : ∀ g : zH → Option (Unit × zH), (b1 (fR h1 232 5 7) fun x9 => b1 (fI h1 232 5 19) fun x10 => b1 (fAI h1 x9 100 x10) fun x11 => b2 (fM_sortOf N x11 h1) fun x12 h13 => b1 (fS h13 232 5 18 (.int x12)) fun h14 => b1 (fI h14 232 5 20) fun x15 => b1 (fS h14 232 5 20 (.int (x15 + (Int32.ofInt 1)))) g) = g h3 := fun g => by
      rw [zr_r7 Y1.1, b1_s, yw_i Y1 19 rfl, b1_s, m19, yw_src Y1 (by omega), b1_s, yt_sort N _ g1, b2, e2, b1_s, yw_i Y2 20 rfl, b1_s, zr_un _ _ (show (20 : Nat) ≠ 18 by decide), zr_us, zw_add, e3, b1_s]
    have s2 := s1 (fun h16 => fM_next_111 N N 232 h16)
    rw [yw_i Y1 19 rfl, m19] at s2
    rw [decide_eq_false (by omega), Bool.not_false, cond_true, s2]
    by_cases ek : yt_k ((yX G).getD p 0) = 1 ∨ yt_k ((yX G).getD p 0) = 2
    · obtain ⟨h4, m4, e4, Y4, F4, p4, r4⟩ := yw_more (N := N) ek ((yX G).length - (p + 1)) N (p + 1) h3 _ Y3 (by rw [n20]; omega) n18 (by omega) (by omega)
      have ee : yt_e (yX G) p = yt_r (yX G) (yt_k ((yX G).getD p 0)) ((yX G).length - (p + 1)) (p + 1) := by
        unfold yt_e
        rw [if_neg e, if_pos ek]
      obtain ⟨h5, m5, e5, Y5, F5, T5, K5⟩ := yw_170 hN Y4 (p := p) ((r4 19 (by decide)).trans n19) (by rw [ee]; exact p4) ((r4 18 (by decide)).trans n18) (by omega)
      exact ⟨h5, m5, by rw [e4, e5], Y5, zr_Ft F1 (zr_Ft F2 (zr_Ft F3 (zr_Ft F4 F5))), T5, fun k hk => (K5 k hk).trans ((r4 k (by omega)).trans (nk k hk))⟩
    · obtain ⟨g, hg⟩ : ∃ g, N = g + 1 := ⟨N - 1, by omega⟩
      have s3 : fM_next_111 N N 232 h3 = fM_next_170 N 232 h3 := by
        generalize hM : fM_next_170 N 232 h3 = R
        rw [hg, fM_next_111, ← hg, hM, yw_i Y3 18 rfl, b1_s, n18, zqo_eq _ _ (by omega) (by decide), decide_eq_false (by omega), cond_false, b1_s, zqo_ne _ _ (by omega) (by decide), decide_eq_false (by omega), Bool.not_false, cond_true]
      have ee : yt_e (yX G) p = p + 1 := by
        unfold yt_e
        rw [if_neg e, if_neg ek]
      obtain ⟨h5, m5, e5, Y5, F5, T5, K5⟩ := yw_170 hN Y3 (p := p) n19 (by rw [ee, n20]; omega) n18 (by omega)
      exact ⟨h5, m5, by rw [s3, e5], Y5, zr_Ft F1 (zr_Ft F2 (zr_Ft F3 F5)), T5, fun k hk => (K5 k hk).trans (nk k hk)⟩
/-- the next token -/
theorem yw_next (hN : 1000 ≤ N) (Y : yv0 G h A fl a) {p : Nat} (h6 : fl 20 = (p : Int)) (hp : p ≤ (yX G).length) : ∃ h' fl', fM_next N 232 h = some ((), h') ∧ yv0 G h' A fl' a ∧ zr_F h h' ∧ yT (yX G) (yt_s (yX G) p) fl' ∧ ∀ k, (k < 18 ∨ 21 < k) → fl' k = fl k := by
  have l6 := Y.2.2.2.2.1.1
  obtain ⟨h0, e0, Y0, F0⟩ := yw_s Y 19 (by decide) (p : Int)
  obtain ⟨h1, n1, e1, Y1, F1, p1, r1⟩ := yw_skip (N := N) ((yX G).length - p) N p h0 _ Y0 (zr_us _ _ _) (by omega) (by omega)
  obtain ⟨h2, n2, e2, Y2, F2, T2, k2⟩ := yw_60 hN Y1 (p := yt_s (yX G) p) p1 (yt_sb hp).2
  refine ⟨h2, n2, ?_, Y2, zr_Ft F0 (zr_Ft F1 F2), T2, fun k hk => (k2 k hk).trans ((r1 k (by omega)).trans (zr_un fl _ (by omega)))⟩
  unfold fM_next
  rw [yw_T Y, cond_true, yw_i Y 20 rfl, b1_s, h6, e0, b1_s, e1, e2]
theorem yw_fail (Y : yv0 G h A fl a) (x : Int) : ∃ h' fl', fM_fail N 232 (Int32.ofInt x) h = some (Int32.ofInt 0, h') ∧ yv0 G h' A fl' a ∧ zr_F h h' := by
  unfold fM_fail fM_fail_20
  rw [yw_T Y, cond_true, yw_i Y 12 rfl, b1_s]
  cases z_cmp .ne (Int32.ofInt (fl 12)) (Int32.ofInt 0) with
  | true => exact ⟨h, fl, rfl, Y, zr_Fr h⟩
  | false =>
    obtain ⟨h1, e1, Y1, F1⟩ := yw_s Y 12 (by decide) x
    obtain ⟨h2, e2, Y2, F2⟩ := yw_s Y1 13 (by decide) (fl 19)
    refine ⟨h2, _, ?_, Y2, zr_Ft F1 F2⟩
    rw [cond_false, e1, b1_s, yw_i Y1 19 rfl, b1_s, zr_un fl _ (show (19 : Nat) ≠ 12 by decide), e2, b1_s]
theorem yw_is (Y : yv0 G h A fl a) {m : Nat} (h4 : fl 18 = (m : Int)) (hm : m ≤ 6) (w : Int) (hw : 0 ≤ w ∧ w ≤ 6) : ((m : Int) = w ∧ fM_is N 232 (Int32.ofInt w) h = some (Int32.ofInt 1, h)) ∨ ((m : Int) ≠ w ∧ ∃ h' fl', fM_is N 232 (Int32.ofInt w) h = some (Int32.ofInt 0, h') ∧ yv0 G h' A fl' a ∧ zr_F h h') := by
  unfold fM_is
  rw [yw_T Y, cond_true, yw_i Y 18 rfl, b1_s, h4, zqo_eq _ _ (by omega) (by omega)]
  by_cases e : (m : Int) = w
  · refine Or.inl ⟨e, ?_⟩
    rw [decide_eq_true e]
    rfl
  · obtain ⟨h1, f1, e1, Y1, F1⟩ := yw_fail (N := N) Y 1
    refine Or.inr ⟨e, h1, f1, ?_, Y1, F1⟩
    rw [decide_eq_false e, cond_false, e1, b2]
    rfl
theorem yw_num (hN : 1000 ≤ N) (Y : yv0 G h A fl a) {p : Nat} (hp : p ≤ (yX G).length) (T : yT (yX G) (yt_s (yX G) p) fl) (pl : Nat) (hpl : pl < 2) (lo hi : Int) (hlo : -2147483648 ≤ lo ∧ lo < 2147483648) (hhi : -2147483648 ≤ hi ∧ hi < 2147483648) : (∃ v e, ym_num (yX G) p lo hi = some (v, e) ∧ ∃ h' fl' a', fM_number N 232 (Int32.ofInt (pl : Int)) (Int32.ofInt lo) (Int32.ofInt hi) h = some (Int32.ofInt 1, h') ∧ yv0 G h' A fl' a' ∧ zr_F h h' ∧ yT (yX G) (yt_s (yX G) e) fl' ∧ fl' 22 = fl 22 ∧ a' 242 pl = (v : Int) ∧ (∀ r i, r ≠ 242 → a' r i = a r i) ∧ ∀ i, i ≠ pl → a' 242 i = a 242 i) ∨ (ym_num (yX G) p lo hi = none ∧ ∃ h' fl', fM_number N 232 (Int32.ofInt (pl : Int)) (Int32.ofInt lo) (Int32.ofInt hi) h = some (Int32.ofInt 0, h') ∧ yv0 G h' A fl' a ∧ zr_F h h') := by
  have mi := yt_mi (q := yt_q (yX G) (yt_s (yX G) p))
  have mb := yt_mb (yt_q (yX G) (yt_s (yX G) p))
  have sb := yt_sb hp
  have eb := yt_eb sb.2
  unfold fM_number
  rw [yw_T Y, cond_true]
  rcases yw_is (N := N) Y T.1 mb 3 (by decide) with ⟨q1, e1⟩ | ⟨q1, h1, f1, e1, Y1, F1⟩
  · have q2 : yt_q (yX G) (yt_s (yX G) p) = 2 := by omega
    have v9 := yt_v999 q2
    have t21 := T.2.2.2 q2
    rw [e1, b2, show z_cmp .ne (Int32.ofInt 1) (Int32.ofInt 0) = true from rfl, cond_true, yw_i Y 21 rfl, b1_s, t21, zr_in N _ lo hi (by omega) hlo hhi, b2]
    by_cases e : lo ≤ (yt_v (yX G) (yt_s (yX G) p) : Int) ∧ (yt_v (yX G) (yt_s (yX G) p) : Int) ≤ hi
    · obtain ⟨h2, e2, H2, F2⟩ := zr_p Y.1 242 pl (by decide) (by decide) (show pl < 2 from hpl) (yt_v (yX G) (yt_s (yX G) p) : Int)
      have e2 : fAS h 242 100 (Int32.ofInt (pl : Int)) (.int (Int32.ofInt (yt_v (yX G) (yt_s (yX G) p) : Int))) = some h2 := e2
      have Q : yQ fl a fl a := yQ_r fl a
      have Y2 : yv0 G h2 A fl (zr_v a 242 pl (yt_v (yX G) (yt_s (yX G) p) : Int)) := by
        obtain ⟨y1, R, y3, y4, y5, y6⟩ := Y
        refine ⟨H2, zyR_a R (fun _ _ => rfl) (fun p i hp => zr_vn a _ (by omega)) ?_, ?_, ⟨y4.1, fun i hi => (zr_vn a _ (Or.inl (by decide))).trans (y4.2 i hi)⟩, y5, y6⟩
        · rw [show zr_v a 242 pl (yt_v (yX G) (yt_s (yX G) p) : Int) 233 = a 233 from funext fun i => zr_vn a _ (Or.inl (by decide))]
          exact R.1
        · rw [show zr_v a 242 pl (yt_v (yX G) (yt_s (yX G) p) : Int) 234 = a 234 from funext fun i => zr_vn a _ (Or.inl (by decide))]
          exact y3
      obtain ⟨h3, f3, e3, Y3, F3, T3, k3⟩ := yw_next hN Y2 T.2.2.1 eb.2.1
      refine Or.inl ⟨_, _, if_pos ⟨q2, e.1, e.2⟩, h3, f3, _, ?_, Y3, zr_Ft F2 F3, T3, k3 22 (by omega), zr_vs _ _ _ _, fun r i hr => zr_vn a _ (Or.inl hr), fun i hi => zr_vn a _ (Or.inr hi)⟩
      rw [decide_eq_true e, cond_true, show z_cmp .ne (Int32.ofInt 1) (Int32.ofInt 0) = true from rfl, cond_true, zr_r23 Y.1, b1_s, yw_i Y 21 rfl, b1_s, t21, e2, b1_s, e3, b2]
    · obtain ⟨h2, f2, e2, Y2, F2⟩ := yw_fail (N := N) Y 2
      refine Or.inr ⟨if_neg (fun x => e ⟨x.2.1, x.2.2⟩), h2, f2, ?_, Y2, F2⟩
      rw [decide_eq_false e, cond_false, show z_cmp .ne (Int32.ofInt 0) (Int32.ofInt 0) = false from rfl, cond_false, e2, b2]
      rfl
  · refine Or.inr ⟨if_neg (fun x => q1 (by omega)), h1, f1, ?_, Y1, F1⟩
    rw [e1, b2, show z_cmp .ne (Int32.ofInt 0) (Int32.ofInt 0) = false from rfl, cond_false]
theorem yw_says28 (Y : yv0 G h A fl a) {l3 : Nat} {b : List Nat} (hS : yS l3 b) (hb : b.length ≤ 20 ∧ ∀ v ∈ b, v < 256) {x y : Nat} (h19 : fl 19 = (x : Int)) (hxy : x ≤ y) (hy : y ≤ (yX G).length) (hl : y - x = b.length) : ∀ c f i, i + c = b.length → c < f → (∀ j, j < i → (yX G).getD (x + j) 0 = b.getD j 0) → fM_says_28 N f 232 l3 (Int32.ofInt (i : Int)) h = some (cond (decide (zw_p (yX G) x y = b)) (Int32.ofInt 1) (Int32.ofInt 0), h) := by
  have l6 := Y.2.2.2.2.1.1
  obtain ⟨s1, s2⟩ := hS N h
  have pl := zw_pl (yX G) x y hy
  intro c
  induction c with
  | zero =>
    intro f i h1 h2 h3
    obtain ⟨g, rfl⟩ : ∃ g, f = g + 1 := ⟨f - 1, by omega⟩
    have e : zw_p (yX G) x y = b := zm_same (by omega) (fun j hj => by
      rw [pl] at hj
      rw [zw_pd hj]
      exact h3 j (by omega))
    rw [fM_says_28, s1, b2, zqo_ge _ _ (by omega) (by omega), decide_eq_true (by omega), cond_true, decide_eq_true e, cond_true]
  | succ c ih =>
    intro f i h1 h2 h3
    obtain ⟨g, rfl⟩ : ∃ g, f = g + 1 := ⟨f - 1, by omega⟩
    have g1 := zw_gD Y.2.2.2.2.1.2 (x + i)
    have g2 := zw_gD hb.2 i
    have sr := yw_src Y (i := x + i) (by omega)
    rw [fM_says_28, s1, b2, zqo_ge _ _ (by omega) (by omega), decide_eq_false (by omega), cond_false, zr_r7 Y.1, b1_s, yw_i Y 19 rfl, b1_s, h19, zw_add, show (x : Int) + (i : Int) = ((x + i : Nat) : Int) by omega, sr, b1_s, s2 i (by omega), b2, zqo_eq _ _ (by omega) (by omega)]
    by_cases e : (yX G).getD (x + i) 0 = b.getD i 0
    · rw [decide_eq_true (by omega), cond_true, zh_inc]
      refine ih g (i + 1) (by omega) (by omega) (fun j hj => ?_)
      by_cases e2 : j = i
      · rw [e2]
        exact e
      · exact h3 j (by omega)
    · have e3 : ¬ zw_p (yX G) x y = b := fun z => e (by
        rw [← z, zw_pd (by omega)])
      rw [decide_eq_false (by omega), cond_false, decide_eq_false e3, cond_false]
theorem yw_says (hN : 1000 ≤ N) (Y : yv0 G h A fl a) {p : Nat} (hp : p ≤ (yX G).length) (T : yT (yX G) (yt_s (yX G) p) fl) {l3 : Nat} {b : List Nat} (hS : yS l3 b) (hb : b.length ≤ 20 ∧ ∀ v ∈ b, v < 256) : fM_says N 232 l3 h = some (cond (decide (yt_q (yX G) (yt_s (yX G) p) = 1 ∧ zw_p (yX G) (yt_s (yX G) p) (yt_e (yX G) (yt_s (yX G) p)) = b)) (Int32.ofInt 1) (Int32.ofInt 0), h) := by
  have l6 := Y.2.2.2.2.1.1
  have mi := yt_mi (q := yt_q (yX G) (yt_s (yX G) p))
  have mb := yt_mb (yt_q (yX G) (yt_s (yX G) p))
  have sb := yt_sb hp
  have eb := yt_eb sb.2
  have pl := zw_pl (yX G) (yt_s (yX G) p) (yt_e (yX G) (yt_s (yX G) p)) eb.2.1
  unfold fM_says
  rw [yw_T Y, cond_true, yw_i Y 18 rfl, b1_s, T.1, zqo_ne _ _ (by omega) (by decide)]
  by_cases e : yt_q (yX G) (yt_s (yX G) p) = 1
  · rw [decide_eq_true (by omega), Bool.not_true, cond_false, yw_i Y 20 rfl, b1_s, T.2.2.1, yw_i Y 19 rfl, b1_s, T.2.1, (hS N h).1, b2, zw_sub, zqo_eq _ _ (by omega) (by omega)]
    by_cases e2 : yt_e (yX G) (yt_s (yX G) p) - yt_s (yX G) p = b.length
    · rw [decide_eq_true (by omega), cond_true]
      have := yw_says28 (N := N) Y hS hb T.2.1 eb.1 eb.2.1 e2 b.length N 0 (by omega) (by omega) (fun j hj => absurd hj (Nat.not_lt_zero j))
      refine this.trans ?_
      by_cases e3 : zw_p (yX G) (yt_s (yX G) p) (yt_e (yX G) (yt_s (yX G) p)) = b
      · rw [decide_eq_true e3, decide_eq_true ⟨e, e3⟩]
      · rw [decide_eq_false e3, decide_eq_false (fun x => e3 x.2)]
    · have e3 : ¬ (yt_q (yX G) (yt_s (yX G) p) = 1 ∧ zw_p (yX G) (yt_s (yX G) p) (yt_e (yX G) (yt_s (yX G) p)) = b) := fun z => e2 (by rw [← z.2, pl])
      rw [decide_eq_false (by omega), cond_false, decide_eq_false e3]
      rfl
  · rw [decide_eq_false (by omega), Bool.not_false, cond_true, decide_eq_false (fun z => e z.1)]
    rfl
end YVW
end
section
/-! THE REFERENCE'S SCRIPT: a command by its word, repeats. -/
/-- one command: the state, how many were executed, where it ends -/
def y1 (rp : zA → Nat → Nat → Option (zA × Nat × Nat)) (s : List Nat) (A : zA) (ex p : Nat) : Option (zA × Nat × Nat) :=
  if yt_q s (yt_s s p) = 1 then
    (if ym_w s p = 11 then rp A ex (yt_e s (yt_s s p))
    else if ym_w s p = 12 ∨ 200 ≤ ex then none
    else (yx (ym_w s p) s A (yt_e s (yt_s s p))).bind fun r => some (r.1, ex + 1, r.2))
  else none
theorem yb_1 (rp : zA → Nat → Nat → Option (zA × Nat × Nat)) (s : List Nat) (cl c : Nat) (A : zA) (ex p : Nat) : yb rp s cl (c + 1) A ex p = if yt_q s (yt_s s p) = cl then some (A, ex, p) else (y1 rp s A ex p).bind fun r => yb rp s cl c r.1 r.2.1 r.2.2 := by
  rw [yb]
  by_cases e0 : yt_q s (yt_s s p) = cl
  · rw [if_pos e0, if_pos e0]
  · rw [if_neg e0, if_neg e0]
    unfold y1
    by_cases e1 : yt_q s (yt_s s p) = 1
    · rw [if_pos e1, if_pos e1]
      by_cases e2 : ym_w s p = 11
      · rw [if_pos e2, if_pos e2]
      · rw [if_neg e2, if_neg e2]
        by_cases e3 : ym_w s p = 12 ∨ 200 ≤ ex
        · rw [if_pos e3, if_pos e3]
          rfl
        · rw [if_neg e3, if_neg e3]
          cases yx (ym_w s p) s A (yt_e s (yt_s s p)) <;> rfl
    · rw [if_neg e1, if_neg e1]
      rfl
theorem y1_lt {rp : zA → Nat → Nat → Option (zA × Nat × Nat)} {s : List Nat} (D : yPd rp s) {A A' : zA} {ex p ex' e : Nat} (hp : p ≤ s.length) (h : y1 rp s A ex p = some (A', ex', e)) : p < e ∧ e ≤ s.length := by
  unfold y1 at h
  by_cases e1 : yt_q s (yt_s s p) = 1
  · rw [if_pos e1] at h
    have tb := yt_tokb hp (show yt_q s (yt_s s p) ≠ 0 by omega)
    by_cases e2 : ym_w s p = 11
    · rw [if_pos e2] at h
      have d := D _ _ _ _ _ _ tb.2 h
      omega
    · rw [if_neg e2] at h
      by_cases e3 : ym_w s p = 12 ∨ 200 ≤ ex
      · rw [if_pos e3] at h
        cases h
      · rw [if_neg e3] at h
        cases e4 : yx (ym_w s p) s A (yt_e s (yt_s s p)) with
        | none => rw [e4] at h; cases h
        | some r =>
          obtain ⟨A2, e5⟩ := r
          rw [e4] at h
          cases h
          have d := yx_end tb.2 e4
          omega
  · rw [if_neg e1] at h
    cases h
/-- what the reference does at depth d from a token on is y -/
def yCP (G : yH) (d : Nat) (rc : Nat → Int32 → zH → Option (Int32 × zH)) (y : zA → Nat → Nat → Option (zA × Nat × Nat)) : Prop := ∀ (h : zH) (A : zA) (fl : Nat → Int) (a : Nat → Nat → Int) (ex p : Nat), yv G h A fl a → p ≤ (yX G).length → yT (yX G) (yt_s (yX G) p) fl → fl 22 = (ex : Int) → ex ≤ 200 → (y A ex p = none ∧ yFr G h (rc 232 (Int32.ofInt (d : Int)) h)) ∨ (∃ A' ex' e, y A ex p = some (A', ex', e) ∧ ∃ h' fl' a', rc 232 (Int32.ofInt (d : Int)) h = some (Int32.ofInt 1, h') ∧ yv G h' A' fl' a' ∧ zr_F h h' ∧ fl' 20 = (e : Int) ∧ fl' 22 = (ex' : Int) ∧ ex' ≤ 200)
theorem yv_cmd {N : Nat} {G : yH} {d : Nat} {rc : Nat → Int32 → zH → Option (Int32 × zH)} {rp : zA → Nat → Nat → Option (zA × Nat × Nat)} (hN : 4000 ≤ N) (hd : d ≤ 2) (hR : d < 2 → yCP G d (fM_readsRepeat N rc) rp) (h2 : d = 2 → ∀ A ex p, rp A ex p = none) : yCP G d (fM_readsCommand_B N rc) (y1 rp (yX G)) := by
  intro h A fl a ex p Y hp T h22 hx
  have sb := yt_sb hp
  have eb := yt_eb sb.2
  unfold fM_readsCommand_B
  rw [yv_T Y, cond_true, yv_ahead (by omega) Y hp T, b2]
  have f1 := yv_failF (N := N) Y 1
  by_cases k1 : yt_q (yX G) (yt_s (yX G) p) = 1
  · have wi : ym_wi (yX G) p = ym_w (yX G) p := if_pos k1
    have wb : ym_w (yX G) p ≤ 12 := yt_cmdb _
    rw [wi]
    unfold y1
    rw [if_pos k1]
    by_cases w11 : ym_w (yX G) p = 11
    · rw [if_pos w11, w11, show (Int32.ofInt (if (11 : Nat) < 12 then ((11 : Nat) : Int) else -1)) = Int32.ofInt 11 from rfl, show z_cmp .ne (Int32.ofInt 11) (Int32.ofInt (-1)) = true from rfl, cond_true, show z_cmp .ne (Int32.ofInt 11) (Int32.ofInt 11) = false from rfl, cond_false, zqo_ne _ _ (by omega) (by decide)]
      by_cases d2 : d = 2
      · rw [decide_eq_true (by omega), Bool.not_true, cond_false]
        exact Or.inl ⟨h2 d2 _ _ _, yFr_w (yv_failF (N := N) Y 4)⟩
      · rw [decide_eq_false (by omega), Bool.not_false, cond_true]
        obtain ⟨h3, f3, e3, Y3, F3, T3, k3⟩ := yv_next (N := N) (by omega) Y (p := yt_e (yX G) (yt_s (yX G) p)) T.2.2.1 eb.2.1
        rw [e3, b2]
        rcases hR (by omega) h3 A f3 a ex (yt_e (yX G) (yt_s (yX G) p)) Y3 eb.2.1 T3 ((k3 22 (by omega)).trans h22) hx with ⟨o1, o2⟩ | ⟨A', ex', e, o1, h4, f4, a4, e4, Y4, F4, o20, o22, ox⟩
        · exact Or.inl ⟨o1, yFr_t F3 (yFr_w o2)⟩
        · refine Or.inr ⟨A', ex', e, o1, h4, f4, a4, ?_, Y4, zr_Ft F3 F4, o20, o22, ox⟩
          rw [e4, b2]
          rfl
    · rw [if_neg w11]
      by_cases w12 : ym_w (yX G) p = 12
      · rw [if_pos (Or.inl w12), w12, show (Int32.ofInt (if (12 : Nat) < 12 then ((12 : Nat) : Int) else -1)) = Int32.ofInt (-1) from rfl, show z_cmp .ne (Int32.ofInt (-1)) (Int32.ofInt (-1)) = false from rfl, cond_false]
        exact Or.inl ⟨rfl, yFr_w f1⟩
      · rw [if_pos (show ym_w (yX G) p < 12 by omega), zqo_ne _ _ (by omega) (by decide), decide_eq_false (by omega), Bool.not_false, cond_true, zqo_ne _ _ (by omega) (by decide), decide_eq_false (by omega), Bool.not_false, cond_true, yv_i Y 22 rfl, b1_s, h22, zqo_ne _ _ (by omega) (by decide)]
        by_cases x200 : ex = 200
        · rw [decide_eq_true (by omega), Bool.not_true, cond_false, if_pos (Or.inr (by omega))]
          exact Or.inl ⟨rfl, yFr_w (yv_failF (N := N) Y 5)⟩
        · obtain ⟨h3, e3, Y3, F3⟩ := yv_s Y 22 (by decide) ((ex : Int) + 1)
          obtain ⟨h4, f4, e4, Y4, F4, T4, k4⟩ := yv_next (N := N) (by omega) Y3 (p := yt_e (yX G) (yt_s (yX G) p)) ((zr_un fl _ (by decide)).trans T.2.2.1) eb.2.1
          have o := yv_word hN Y4 (p := yt_e (yX G) (yt_s (yX G) p)) (i := ym_w (yX G) p) eb.2.1 T4 (by omega)
          have x22 : f4 22 = ((ex + 1 : Nat) : Int) := (k4 22 (by omega)).trans ((zr_us _ _ _).trans (by omega))
          rw [decide_eq_false (by omega), Bool.not_false, cond_true, b1_s, zw_add, e3, b1_s, e4, b2, yU_w o, if_neg (by omega)]
          rcases o with ⟨o1, o2⟩ | ⟨A', e, o1, h5, f5, a5, e5, Y5, F5, o20, o22⟩
          · exact Or.inl ⟨by rw [o1]; rfl, yFr_t (zr_Ft F3 F4) o2⟩
          · exact Or.inr ⟨A', ex + 1, e, by rw [o1]; rfl, h5, f5, a5, e5, Y5, zr_Ft F3 (zr_Ft F4 F5), o20, o22.trans x22, by omega⟩
  · have wi : ym_wi (yX G) p = 12 := if_neg k1
    rw [wi, show (Int32.ofInt (if (12 : Nat) < 12 then ((12 : Nat) : Int) else -1)) = Int32.ofInt (-1) from rfl, show z_cmp .ne (Int32.ofInt (-1)) (Int32.ofInt (-1)) = false from rfl, cond_false]
    exact Or.inl ⟨if_neg k1, yFr_w f1⟩
/-- the commands of a round -/
theorem yv_51 {N : Nat} {G : yH} {d : Nat} {rc : Nat → Int32 → zH → Option (Int32 × zH)} {rp : zA → Nat → Nat → Option (zA × Nat × Nat)} (hN : 4000 ≤ N) (hd : d < 2) (CP : yCP G (d + 1) rc (y1 rp (yX G))) (D : yPd rp (yX G)) {k36 : Nat → Int32 → Int32 → Int32 → Int32 → zH → Option (Int32 × zH)} {l2 l3 l4 : Int32} : ∀ (c n : Nat) (h : zH) (A : zA) (fl : Nat → Int) (a : Nat → Nat → Int) (ex p : Nat), yv G h A fl a → p ≤ (yX G).length → (yX G).length < p + c → c ≤ n → yT (yX G) (yt_s (yX G) p) fl → fl 22 = (ex : Int) → ex ≤ 200 → (yb rp (yX G) 4 c A ex p = none ∧ yFr G h (fM_readsRepeat_51 N rc n k36 232 (Int32.ofInt (d : Int)) l2 l3 l4 h)) ∨ (∃ A' ex' q, yb rp (yX G) 4 c A ex p = some (A', ex', q) ∧ ∃ h' fl' a', fM_readsRepeat_51 N rc n k36 232 (Int32.ofInt (d : Int)) l2 l3 l4 h = k36 232 (Int32.ofInt (d : Int)) l2 l3 (l4 + Int32.ofInt 1) h' ∧ yv G h' A' fl' a' ∧ zr_F h h' ∧ yT (yX G) (yt_s (yX G) q) fl' ∧ fl' 22 = (ex' : Int) ∧ ex' ≤ 200) := by
  intro c
  induction c with
  | zero => intro n h A fl a ex p Y hp hc; omega
  | succ c ih =>
    intro n h A fl a ex p Y hp hc hn T h22 hx
    obtain ⟨g, rfl⟩ : ∃ g, n = g + 1 := ⟨n - 1, by omega⟩
    have mi := yt_mi (q := yt_q (yX G) (yt_s (yX G) p))
    have mb := yt_mb (yt_q (yX G) (yt_s (yX G) p))
    rw [yb_1, fM_readsRepeat_51, yv_i Y 18 rfl, b1_s, T.1, zqo_eq _ _ (by omega) (by decide)]
    by_cases e4 : yt_q (yX G) (yt_s (yX G) p) = 4
    · rw [if_pos e4, decide_eq_true (by omega), cond_true]
      exact Or.inr ⟨A, ex, p, rfl, h, fl, a, rfl, Y, zr_Fr h, T, h22, hx⟩
    · rw [if_neg e4, decide_eq_false (by omega), cond_false, zh_inc]
      rcases CP h A fl a ex p Y hp T h22 hx with ⟨o1, h', A', f', a', e', Y', F'⟩ | ⟨A1, ex1, e, o1, h1, f1, a1, e1, Y1, F1, o20, o22, ox⟩
      · refine Or.inl ⟨by rw [o1]; rfl, h', A', f', a', ?_, Y', F'⟩
        rw [e', b2]
        rfl
      · have lt := y1_lt D hp o1
        obtain ⟨h2, f2, e2, Y2, F2, T2, k2⟩ := yv_next (N := N) (by omega) Y1 (p := e) o20 lt.2
        rw [o1, e1, b2, show z_cmp .ne (Int32.ofInt 1) (Int32.ofInt 0) = true from rfl, cond_true, e2, b2]
        rcases ih g h2 A1 f2 a1 ex1 e Y2 lt.2 (by omega) (by omega) T2 ((k2 22 (by omega)).trans o22) ox with ⟨i1, i2⟩ | ⟨A', ex', q, i1, h', f', a', i2, i3, i4, i5⟩
        · exact Or.inl ⟨i1, yFr_t (zr_Ft F1 F2) i2⟩
        · exact Or.inr ⟨A', ex', q, i1, h', f', a', i2, i3, zr_Ft F1 (zr_Ft F2 i4), i5⟩
/-- rounds -/
theorem yv_36 {N : Nat} {G : yH} {d b t : Nat} {rc : Nat → Int32 → zH → Option (Int32 × zH)} {rp : zA → Nat → Nat → Option (zA × Nat × Nat)} (hN : 4000 ≤ N) (hd : d < 2) (CP : yCP G (d + 1) rc (y1 rp (yX G))) (D : yPd rp (yX G)) (hb : b ≤ (yX G).length) (ht : t ≤ 20) : ∀ (r n : Nat) (h : zH) (A : zA) (fl : Nat → Int) (a : Nat → Nat → Int) (ex k : Nat), yv G h A fl a → fl 22 = (ex : Int) → ex ≤ 200 → k + (r + 1) = t → r + 2 ≤ n → (yq (yX G) (yr (fun A ex => yb rp (yX G) 4 ((yX G).length + 1) A ex b) (r + 1) A ex) = none ∧ yFr G h (fM_readsRepeat_36 N rc n 232 (Int32.ofInt (d : Int)) (Int32.ofInt (t : Int)) (Int32.ofInt (b : Int)) (Int32.ofInt (k : Int)) h)) ∨ (∃ A' ex' e, yq (yX G) (yr (fun A ex => yb rp (yX G) 4 ((yX G).length + 1) A ex b) (r + 1) A ex) = some (A', ex', e) ∧ ∃ h' fl' a', fM_readsRepeat_36 N rc n 232 (Int32.ofInt (d : Int)) (Int32.ofInt (t : Int)) (Int32.ofInt (b : Int)) (Int32.ofInt (k : Int)) h = some (Int32.ofInt 1, h') ∧ yv G h' A' fl' a' ∧ zr_F h h' ∧ fl' 20 = (e : Int) ∧ fl' 22 = (ex' : Int) ∧ ex' ≤ 200) := by
  -- a round's start
  have st : ∀ (g : Nat) (h : zH) (A : zA) (fl : Nat → Int) (a : Nat → Nat → Int) (ex k : Nat), yv G h A fl a → fl 22 = (ex : Int) → ex ≤ 200 → k < t → (yb rp (yX G) 4 ((yX G).length + 1) A ex b = none ∧ yFr G h (fM_readsRepeat_36 N rc (g + 1) 232 (Int32.ofInt (d : Int)) (Int32.ofInt (t : Int)) (Int32.ofInt (b : Int)) (Int32.ofInt (k : Int)) h)) ∨ (∃ A' ex' q, yb rp (yX G) 4 ((yX G).length + 1) A ex b = some (A', ex', q) ∧ ∃ h' fl' a', fM_readsRepeat_36 N rc (g + 1) 232 (Int32.ofInt (d : Int)) (Int32.ofInt (t : Int)) (Int32.ofInt (b : Int)) (Int32.ofInt (k : Int)) h = fM_readsRepeat_36 N rc g 232 (Int32.ofInt (d : Int)) (Int32.ofInt (t : Int)) (Int32.ofInt (b : Int)) (Int32.ofInt ((k + 1 : Nat) : Int)) h' ∧ yv G h' A' fl' a' ∧ zr_F h h' ∧ yT (yX G) (yt_s (yX G) q) fl' ∧ fl' 22 = (ex' : Int) ∧ ex' ≤ 200) := by
    intro g h A fl a ex k Y h22 hx hk
    have l6 := Y.2.2.2.2.1.1
    obtain ⟨h1, e1, Y1, F1⟩ := yv_s Y 20 (by decide) (b : Int)
    obtain ⟨h2, f2, e2, Y2, F2, T2, k2⟩ := yv_next (N := N) (by omega) Y1 (p := b) (zr_us _ _ _) hb
    rw [fM_readsRepeat_36, zqo_ge _ _ (by omega) (by omega), decide_eq_false (by omega), cond_false, e1, b1_s, e2, b2]
    rcases yv_51 (k36 := fM_readsRepeat_36 N rc g) (l2 := Int32.ofInt (t : Int)) (l3 := Int32.ofInt (b : Int)) (l4 := Int32.ofInt (k : Int)) hN hd CP D ((yX G).length + 1) N h2 A f2 a ex b Y2 hb (by omega) (by omega) T2 ((k2 22 (by omega)).trans ((zr_un fl _ (by decide)).trans h22)) hx with ⟨o1, o2⟩ | ⟨A', ex', q, o1, h', f', a', o2, o3, o4, o5⟩
    · exact Or.inl ⟨o1, yFr_t (zr_Ft F1 F2) o2⟩
    · rw [zh_inc] at o2
      exact Or.inr ⟨A', ex', q, o1, h', f', a', o2, o3, zr_Ft F1 (zr_Ft F2 o4), o5⟩
  intro r
  induction r with
  | zero =>
    intro n h A fl a ex k Y h22 hx hk hn
    obtain ⟨g, rfl⟩ : ∃ g, n = g + 1 + 1 := ⟨n - 2, by omega⟩
    have er : yr (fun A ex => yb rp (yX G) 4 ((yX G).length + 1) A ex b) (0 + 1) A ex = yb rp (yX G) 4 ((yX G).length + 1) A ex b := by
      show (yb rp (yX G) 4 ((yX G).length + 1) A ex b).bind _ = _
      cases yb rp (yX G) 4 ((yX G).length + 1) A ex b <;> rfl
    rw [er]
    rcases st (g + 1) h A fl a ex k Y h22 hx (by omega) with ⟨o1, o2⟩ | ⟨A1, ex1, q, o1, h1, f1, a1, e1, Y1, F1, T1, x1, x2⟩
    · exact Or.inl ⟨by rw [o1]; rfl, o2⟩
    · obtain ⟨_, ql, qk, _⟩ := yb_det D _ _ _ _ _ _ _ hb o1
      have tb := yt_tokb ql (show yt_q (yX G) (yt_s (yX G) q) ≠ 0 by omega)
      have l6 := Y.2.2.2.2.1.1
      obtain ⟨h2, f2, e2, Y2, F2, T2, k2⟩ := yv_next (N := N) (by omega) Y1 (p := yt_e (yX G) (yt_s (yX G) q)) T1.2.2.1 tb.2
      have mi := yt_mi (q := yt_q (yX G) (yt_s (yX G) (yt_e (yX G) (yt_s (yX G) q))))
      have mb := yt_mb (yt_q (yX G) (yt_s (yX G) (yt_e (yX G) (yt_s (yX G) q))))
      rw [o1, e1, fM_readsRepeat_36, zqo_ge _ _ (by omega) (by omega), decide_eq_true (by omega), cond_true, e2, b2]
      show (((ym_sem (yX G) (yt_e (yX G) (yt_s (yX G) q))).bind fun e => some (A1, ex1, e)) = none ∧ _) ∨ (∃ A' ex' e, ((ym_sem (yX G) (yt_e (yX G) (yt_s (yX G) q))).bind fun e => some (A1, ex1, e)) = some (A', ex', e) ∧ _)
      rcases yv_is (N := N) Y2 T2.1 mb 1 (by decide) with ⟨q1, e3⟩ | ⟨q1, h3, f3, e3, Y3, F3⟩
      · have sm : ym_sem (yX G) (yt_e (yX G) (yt_s (yX G) q)) = some (yt_e (yX G) (yt_s (yX G) (yt_e (yX G) (yt_s (yX G) q)))) := if_pos (by omega)
        refine Or.inr ⟨A1, ex1, yt_e (yX G) (yt_s (yX G) (yt_e (yX G) (yt_s (yX G) q))), by rw [sm]; rfl, h2, f2, a1, ?_, Y2, zr_Ft F1 F2, T2.2.2.1, (k2 22 (by omega)).trans x1, x2⟩
        rw [e3, b2]
        rfl
      · have sm : ym_sem (yX G) (yt_e (yX G) (yt_s (yX G) q)) = none := if_neg (by omega)
        refine Or.inl ⟨by rw [sm]; rfl, h3, A1, f3, a1, ?_, Y3, zr_Ft F1 (zr_Ft F2 F3)⟩
        rw [e3, b2]
        rfl
  | succ r ih =>
    intro n h A fl a ex k Y h22 hx hk hn
    obtain ⟨g, rfl⟩ : ∃ g, n = g + 1 := ⟨n - 1, by omega⟩
    rcases st g h A fl a ex k Y h22 hx (by omega) with ⟨o1, o2⟩ | ⟨A1, ex1, q, o1, h1, f1, a1, e1, Y1, F1, T1, x1, x2⟩
    · refine Or.inl ⟨?_, o2⟩
      show yq (yX G) ((yb rp (yX G) 4 ((yX G).length + 1) A ex b).bind _) = none
      rw [o1]
      rfl
    · have er : yr (fun A ex => yb rp (yX G) 4 ((yX G).length + 1) A ex b) (r + 1 + 1) A ex = yr (fun A ex => yb rp (yX G) 4 ((yX G).length + 1) A ex b) (r + 1) A1 ex1 := by
        show (yb rp (yX G) 4 ((yX G).length + 1) A ex b).bind (fun x => if r + 1 = 0 then some x else yr (fun A ex => yb rp (yX G) 4 ((yX G).length + 1) A ex b) (r + 1) x.1 x.2.1) = _
        rw [o1]
        show (if r + 1 = 0 then some (A1, ex1, q) else yr (fun A ex => yb rp (yX G) 4 ((yX G).length + 1) A ex b) (r + 1) A1 ex1) = _
        rw [if_neg (Nat.succ_ne_zero r)]
      rw [er, e1]
      rcases ih g h1 A1 f1 a1 ex1 (k + 1) Y1 x1 x2 (by omega) (by omega) with ⟨i1, i2⟩ | ⟨A', ex', e, i1, h', f', a', i2, i3, i4, i5⟩
      · exact Or.inl ⟨i1, yFr_t F1 i2⟩
      · exact Or.inr ⟨A', ex', e, i1, h', f', a', i2, i3, zr_Ft F1 i4, i5⟩
theorem yv_repeat {N : Nat} {G : yH} {d : Nat} {rc : Nat → Int32 → zH → Option (Int32 × zH)} {rp : zA → Nat → Nat → Option (zA × Nat × Nat)} (hN : 4000 ≤ N) (hd : d < 2) (CP : yCP G (d + 1) rc (y1 rp (yX G))) (D : yPd rp (yX G)) : yCP G d (fM_readsRepeat N rc) (yp (fun b A ex => yb rp (yX G) 4 ((yX G).length + 1) A ex b) (yX G)) := by
  intro h A fl a ex p Y hp T h22 hx
  have l6 := Y.2.2.2.2.1.1
  unfold fM_readsRepeat yp
  rw [yv_T Y, cond_true]
  rcases yv_num (N := N) (by omega) Y hp T 0 (by decide) 1 20 (by decide) (by decide) with ⟨v, e, m1, h1, f1, a1, e1, Y1, F1, T1, x1, n1, _, _⟩ | ⟨m1, h1, f1, e1, Y1, F1⟩
  · obtain ⟨_, _, _, pe, el, vl0, vl, _⟩ := ym_numb hp m1
    have e1 : fM_number N 232 (Int32.ofInt 0) (Int32.ofInt 1) (Int32.ofInt 20) h = _ := e1
    have mi := yt_mi (q := yt_q (yX G) (yt_s (yX G) e))
    have mb := yt_mb (yt_q (yX G) (yt_s (yX G) e))
    have eb := yt_eb (yt_sb el).2
    rw [e1, b2, show z_cmp .eq (Int32.ofInt 1) (Int32.ofInt 0) = false from rfl, cond_false]
    rcases yv_is (N := N) Y1 T1.1 mb 4 (by decide) with ⟨q1, e2⟩ | ⟨q1, h2, f2, e2, Y2, F2⟩
    · have rp1 : ym_rep (yX G) p = some (v, yt_e (yX G) (yt_s (yX G) e)) := by
        rw [ym_rep, m1]
        exact if_pos (show yt_q (yX G) (yt_s (yX G) e) = 3 by omega)
      rw [rp1, e2, b2, show z_cmp .ne (Int32.ofInt 1) (Int32.ofInt 0) = true from rfl, cond_true, zr_r23 Y1.1, b1_s, yv_n0 Y1, b1_s, n1, yv_i Y1 20 rfl, b1_s, T1.2.2.1]
      obtain ⟨r, rfl⟩ : ∃ r, v = r + 1 := ⟨v - 1, by omega⟩
      rcases yv_36 (t := r + 1) hN hd CP D eb.2.1 (by omega) r N h1 A f1 a1 ex 0 Y1 (x1.trans h22) hx (by omega) (by omega) with ⟨o1, o2⟩ | ⟨A', ex', e', o1, h', f', a', o2, o3, o4, o5⟩
      · exact Or.inl ⟨o1, yFr_t F1 o2⟩
      · exact Or.inr ⟨A', ex', e', o1, h', f', a', o2, o3, zr_Ft F1 o4, o5⟩
    · have rp1 : ym_rep (yX G) p = none := by
        rw [ym_rep, m1]
        exact if_neg (show ¬ yt_q (yX G) (yt_s (yX G) e) = 3 by omega)
      rw [rp1]
      refine Or.inl ⟨rfl, h2, A, f2, a1, ?_, Y2, zr_Ft F1 F2⟩
      rw [e2, b2, show z_cmp .ne (Int32.ofInt 0) (Int32.ofInt 0) = false from rfl, cond_false]
      rfl
  · have rp1 : ym_rep (yX G) p = none := by
      rw [ym_rep, m1]
      rfl
    have e1 : fM_number N 232 (Int32.ofInt 0) (Int32.ofInt 1) (Int32.ofInt 20) h = _ := e1
    rw [rp1]
    refine Or.inl ⟨rfl, h1, A, f1, a, ?_, Y1, F1⟩
    rw [e1, b2, show z_cmp .eq (Int32.ofInt 0) (Int32.ofInt 0) = true from rfl, cond_true]
    rfl
/-- a command at depth 0 -/
theorem yv_cmd0 {N : Nat} {G : yH} (hN : 4000 ≤ N) : yCP G 0 (fM_readsCommand N 8) (y1 (yR0 (yX G)) (yX G)) := by
  have c2 : yCP G 2 (fM_readsCommand N 6) (y1 (fun _ _ _ => none) (yX G)) := yv_cmd (rc := fM_readsCommand N 5) hN (Nat.le_refl 2) (fun x => absurd x (by decide)) (fun _ _ _ _ => rfl)
  have r1 : yCP G 1 (fM_readsRepeat N (fM_readsCommand N 6)) (yR1 (yX G)) := yv_repeat hN (by decide) c2 (fun _ _ _ _ _ _ _ h => by cases h)
  have c1 : yCP G 1 (fM_readsCommand N 7) (y1 (yR1 (yX G)) (yX G)) := yv_cmd (rc := fM_readsCommand N 6) hN (by decide) (fun _ => r1) (fun x => absurd x (by decide))
  have r0 : yCP G 0 (fM_readsRepeat N (fM_readsCommand N 7)) (yR0 (yX G)) := yv_repeat hN (by decide) c1 (yR1_det _)
  exact yv_cmd (rc := fM_readsCommand N 7) hN (by decide) (fun _ => r0) (fun x => absurd x (by decide))
/-- all commands behind the head -/
theorem yv_57 {N : Nat} {G : yH} (hN : 4000 ≤ N) : ∀ (c n : Nat) (h : zH) (A : zA) (fl : Nat → Int) (a : Nat → Nat → Int) (ex p : Nat), yv G h A fl a → p ≤ (yX G).length → (yX G).length < p + c → c ≤ n → yT (yX G) (yt_s (yX G) p) fl → fl 22 = (ex : Int) → ex ≤ 200 → (yb (yR0 (yX G)) (yX G) 0 c A ex p = none ∧ yFr G h (fM_readsAll_57 N n 232 h)) ∨ (∃ x, yb (yR0 (yX G)) (yX G) 0 c A ex p = some x ∧ ∃ h' fl' a', fM_readsAll_57 N n 232 h = some (Int32.ofInt 1, h') ∧ yv G h' x.1 fl' a' ∧ zr_F h h') := by
  intro c
  induction c with
  | zero => intro n h A fl a ex p Y hp hc; omega
  | succ c ih =>
    intro n h A fl a ex p Y hp hc hn T h22 hx
    obtain ⟨g, rfl⟩ : ∃ g, n = g + 1 := ⟨n - 1, by omega⟩
    have mi := yt_mi (q := yt_q (yX G) (yt_s (yX G) p))
    have mb := yt_mb (yt_q (yX G) (yt_s (yX G) p))
    rw [yb_1, fM_readsAll_57, yv_i Y 18 rfl, b1_s, T.1, zqo_eq _ _ (by omega) (by decide)]
    by_cases e4 : yt_q (yX G) (yt_s (yX G) p) = 0
    · rw [if_pos e4, decide_eq_true (by omega), cond_true]
      exact Or.inr ⟨(A, ex, p), rfl, h, fl, a, rfl, Y, zr_Fr h⟩
    · rw [if_neg e4, decide_eq_false (by omega), cond_false]
      rcases yv_cmd0 (N := N) hN h A fl a ex p Y hp T h22 hx with ⟨o1, h', A', f', a', e', Y', F'⟩ | ⟨A1, ex1, e, o1, h1, f1, a1, e1, Y1, F1, o20, o22, ox⟩
      · have e' : fM_readsCommand N 8 232 (Int32.ofInt 0) h = _ := e'
        refine Or.inl ⟨by rw [o1]; rfl, h', A', f', a', ?_, Y', F'⟩
        rw [e', b2]
        rfl
      · have e1 : fM_readsCommand N 8 232 (Int32.ofInt 0) h = _ := e1
        have lt := y1_lt (yR0_det _) hp o1
        obtain ⟨h2, f2, e2, Y2, F2, T2, k2⟩ := yv_next (N := N) (by omega) Y1 (p := e) o20 lt.2
        rw [o1, e1, b2, show z_cmp .ne (Int32.ofInt 1) (Int32.ofInt 0) = true from rfl, cond_true, e2, b2]
        rcases ih g h2 A1 f2 a1 ex1 e Y2 lt.2 (by omega) (by omega) T2 ((k2 22 (by omega)).trans o22) ox with ⟨i1, i2⟩ | ⟨x, i1, h', f', a', i2, i3, i4⟩
        · exact Or.inl ⟨i1, yFr_t (zr_Ft F1 F2) i2⟩
        · exact Or.inr ⟨x, i1, h', f', a', i2, i3, zr_Ft F1 (zr_Ft F2 i4)⟩
end
section
/-! THE REFERENCE'S runScript. -/
def yFr0 (G : yH) (h : zH) (r : Option (Int32 × zH)) : Prop := ∃ h' A' fl' a', r = some (Int32.ofInt 0, h') ∧ yv0 G h' A' fl' a' ∧ zr_F h h'
theorem yFr0_of {G : yH} {h h1 : zH} {r : Option (Int32 × zH)} (F : zr_F h h1) (o : yFr G h1 r) : yFr0 G h r := by
  obtain ⟨h', A', f', a', e, Y, F'⟩ := o
  exact ⟨h', A', f', a', e, yv0_of Y, zr_Ft F F'⟩
section YVG
variable {N : Nat} {G : yH} {h : zH} {fl : Nat → Int} {a : Nat → Nat → Int}
theorem yw_all (hN : 4000 ≤ N) (Y : yv0 G h (0, [], []) fl a) (T : yT (yX G) (yt_s (yX G) 0) fl) (h22 : fl 22 = 0) : (yz (yX G) = none ∧ yFr0 G h (fM_readsAll N 232 h)) ∨ (∃ A', yz (yX G) = some A' ∧ ∃ h' fl' a', fM_readsAll N 232 h = some (Int32.ofInt 1, h') ∧ yv G h' A' fl' a' ∧ zr_F h h') := by
  have eb := yt_eb (yt_sb (Nat.zero_le (yX G).length)).2
  have l6 := Y.2.2.2.2.1.1
  unfold fM_readsAll yz
  rw [yw_T Y, cond_true, yw_says (by omega) Y (Nat.zero_le _) T (b := yt_letters) yS_73 (by decide), b2]
  by_cases q : yt_q (yX G) (yt_s (yX G) 0) = 1 ∧ zw_p (yX G) (yt_s (yX G) 0) (yt_e (yX G) (yt_s (yX G) 0)) = yt_letters
  · rw [decide_eq_true q, cond_true, show z_cmp .ne (Int32.ofInt 1) (Int32.ofInt 0) = true from rfl, cond_true]
    obtain ⟨h1, f1, e1, Y1, F1, T1, k1⟩ := yw_next (N := N) (by omega) Y (p := yt_e (yX G) (yt_s (yX G) 0)) T.2.2.1 eb.2.1
    rw [e1, b2]
    have ez : yz_h (yX G) = (ym_num (yX G) (yt_e (yX G) (yt_s (yX G) 0)) 2 9).bind fun n => (ym_sem (yX G) n.2).bind fun e => some ((n.1, [], []), e) := if_pos q
    rw [ez]
    rcases yw_num (N := N) (by omega) Y1 eb.2.1 T1 0 (by decide) 2 9 (by decide) (by decide) with ⟨v, e, m1, h2, f2, a2, e2, Y2, F2, T2, x2, n2, k2, _⟩ | ⟨m1, h2, f2, e2, Y2, F2⟩
    · obtain ⟨_, _, _, pe, el, vl0, vl, _⟩ := ym_numb eb.2.1 m1
      have e2 : fM_number N 232 (Int32.ofInt 0) (Int32.ofInt 2) (Int32.ofInt 9) h1 = _ := e2
      have mi := yt_mi (q := yt_q (yX G) (yt_s (yX G) e))
      have mb := yt_mb (yt_q (yX G) (yt_s (yX G) e))
      have eb2 := yt_eb (yt_sb el).2
      rw [m1, e2, b2, show z_cmp .eq (Int32.ofInt 1) (Int32.ofInt 0) = false from rfl, cond_false]
      show ((((ym_sem (yX G) e).bind fun e => some (((v, [], []) : zA), e)).bind _) = none ∧ _) ∨ (∃ A', (((ym_sem (yX G) e).bind fun e => some (((v, [], []) : zA), e)).bind _) = some A' ∧ _)
      rcases yw_is (N := N) Y2 T2.1 mb 1 (by decide) with ⟨q1, e3⟩ | ⟨q1, h3, f3, e3, Y3, F3⟩
      · have sm : ym_sem (yX G) e = some (yt_e (yX G) (yt_s (yX G) e)) := if_pos (by omega)
        rw [sm, e3, b2, show z_cmp .ne (Int32.ofInt 1) (Int32.ofInt 0) = true from rfl, cond_true]
        have g0 : fAI h2 242 100 (Int32.ofInt 0) = some (Int32.ofInt (a2 242 0)) := zr_g Y2.1 242 0 (by decide) (by decide) (by decide)
        obtain ⟨h4, e4, H4, F4⟩ := zr_p Y2.1 233 0 (by decide) (by decide) (by decide) (v : Int)
        have e4 : fAS h2 233 100 (Int32.ofInt 0) (.int (Int32.ofInt (v : Int))) = some h4 := e4
        have Y4 : yv G h4 (v, [], []) f2 (zr_v a2 233 0 (v : Int)) := by
          obtain ⟨y1, R, y3, y4, y5, y6⟩ := Y2
          refine ⟨H4, zyR_a R (fun _ _ => rfl) (fun p i hp => zr_vn a2 _ (by omega)) ?_, ?_, ⟨y4.1, fun i hi => (zr_vn a2 _ (Or.inl (by decide))).trans (y4.2 i hi)⟩, y5, ⟨by show 2 ≤ v ∧ v ≤ 9; omega, Nat.zero_le _, (fun u hu => by cases hu), Nat.zero_le _, (fun w hw => by cases hw)⟩⟩
          · obtain ⟨r1, r2, r3, r4, r5⟩ := R.1
            exact ⟨zr_vs _ _ _ _, (zr_vn a2 _ (Or.inr (by decide))).trans r2, fun i (hi : i < 0) => absurd hi (Nat.not_lt_zero i), (zr_vn a2 _ (Or.inr (by decide))).trans r4, fun k (hk : k < 0) => absurd hk (Nat.not_lt_zero k)⟩
          · rw [show zr_v a2 233 0 (v : Int) 234 = a2 234 from funext fun i => zr_vn a2 _ (Or.inl (by decide))]
            exact y3
        obtain ⟨h5, f5, e5, Y5, F5, T5, k5⟩ := yv_next (N := N) (by omega) Y4 (p := yt_e (yX G) (yt_s (yX G) e)) T2.2.2.1 eb2.2.1
        rw [zr_r0 Y2.1, b1_s, zr_r23 Y2.1, b1_s, g0, b1_s, n2, e4, b1_s, e5, b2]
        show ((yL0 (yX G) (v, [], []) (yt_e (yX G) (yt_s (yX G) e))).bind _ = none ∧ _) ∨ (∃ A', (yL0 (yX G) (v, [], []) (yt_e (yX G) (yt_s (yX G) e))).bind _ = some A' ∧ _)
        have x5 : f5 22 = ((0 : Nat) : Int) := (k5 22 (by omega)).trans (x2.trans ((k1 22 (by omega)).trans h22))
        have FF := zr_Ft F1 (zr_Ft F2 (zr_Ft F4 F5))
        rcases yv_57 (N := N) hN ((yX G).length + 1) N h5 _ f5 _ 0 (yt_e (yX G) (yt_s (yX G) e)) Y5 eb2.2.1 (by omega) (by omega) T5 x5 (Nat.zero_le _) with ⟨o1, o2⟩ | ⟨x, o1, h', f', a', o2, o3, o4⟩
        · have o1 : yL0 (yX G) (v, [], []) (yt_e (yX G) (yt_s (yX G) e)) = none := o1
          exact Or.inl ⟨by rw [o1]; rfl, yFr0_of FF o2⟩
        · have o1 : yL0 (yX G) (v, [], []) (yt_e (yX G) (yt_s (yX G) e)) = some x := o1
          exact Or.inr ⟨x.1, by rw [o1]; rfl, h', f', a', o2, o3, zr_Ft FF o4⟩
      · have sm : ym_sem (yX G) e = none := if_neg (by omega)
        rw [sm]
        refine Or.inl ⟨rfl, h3, _, f3, a2, ?_, Y3, zr_Ft F1 (zr_Ft F2 F3)⟩
        rw [e3, b2, show z_cmp .ne (Int32.ofInt 0) (Int32.ofInt 0) = false from rfl, cond_false]
        rfl
    · have e2 : fM_number N 232 (Int32.ofInt 0) (Int32.ofInt 2) (Int32.ofInt 9) h1 = _ := e2
      rw [m1]
      refine Or.inl ⟨rfl, h2, _, f2, a, ?_, Y2, zr_Ft F1 F2⟩
      rw [e2, b2, show z_cmp .eq (Int32.ofInt 0) (Int32.ofInt 0) = true from rfl, cond_true]
      rfl
  · have ez : yz_h (yX G) = none := if_neg q
    obtain ⟨h1, f1, e1, Y1, F1⟩ := yw_fail (N := N) Y 1
    rw [ez]
    refine Or.inl ⟨rfl, h1, _, f1, a, ?_, Y1, F1⟩
    rw [decide_eq_false q, cond_false, show z_cmp .ne (Int32.ofInt 0) (Int32.ofInt 0) = false from rfl, cond_false, e1, b2]
    rfl
/-- w emptied -/
theorem zr_parses2 {fl : Nat → Int} : ∀ (c f i : Nat) (h : zH) (a : Nat → Nat → Int), zr h fl a → i + c = 451 → c < f → (∀ j, j < i → a 233 j = 0) → ∃ g h' a', fM_parses_2 N f 232 (Int32.ofInt (i : Int)) h = fM_parses_2 N (g + 1) 232 (Int32.ofInt 451) h' ∧ zr h' fl a' ∧ zr_F h h' ∧ (∀ p j, p ≠ 233 → a' p j = a p j) ∧ ∀ j, j < 451 → a' 233 j = 0 := by
  intro c
  induction c with
  | zero =>
    intro f i h a H h1 h2 h3
    obtain ⟨g, rfl⟩ : ∃ g, f = g + 1 := ⟨f - 1, by omega⟩
    have : i = 451 := by omega
    subst this
    exact ⟨g, h, a, rfl, H, zr_Fr h, fun _ _ _ => rfl, h3⟩
  | succ c ih =>
    intro f i h a H h1 h2 h3
    obtain ⟨g, rfl⟩ : ∃ g, f = g + 1 := ⟨f - 1, by omega⟩
    obtain ⟨h4, e4, H4, F4⟩ := zr_p H 233 i (by decide) (by decide) (by show i < 451; omega) 0
    have e4 : fAS h 233 100 (Int32.ofInt (i : Int)) (.int (Int32.ofInt 0)) = some h4 := e4
    obtain ⟨g', h5, a5, e5, H5, F5, p5, r5⟩ := ih g (i + 1) h4 _ H4 (by omega) (by omega) (fun j hj => by
      by_cases e : j = i
      · rw [e, zr_vs]
      · rw [zr_vn a _ (Or.inr e)]
        exact h3 j (by omega))
    refine ⟨g', h5, a5, ?_, H5, zr_Ft F4 F5, fun p j hp => (p5 p j hp).trans (zr_vn a _ (Or.inl hp)), r5⟩
    rw [fM_parses_2, zqo_ge _ _ (by omega) (by decide), decide_eq_false (by omega), cond_false, zr_r0 H, b1_s, e4, b1_s, zh_inc]
    exact e5
theorem yw_parses (hN : 4000 ≤ N) (H : zr h fl a) {A : zA} (R : zyR fl a A G.2.1 G.2.2.1 G.2.2.2.1 G.2.2.2.2.1 (G.2.2.2.2.2.1, fl 12, fl 13) G.2.2.2.2.2.2.1) (B : zy_is (a 234) G.1) (sx : fl 11 = ((yX G).length : Int) ∧ ∀ i, i < (yX G).length → a 238 i = ((yX G).getD i 0 : Int)) (sl : (yX G).length ≤ 600 ∧ ∀ v ∈ yX G, v < 256) : (yz (yX G) = none ∧ yFr0 G h (fM_parses N 232 h)) ∨ (∃ A', yz (yX G) = some A' ∧ ∃ h' fl' a', fM_parses N 232 h = some (Int32.ofInt 1, h') ∧ yv G h' A' fl' a' ∧ zr_F h h') := by
  obtain ⟨g, h1, a1, e1, H1, F1, p1, z1⟩ := zr_parses2 (N := N) 451 N 0 h a H rfl (by omega) (fun j hj => absurd hj (Nat.not_lt_zero j))
  have Y1 : yv0 G h1 (0, [], []) fl a1 := by
    refine ⟨H1, zyR_a R (fun _ _ => rfl) (fun p i hp => p1 p i (by omega)) ⟨z1 0 (by decide), z1 1 (by decide), fun i (hi : i < 0) => absurd hi (Nat.not_lt_zero i), z1 2 (by decide), fun k (hk : k < 0) => absurd hk (Nat.not_lt_zero k)⟩, ?_, ⟨sx.1, fun i hi => (p1 238 i (by decide)).trans (sx.2 i hi)⟩, sl, trivial⟩
    rw [show a1 234 = a 234 from funext fun i => p1 234 i (by decide)]
    exact B
  obtain ⟨h2, e2, Y2, F2⟩ := yw_s Y1 12 (by decide) 0
  obtain ⟨h3, e3, Y3, F3⟩ := yw_s Y2 13 (by decide) (-1)
  obtain ⟨h4, e4, Y4, F4⟩ := yw_s Y3 22 (by decide) 0
  obtain ⟨h5, e5, Y5, F5⟩ := yw_s Y4 20 (by decide) 0
  obtain ⟨h6, f6, e6, Y6, F6, T6, k6⟩ := yw_next (N := N) (by omega) Y5 (p := 0) (zr_us _ _ _) (Nat.zero_le _)
  have FF := zr_Ft F1 (zr_Ft F2 (zr_Ft F3 (zr_Ft F4 (zr_Ft F5 F6))))
  have x6 : f6 22 = 0 := (k6 22 (by omega)).trans ((zr_un _ _ (by decide)).trans (zr_us _ _ _))
  have s0 : fM_parses N 232 h = b2 (fM_readsAll N 232 h6) fun x7 h8 => cond (decide (x7 = Int32.ofInt 0) || decide (x7 = Int32.ofInt 1)) (some (x7, h8)) none := by
    unfold fM_parses
    have e1 : fM_parses_2 N N 232 (Int32.ofInt 0) h = fM_parses_2 N (g + 1) 232 (Int32.ofInt 451) h1 := e1
    rw [zr_T H, cond_true, e1, fM_parses_2, show z_cmp .ge (Int32.ofInt 451) (Int32.ofInt 451) = true from rfl, cond_true, e2, b1_s, e3, b1_s, e4, b1_s, e5, b1_s, e6, b2]
  rw [s0]
  rcases yw_all hN Y6 T6 x6 with ⟨o1, h', A', f', a', e, Y', F'⟩ | ⟨A', o1, h', f', a', e, Y', F'⟩
  · refine Or.inl ⟨o1, h', A', f', a', ?_, Y', zr_Ft FF F'⟩
    rw [e, b2]
    rfl
  · refine Or.inr ⟨A', o1, h', f', a', ?_, Y', zr_Ft FF F'⟩
    rw [e, b2]
    rfl
/-- w as it was -/
theorem zr_run59 {fl : Nat → Int} : ∀ (c f i : Nat) (h : zH) (a : Nat → Nat → Int), zr h fl a → i + c = 451 → c < f → (∀ j, j < i → a 233 j = a 234 j) → ∃ h' a', fM_runScript_59 N f 232 (Int32.ofInt (i : Int)) h = some (Int32.ofInt (-1), h') ∧ zr h' fl a' ∧ zr_F h h' ∧ (∀ p j, p ≠ 233 → a' p j = a p j) ∧ ∀ j, j < 451 → a' 233 j = a 234 j := by
  intro c
  induction c with
  | zero =>
    intro f i h a H h1 h2 h3
    obtain ⟨g, rfl⟩ : ∃ g, f = g + 1 := ⟨f - 1, by omega⟩
    refine ⟨h, a, ?_, H, zr_Fr h, fun _ _ _ => rfl, fun j hj => h3 j (by omega)⟩
    rw [fM_runScript_59, zqo_ge _ _ (by omega) (by decide), decide_eq_true (by omega), cond_true]
  | succ c ih =>
    intro f i h a H h1 h2 h3
    obtain ⟨g, rfl⟩ : ∃ g, f = g + 1 := ⟨f - 1, by omega⟩
    have g4 : fAI h 234 100 (Int32.ofInt (i : Int)) = some (Int32.ofInt (a 234 i)) := zr_g H 234 i (by decide) (by decide) (by show i < 451; omega)
    obtain ⟨h4, e4, H4, F4⟩ := zr_p H 233 i (by decide) (by decide) (by show i < 451; omega) (a 234 i)
    have e4 : fAS h 233 100 (Int32.ofInt (i : Int)) (.int (Int32.ofInt (a 234 i))) = some h4 := e4
    have n4 : ∀ j, zr_v a 233 i (a 234 i) 234 j = a 234 j := fun j => zr_vn a _ (Or.inl (by decide))
    obtain ⟨h5, a5, e5, H5, F5, p5, r5⟩ := ih g (i + 1) h4 _ H4 (by omega) (by omega) (fun j hj => by
      rw [n4]
      by_cases e : j = i
      · rw [e, zr_vs]
      · rw [zr_vn a _ (Or.inr e)]
        exact h3 j (by omega))
    refine ⟨h5, a5, ?_, H5, zr_Ft F4 F5, fun p j hp => (p5 p j hp).trans (zr_vn a _ (Or.inl hp)), fun j hj => (r5 j hj).trans (n4 j)⟩
    rw [fM_runScript_59, zqo_ge _ _ (by omega) (by decide), decide_eq_false (by omega), cond_false, zr_r0 H, b1_s, zr_r1 H, b1_s, g4, b1_s, e4, b1_s, zh_inc]
    exact e5
/-- the input becomes the source -/
theorem zr_run7 {fl : Nat → Int} {inp : List Nat} (hl : inp.length ≤ 600) (h10 : fl 10 = (inp.length : Int)) : ∀ (c f i : Nat) (h : zH) (a : Nat → Nat → Int), zr h fl a → i + c = inp.length → c < f → (∀ j, j < inp.length → a 237 j = (inp.getD j 0 : Int)) → (∀ j, j < i → a 238 j = (inp.getD j 0 : Int)) → ∃ g h' a', fM_runScript_7 N f 232 (Int32.ofInt (i : Int)) h = fM_runScript_7 N (g + 1) 232 (Int32.ofInt (inp.length : Int)) h' ∧ zr h' fl a' ∧ zr_F h h' ∧ (∀ p j, p ≠ 238 → a' p j = a p j) ∧ ∀ j, j < inp.length → a' 238 j = (inp.getD j 0 : Int) := by
  intro c
  induction c with
  | zero =>
    intro f i h a H h1 h2 h3 h4
    obtain ⟨g, rfl⟩ : ∃ g, f = g + 1 := ⟨f - 1, by omega⟩
    have : i = inp.length := by omega
    subst this
    exact ⟨g, h, a, rfl, H, zr_Fr h, fun _ _ _ => rfl, h4⟩
  | succ c ih =>
    intro f i h a H h1 h2 h3 h4
    obtain ⟨g, rfl⟩ : ∃ g, f = g + 1 := ⟨f - 1, by omega⟩
    have g7 : fAI h 237 100 (Int32.ofInt (i : Int)) = some (Int32.ofInt (a 237 i)) := zr_g H 237 i (by decide) (by decide) (by show i < 600; omega)
    obtain ⟨h5, e5, H5, F5⟩ := zr_p H 238 i (by decide) (by decide) (by show i < 600; omega) (a 237 i)
    have e5 : fAS h 238 100 (Int32.ofInt (i : Int)) (.int (Int32.ofInt (a 237 i))) = some h5 := e5
    obtain ⟨g', h6, a6, e6, H6, F6, p6, r6⟩ := ih g (i + 1) h5 _ H5 (by omega) (by omega) (fun j hj => (zr_vn a _ (Or.inl (by decide))).trans (h3 j hj)) (fun j hj => by
      by_cases e : j = i
      · rw [e, zr_vs]
        exact h3 i (by omega)
      · rw [zr_vn a _ (Or.inr e)]
        exact h4 j (by omega))
    refine ⟨g', h6, a6, ?_, H6, zr_Ft F5 F6, fun p j hp => (p6 p j hp).trans (zr_vn a _ (Or.inl hp)), r6⟩
    rw [fM_runScript_7, zr_i H 10 rfl, b1_s, h10, zqo_ge _ _ (by omega) (by omega), decide_eq_false (by omega), cond_false, zr_r7 H, b1_s, zr_r6 H, b1_s, g7, b1_s, e5, b1_s, zh_inc]
    exact e6
end YVG
section YVH
variable {N : Nat} {h : zH} {now snap : zA} {hist : List zA} {sv t : Int} {inp : List Nat} {rep : zvP}
theorem zn_runScript (Y : zy h now hist snap sv inp rep t) (o : zo now hist snap) (hN : 4000 ≤ N) (hl : inp.length ≤ 600) (hv : ∀ v ∈ inp, v < 256) : ∃ k q : Int, (yz inp = none ∧ ∃ h', fM_runScript N 232 h = some (Int32.ofInt (-1), h') ∧ zy h' now hist snap sv [] (rep.1, k, q) 0 ∧ zr_F h h') ∨ (∃ A, yz inp = some A ∧ ∃ h', fM_runScript N 232 h = some (Int32.ofInt (A.2.1.length : Int), h') ∧ zy h' A (zv_push hist now) snap sv [] (rep.1, k, q) 0 ∧ zr_F h h') := by
  obtain ⟨ok, okh, h8, oks⟩ := o
  obtain ⟨fl, a, H, R⟩ := Y
  obtain ⟨h1, e1, H1, F1⟩ := zr_s H 17 rfl 0
  have R1 := zyR_t R 0
  obtain ⟨g, h2, a2, e2, H2, F2, p2, s2⟩ := zr_run7 (N := N) hl (fl := zr_u fl 17 0) ((zr_un fl _ (by decide)).trans R.2.2.2.2.2.1.1) inp.length N 0 h1 a H1 (Nat.zero_add _) (by omega) R.2.2.2.2.2.1.2 (fun j hj => absurd hj (Nat.not_lt_zero j))
  have R2 : zyR (zr_u fl 17 0) a2 now hist snap sv inp rep 0 := by
    refine zyR_a R1 (fun _ _ => rfl) (fun p i hp => p2 p i (by omega)) ?_
    rw [show a2 233 = a 233 from funext fun i => p2 233 i (by decide)]
    exact R1.1
  obtain ⟨h3, e3, H3, F3⟩ := zr_s H2 11 rfl (inp.length : Int)
  obtain ⟨h4, e4, H4, F4⟩ := zr_s H3 10 rfl 0
  obtain ⟨h5, a5, e5, H5, F5, p5, q5⟩ := zr_begins (N := N) (by omega) H4
  generalize hf : zr_u (zr_u (zr_u fl 17 0) 11 (inp.length : Int)) 10 0 = f5 at H4 H5
  have n5 : ∀ k, k ≠ 10 → k ≠ 11 → f5 k = zr_u fl 17 0 k := fun k x y => by rw [← hf, zr_un _ _ x, zr_un _ _ y]
  have n10 : f5 10 = 0 := by rw [← hf, zr_us]
  have n11 : f5 11 = (inp.length : Int) := by rw [← hf, zr_un _ _ (by decide), zr_us]
  have i5 : zy_is (a5 233) now := zy_isC ok R2.1 (fun j _ => p5 233 j (by decide))
  have b5 : zy_is (a5 234) now := zy_isC ok R2.1 q5
  have R5 : zyR f5 a5 now hist snap sv [] (rep.1, f5 12, f5 13) 0 := by
    obtain ⟨r1, r2, r3, r4, r5, r6, r7, r8⟩ := R2
    have g3 : a5 235 = a2 235 := funext fun i => p5 235 i (by decide)
    have g6 : a5 236 = a2 236 := funext fun i => p5 236 i (by decide)
    have g8 : a5 241 = a2 241 := funext fun i => p5 241 i (by decide)
    refine ⟨i5, (n5 4 (by decide) (by decide)).trans r2, ?_, (n5 5 (by decide) (by decide)).trans r4, ?_, ⟨n10, fun i hi => by cases hi⟩, ⟨⟨(n5 16 (by decide) (by decide)).trans r7.1.1, rfl, rfl⟩, ?_⟩, (n5 17 (by decide) (by decide)).trans r8⟩
    · rw [g3]
      exact r3
    · rw [g6]
      exact r5
    · rw [g8]
      exact r7.2
  have F05 := zr_Ft F1 (zr_Ft F2 (zr_Ft F3 (zr_Ft F4 F5)))
  have s0 : ∀ (u : Int32 → zH → Option (Int32 × zH)), (b1 (fI h2 232 5 10) fun x3 => b1 (fS h2 232 5 11 (.int x3)) fun h4 => b1 (fS h4 232 5 10 (.int (Int32.ofInt 0))) fun h5 => b2 (fM_begins N 232 h5) fun _ h7 => b2 (fM_parses N 232 h7) u) = b2 (fM_parses N 232 h5) u := fun u => by
    rw [zr_i H2 10 rfl, b1_s, zr_un fl _ (show (10 : Nat) ≠ 17 by decide), R.2.2.2.2.2.1.1, e3, b1_s, e4, b1_s, e5, b2]
  have sA : fM_runScript N 232 h = b2 (fM_parses N 232 h5) fun x8 h9 => cond (z_cmp .ne x8 (Int32.ofInt 0)) (b1 (fR h9 232 5 0) fun x10 => b1 (fAI h9 x10 100 (Int32.ofInt 1)) fun x11 => b2 (fM_remember N 232 x11 h9) fun x12 h13 => some (x12, h13)) (fM_runScript_59 N N 232 (Int32.ofInt 0) h9) := by
    have e2 : fM_runScript_7 N N 232 (Int32.ofInt 0) h1 = _ := e2
    unfold fM_runScript
    rw [zr_T H, cond_true, e1, b1_s, e2, fM_runScript_7]
    have c1 : (b1 (fI h2 232 5 10) fun x2 => cond (z_cmp .ge (Int32.ofInt (inp.length : Int)) x2) (b1 (fI h2 232 5 10) fun x3 => b1 (fS h2 232 5 11 (.int x3)) fun h4 => b1 (fS h4 232 5 10 (.int (Int32.ofInt 0))) fun h5 => b2 (fM_begins N 232 h5) fun _ h7 => b2 (fM_parses N 232 h7) fun x8 h9 => cond (z_cmp .ne x8 (Int32.ofInt 0)) (b1 (fR h9 232 5 0) fun x10 => b1 (fAI h9 x10 100 (Int32.ofInt 1)) fun x11 => b2 (fM_remember N 232 x11 h9) fun x12 h13 => some (x12, h13)) (fM_runScript_59 N N 232 (Int32.ofInt 0) h9)) (b1 (fR h2 232 5 7) fun x14 => b1 (fR h2 232 5 6) fun x15 => b1 (fAI h2 x15 100 (Int32.ofInt (inp.length : Int))) fun x16 => b1 (fAS h2 x14 100 (Int32.ofInt (inp.length : Int)) (.int x16)) fun h17 => fM_runScript_7 N g 232 (Int32.ofInt (inp.length : Int) + Int32.ofInt 1) h17)) = b2 (fM_parses N 232 h5) fun x8 h9 => cond (z_cmp .ne x8 (Int32.ofInt 0)) (b1 (fR h9 232 5 0) fun x10 => b1 (fAI h9 x10 100 (Int32.ofInt 1)) fun x11 => b2 (fM_remember N 232 x11 h9) fun x12 h13 => some (x12, h13)) (fM_runScript_59 N N 232 (Int32.ofInt 0) h9) := by
      rw [zr_i H2 10 rfl, b1_s, zr_un fl _ (show (10 : Nat) ≠ 17 by decide), R.2.2.2.2.2.1.1, zqo_ge _ _ (by omega) (by omega), decide_eq_true (by omega), cond_true, b1_s, e3, b1_s, e4, b1_s, e5, b2]
    exact c1
  rw [sA]
  rcases yw_parses (N := N) (G := (now, hist, snap, sv, [], rep.1, 0, inp)) hN H5 R5 b5 ⟨n11, fun i hi => (p5 238 i (by decide)).trans (s2 i hi)⟩ ⟨hl, hv⟩ with ⟨z1, h6, A6, f6, a6, e6, Y6, F6⟩ | ⟨A6, z1, h6, f6, a6, e6, Y6, F6⟩
  · obtain ⟨y1, Ry, y3, _⟩ := Y6
    obtain ⟨h7, a7, e7, H7, F7, p7, q7⟩ := zr_run59 (N := N) 451 N 0 h6 a6 y1 rfl (by omega) (fun j hj => absurd hj (Nat.not_lt_zero j))
    have i7 : zy_is (a7 233) now := zy_isC ok y3 q7
    have e7 : fM_runScript_59 N N 232 (Int32.ofInt 0) h6 = _ := e7
    refine ⟨f6 12, f6 13, Or.inl ⟨z1, h7, ?_, ⟨f6, a7, H7, zyR_a Ry (fun _ _ => rfl) (fun p i hp => p7 p i (by omega)) i7⟩, zr_Ft F05 (zr_Ft F6 F7)⟩⟩
    rw [e6, b2, show z_cmp .ne (Int32.ofInt 0) (Int32.ofInt 0) = false from rfl, cond_false, e7]
  · obtain ⟨h7, e7, Y7, F7⟩ := zy_remember (N := N) hN (bef := now) ⟨f6, a6, Y6.1, Y6.2.1, Y6.2.2.1⟩ ok okh h8 (Int32.ofInt (A6.2.1.length : Int))
    refine ⟨f6 12, f6 13, Or.inr ⟨A6, z1, h7, ?_, Y7, zr_Ft F05 (zr_Ft F6 F7)⟩⟩
    rw [e6, b2, show z_cmp .ne (Int32.ofInt 1) (Int32.ofInt 0) = true from rfl, cond_true, zr_r0 Y6.1, b1_s, yv_w1 Y6, b1_s, e7, b2]
end YVH
end
