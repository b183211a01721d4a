/-! THE REFERENCE'S SCRIPT: its source, its tokens. -/
abbrev yH : Type := zA × List zA × zA × Int × List Nat × List Nat × Int × List Nat
/-- the source -/
def yX (G : yH) : List Nat := G.2.2.2.2.2.2.2
/-- the reference at a script, with its numbers fl and arrays a; w holds A; what was before, what is remembered, the snapshot, the input, the report and the source are G's -/
def yv (G : yH) (h : zH) (A : zA) (fl : Nat → Int) (a : Nat → Nat → Int) : Prop := zr h fl a ∧ zyR fl a A G.2.1 G.2.2.1 G.2.2.2.1 G.2.2.2.2.1 (G.2.2.2.2.2.1, fl 12, fl 13) G.2.2.2.2.2.2.1 ∧ zy_is (a 234) G.1 ∧ (fl 11 = ((yX G).length : Int) ∧ ∀ i, i < (yX G).length → a 238 i = ((yX G).getD i 0 : Int)) ∧ ((yX G).length ≤ 600 ∧ ∀ v ∈ yX G, v < 256) ∧ zv_ok A
/-- a kind of token, as the reference counts them -/
def yt_m (q : Nat) : Nat := if q = 0 then 0 else if q = 1 then 2 else if q = 2 then 3 else if q = 3 then 4 else if q = 4 then 5 else if q = 5 then 1 else 6
theorem yt_mb (q : Nat) : yt_m q ≤ 6 := by
  unfold yt_m
  repeat' split
  all_goals omega
theorem yt_mi {q : Nat} : (yt_m q = 0 ↔ q = 0) ∧ (yt_m q = 2 ↔ q = 1) ∧ (yt_m q = 3 ↔ q = 2) ∧ (yt_m q = 4 ↔ q = 3) ∧ (yt_m q = 5 ↔ q = 4) ∧ (yt_m q = 1 ↔ q = 5) := by
  unfold yt_m
  repeat' split
  all_goals omega
theorem yt_k6 {v : Nat} : yt_k v = 6 ↔ v = 10 ∨ v = 32 := by
  unfold yt_k
  repeat' split
  all_goals omega
theorem yt_sort (N v : Nat) (hv : v < 256) (h : zH) : fM_sortOf N (Int32.ofInt (v : Int)) h = some (Int32.ofInt ((yt_m (yt_k v) : Nat) : Int), h) := by
  have s42 : v ≠ 59 → ¬ (97 ≤ v ∧ v ≤ 122) → ¬ (48 ≤ v ∧ v ≤ 57) → fM_sortOf_42 N (Int32.ofInt (v : Int)) h = some (Int32.ofInt ((yt_m (yt_k v) : Nat) : Int), h) := by
    intro n0 n1 n2
    unfold fM_sortOf_42 fM_sortOf_64
    rw [zqo_ne _ _ (by omega) (by decide), zqo_ne _ _ (by omega) (by decide)]
    by_cases e1 : v = 40
    · subst e1
      rfl
    · rw [decide_eq_false (show ¬ (v : Int) = 40 by omega), Bool.not_false, cond_true]
      by_cases e2 : v = 41
      · subst e2
        rfl
      · rw [decide_eq_false (show ¬ (v : Int) = 41 by omega), Bool.not_false, cond_true]
        have : yt_m (yt_k v) = 6 := by
          unfold yt_k
          rw [if_neg n1, if_neg n2]
          by_cases e3 : v = 10 ∨ v = 32
          · rw [if_pos e3]
            rfl
          · rw [if_neg e3, if_neg e1, if_neg e2, if_neg n0]
            rfl
        rw [this]
        rfl
  have s26 : v ≠ 59 → ¬ (97 ≤ v ∧ v ≤ 122) → fM_sortOf_26 N (Int32.ofInt (v : Int)) h = some (Int32.ofInt ((yt_m (yt_k v) : Nat) : Int), h) := by
    intro n0 n1
    unfold fM_sortOf_26
    rw [zqo_lt _ _ (by omega) (by decide), zqo_gt _ _ (by omega) (by decide)]
    by_cases e1 : (v : Int) < 48
    · rw [decide_eq_true e1, cond_true]
      exact s42 n0 n1 (by omega)
    · rw [decide_eq_false e1, cond_false]
      by_cases e2 : (57 : Int) < (v : Int)
      · rw [decide_eq_true e2, cond_true]
        exact s42 n0 n1 (by omega)
      · rw [decide_eq_false e2, cond_false]
        have e : yt_k v = 2 := by
          unfold yt_k
          rw [if_neg n1, if_pos (by omega)]
        rw [e]
        rfl
  unfold fM_sortOf
  rw [zqo_ne _ _ (by omega) (by decide), zqo_lt _ _ (by omega) (by decide), zqo_gt _ _ (by omega) (by decide)]
  by_cases e0 : v = 59
  · subst e0
    rfl
  · rw [decide_eq_false (show ¬ (v : Int) = 59 by omega), Bool.not_false, cond_true]
    by_cases e1 : (v : Int) < 97
    · rw [decide_eq_true e1, cond_true]
      exact s26 e0 (by omega)
    · rw [decide_eq_false e1, cond_false]
      by_cases e2 : (122 : Int) < (v : Int)
      · rw [decide_eq_true e2, cond_true]
        exact s26 e0 (by omega)
      · rw [decide_eq_false e2, cond_false]
        have e : yt_k v = 1 := by
          unfold yt_k
          rw [if_pos (by omega)]
        rw [e]
        rfl
theorem zr_us (fl : Nat → Int) (k : Nat) (x : Int) : zr_u fl k x k = x := if_pos rfl
theorem zr_un (fl : Nat → Int) {k j : Nat} (x : Int) (h : j ≠ k) : zr_u fl k x j = fl j := if_neg h
section YVA
variable {N : Nat} {G : yH} {h h' : zH} {A : zA} {fl fl' : Nat → Int} {a : Nat → Nat → Int}
/-- numbers of the script changed -/
theorem yv_fl (Y : yv G h A fl a) (H : zr h' fl' a) (f : ∀ k, k = 4 ∨ k = 5 ∨ k = 10 ∨ k = 11 ∨ k = 16 ∨ k = 17 → fl' k = fl k) : yv G h' A fl' a := by
  obtain ⟨y1, ⟨r1, r2, r3, r4, r5, r6, r7, r8⟩, y3, y4, y5⟩ := Y
  exact ⟨H, ⟨r1, (f 4 (by decide)).trans r2, r3, (f 5 (by decide)).trans r4, r5, ⟨(f 10 (by decide)).trans r6.1, r6.2⟩, ⟨⟨(f 16 (by decide)).trans r7.1.1, rfl, rfl⟩, r7.2⟩, (f 17 (by decide)).trans r8⟩, y3, ⟨(f 11 (by decide)).trans y4.1, y4.2⟩, y5⟩
theorem yv_s (Y : yv G h A fl a) (k : Nat) (hk : k = 12 ∨ k = 13 ∨ (18 ≤ k ∧ k ≤ 22)) (x : Int) : ∃ h', fS h 232 5 k (.int (Int32.ofInt x)) = some h' ∧ yv G h' A (zr_u fl k x) a ∧ zr_F h h' := by
  obtain ⟨h1, e1, H1, F1⟩ := zr_s Y.1 k (decide_eq_true (by omega)) x
  exact ⟨h1, e1, yv_fl Y H1 (fun j hj => zr_un fl x (by omega)), F1⟩
theorem yv_i (Y : yv G h A fl a) (k : Nat) (hk : zr_ok k = true) : fI h 232 5 k = some (Int32.ofInt (fl k)) := zr_i Y.1 k hk
theorem yv_T (Y : yv G h A fl a) : fT h 232 5 = true := zr_T Y.1
theorem yv_src (Y : yv G h A fl a) {i : Nat} (hi : i < (yX G).length) : fAI h 238 100 (Int32.ofInt (i : Int)) = some (Int32.ofInt ((yX G).getD i 0 : Int)) := by
  have l6 := Y.2.2.2.2.1.1
  have g : fAI h 238 100 (Int32.ofInt (i : Int)) = some (Int32.ofInt (a 238 i)) := zr_g Y.1 238 i (by decide) (by decide) (by show i < 600; omega)
  rw [g, Y.2.2.2.1.2 i hi]
theorem yv_11 (Y : yv G h A fl a) : fI h 232 5 11 = some (Int32.ofInt ((yX G).length : Int)) := by
  rw [yv_i Y 11 rfl, Y.2.2.2.1.1]
/-- blanks passed -/
theorem yv_skip : ∀ (c f p : Nat) (h : zH) (fl : Nat → Int), yv G h A fl a → fl 19 = (p : Int) → p + c = (yX G).length → c < f → ∃ h' fl', fM_next_8 N f 232 h = fM_next_60 N 232 h' ∧ yv G h' A fl' a ∧ zr_F h h' ∧ fl' 19 = (yt_b (yX G) c p : Int) ∧ ∀ k, k ≠ 19 → fl' k = fl k := by
  intro c
  induction c with
  | zero =>
    intro f p h fl Y h6 h1 h2
    obtain ⟨g, rfl⟩ : ∃ g, f = g + 1 := ⟨f - 1, by omega⟩
    have l6 := Y.2.2.2.2.1.1
    refine ⟨h, fl, ?_, Y, zr_Fr h, h6, fun _ _ => rfl⟩
    rw [fM_next_8, yv_i Y 19 rfl, b1_s, h6, yv_11 Y, b1_s, zqo_ge _ _ (by omega) (by omega), decide_eq_true (by omega), cond_true]
  | succ c ih =>
    intro f p h fl Y h6 h1 h2
    obtain ⟨g, rfl⟩ : ∃ g, f = g + 1 := ⟨f - 1, by omega⟩
    have l6 := Y.2.2.2.2.1.1
    have g1 := zw_gD Y.2.2.2.2.1.2 p
    have sr := yv_src Y (i := p) (by omega)
    by_cases e : yt_k ((yX G).getD p 0) = 6
    · obtain ⟨h5, e5, Y5, F5⟩ := yv_s Y 19 (by decide) ((p : Int) + 1)
      obtain ⟨h7, n7, e7, Y7, F7, p7, r7⟩ := ih g (p + 1) h5 _ Y5 (zr_us _ _ _) (by omega) (by omega)
      have e47 : fM_next_47 N (fM_next_8 N g) 232 h = fM_next_60 N 232 h7 := by
        unfold fM_next_47
        rw [yv_i Y 19 rfl, b1_s, h6, zw_add, e5, b1_s]
        exact e7
      refine ⟨h7, n7, ?_, Y7, zr_Ft F5 F7, ?_, fun k hk => (r7 k hk).trans (zr_un fl _ hk)⟩
      · rw [fM_next_8, yv_i Y 19 rfl, b1_s, h6, yv_11 Y, b1_s, zqo_ge _ _ (by omega) (by omega), decide_eq_false (by omega), cond_false, zr_r7 Y.1, b1_s, b1_s, sr, b1_s, zqo_eq _ _ (by omega) (by decide)]
        by_cases e32 : (yX G).getD p 0 = 32
        · rw [decide_eq_true (by omega), cond_true]
          exact e47
        · have e10 : (yX G).getD p 0 = 10 := by
            have := yt_k6.mp e
            omega
          rw [decide_eq_false (by omega), cond_false, b1_s, b1_s, sr, b1_s, zqo_ne _ _ (by omega) (by decide), decide_eq_true (by omega), Bool.not_true, cond_false]
          exact e47
      · rw [yt_b, if_pos e]
        exact p7
    · have n6 : ¬ ((yX G).getD p 0 = 10 ∨ (yX G).getD p 0 = 32) := fun x => e (yt_k6.mpr x)
      refine ⟨h, fl, ?_, Y, zr_Fr h, ?_, fun _ _ => rfl⟩
      · rw [fM_next_8, yv_i Y 19 rfl, b1_s, h6, yv_11 Y, b1_s, zqo_ge _ _ (by omega) (by omega), decide_eq_false (by omega), cond_false, zr_r7 Y.1, b1_s, b1_s, sr, b1_s, zqo_eq _ _ (by omega) (by decide), decide_eq_false (by omega), cond_false, b1_s, b1_s, sr, b1_s, zqo_ne _ _ (by omega) (by decide), decide_eq_false (by omega), Bool.not_false, cond_true]
      · rw [yt_b, if_neg e]
        exact h6
/-- bytes of the token's kind passed -/
theorem yv_more {q : Nat} (hq : q = 1 ∨ q = 2) : ∀ (c f p : Nat) (h : zH) (fl : Nat → Int), yv G h A fl a → fl 20 = (p : Int) → fl 18 = (yt_m q : Int) → p + c = (yX G).length → c < f → ∃ h' fl', fM_next_111 N f 232 h = fM_next_170 N 232 h' ∧ yv G h' A fl' a ∧ zr_F h h' ∧ fl' 20 = (yt_r (yX G) q c p : Int) ∧ ∀ k, k ≠ 20 → fl' k = fl k := by
  have s0 : ∀ (g : Nat) (h : zH) (fl : Nat → Int), yv G h A fl a → fl 18 = (yt_m q : Int) → fM_next_111 N (g + 1) 232 h = fM_next_127 N (fM_next_111 N g) 232 h := by
    intro g h fl Y h4
    rw [fM_next_111, yv_i Y 18 rfl, b1_s, h4]
    rcases hq with e | e <;> subst e <;> rfl
  intro c
  induction c with
  | zero =>
    intro f p h fl Y h6 h4 h1 h2
    obtain ⟨g, rfl⟩ : ∃ g, f = g + 1 := ⟨f - 1, by omega⟩
    have l6 := Y.2.2.2.2.1.1
    refine ⟨h, fl, ?_, Y, zr_Fr h, h6, fun _ _ => rfl⟩
    rw [s0 g h fl Y h4]
    unfold fM_next_127
    rw [yv_i Y 20 rfl, b1_s, h6, yv_11 Y, b1_s, zqo_ge _ _ (by omega) (by omega), decide_eq_true (by omega), cond_true]
  | succ c ih =>
    intro f p h fl Y h6 h4 h1 h2
    obtain ⟨g, rfl⟩ : ∃ g, f = g + 1 := ⟨f - 1, by omega⟩
    have l6 := Y.2.2.2.2.1.1
    have g1 := zw_gD Y.2.2.2.2.1.2 p
    have sr := yv_src Y (i := p) (by omega)
    have mb := yt_mb (yt_k ((yX G).getD p 0))
    have mb2 := yt_mb q
    have mi : yt_m (yt_k ((yX G).getD p 0)) = yt_m q ↔ yt_k ((yX G).getD p 0) = q := by
      have := yt_mi (q := yt_k ((yX G).getD p 0))
      have := yt_mi (q := q)
      rcases hq with e | e <;> subst e <;> omega
    rw [s0 g h fl Y h4]
    unfold fM_next_127
    rw [yv_i Y 20 rfl, b1_s, h6, yv_11 Y, b1_s, zqo_ge _ _ (by omega) (by omega), decide_eq_false (by omega), cond_false, zr_r7 Y.1, b1_s, b1_s, sr, b1_s, yt_sort N _ g1, b2, yv_i Y 18 rfl, b1_s, h4, zqo_ne _ _ (by omega) (by omega)]
    by_cases e : yt_k ((yX G).getD p 0) = q
    · obtain ⟨h5, e5, Y5, F5⟩ := yv_s Y 20 (by decide) ((p : Int) + 1)
      obtain ⟨h7, n7, e7, Y7, F7, p7, r7⟩ := ih g (p + 1) h5 _ Y5 (zr_us _ _ _) ((zr_un fl _ (by decide)).trans h4) (by omega) (by omega)
      refine ⟨h7, n7, ?_, Y7, zr_Ft F5 F7, ?_, fun k hk => (r7 k hk).trans (zr_un fl _ hk)⟩
      · have := mi.mpr e
        rw [decide_eq_true (by omega), Bool.not_true, cond_false, yv_i Y 20 rfl, b1_s, h6, zw_add, e5, b1_s]
        exact e7
      · rw [yt_r, if_pos e]
        exact p7
    · refine ⟨h, fl, ?_, Y, zr_Fr h, ?_, fun _ _ => rfl⟩
      · have : ¬ yt_m (yt_k ((yX G).getD p 0)) = yt_m q := fun x => e (mi.mp x)
        rw [decide_eq_false (by omega), Bool.not_false, cond_true]
      · rw [yt_r, if_neg e]
        exact h6
/-- a number's value -/
theorem yv_value {e0 : Nat} : ∀ (c f i x : Nat) (h : zH) (fl : Nat → Int), yv G h A fl a → fl 20 = (e0 : Int) → fl 18 = 3 → fl 21 = (x : Int) → i + c = e0 → e0 ≤ (yX G).length → c < f → (∀ j, i ≤ j → j < e0 → yt_k ((yX G).getD j 0) = 2) → ∃ h' fl', fM_next_207 N f 232 (Int32.ofInt (i : Int)) h = some ((), h') ∧ yv G h' A fl' a ∧ zr_F h h' ∧ fl' 21 = (yt_w (yX G) c i x : Int) ∧ ∀ k, k ≠ 21 → fl' k = fl k := by
  intro c
  induction c with
  | zero =>
    intro f i x h fl Y h6 h4 h7 h1 h8 h2 h3
    obtain ⟨g, rfl⟩ : ∃ g, f = g + 1 := ⟨f - 1, by omega⟩
    have l6 := Y.2.2.2.2.1.1
    refine ⟨h, fl, ?_, Y, zr_Fr h, h7, fun _ _ => rfl⟩
    rw [fM_next_207, yv_i Y 20 rfl, b1_s, h6, zqo_ge _ _ (by omega) (by omega), decide_eq_true (by omega), cond_true]
  | succ c ih =>
    intro f i x h fl Y h6 h4 h7 h1 h8 h2 h3
    obtain ⟨g, rfl⟩ : ∃ g, f = g + 1 := ⟨f - 1, by omega⟩
    have l6 := Y.2.2.2.2.1.1
    have sr := yv_src Y (i := i) (by omega)
    have d := yt_k2 (h3 i (Nat.le_refl i) (by omega))
    obtain ⟨h5, e5, Y5, F5⟩ := yv_s Y 21 (by decide) (10 * (x : Int) + ((yX G).getD i 0 : Int) - 48)
    obtain ⟨h9, n9, e9, Y9, F9, p9, r9⟩ := ih g (i + 1) (10 * x + ((yX G).getD i 0 - 48)) h5 _ Y5 ((zr_un fl _ (by decide)).trans h6) ((zr_un fl _ (by decide)).trans h4) (by rw [zr_us]; omega) (by omega) h8 (by omega) (fun j a b => h3 j (by omega) b)
    refine ⟨h9, n9, ?_, Y9, zr_Ft F5 F9, p9, fun k hk => (r9 k hk).trans (zr_un fl _ hk)⟩
    rw [fM_next_207, yv_i Y 20 rfl, b1_s, h6, zqo_ge _ _ (by omega) (by omega), decide_eq_false (by omega), cond_false, yv_i Y 18 rfl, b1_s, h4, show z_cmp .ne (Int32.ofInt 3) (Int32.ofInt 3) = false from rfl, cond_false, yv_i Y 21 rfl, b1_s, h7, zr_r7 Y.1, b1_s, sr, b1_s, zw_mul, zw_add, zw_sub, e5, b1_s, zh_inc]
    exact e9
/-- the token that begins at p, as the reference notes it -/
def yT (s : List Nat) (p : Nat) (fl : Nat → Int) : Prop := fl 18 = (yt_m (yt_q s p) : Int) ∧ fl 19 = (p : Int) ∧ fl 20 = (yt_e s p : Int) ∧ (yt_q s p = 2 → fl 21 = (yt_v s p : Int))
theorem yv_170 (hN : 1000 ≤ N) (Y : yv G h A fl a) {p : Nat} (h5 : fl 19 = (p : Int)) (h6 : fl 20 = (yt_e (yX G) p : Int)) (h4 : fl 18 = (yt_m (yt_k ((yX G).getD p 0)) : Int)) (hp : p < (yX G).length) : ∃ h' fl', fM_next_170 N 232 h = some ((), h') ∧ yv G h' A fl' a ∧ zr_F h h' ∧ yT (yX G) p fl' ∧ ∀ k, (k < 18 ∨ 21 < k) → fl' k = fl k := by
  have l6 := Y.2.2.2.2.1.1
  have eb := yt_eb (s := yX G) (p := p) (by omega)
  have kb := yt_kb ((yX G).getD p 0)
  have mb := yt_mb (yt_k ((yX G).getD p 0))
  have mi := yt_mi (q := yt_k ((yX G).getD p 0))
  -- with another kind than a number's, 197 ends at once
  have no : ∀ (h : zH) (fl : Nat → Int), yv G h A fl a → fl 19 = (p : Int) → fl 20 = (yt_e (yX G) p : Int) → (∃ m : Nat, fl 18 = (m : Int) ∧ m ≤ 6 ∧ m ≠ 3) → ∃ h' fl', fM_next_197 N 232 h = some ((), h') ∧ yv G h' A fl' a ∧ zr_F h h' ∧ ∀ k, k ≠ 21 → fl' k = fl k := by
    intro h fl Y h5 h6 ⟨m, h4, m6, m3⟩
    obtain ⟨h1, e1, Y1, F1⟩ := yv_s Y 21 (by decide) 0
    obtain ⟨g, hg⟩ : ∃ g, N = g + 1 := ⟨N - 1, by omega⟩
    refine ⟨h1, _, ?_, Y1, F1, fun k hk => zr_un fl _ hk⟩
    unfold fM_next_197
    rw [e1, b1_s, yv_i Y1 19 rfl, b1_s, zr_un fl _ (show (19 : Nat) ≠ 21 by decide), h5]
    generalize hM : N = M
    have e2 : fM_next_207 M (g + 1) 232 (Int32.ofInt (p : Int)) h1 = some ((), h1) := by
      rw [fM_next_207, yv_i Y1 20 rfl, b1_s, zr_un fl _ (show (20 : Nat) ≠ 21 by decide), h6, zqo_ge _ _ (by omega) (by omega), decide_eq_false (by omega), cond_false, yv_i Y1 18 rfl, b1_s, zr_un fl _ (show (18 : Nat) ≠ 21 by decide), h4, zqo_ne _ _ (by omega) (by decide), decide_eq_false (by omega), Bool.not_false, cond_true]
    rw [← hM, hg] at e2 ⊢
    exact e2
  by_cases e : yt_k ((yX G).getD p 0) = 2
  · have m3 : fl 18 = 3 := by omega
    by_cases e3 : yt_e (yX G) p - p ≤ 3
    · have q2 : yt_q (yX G) p = 2 := by
        unfold yt_q
        rw [if_neg (by omega), if_neg (by omega)]
        exact e
      obtain ⟨_, _, dg⟩ := yt_q2 q2
      obtain ⟨h1, e1, Y1, F1⟩ := yv_s Y 21 (by decide) 0
      obtain ⟨h2, n2, e2, Y2, F2, p2, r2⟩ := yv_value (N := N) (e0 := yt_e (yX G) p) (yt_e (yX G) p - p) N p 0 h1 _ Y1 ((zr_un fl _ (by decide)).trans h6) ((zr_un fl _ (by decide)).trans m3) (zr_us _ _ _) (by omega) eb.2.1 (by omega) dg
      have n2k : ∀ k, k ≠ 21 → n2 k = fl k := fun k hk => (r2 k hk).trans (zr_un fl _ hk)
      refine ⟨h2, n2, ?_, Y2, zr_Ft F1 F2, ⟨(n2k 18 (by decide)).trans (by rw [q2]; exact m3), (n2k 19 (by decide)).trans h5, (n2k 20 (by decide)).trans h6, fun _ => p2⟩, fun k hk => n2k k (by omega)⟩
      unfold fM_next_170
      rw [yv_i Y 18 rfl, b1_s, m3, show z_cmp .ne (Int32.ofInt 3) (Int32.ofInt 3) = false from rfl, cond_false, yv_i Y 20 rfl, b1_s, h6, yv_i Y 19 rfl, b1_s, h5, zw_sub, zqo_le _ _ (by omega) (by decide), decide_eq_true (by omega), cond_true]
      unfold fM_next_197
      rw [e1, b1_s, yv_i Y1 19 rfl, b1_s, zr_un fl _ (show (19 : Nat) ≠ 21 by decide), h5]
      exact e2
    · have q7 : yt_q (yX G) p = 7 := by
        unfold yt_q
        rw [if_neg (by omega), if_pos ⟨e, by omega⟩]
      obtain ⟨h1, e1, Y1, F1⟩ := yv_s Y 18 (by decide) 6
      obtain ⟨h2, n2, e2, Y2, F2, r2⟩ := no h1 _ Y1 ((zr_un fl _ (by decide)).trans h5) ((zr_un fl _ (by decide)).trans h6) ⟨6, zr_us _ _ _, Nat.le_refl 6, by decide⟩
      refine ⟨h2, n2, ?_, Y2, zr_Ft F1 F2, ⟨(r2 18 (by decide)).trans (by rw [q7, zr_us]; rfl), (r2 19 (by decide)).trans ((zr_un fl _ (by decide)).trans h5), (r2 20 (by decide)).trans ((zr_un fl _ (by decide)).trans h6), fun x => absurd (q7.symm.trans x) (by decide)⟩, fun k hk => (r2 k (by omega)).trans (zr_un fl _ (by omega))⟩
      unfold fM_next_170
      rw [yv_i Y 18 rfl, b1_s, m3, show z_cmp .ne (Int32.ofInt 3) (Int32.ofInt 3) = false from rfl, cond_false, yv_i Y 20 rfl, b1_s, h6, yv_i Y 19 rfl, b1_s, h5, zw_sub, zqo_le _ _ (by omega) (by decide), decide_eq_false (by omega), cond_false, e1, b1_s]
      exact e2
  · have q : yt_q (yX G) p = yt_k ((yX G).getD p 0) := by
      unfold yt_q
      rw [if_neg (by omega), if_neg (fun x => e x.1)]
    obtain ⟨h2, n2, e2, Y2, F2, r2⟩ := no h fl Y h5 h6 ⟨_, h4, mb, by omega⟩
    refine ⟨h2, n2, ?_, Y2, F2, ⟨(r2 18 (by decide)).trans (by rw [q]; exact h4), (r2 19 (by decide)).trans h5, (r2 20 (by decide)).trans h6, fun x => absurd (q.symm.trans x) e⟩, fun k hk => r2 k (by omega)⟩
    unfold fM_next_170
    rw [yv_i Y 18 rfl, b1_s, h4, zqo_ne _ _ (by omega) (by decide), decide_eq_false (by omega), Bool.not_false, cond_true]
    exact e2
theorem yv_60 (hN : 1000 ≤ N) (Y : yv G h A fl a) {p : Nat} (h6 : fl 19 = (p : Int)) (hp : p ≤ (yX G).length) : ∃ h' fl', fM_next_60 N 232 h = some ((), h') ∧ yv G h' A fl' a ∧ zr_F h h' ∧ yT (yX G) p fl' ∧ ∀ k, (k < 18 ∨ 21 < k) → fl' k = fl k := by
  have l6 := Y.2.2.2.2.1.1
  obtain ⟨h1, e1, Y1, F1⟩ := yv_s Y 20 (by decide) (p : Int)
  have m19 : zr_u fl 20 (p : Int) 19 = (p : Int) := (zr_un fl _ (by decide)).trans h6
  unfold fM_next_60
  rw [yv_i Y 19 rfl, b1_s, h6, e1, b1_s, yv_i Y1 19 rfl, b1_s, m19, yv_11 Y1, b1_s, zqo_ne _ _ (by omega) (by omega)]
  by_cases e : (yX G).length ≤ p
  · obtain ⟨h2, e2, Y2, F2⟩ := yv_s Y1 18 (by decide) 0
    have q0 : yt_q (yX G) p = 0 := (yt_q0 hp).mpr (by omega)
    have ee : yt_e (yX G) p = p := by
      unfold yt_e
      rw [if_pos e]
    refine ⟨h2, _, ?_, Y2, zr_Ft F1 F2, ⟨?_, ?_, ?_, fun x => absurd (q0.symm.trans x) (by decide)⟩, fun k hk => ?_⟩
    · rw [decide_eq_true (by omega), Bool.not_true, cond_false, e2, b1_s]
    · rw [q0]
      exact zr_us _ _ _
    · rw [zr_un _ _ (show (19 : Nat) ≠ 18 by decide)]
      exact m19
    · rw [zr_un _ _ (show (20 : Nat) ≠ 18 by decide), zr_us, ee]
    · rw [zr_un _ _ (show k ≠ 18 by omega), zr_un _ _ (show k ≠ 20 by omega)]
  · have kb := yt_kb ((yX G).getD p 0)
    have mb := yt_mb (yt_k ((yX G).getD p 0))
    have mi := yt_mi (q := yt_k ((yX G).getD p 0))
    have g1 := zw_gD Y.2.2.2.2.1.2 p
    obtain ⟨h2, e2, Y2, F2⟩ := yv_s Y1 18 (by decide) (yt_m (yt_k ((yX G).getD p 0)) : Int)
    obtain ⟨h3, e3, Y3, F3⟩ := yv_s Y2 20 (by decide) ((p : Int) + 1)
    generalize hf : zr_u (zr_u (zr_u fl 20 (p : Int)) 18 (yt_m (yt_k ((yX G).getD p 0)) : Int)) 20 ((p : Int) + 1) = f3 at Y3
    have n18 : f3 18 = (yt_m (yt_k ((yX G).getD p 0)) : Int) := by rw [← hf, zr_un _ _ (show (18 : Nat) ≠ 20 by decide), zr_us]
    have n19 : f3 19 = (p : Int) := by
      rw [← hf, zr_un _ _ (show (19 : Nat) ≠ 20 by decide), zr_un _ _ (show (19 : Nat) ≠ 18 by decide)]
      exact m19
    have n20 : f3 20 = (p : Int) + 1 := by rw [← hf, zr_us]
    have nk : ∀ k, (k < 18 ∨ 21 < k) → f3 k = fl k := fun k hk => by rw [← hf, zr_un _ _ (show k ≠ 20 by omega), zr_un _ _ (show k ≠ 18 by omega), zr_un _ _ (show k ≠ 20 by omega)]
    have s1 : ∀ g : zH → Option (Unit × zH), (b1 (fR h1 232 5 7) fun x9 => b1 (fI h1 232 5 19) fun x10 => b1 (fAI h1 x9 100 x10) fun x11 => b2 (fM_sortOf N x11 h1) fun x12 h13 => b1 (fS h13 232 5 18 (.int x12)) fun h14 => b1 (fI h14 232 5 20) fun x15 => b1 (fS h14 232 5 20 (.int (x15 + (Int32.ofInt 1)))) g) = g h3 := fun g => by
      rw [zr_r7 Y1.1, b1_s, yv_i Y1 19 rfl, b1_s, m19, yv_src Y1 (by omega), b1_s, yt_sort N _ g1, b2, e2, b1_s, yv_i Y2 20 rfl, b1_s, zr_un _ _ (show (20 : Nat) ≠ 18 by decide), zr_us, zw_add, e3, b1_s]
    have s2 := s1 (fun h16 => fM_next_111 N N 232 h16)
    rw [yv_i Y1 19 rfl, m19] at s2
    rw [decide_eq_false (by omega), Bool.not_false, cond_true, s2]
    by_cases ek : yt_k ((yX G).getD p 0) = 1 ∨ yt_k ((yX G).getD p 0) = 2
    · obtain ⟨h4, m4, e4, Y4, F4, p4, r4⟩ := yv_more (N := N) ek ((yX G).length - (p + 1)) N (p + 1) h3 _ Y3 (by rw [n20]; omega) n18 (by omega) (by omega)
      have ee : yt_e (yX G) p = yt_r (yX G) (yt_k ((yX G).getD p 0)) ((yX G).length - (p + 1)) (p + 1) := by
        unfold yt_e
        rw [if_neg e, if_pos ek]
      obtain ⟨h5, m5, e5, Y5, F5, T5, K5⟩ := yv_170 hN Y4 (p := p) ((r4 19 (by decide)).trans n19) (by rw [ee]; exact p4) ((r4 18 (by decide)).trans n18) (by omega)
      exact ⟨h5, m5, by rw [e4, e5], Y5, zr_Ft F1 (zr_Ft F2 (zr_Ft F3 (zr_Ft F4 F5))), T5, fun k hk => (K5 k hk).trans ((r4 k (by omega)).trans (nk k hk))⟩
    · obtain ⟨g, hg⟩ : ∃ g, N = g + 1 := ⟨N - 1, by omega⟩
      have s3 : fM_next_111 N N 232 h3 = fM_next_170 N 232 h3 := by
        generalize hM : fM_next_170 N 232 h3 = R
        rw [hg, fM_next_111, ← hg, hM, yv_i Y3 18 rfl, b1_s, n18, zqo_eq _ _ (by omega) (by decide), decide_eq_false (by omega), cond_false, b1_s, zqo_ne _ _ (by omega) (by decide), decide_eq_false (by omega), Bool.not_false, cond_true]
      have ee : yt_e (yX G) p = p + 1 := by
        unfold yt_e
        rw [if_neg e, if_neg ek]
      obtain ⟨h5, m5, e5, Y5, F5, T5, K5⟩ := yv_170 hN Y3 (p := p) n19 (by rw [ee, n20]; omega) n18 (by omega)
      exact ⟨h5, m5, by rw [s3, e5], Y5, zr_Ft F1 (zr_Ft F2 (zr_Ft F3 F5)), T5, fun k hk => (K5 k hk).trans (nk k hk)⟩
/-- the next token -/
theorem yv_next (hN : 1000 ≤ N) (Y : yv G h A fl a) {p : Nat} (h6 : fl 20 = (p : Int)) (hp : p ≤ (yX G).length) : ∃ h' fl', fM_next N 232 h = some ((), h') ∧ yv G h' A fl' a ∧ zr_F h h' ∧ yT (yX G) (yt_s (yX G) p) fl' ∧ ∀ k, (k < 18 ∨ 21 < k) → fl' k = fl k := by
  have l6 := Y.2.2.2.2.1.1
  obtain ⟨h0, e0, Y0, F0⟩ := yv_s Y 19 (by decide) (p : Int)
  obtain ⟨h1, n1, e1, Y1, F1, p1, r1⟩ := yv_skip (N := N) ((yX G).length - p) N p h0 _ Y0 (zr_us _ _ _) (by omega) (by omega)
  obtain ⟨h2, n2, e2, Y2, F2, T2, k2⟩ := yv_60 hN Y1 (p := yt_s (yX G) p) p1 (yt_sb hp).2
  refine ⟨h2, n2, ?_, Y2, zr_Ft F0 (zr_Ft F1 F2), T2, fun k hk => (k2 k hk).trans ((r1 k (by omega)).trans (zr_un fl _ (by omega)))⟩
  unfold fM_next
  rw [yv_T Y, cond_true, yv_i Y 20 rfl, b1_s, h6, e0, b1_s, e1, e2]
end YVA
