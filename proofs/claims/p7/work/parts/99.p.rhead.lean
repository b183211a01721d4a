/-! THE REFERENCE'S SCRIPT before w holds a state that can be: the same of its tokens. -/
/-- as yv, whatever w's state is -/
def yv0 (G : yH) (h : zH) (A : zA) (fl : Nat → Int) (a : Nat → Nat → Int) : Prop := zr h fl a ∧ zyR fl a A G.2.1 G.2.2.1 G.2.2.2.1 G.2.2.2.2.1 (G.2.2.2.2.2.1, fl 12, fl 13) G.2.2.2.2.2.2.1 ∧ zy_is (a 234) G.1 ∧ (fl 11 = ((yX G).length : Int) ∧ ∀ i, i < (yX G).length → a 238 i = ((yX G).getD i 0 : Int)) ∧ ((yX G).length ≤ 600 ∧ ∀ v ∈ yX G, v < 256) ∧ True
theorem yv0_of {G : yH} {h : zH} {A : zA} {fl : Nat → Int} {a : Nat → Nat → Int} (Y : yv G h A fl a) : yv0 G h A fl a := ⟨Y.1, Y.2.1, Y.2.2.1, Y.2.2.2.1, Y.2.2.2.2.1, trivial⟩
theorem yv_of0 {G : yH} {h : zH} {A : zA} {fl : Nat → Int} {a : Nat → Nat → Int} (Y : yv0 G h A fl a) (ok : zv_ok A) : yv G h A fl a := ⟨Y.1, Y.2.1, Y.2.2.1, Y.2.2.2.1, Y.2.2.2.2.1, ok⟩
section YVW
variable {N : Nat} {G : yH} {h h' : zH} {A : zA} {fl fl' : Nat → Int} {a : Nat → Nat → Int}
/-- numbers of the script changed -/
theorem yw_fl (Y : yv0 G h A fl a) (H : zr h' fl' a) (f : ∀ k, k = 4 ∨ k = 5 ∨ k = 10 ∨ k = 11 ∨ k = 16 ∨ k = 17 → fl' k = fl k) : yv0 G h' A fl' a := by
  obtain ⟨y1, ⟨r1, r2, r3, r4, r5, r6, r7, r8⟩, y3, y4, y5⟩ := Y
  exact ⟨H, ⟨r1, (f 4 (by decide)).trans r2, r3, (f 5 (by decide)).trans r4, r5, ⟨(f 10 (by decide)).trans r6.1, r6.2⟩, ⟨⟨(f 16 (by decide)).trans r7.1.1, rfl, rfl⟩, r7.2⟩, (f 17 (by decide)).trans r8⟩, y3, ⟨(f 11 (by decide)).trans y4.1, y4.2⟩, y5⟩
theorem yw_s (Y : yv0 G h A fl a) (k : Nat) (hk : k = 12 ∨ k = 13 ∨ (18 ≤ k ∧ k ≤ 22)) (x : Int) : ∃ h', fS h 232 5 k (.int (Int32.ofInt x)) = some h' ∧ yv0 G h' A (zr_u fl k x) a ∧ zr_F h h' := by
  obtain ⟨h1, e1, H1, F1⟩ := zr_s Y.1 k (decide_eq_true (by omega)) x
  exact ⟨h1, e1, yw_fl Y H1 (fun j hj => zr_un fl x (by omega)), F1⟩
theorem yw_i (Y : yv0 G h A fl a) (k : Nat) (hk : zr_ok k = true) : fI h 232 5 k = some (Int32.ofInt (fl k)) := zr_i Y.1 k hk
theorem yw_T (Y : yv0 G h A fl a) : fT h 232 5 = true := zr_T Y.1
theorem yw_src (Y : yv0 G h A fl a) {i : Nat} (hi : i < (yX G).length) : fAI h 238 100 (Int32.ofInt (i : Int)) = some (Int32.ofInt ((yX G).getD i 0 : Int)) := by
  have l6 := Y.2.2.2.2.1.1
  have g : fAI h 238 100 (Int32.ofInt (i : Int)) = some (Int32.ofInt (a 238 i)) := zr_g Y.1 238 i (by decide) (by decide) (by show i < 600; omega)
  rw [g, Y.2.2.2.1.2 i hi]
theorem yw_11 (Y : yv0 G h A fl a) : fI h 232 5 11 = some (Int32.ofInt ((yX G).length : Int)) := by
  rw [yw_i Y 11 rfl, Y.2.2.2.1.1]
/-- blanks passed -/
theorem yw_skip : ∀ (c f p : Nat) (h : zH) (fl : Nat → Int), yv0 G h A fl a → fl 19 = (p : Int) → p + c = (yX G).length → c < f → ∃ h' fl', fM_next_8 N f 232 h = fM_next_60 N 232 h' ∧ yv0 G h' A fl' a ∧ zr_F h h' ∧ fl' 19 = (yt_b (yX G) c p : Int) ∧ ∀ k, k ≠ 19 → fl' k = fl k := by
  intro c
  induction c with
  | zero =>
    intro f p h fl Y h6 h1 h2
    obtain ⟨g, rfl⟩ : ∃ g, f = g + 1 := ⟨f - 1, by omega⟩
    have l6 := Y.2.2.2.2.1.1
    refine ⟨h, fl, ?_, Y, zr_Fr h, h6, fun _ _ => rfl⟩
    rw [fM_next_8, yw_i Y 19 rfl, b1_s, h6, yw_11 Y, b1_s, zqo_ge _ _ (by omega) (by omega), decide_eq_true (by omega), cond_true]
  | succ c ih =>
    intro f p h fl Y h6 h1 h2
    obtain ⟨g, rfl⟩ : ∃ g, f = g + 1 := ⟨f - 1, by omega⟩
    have l6 := Y.2.2.2.2.1.1
    have g1 := zw_gD Y.2.2.2.2.1.2 p
    have sr := yw_src Y (i := p) (by omega)
    by_cases e : yt_k ((yX G).getD p 0) = 6
    · obtain ⟨h5, e5, Y5, F5⟩ := yw_s Y 19 (by decide) ((p : Int) + 1)
      obtain ⟨h7, n7, e7, Y7, F7, p7, r7⟩ := ih g (p + 1) h5 _ Y5 (zr_us _ _ _) (by omega) (by omega)
      have e47 : fM_next_47 N (fM_next_8 N g) 232 h = fM_next_60 N 232 h7 := by
        unfold fM_next_47
        rw [yw_i Y 19 rfl, b1_s, h6, zw_add, e5, b1_s]
        exact e7
      refine ⟨h7, n7, ?_, Y7, zr_Ft F5 F7, ?_, fun k hk => (r7 k hk).trans (zr_un fl _ hk)⟩
      · rw [fM_next_8, yw_i Y 19 rfl, b1_s, h6, yw_11 Y, b1_s, zqo_ge _ _ (by omega) (by omega), decide_eq_false (by omega), cond_false, zr_r7 Y.1, b1_s, b1_s, sr, b1_s, zqo_eq _ _ (by omega) (by decide)]
        by_cases e32 : (yX G).getD p 0 = 32
        · rw [decide_eq_true (by omega), cond_true]
          exact e47
        · have e10 : (yX G).getD p 0 = 10 := by
            have := yt_k6.mp e
            omega
          rw [decide_eq_false (by omega), cond_false, b1_s, b1_s, sr, b1_s, zqo_ne _ _ (by omega) (by decide), decide_eq_true (by omega), Bool.not_true, cond_false]
          exact e47
      · rw [yt_b, if_pos e]
        exact p7
    · have n6 : ¬ ((yX G).getD p 0 = 10 ∨ (yX G).getD p 0 = 32) := fun x => e (yt_k6.mpr x)
      refine ⟨h, fl, ?_, Y, zr_Fr h, ?_, fun _ _ => rfl⟩
      · rw [fM_next_8, yw_i Y 19 rfl, b1_s, h6, yw_11 Y, b1_s, zqo_ge _ _ (by omega) (by omega), decide_eq_false (by omega), cond_false, zr_r7 Y.1, b1_s, b1_s, sr, b1_s, zqo_eq _ _ (by omega) (by decide), decide_eq_false (by omega), cond_false, b1_s, b1_s, sr, b1_s, zqo_ne _ _ (by omega) (by decide), decide_eq_false (by omega), Bool.not_false, cond_true]
      · rw [yt_b, if_neg e]
        exact h6
/-- bytes of the token's kind passed -/
theorem yw_more {q : Nat} (hq : q = 1 ∨ q = 2) : ∀ (c f p : Nat) (h : zH) (fl : Nat → Int), yv0 G h A fl a → fl 20 = (p : Int) → fl 18 = (yt_m q : Int) → p + c = (yX G).length → c < f → ∃ h' fl', fM_next_111 N f 232 h = fM_next_170 N 232 h' ∧ yv0 G h' A fl' a ∧ zr_F h h' ∧ fl' 20 = (yt_r (yX G) q c p : Int) ∧ ∀ k, k ≠ 20 → fl' k = fl k := by
  have s0 : ∀ (g : Nat) (h : zH) (fl : Nat → Int), yv0 G h A fl a → fl 18 = (yt_m q : Int) → fM_next_111 N (g + 1) 232 h = fM_next_127 N (fM_next_111 N g) 232 h := by
    intro g h fl Y h4
    rw [fM_next_111, yw_i Y 18 rfl, b1_s, h4]
    rcases hq with e | e <;> subst e <;> rfl
  intro c
  induction c with
  | zero =>
    intro f p h fl Y h6 h4 h1 h2
    obtain ⟨g, rfl⟩ : ∃ g, f = g + 1 := ⟨f - 1, by omega⟩
    have l6 := Y.2.2.2.2.1.1
    refine ⟨h, fl, ?_, Y, zr_Fr h, h6, fun _ _ => rfl⟩
    rw [s0 g h fl Y h4]
    unfold fM_next_127
    rw [yw_i Y 20 rfl, b1_s, h6, yw_11 Y, b1_s, zqo_ge _ _ (by omega) (by omega), decide_eq_true (by omega), cond_true]
  | succ c ih =>
    intro f p h fl Y h6 h4 h1 h2
    obtain ⟨g, rfl⟩ : ∃ g, f = g + 1 := ⟨f - 1, by omega⟩
    have l6 := Y.2.2.2.2.1.1
    have g1 := zw_gD Y.2.2.2.2.1.2 p
    have sr := yw_src Y (i := p) (by omega)
    have mb := yt_mb (yt_k ((yX G).getD p 0))
    have mb2 := yt_mb q
    have mi : yt_m (yt_k ((yX G).getD p 0)) = yt_m q ↔ yt_k ((yX G).getD p 0) = q := by
      have := yt_mi (q := yt_k ((yX G).getD p 0))
      have := yt_mi (q := q)
      rcases hq with e | e <;> subst e <;> omega
    rw [s0 g h fl Y h4]
    unfold fM_next_127
    rw [yw_i Y 20 rfl, b1_s, h6, yw_11 Y, b1_s, zqo_ge _ _ (by omega) (by omega), decide_eq_false (by omega), cond_false, zr_r7 Y.1, b1_s, b1_s, sr, b1_s, yt_sort N _ g1, b2, yw_i Y 18 rfl, b1_s, h4, zqo_ne _ _ (by omega) (by omega)]
    by_cases e : yt_k ((yX G).getD p 0) = q
    · obtain ⟨h5, e5, Y5, F5⟩ := yw_s Y 20 (by decide) ((p : Int) + 1)
      obtain ⟨h7, n7, e7, Y7, F7, p7, r7⟩ := ih g (p + 1) h5 _ Y5 (zr_us _ _ _) ((zr_un fl _ (by decide)).trans h4) (by omega) (by omega)
      refine ⟨h7, n7, ?_, Y7, zr_Ft F5 F7, ?_, fun k hk => (r7 k hk).trans (zr_un fl _ hk)⟩
      · have := mi.mpr e
        rw [decide_eq_true (by omega), Bool.not_true, cond_false, yw_i Y 20 rfl, b1_s, h6, zw_add, e5, b1_s]
        exact e7
      · rw [yt_r, if_pos e]
        exact p7
    · refine ⟨h, fl, ?_, Y, zr_Fr h, ?_, fun _ _ => rfl⟩
      · have : ¬ yt_m (yt_k ((yX G).getD p 0)) = yt_m q := fun x => e (mi.mp x)
        rw [decide_eq_false (by omega), Bool.not_false, cond_true]
      · rw [yt_r, if_neg e]
        exact h6
/-- a number's value -/
theorem yw_value {e0 : Nat} : ∀ (c f i x : Nat) (h : zH) (fl : Nat → Int), yv0 G h A fl a → fl 20 = (e0 : Int) → fl 18 = 3 → fl 21 = (x : Int) → i + c = e0 → e0 ≤ (yX G).length → c < f → (∀ j, i ≤ j → j < e0 → yt_k ((yX G).getD j 0) = 2) → ∃ h' fl', fM_next_207 N f 232 (Int32.ofInt (i : Int)) h = some ((), h') ∧ yv0 G h' A fl' a ∧ zr_F h h' ∧ fl' 21 = (yt_w (yX G) c i x : Int) ∧ ∀ k, k ≠ 21 → fl' k = fl k := by
  intro c
  induction c with
  | zero =>
    intro f i x h fl Y h6 h4 h7 h1 h8 h2 h3
    obtain ⟨g, rfl⟩ : ∃ g, f = g + 1 := ⟨f - 1, by omega⟩
    have l6 := Y.2.2.2.2.1.1
    refine ⟨h, fl, ?_, Y, zr_Fr h, h7, fun _ _ => rfl⟩
    rw [fM_next_207, yw_i Y 20 rfl, b1_s, h6, zqo_ge _ _ (by omega) (by omega), decide_eq_true (by omega), cond_true]
  | succ c ih =>
    intro f i x h fl Y h6 h4 h7 h1 h8 h2 h3
    obtain ⟨g, rfl⟩ : ∃ g, f = g + 1 := ⟨f - 1, by omega⟩
    have l6 := Y.2.2.2.2.1.1
    have sr := yw_src Y (i := i) (by omega)
    have d := yt_k2 (h3 i (Nat.le_refl i) (by omega))
    obtain ⟨h5, e5, Y5, F5⟩ := yw_s Y 21 (by decide) (10 * (x : Int) + ((yX G).getD i 0 : Int) - 48)
    obtain ⟨h9, n9, e9, Y9, F9, p9, r9⟩ := ih g (i + 1) (10 * x + ((yX G).getD i 0 - 48)) h5 _ Y5 ((zr_un fl _ (by decide)).trans h6) ((zr_un fl _ (by decide)).trans h4) (by rw [zr_us]; omega) (by omega) h8 (by omega) (fun j a b => h3 j (by omega) b)
    refine ⟨h9, n9, ?_, Y9, zr_Ft F5 F9, p9, fun k hk => (r9 k hk).trans (zr_un fl _ hk)⟩
    rw [fM_next_207, yw_i Y 20 rfl, b1_s, h6, zqo_ge _ _ (by omega) (by omega), decide_eq_false (by omega), cond_false, yw_i Y 18 rfl, b1_s, h4, show z_cmp .ne (Int32.ofInt 3) (Int32.ofInt 3) = false from rfl, cond_false, yw_i Y 21 rfl, b1_s, h7, zr_r7 Y.1, b1_s, sr, b1_s, zw_mul, zw_add, zw_sub, e5, b1_s, zh_inc]
    exact e9
theorem yw_170 (hN : 1000 ≤ N) (Y : yv0 G h A fl a) {p : Nat} (h5 : fl 19 = (p : Int)) (h6 : fl 20 = (yt_e (yX G) p : Int)) (h4 : fl 18 = (yt_m (yt_k ((yX G).getD p 0)) : Int)) (hp : p < (yX G).length) : ∃ h' fl', fM_next_170 N 232 h = some ((), h') ∧ yv0 G h' A fl' a ∧ zr_F h h' ∧ yT (yX G) p fl' ∧ ∀ k, (k < 18 ∨ 21 < k) → fl' k = fl k := by
  have l6 := Y.2.2.2.2.1.1
  have eb := yt_eb (s := yX G) (p := p) (by omega)
  have kb := yt_kb ((yX G).getD p 0)
  have mb := yt_mb (yt_k ((yX G).getD p 0))
  have mi := yt_mi (q := yt_k ((yX G).getD p 0))
  -- with another kind than a number's, 197 ends at once
  have no : ∀ (h : zH) (fl : Nat → Int), yv0 G h A fl a → fl 19 = (p : Int) → fl 20 = (yt_e (yX G) p : Int) → (∃ m : Nat, fl 18 = (m : Int) ∧ m ≤ 6 ∧ m ≠ 3) → ∃ h' fl', fM_next_197 N 232 h = some ((), h') ∧ yv0 G h' A fl' a ∧ zr_F h h' ∧ ∀ k, k ≠ 21 → fl' k = fl k := by
    intro h fl Y h5 h6 ⟨m, h4, m6, m3⟩
    obtain ⟨h1, e1, Y1, F1⟩ := yw_s Y 21 (by decide) 0
    obtain ⟨g, hg⟩ : ∃ g, N = g + 1 := ⟨N - 1, by omega⟩
    refine ⟨h1, _, ?_, Y1, F1, fun k hk => zr_un fl _ hk⟩
    unfold fM_next_197
    rw [e1, b1_s, yw_i Y1 19 rfl, b1_s, zr_un fl _ (show (19 : Nat) ≠ 21 by decide), h5]
    generalize hM : N = M
    have e2 : fM_next_207 M (g + 1) 232 (Int32.ofInt (p : Int)) h1 = some ((), h1) := by
      rw [fM_next_207, yw_i Y1 20 rfl, b1_s, zr_un fl _ (show (20 : Nat) ≠ 21 by decide), h6, zqo_ge _ _ (by omega) (by omega), decide_eq_false (by omega), cond_false, yw_i Y1 18 rfl, b1_s, zr_un fl _ (show (18 : Nat) ≠ 21 by decide), h4, zqo_ne _ _ (by omega) (by decide), decide_eq_false (by omega), Bool.not_false, cond_true]
    rw [← hM, hg] at e2 ⊢
    exact e2
  by_cases e : yt_k ((yX G).getD p 0) = 2
  · have m3 : fl 18 = 3 := by omega
    by_cases e3 : yt_e (yX G) p - p ≤ 3
    · have q2 : yt_q (yX G) p = 2 := by
        unfold yt_q
        rw [if_neg (by omega), if_neg (by omega)]
        exact e
      obtain ⟨_, _, dg⟩ := yt_q2 q2
      obtain ⟨h1, e1, Y1, F1⟩ := yw_s Y 21 (by decide) 0
      obtain ⟨h2, n2, e2, Y2, F2, p2, r2⟩ := yw_value (N := N) (e0 := yt_e (yX G) p) (yt_e (yX G) p - p) N p 0 h1 _ Y1 ((zr_un fl _ (by decide)).trans h6) ((zr_un fl _ (by decide)).trans m3) (zr_us _ _ _) (by omega) eb.2.1 (by omega) dg
      have n2k : ∀ k, k ≠ 21 → n2 k = fl k := fun k hk => (r2 k hk).trans (zr_un fl _ hk)
      refine ⟨h2, n2, ?_, Y2, zr_Ft F1 F2, ⟨(n2k 18 (by decide)).trans (by rw [q2]; exact m3), (n2k 19 (by decide)).trans h5, (n2k 20 (by decide)).trans h6, fun _ => p2⟩, fun k hk => n2k k (by omega)⟩
      unfold fM_next_170
      rw [yw_i Y 18 rfl, b1_s, m3, show z_cmp .ne (Int32.ofInt 3) (Int32.ofInt 3) = false from rfl, cond_false, yw_i Y 20 rfl, b1_s, h6, yw_i Y 19 rfl, b1_s, h5, zw_sub, zqo_le _ _ (by omega) (by decide), decide_eq_true (by omega), cond_true]
      unfold fM_next_197
      rw [e1, b1_s, yw_i Y1 19 rfl, b1_s, zr_un fl _ (show (19 : Nat) ≠ 21 by decide), h5]
      exact e2
    · have q7 : yt_q (yX G) p = 7 := by
        unfold yt_q
        rw [if_neg (by omega), if_pos ⟨e, by omega⟩]
      obtain ⟨h1, e1, Y1, F1⟩ := yw_s Y 18 (by decide) 6
      obtain ⟨h2, n2, e2, Y2, F2, r2⟩ := no h1 _ Y1 ((zr_un fl _ (by decide)).trans h5) ((zr_un fl _ (by decide)).trans h6) ⟨6, zr_us _ _ _, Nat.le_refl 6, by decide⟩
      refine ⟨h2, n2, ?_, Y2, zr_Ft F1 F2, ⟨(r2 18 (by decide)).trans (by rw [q7, zr_us]; rfl), (r2 19 (by decide)).trans ((zr_un fl _ (by decide)).trans h5), (r2 20 (by decide)).trans ((zr_un fl _ (by decide)).trans h6), fun x => absurd (q7.symm.trans x) (by decide)⟩, fun k hk => (r2 k (by omega)).trans (zr_un fl _ (by omega))⟩
      unfold fM_next_170
      rw [yw_i Y 18 rfl, b1_s, m3, show z_cmp .ne (Int32.ofInt 3) (Int32.ofInt 3) = false from rfl, cond_false, yw_i Y 20 rfl, b1_s, h6, yw_i Y 19 rfl, b1_s, h5, zw_sub, zqo_le _ _ (by omega) (by decide), decide_eq_false (by omega), cond_false, e1, b1_s]
      exact e2
  · have q : yt_q (yX G) p = yt_k ((yX G).getD p 0) := by
      unfold yt_q
      rw [if_neg (by omega), if_neg (fun x => e x.1)]
    obtain ⟨h2, n2, e2, Y2, F2, r2⟩ := no h fl Y h5 h6 ⟨_, h4, mb, by omega⟩
    refine ⟨h2, n2, ?_, Y2, F2, ⟨(r2 18 (by decide)).trans (by rw [q]; exact h4), (r2 19 (by decide)).trans h5, (r2 20 (by decide)).trans h6, fun x => absurd (q.symm.trans x) e⟩, fun k hk => r2 k (by omega)⟩
    unfold fM_next_170
    rw [yw_i Y 18 rfl, b1_s, h4, zqo_ne _ _ (by omega) (by decide), decide_eq_false (by omega), Bool.not_false, cond_true]
    exact e2
theorem yw_60 (hN : 1000 ≤ N) (Y : yv0 G h A fl a) {p : Nat} (h6 : fl 19 = (p : Int)) (hp : p ≤ (yX G).length) : ∃ h' fl', fM_next_60 N 232 h = some ((), h') ∧ yv0 G h' A fl' a ∧ zr_F h h' ∧ yT (yX G) p fl' ∧ ∀ k, (k < 18 ∨ 21 < k) → fl' k = fl k := by
  have l6 := Y.2.2.2.2.1.1
  obtain ⟨h1, e1, Y1, F1⟩ := yw_s Y 20 (by decide) (p : Int)
  have m19 : zr_u fl 20 (p : Int) 19 = (p : Int) := (zr_un fl _ (by decide)).trans h6
  unfold fM_next_60
  rw [yw_i Y 19 rfl, b1_s, h6, e1, b1_s, yw_i Y1 19 rfl, b1_s, m19, yw_11 Y1, b1_s, zqo_ne _ _ (by omega) (by omega)]
  by_cases e : (yX G).length ≤ p
  · obtain ⟨h2, e2, Y2, F2⟩ := yw_s Y1 18 (by decide) 0
    have q0 : yt_q (yX G) p = 0 := (yt_q0 hp).mpr (by omega)
    have ee : yt_e (yX G) p = p := by
      unfold yt_e
      rw [if_pos e]
    refine ⟨h2, _, ?_, Y2, zr_Ft F1 F2, ⟨?_, ?_, ?_, fun x => absurd (q0.symm.trans x) (by decide)⟩, fun k hk => ?_⟩
    · rw [decide_eq_true (by omega), Bool.not_true, cond_false, e2, b1_s]
    · rw [q0]
      exact zr_us _ _ _
    · rw [zr_un _ _ (show (19 : Nat) ≠ 18 by decide)]
      exact m19
    · rw [zr_un _ _ (show (20 : Nat) ≠ 18 by decide), zr_us, ee]
    · rw [zr_un _ _ (show k ≠ 18 by omega), zr_un _ _ (show k ≠ 20 by omega)]
  · have kb := yt_kb ((yX G).getD p 0)
    have mb := yt_mb (yt_k ((yX G).getD p 0))
    have mi := yt_mi (q := yt_k ((yX G).getD p 0))
    have g1 := zw_gD Y.2.2.2.2.1.2 p
    obtain ⟨h2, e2, Y2, F2⟩ := yw_s Y1 18 (by decide) (yt_m (yt_k ((yX G).getD p 0)) : Int)
    obtain ⟨h3, e3, Y3, F3⟩ := yw_s Y2 20 (by decide) ((p : Int) + 1)
    generalize hf : zr_u (zr_u (zr_u fl 20 (p : Int)) 18 (yt_m (yt_k ((yX G).getD p 0)) : Int)) 20 ((p : Int) + 1) = f3 at Y3
    have n18 : f3 18 = (yt_m (yt_k ((yX G).getD p 0)) : Int) := by rw [← hf, zr_un _ _ (show (18 : Nat) ≠ 20 by decide), zr_us]
    have n19 : f3 19 = (p : Int) := by
      rw [← hf, zr_un _ _ (show (19 : Nat) ≠ 20 by decide), zr_un _ _ (show (19 : Nat) ≠ 18 by decide)]
      exact m19
    have n20 : f3 20 = (p : Int) + 1 := by rw [← hf, zr_us]
    have nk : ∀ k, (k < 18 ∨ 21 < k) → f3 k = fl k := fun k hk => by rw [← hf, zr_un _ _ (show k ≠ 20 by omega), zr_un _ _ (show k ≠ 18 by omega), zr_un _ _ (show k ≠ 20 by omega)]
    have s1 : ∀ g : zH → Option (Unit × zH), (b1 (fR h1 232 5 7) fun x9 => b1 (fI h1 232 5 19) fun x10 => b1 (fAI h1 x9 100 x10) fun x11 => b2 (fM_sortOf N x11 h1) fun x12 h13 => b1 (fS h13 232 5 18 (.int x12)) fun h14 => b1 (fI h14 232 5 20) fun x15 => b1 (fS h14 232 5 20 (.int (x15 + (Int32.ofInt 1)))) g) = g h3 := fun g => by
      rw [zr_r7 Y1.1, b1_s, yw_i Y1 19 rfl, b1_s, m19, yw_src Y1 (by omega), b1_s, yt_sort N _ g1, b2, e2, b1_s, yw_i Y2 20 rfl, b1_s, zr_un _ _ (show (20 : Nat) ≠ 18 by decide), zr_us, zw_add, e3, b1_s]
    have s2 := s1 (fun h16 => fM_next_111 N N 232 h16)
    rw [yw_i Y1 19 rfl, m19] at s2
    rw [decide_eq_false (by omega), Bool.not_false, cond_true, s2]
    by_cases ek : yt_k ((yX G).getD p 0) = 1 ∨ yt_k ((yX G).getD p 0) = 2
    · obtain ⟨h4, m4, e4, Y4, F4, p4, r4⟩ := yw_more (N := N) ek ((yX G).length - (p + 1)) N (p + 1) h3 _ Y3 (by rw [n20]; omega) n18 (by omega) (by omega)
      have ee : yt_e (yX G) p = yt_r (yX G) (yt_k ((yX G).getD p 0)) ((yX G).length - (p + 1)) (p + 1) := by
        unfold yt_e
        rw [if_neg e, if_pos ek]
      obtain ⟨h5, m5, e5, Y5, F5, T5, K5⟩ := yw_170 hN Y4 (p := p) ((r4 19 (by decide)).trans n19) (by rw [ee]; exact p4) ((r4 18 (by decide)).trans n18) (by omega)
      exact ⟨h5, m5, by rw [e4, e5], Y5, zr_Ft F1 (zr_Ft F2 (zr_Ft F3 (zr_Ft F4 F5))), T5, fun k hk => (K5 k hk).trans ((r4 k (by omega)).trans (nk k hk))⟩
    · obtain ⟨g, hg⟩ : ∃ g, N = g + 1 := ⟨N - 1, by omega⟩
      have s3 : fM_next_111 N N 232 h3 = fM_next_170 N 232 h3 := by
        generalize hM : fM_next_170 N 232 h3 = R
        rw [hg, fM_next_111, ← hg, hM, yw_i Y3 18 rfl, b1_s, n18, zqo_eq _ _ (by omega) (by decide), decide_eq_false (by omega), cond_false, b1_s, zqo_ne _ _ (by omega) (by decide), decide_eq_false (by omega), Bool.not_false, cond_true]
      have ee : yt_e (yX G) p = p + 1 := by
        unfold yt_e
        rw [if_neg e, if_neg ek]
      obtain ⟨h5, m5, e5, Y5, F5, T5, K5⟩ := yw_170 hN Y3 (p := p) n19 (by rw [ee, n20]; omega) n18 (by omega)
      exact ⟨h5, m5, by rw [s3, e5], Y5, zr_Ft F1 (zr_Ft F2 (zr_Ft F3 F5)), T5, fun k hk => (K5 k hk).trans (nk k hk)⟩
/-- the next token -/
theorem yw_next (hN : 1000 ≤ N) (Y : yv0 G h A fl a) {p : Nat} (h6 : fl 20 = (p : Int)) (hp : p ≤ (yX G).length) : ∃ h' fl', fM_next N 232 h = some ((), h') ∧ yv0 G h' A fl' a ∧ zr_F h h' ∧ yT (yX G) (yt_s (yX G) p) fl' ∧ ∀ k, (k < 18 ∨ 21 < k) → fl' k = fl k := by
  have l6 := Y.2.2.2.2.1.1
  obtain ⟨h0, e0, Y0, F0⟩ := yw_s Y 19 (by decide) (p : Int)
  obtain ⟨h1, n1, e1, Y1, F1, p1, r1⟩ := yw_skip (N := N) ((yX G).length - p) N p h0 _ Y0 (zr_us _ _ _) (by omega) (by omega)
  obtain ⟨h2, n2, e2, Y2, F2, T2, k2⟩ := yw_60 hN Y1 (p := yt_s (yX G) p) p1 (yt_sb hp).2
  refine ⟨h2, n2, ?_, Y2, zr_Ft F0 (zr_Ft F1 F2), T2, fun k hk => (k2 k hk).trans ((r1 k (by omega)).trans (zr_un fl _ (by omega)))⟩
  unfold fM_next
  rw [yw_T Y, cond_true, yw_i Y 20 rfl, b1_s, h6, e0, b1_s, e1, e2]
theorem yw_fail (Y : yv0 G h A fl a) (x : Int) : ∃ h' fl', fM_fail N 232 (Int32.ofInt x) h = some (Int32.ofInt 0, h') ∧ yv0 G h' A fl' a ∧ zr_F h h' := by
  unfold fM_fail fM_fail_20
  rw [yw_T Y, cond_true, yw_i Y 12 rfl, b1_s]
  cases z_cmp .ne (Int32.ofInt (fl 12)) (Int32.ofInt 0) with
  | true => exact ⟨h, fl, rfl, Y, zr_Fr h⟩
  | false =>
    obtain ⟨h1, e1, Y1, F1⟩ := yw_s Y 12 (by decide) x
    obtain ⟨h2, e2, Y2, F2⟩ := yw_s Y1 13 (by decide) (fl 19)
    refine ⟨h2, _, ?_, Y2, zr_Ft F1 F2⟩
    rw [cond_false, e1, b1_s, yw_i Y1 19 rfl, b1_s, zr_un fl _ (show (19 : Nat) ≠ 12 by decide), e2, b1_s]
theorem yw_is (Y : yv0 G h A fl a) {m : Nat} (h4 : fl 18 = (m : Int)) (hm : m ≤ 6) (w : Int) (hw : 0 ≤ w ∧ w ≤ 6) : ((m : Int) = w ∧ fM_is N 232 (Int32.ofInt w) h = some (Int32.ofInt 1, h)) ∨ ((m : Int) ≠ w ∧ ∃ h' fl', fM_is N 232 (Int32.ofInt w) h = some (Int32.ofInt 0, h') ∧ yv0 G h' A fl' a ∧ zr_F h h') := by
  unfold fM_is
  rw [yw_T Y, cond_true, yw_i Y 18 rfl, b1_s, h4, zqo_eq _ _ (by omega) (by omega)]
  by_cases e : (m : Int) = w
  · refine Or.inl ⟨e, ?_⟩
    rw [decide_eq_true e]
    rfl
  · obtain ⟨h1, f1, e1, Y1, F1⟩ := yw_fail (N := N) Y 1
    refine Or.inr ⟨e, h1, f1, ?_, Y1, F1⟩
    rw [decide_eq_false e, cond_false, e1, b2]
    rfl
theorem yw_num (hN : 1000 ≤ N) (Y : yv0 G h A fl a) {p : Nat} (hp : p ≤ (yX G).length) (T : yT (yX G) (yt_s (yX G) p) fl) (pl : Nat) (hpl : pl < 2) (lo hi : Int) (hlo : -2147483648 ≤ lo ∧ lo < 2147483648) (hhi : -2147483648 ≤ hi ∧ hi < 2147483648) : (∃ v e, ym_num (yX G) p lo hi = some (v, e) ∧ ∃ h' fl' a', fM_number N 232 (Int32.ofInt (pl : Int)) (Int32.ofInt lo) (Int32.ofInt hi) h = some (Int32.ofInt 1, h') ∧ yv0 G h' A fl' a' ∧ zr_F h h' ∧ yT (yX G) (yt_s (yX G) e) fl' ∧ fl' 22 = fl 22 ∧ a' 242 pl = (v : Int) ∧ (∀ r i, r ≠ 242 → a' r i = a r i) ∧ ∀ i, i ≠ pl → a' 242 i = a 242 i) ∨ (ym_num (yX G) p lo hi = none ∧ ∃ h' fl', fM_number N 232 (Int32.ofInt (pl : Int)) (Int32.ofInt lo) (Int32.ofInt hi) h = some (Int32.ofInt 0, h') ∧ yv0 G h' A fl' a ∧ zr_F h h') := by
  have mi := yt_mi (q := yt_q (yX G) (yt_s (yX G) p))
  have mb := yt_mb (yt_q (yX G) (yt_s (yX G) p))
  have sb := yt_sb hp
  have eb := yt_eb sb.2
  unfold fM_number
  rw [yw_T Y, cond_true]
  rcases yw_is (N := N) Y T.1 mb 3 (by decide) with ⟨q1, e1⟩ | ⟨q1, h1, f1, e1, Y1, F1⟩
  · have q2 : yt_q (yX G) (yt_s (yX G) p) = 2 := by omega
    have v9 := yt_v999 q2
    have t21 := T.2.2.2 q2
    rw [e1, b2, show z_cmp .ne (Int32.ofInt 1) (Int32.ofInt 0) = true from rfl, cond_true, yw_i Y 21 rfl, b1_s, t21, zr_in N _ lo hi (by omega) hlo hhi, b2]
    by_cases e : lo ≤ (yt_v (yX G) (yt_s (yX G) p) : Int) ∧ (yt_v (yX G) (yt_s (yX G) p) : Int) ≤ hi
    · obtain ⟨h2, e2, H2, F2⟩ := zr_p Y.1 242 pl (by decide) (by decide) (show pl < 2 from hpl) (yt_v (yX G) (yt_s (yX G) p) : Int)
      have e2 : fAS h 242 100 (Int32.ofInt (pl : Int)) (.int (Int32.ofInt (yt_v (yX G) (yt_s (yX G) p) : Int))) = some h2 := e2
      have Q : yQ fl a fl a := yQ_r fl a
      have Y2 : yv0 G h2 A fl (zr_v a 242 pl (yt_v (yX G) (yt_s (yX G) p) : Int)) := by
        obtain ⟨y1, R, y3, y4, y5, y6⟩ := Y
        refine ⟨H2, zyR_a R (fun _ _ => rfl) (fun p i hp => zr_vn a _ (by omega)) ?_, ?_, ⟨y4.1, fun i hi => (zr_vn a _ (Or.inl (by decide))).trans (y4.2 i hi)⟩, y5, y6⟩
        · rw [show zr_v a 242 pl (yt_v (yX G) (yt_s (yX G) p) : Int) 233 = a 233 from funext fun i => zr_vn a _ (Or.inl (by decide))]
          exact R.1
        · rw [show zr_v a 242 pl (yt_v (yX G) (yt_s (yX G) p) : Int) 234 = a 234 from funext fun i => zr_vn a _ (Or.inl (by decide))]
          exact y3
      obtain ⟨h3, f3, e3, Y3, F3, T3, k3⟩ := yw_next hN Y2 T.2.2.1 eb.2.1
      refine Or.inl ⟨_, _, if_pos ⟨q2, e.1, e.2⟩, h3, f3, _, ?_, Y3, zr_Ft F2 F3, T3, k3 22 (by omega), zr_vs _ _ _ _, fun r i hr => zr_vn a _ (Or.inl hr), fun i hi => zr_vn a _ (Or.inr hi)⟩
      rw [decide_eq_true e, cond_true, show z_cmp .ne (Int32.ofInt 1) (Int32.ofInt 0) = true from rfl, cond_true, zr_r23 Y.1, b1_s, yw_i Y 21 rfl, b1_s, t21, e2, b1_s, e3, b2]
    · obtain ⟨h2, f2, e2, Y2, F2⟩ := yw_fail (N := N) Y 2
      refine Or.inr ⟨if_neg (fun x => e ⟨x.2.1, x.2.2⟩), h2, f2, ?_, Y2, F2⟩
      rw [decide_eq_false e, cond_false, show z_cmp .ne (Int32.ofInt 0) (Int32.ofInt 0) = false from rfl, cond_false, e2, b2]
      rfl
  · refine Or.inr ⟨if_neg (fun x => q1 (by omega)), h1, f1, ?_, Y1, F1⟩
    rw [e1, b2, show z_cmp .ne (Int32.ofInt 0) (Int32.ofInt 0) = false from rfl, cond_false]
theorem yw_says28 (Y : yv0 G h A fl a) {l3 : Nat} {b : List Nat} (hS : yS l3 b) (hb : b.length ≤ 20 ∧ ∀ v ∈ b, v < 256) {x y : Nat} (h19 : fl 19 = (x : Int)) (hxy : x ≤ y) (hy : y ≤ (yX G).length) (hl : y - x = b.length) : ∀ c f i, i + c = b.length → c < f → (∀ j, j < i → (yX G).getD (x + j) 0 = b.getD j 0) → fM_says_28 N f 232 l3 (Int32.ofInt (i : Int)) h = some (cond (decide (zw_p (yX G) x y = b)) (Int32.ofInt 1) (Int32.ofInt 0), h) := by
  have l6 := Y.2.2.2.2.1.1
  obtain ⟨s1, s2⟩ := hS N h
  have pl := zw_pl (yX G) x y hy
  intro c
  induction c with
  | zero =>
    intro f i h1 h2 h3
    obtain ⟨g, rfl⟩ : ∃ g, f = g + 1 := ⟨f - 1, by omega⟩
    have e : zw_p (yX G) x y = b := zm_same (by omega) (fun j hj => by
      rw [pl] at hj
      rw [zw_pd hj]
      exact h3 j (by omega))
    rw [fM_says_28, s1, b2, zqo_ge _ _ (by omega) (by omega), decide_eq_true (by omega), cond_true, decide_eq_true e, cond_true]
  | succ c ih =>
    intro f i h1 h2 h3
    obtain ⟨g, rfl⟩ : ∃ g, f = g + 1 := ⟨f - 1, by omega⟩
    have g1 := zw_gD Y.2.2.2.2.1.2 (x + i)
    have g2 := zw_gD hb.2 i
    have sr := yw_src Y (i := x + i) (by omega)
    rw [fM_says_28, s1, b2, zqo_ge _ _ (by omega) (by omega), decide_eq_false (by omega), cond_false, zr_r7 Y.1, b1_s, yw_i Y 19 rfl, b1_s, h19, zw_add, show (x : Int) + (i : Int) = ((x + i : Nat) : Int) by omega, sr, b1_s, s2 i (by omega), b2, zqo_eq _ _ (by omega) (by omega)]
    by_cases e : (yX G).getD (x + i) 0 = b.getD i 0
    · rw [decide_eq_true (by omega), cond_true, zh_inc]
      refine ih g (i + 1) (by omega) (by omega) (fun j hj => ?_)
      by_cases e2 : j = i
      · rw [e2]
        exact e
      · exact h3 j (by omega)
    · have e3 : ¬ zw_p (yX G) x y = b := fun z => e (by
        rw [← z, zw_pd (by omega)])
      rw [decide_eq_false (by omega), cond_false, decide_eq_false e3, cond_false]
theorem yw_says (hN : 1000 ≤ N) (Y : yv0 G h A fl a) {p : Nat} (hp : p ≤ (yX G).length) (T : yT (yX G) (yt_s (yX G) p) fl) {l3 : Nat} {b : List Nat} (hS : yS l3 b) (hb : b.length ≤ 20 ∧ ∀ v ∈ b, v < 256) : fM_says N 232 l3 h = some (cond (decide (yt_q (yX G) (yt_s (yX G) p) = 1 ∧ zw_p (yX G) (yt_s (yX G) p) (yt_e (yX G) (yt_s (yX G) p)) = b)) (Int32.ofInt 1) (Int32.ofInt 0), h) := by
  have l6 := Y.2.2.2.2.1.1
  have mi := yt_mi (q := yt_q (yX G) (yt_s (yX G) p))
  have mb := yt_mb (yt_q (yX G) (yt_s (yX G) p))
  have sb := yt_sb hp
  have eb := yt_eb sb.2
  have pl := zw_pl (yX G) (yt_s (yX G) p) (yt_e (yX G) (yt_s (yX G) p)) eb.2.1
  unfold fM_says
  rw [yw_T Y, cond_true, yw_i Y 18 rfl, b1_s, T.1, zqo_ne _ _ (by omega) (by decide)]
  by_cases e : yt_q (yX G) (yt_s (yX G) p) = 1
  · rw [decide_eq_true (by omega), Bool.not_true, cond_false, yw_i Y 20 rfl, b1_s, T.2.2.1, yw_i Y 19 rfl, b1_s, T.2.1, (hS N h).1, b2, zw_sub, zqo_eq _ _ (by omega) (by omega)]
    by_cases e2 : yt_e (yX G) (yt_s (yX G) p) - yt_s (yX G) p = b.length
    · rw [decide_eq_true (by omega), cond_true]
      have := yw_says28 (N := N) Y hS hb T.2.1 eb.1 eb.2.1 e2 b.length N 0 (by omega) (by omega) (fun j hj => absurd hj (Nat.not_lt_zero j))
      refine this.trans ?_
      by_cases e3 : zw_p (yX G) (yt_s (yX G) p) (yt_e (yX G) (yt_s (yX G) p)) = b
      · rw [decide_eq_true e3, decide_eq_true ⟨e, e3⟩]
      · rw [decide_eq_false e3, decide_eq_false (fun x => e3 x.2)]
    · have e3 : ¬ (yt_q (yX G) (yt_s (yX G) p) = 1 ∧ zw_p (yX G) (yt_s (yX G) p) (yt_e (yX G) (yt_s (yX G) p)) = b) := fun z => e2 (by rw [← z.2, pl])
      rw [decide_eq_false (by omega), cond_false, decide_eq_false e3]
      rfl
  · rw [decide_eq_false (by omega), Bool.not_false, cond_true, decide_eq_false (fun z => e z.1)]
    rfl
end YVW
