/-! THE REFERENCE'S SCRIPT: what its commands do to w. -/
/-- nothing but w and scratch has changed -/
def yQ (fl : Nat → Int) (a : Nat → Nat → Int) (fl' : Nat → Int) (a' : Nat → Nat → Int) : Prop := (∀ k, k ≠ 14 → fl' k = fl k) ∧ ∀ p i, p ≠ 233 → p ≠ 239 → p ≠ 240 → a' p i = a p i
theorem yQ_r (fl : Nat → Int) (a : Nat → Nat → Int) : yQ fl a fl a := ⟨fun _ _ => rfl, fun _ _ _ _ _ => rfl⟩
theorem yQ_t {f1 f2 f3 : Nat → Int} {a1 a2 a3 : Nat → Nat → Int} (x : yQ f1 a1 f2 a2) (y : yQ f2 a2 f3 a3) : yQ f1 a1 f3 a3 := ⟨fun k hk => (y.1 k hk).trans (x.1 k hk), fun p i h1 h2 h3 => (y.2 p i h1 h2 h3).trans (x.2 p i h1 h2 h3)⟩
theorem yQ_of {fl fl' : Nat → Int} {a a' : Nat → Nat → Int} (q : zr_Q fl a fl' a') : yQ fl a fl' a' := ⟨q.1, fun p i _ h2 h3 => q.2 p i h2 h3⟩
section YVB
variable {N : Nat} {G : yH} {h h' : zH} {A : zA} {fl fl' : Nat → Int} {a a' : Nat → Nat → Int} {T : List Nat}
theorem yv_op {A' : zA} (Y : yv G h A fl a) (H : zr h' fl' a') (Q : yQ fl a fl' a') (n : zy_is (a' 233) A') (ok : zv_ok A') : yv G h' A' fl' a' := by
  obtain ⟨y1, R, y3, y4, y5, y6⟩ := Y
  have R' := zyR_a R (fl' := fl') (a' := a') (fun k hk => Q.1 k (by omega)) (fun p i hp => Q.2 p i (by omega) (by omega) (by omega)) n
  have e12 : fl' 12 = fl 12 := Q.1 12 (by decide)
  have e13 : fl' 13 = fl 13 := Q.1 13 (by decide)
  refine ⟨H, ?_, ?_, ⟨(Q.1 11 (by decide)).trans y4.1, fun i hi => (Q.2 238 i (by decide) (by decide) (by decide)).trans (y4.2 i hi)⟩, y5, ok⟩
  · rw [e12, e13]
    exact R'
  · rw [show a' 234 = a 234 from funext fun i => Q.2 234 i (by decide) (by decide) (by decide)]
    exact y3
theorem yv_Q (Y : yv G h A fl a) (H : zr h' fl' a') (Q : zr_Q fl a fl' a') : yv G h' A fl' a' := by
  refine yv_op Y H (yQ_of Q) ?_ Y.2.2.2.2.2
  rw [show a' 233 = a 233 from funext fun i => Q.2 233 i (by decide) (by decide)]
  exact Y.2.1.1
theorem yv_tx (Y : yv G h A fl a) : zr_tx a A.2.1 := zyR_tx Y.2.1
theorem yv_ok (Y : yv G h A fl a) : zv_ok A := Y.2.2.2.2.2
theorem yv_takes (hN : 1000 ≤ N) (Y : yv G h A fl a) (r : zr_rw fl a T) (hL : T.length ≤ 120) (hT : zv_L A T) : ∃ h' a', fM_takes N 232 h = some (Int32.ofInt (T.length : Int), h') ∧ yv G h' (A.1, T, A.2.2) fl a' ∧ zr_F h h' ∧ yQ fl a fl a' := by
  have ok := yv_ok Y
  obtain ⟨h1, a1, e1, H1, F1, p1, t1⟩ := zr_takes hN Y.1 r hL
  have Q : yQ fl a fl a1 := ⟨fun _ _ => rfl, fun p i h1 _ _ => p1 p i (Or.inl h1)⟩
  exact ⟨h1, a1, e1, yv_op Y H1 Q (zy_isT Y.2.1.1 t1.1 t1.2 (fun j h3 h4 => p1 233 j (Or.inr ⟨h3, h4⟩))) ⟨ok.1, hL, hT, ok.2.2.2⟩, F1, Q⟩
theorem yv_factors (hN : 1000 ≤ N) (Y : yv G h A fl a) : ∃ h' fl' a', fM_factors N 232 h = some (Int32.ofInt ((zw_fs A.2.1).length : Int), h') ∧ yv G h' A fl' a' ∧ zr_F h h' ∧ yQ fl a fl' a' ∧ zr_fs a' A.2.1 := by
  have ok := yv_ok Y
  obtain ⟨h2, f2, a2, e2, H2, F2, Q2, _, S2⟩ := zr_factors hN Y.1 (yv_tx Y) ⟨by have := ok.2.1; omega, zv_256 ok⟩ ok.2.1
  exact ⟨h2, f2, a2, e2, yv_Q Y H2 Q2, F2, yQ_of Q2, S2⟩
theorem yv_drops (hN : 1000 ≤ N) (Y : yv G h A fl a) (x : Nat) (hx : x ≤ A.2.1.length) : ∃ r h' fl' a', fM_drops N 232 (Int32.ofInt (x : Int)) h = some (r, h') ∧ yv G h' (A.1, A.2.1.take (A.2.1.length - x), A.2.2) fl' a' ∧ zr_F h h' ∧ yQ fl a fl' a' := by
  have ok := yv_ok Y
  have o2 := ok.2.1
  obtain ⟨h1, f1, a1, e1, H1, F1, Q1, r1⟩ := zr_loads hN Y.1 (yv_tx Y) o2
  obtain ⟨h2, e2, H2, F2⟩ := zr_s H1 14 rfl ((A.2.1.length - x : Nat) : Int)
  have Q : zr_Q fl a (zr_u f1 14 ((A.2.1.length - x : Nat) : Int)) a1 := ⟨fun k hk => (if_neg hk).trans (Q1.1 k hk), Q1.2⟩
  have Y2 := yv_Q Y H2 Q
  have hl : (A.2.1.take (A.2.1.length - x)).length = A.2.1.length - x := by
    rw [List.length_take]
    omega
  obtain ⟨h3, a3, e3, Y3, F3, Q3⟩ := yv_takes hN Y2 (T := A.2.1.take (A.2.1.length - x)) ⟨by rw [hl]; rfl, fun i hi => by
    rw [hl] at hi
    rw [zr_tl _ hi]
    exact r1.2 i (by omega)⟩ (by omega) (fun u hu => ok.2.2.1 u (List.mem_of_mem_take hu))
  obtain ⟨h4, f4, a4, e4, Y4, F4, Q4, _⟩ := yv_factors hN Y3
  refine ⟨Int32.ofInt ((zw_fs (A.2.1.take (A.2.1.length - x))).length : Int), h4, f4, a4, ?_, Y4, zr_Ft F1 (zr_Ft F2 (zr_Ft F3 F4)), yQ_t (yQ_of Q) (yQ_t Q3 Q4)⟩
  · unfold fM_drops
    rw [yv_T Y, cond_true, e1, b2, zr_i H1 14 rfl, b1_s, r1.1, zw_sub, show (A.2.1.length : Int) - (x : Int) = ((A.2.1.length - x : Nat) : Int) by omega, e2, b1_s, e3, b2, e4]
    rfl
theorem yv_turns (hN : 1000 ≤ N) (Y : yv G h A fl a) (x : Nat) (hx : x ≤ A.2.1.length) : ∃ r h' fl' a', fM_turns N 232 (Int32.ofInt (x : Int)) h = some (r, h') ∧ yv G h' (A.1, zw_trn A.2.1 x, A.2.2) fl' a' ∧ zr_F h h' ∧ yQ fl a fl' a' := by
  have ok := yv_ok Y
  have o2 := ok.2.1
  have tx := yv_tx Y
  have g1 : fAI h 233 100 (Int32.ofInt 1) = some (Int32.ofInt (a 233 1)) := zr_w Y.1 1 (by decide)
  have hl := zw_trnl A.2.1 x
  unfold fM_turns
  rw [yv_T Y, cond_true, zr_r0 Y.1, b1_s, g1, b1_s, tx.1, zqo_le _ _ (by omega) (by decide)]
  by_cases e : A.2.1.length = 0
  · rw [decide_eq_true (by omega), cond_true]
    have e1 : A.2.1 = [] := List.eq_nil_of_length_eq_zero e
    have e2 : zw_trn A.2.1 x = A.2.1 := by
      rw [List.eq_nil_of_length_eq_zero (hl.trans e), e1]
    obtain ⟨h2, f2, a2, e3, Y2, F2, Q2, _⟩ := yv_factors hN Y
    rw [e2]
    refine ⟨Int32.ofInt ((zw_fs A.2.1).length : Int), h2, f2, a2, ?_, Y2, F2, Q2⟩
    · unfold fM_turns_19
      rw [e3]
      rfl
  · rw [decide_eq_false (by omega), cond_false]
    obtain ⟨h1, f1, a1, e1, H1, F1, Q1, r1⟩ := zr_rotated hN Y.1 tx o2 hx
    have Y1 := yv_Q Y H1 Q1
    obtain ⟨h3, a3, e3, Y3, F3, Q3⟩ := yv_takes hN Y1 r1 (by omega) (zv_trnL ok.2.2.1 hx)
    obtain ⟨h4, f4, a4, e4, Y4, F4, Q4, _⟩ := yv_factors hN Y3
    refine ⟨Int32.ofInt ((zw_fs (zw_trn A.2.1 x)).length : Int), h4, f4, a4, ?_, Y4, zr_Ft F1 (zr_Ft F3 F4), yQ_t (yQ_of Q1) (yQ_t Q3 Q4)⟩
    · rw [e1, b2, e3, b2]
      unfold fM_turns_19
      rw [e4]
      rfl
theorem yv_least (hN : 1000 ≤ N) (Y : yv G h A fl a) (hn : 0 < A.2.1.length) : ∃ r h' fl' a', fM_turnsToLeast N 232 h = some (r, h') ∧ yv G h' (A.1, zw_trn A.2.1 (zm_least A.2.1), A.2.2) fl' a' ∧ zr_F h h' ∧ yQ fl a fl' a' := by
  have ok := yv_ok Y
  have hl : zm_least A.2.1 < A.2.1.length := (zm_leastM hn).1
  obtain ⟨r, h1, f1, a1, e1, Y1, F1, Q1⟩ := yv_turns hN Y (zm_least A.2.1) (by omega)
  refine ⟨Int32.ofInt ((zm_least A.2.1 : Nat) : Int), h1, f1, a1, ?_, Y1, F1, Q1⟩
  · unfold fM_turnsToLeast
    rw [yv_T Y, cond_true, zr_least hN Y.1 (yv_tx Y) ok.2.1 (zv_256 ok) hn, b2, e1]
    rfl
theorem yv_parts (hN : 1000 ≤ N) (Y : yv G h A fl a) (x y : Nat) (hxy : x ≤ y) (hy : y ≤ A.2.1.length) : ∃ r h' fl' a', fM_parts N 232 (Int32.ofInt (x : Int)) (Int32.ofInt (y : Int)) h = some (r, h') ∧ yv G h' (A.1, zw_p A.2.1 x y, A.2.2) fl' a' ∧ zr_F h h' ∧ yQ fl a fl' a' := by
  have ok := yv_ok Y
  have o2 := ok.2.1
  have tx := yv_tx Y
  have hl := zw_pl A.2.1 x y hy
  obtain ⟨h1, e1, H1, F1⟩ := zr_s Y.1 14 rfl ((y - x : Nat) : Int)
  obtain ⟨h2, a2, H2, F2, p2, r2, d2⟩ := zr_parts9 (N := N) tx o2 hxy hy (fl := zr_u fl 14 ((y - x : Nat) : Int)) rfl (y - x) N x h1 a H1 (fun _ _ _ => rfl) (by omega) (Nat.le_refl _) (by omega) (fun j hj => absurd hj (by omega))
  have Q : zr_Q fl a (zr_u fl 14 ((y - x : Nat) : Int)) a2 := ⟨fun k hk => if_neg hk, fun p i h3 h4 => p2 p i h3⟩
  have Y2 := yv_Q Y H2 Q
  obtain ⟨h3, a3, e3, Y3, F3, Q3⟩ := yv_takes hN Y2 (T := zw_p A.2.1 x y) ⟨by rw [hl]; rfl, fun i hi => by
    rw [hl] at hi
    rw [r2 i hi, zw_pd hi]⟩ (by omega) (fun u hu => ok.2.2.1 u (List.mem_of_mem_drop (List.mem_of_mem_take hu)))
  refine ⟨Int32.ofInt ((zw_p A.2.1 x y).length : Int), h3, _, a3, ?_, Y3, zr_Ft F1 (zr_Ft F2 F3), yQ_t (yQ_of Q) Q3⟩
  · unfold fM_parts
    rw [yv_T Y, cond_true, zw_sub, show (y : Int) - (x : Int) = ((y - x : Nat) : Int) by omega, e1, b1_s]
    exact d2 _ _ e3
theorem yv_mirrors (hN : 1000 ≤ N) (Y : yv G h A fl a) : ∃ r h' fl' a', fM_mirrors N 232 h = some (r, h') ∧ yv G h' (A.1, zw_mir A.2.1 0 A.2.1.length, A.2.2) fl' a' ∧ zr_F h h' ∧ yQ fl a fl' a' := by
  have ok := yv_ok Y
  have o2 := ok.2.1
  have tx := yv_tx Y
  have g1 : fAI h 233 100 (Int32.ofInt 1) = some (Int32.ofInt (a 233 1)) := zr_w Y.1 1 (by decide)
  have hl := zm_mirl A.2.1 0 A.2.1.length
  obtain ⟨h1, e1, H1, F1⟩ := zr_s Y.1 14 rfl (A.2.1.length : Int)
  obtain ⟨h2, a2, H2, F2, p2, r2, d2⟩ := zr_mirrors12 (N := N) tx o2 (fl := zr_u fl 14 (A.2.1.length : Int)) rfl A.2.1.length N 0 h1 a H1 (fun _ _ _ => rfl) (by omega) (by omega) (fun j hj => absurd hj (Nat.not_lt_zero j))
  have Q : zr_Q fl a (zr_u fl 14 (A.2.1.length : Int)) a2 := ⟨fun k hk => if_neg hk, fun p i h3 h4 => p2 p i h3⟩
  have Y2 := yv_Q Y H2 Q
  obtain ⟨h3, a3, e3, Y3, F3, Q3⟩ := yv_takes hN Y2 (T := zw_mir A.2.1 0 A.2.1.length) ⟨by rw [hl]; rfl, fun i hi => by
    rw [hl] at hi
    rw [r2 i hi, zm_rev hi]⟩ (by omega) (zm_mem (P := fun v => 97 ≤ v ∧ v < 97 + A.1) (fun j hj => by
    rw [zm_mirl] at hj
    rw [zm_rev hj]
    exact zm_get (P := fun v => 97 ≤ v ∧ v < 97 + A.1) ok.2.2.1 (by omega)))
  obtain ⟨h4, f4, a4, e4, Y4, F4, Q4, _⟩ := yv_factors hN Y3
  refine ⟨Int32.ofInt ((zw_fs (zw_mir A.2.1 0 A.2.1.length)).length : Int), h4, f4, a4, ?_, Y4, zr_Ft F1 (zr_Ft F2 (zr_Ft F3 F4)), yQ_t (yQ_of Q) (yQ_t Q3 Q4)⟩
  · unfold fM_mirrors
    rw [yv_T Y, cond_true, zr_r0 Y.1, b1_s, g1, b1_s, tx.1, e1, b1_s]
    exact d2 _ _ _ _ e3 e4
theorem yv_hasNext (hN : 1000 ≤ N) (Y : yv G h A fl a) {m : Nat} (hm : m ≤ 120) : ∃ h' fl' a', fM_hasNext N 232 (Int32.ofInt (m : Int)) h = some (cond (zs_hn A.1 A.2.1 (m : Int)) (Int32.ofInt 1) (Int32.ofInt 0), h') ∧ yv G h' A fl' a' ∧ zr_F h h' ∧ yQ fl a fl' a' := by
  have ok := yv_ok Y
  have o2 := ok.2.1
  have o1 := ok.1
  obtain ⟨h1, f1, a1, e1, H1, F1, Q1, _⟩ := zr_why hN Y.1 (yv_tx Y) o2 (zv_256 ok)
  have Y1 := yv_Q Y H1 Q1
  have g1 : fAI h1 233 100 (Int32.ofInt 1) = some (Int32.ofInt (a1 233 1)) := zr_w H1 1 (by decide)
  have wb : zc_why A.2.1 = 0 ∨ zc_why A.2.1 = 1 ∨ zc_why A.2.1 = 2 ∨ zc_why A.2.1 = 3 := by
    unfold zc_why
    repeat' split
    all_goals omega
  unfold fM_hasNext
  rw [yv_T Y, cond_true, e1, b2, zqo_ne _ _ (by omega) (by decide)]
  unfold zs_hn
  by_cases e : zc_why A.2.1 = 0
  · have w := zm_why0.mp e
    rw [decide_eq_true e, Bool.not_true, cond_false, zr_r0 H1, b1_s, g1, b1_s, Y1.2.1.1.2.1, zqo_le _ _ (by omega) (by omega)]
    by_cases em : A.2.1.length ≤ m
    · obtain ⟨h2, f2, a2, e2, H2, F2, Q2, r2, l2⟩ := zr_nexts (N := N) hN H1 (yv_tx Y1) o2 (zv_256 ok) w.1 o1 Y1.2.1.1.1 em hm
      have hb := zw_spl (zw_xt A.2.1.length (m - A.2.1.length) A.2.1) (97 + A.1 - 1) m m
      have hh := zm_hn (g := A.1) w.1 w.2 em (fun v hv => (ok.2.2.1 v hv).2) o1.1
      refine ⟨h2, f2, a2, ?_, yv_Q Y1 H2 Q2, zr_Ft F1 F2, yQ_of (zr_Qt Q1 Q2)⟩
      rw [decide_eq_true (by omega : (A.2.1.length : Int) ≤ (m : Int)), cond_true, e2, b2, zr_i H2 14 rfl, b1_s, r2.1, l2, zqo_le _ _ (by omega) (by decide), decide_eq_true w]
      by_cases e3 : A.2.1.getD 0 0 = 97 + A.1 - 1
      · have : ¬ 0 < zw_sp (zw_xt A.2.1.length (m - A.2.1.length) A.2.1) (97 + A.1 - 1) m m := fun x => hh.mp x e3
        rw [decide_eq_true (by omega), decide_eq_true e3]
        rfl
      · have := hh.mpr e3
        rw [decide_eq_false (by omega), decide_eq_false e3]
        rfl
    · refine ⟨h1, f1, a1, ?_, Y1, F1, yQ_of Q1⟩
      rw [decide_eq_false (by omega : ¬ (A.2.1.length : Int) ≤ (m : Int))]
      rfl
  · refine ⟨h1, f1, a1, ?_, Y1, F1, yQ_of Q1⟩
    rw [decide_eq_false e, decide_eq_false (fun x => e (zm_why0.mpr x)), Bool.not_false, cond_true, Bool.false_and, Bool.and_false]
    rfl
theorem yv_goesOn (hN : 1000 ≤ N) (Y : yv G h A fl a) {v : Nat} (hv : v ≤ 120) (hn : zs_hn A.1 A.2.1 (v : Int) = true) : ∃ r h' fl' a', fM_goesOn N 232 (Int32.ofInt (v : Int)) h = some (r, h') ∧ yv G h' (A.1, zw_nx A.2.1 v (97 + A.1 - 1), A.2.2) fl' a' ∧ zr_F h h' ∧ yQ fl a fl' a' := by
  have ok := yv_ok Y
  have o1 := ok.1
  have b' := hn
  unfold zs_hn at b'
  rw [Bool.and_eq_true, Bool.and_eq_true] at b'
  have q1 := of_decide_eq_true b'.1
  have q2 := of_decide_eq_true b'.2.1
  have x1 := zm_nx (T := A.2.1) (m := v) (g := 97 + A.1 - 1) q2.1 (by omega)
  obtain ⟨h3, f3, a3, e4, H3, F3, Q3, r3, l3⟩ := zr_nexts (N := N) (by omega) Y.1 (yv_tx Y) ok.2.1 (zv_256 ok) q2.1 o1 Y.2.1.1.1 (m := v) (by omega) hv
  have Y3 := yv_Q Y H3 Q3
  obtain ⟨h4, a4, e5, Y4, F4, Q4⟩ := yv_takes (N := N) (by omega) Y3 r3 (by omega) (zm_mem (P := fun u => 97 ≤ u ∧ u < 97 + A.1) (fun j hj => by
    rw [x1.2.1] at hj
    rw [x1.2.2.1 j hj]
    have a1 := zm_cget (P := fun u => 97 ≤ u ∧ u < 97 + A.1) ok.2.2.1 q2.1 j
    by_cases e6 : j = zm_nr A.2.1 v (97 + A.1 - 1) - 1
    · rw [if_pos e6]
      rcases x1.2.2.2 with x2 | x2
      · omega
      · rw [← e6] at x2
        omega
    · rw [if_neg e6]
      exact a1))
  refine ⟨Int32.ofInt ((zw_nx A.2.1 v (97 + A.1 - 1)).length : Int), h4, f3, a4, ?_, Y4, zr_Ft F3 F4, yQ_t (yQ_of Q3) Q4⟩
  · unfold fM_goesOn
    rw [yv_T Y, cond_true, e4, b2, e5]
    rfl
theorem yv_shelves (hN : 1000 ≤ N) (Y : yv G h A fl a) (b n : Nat) (hb : b + n ≤ A.2.1.length) (hn : 1 ≤ n ∧ n ≤ 40) (hK : A.2.2.length < 8) : ∃ r h' a', fM_shelves N 232 (Int32.ofInt (b : Int)) (Int32.ofInt (n : Int)) h = some (r, h') ∧ yv G h' (A.1, A.2.1, A.2.2 ++ [zw_p A.2.1 b (b + n)]) fl a' ∧ zr_F h h' ∧ yQ fl a fl a' := by
  have ok := yv_ok Y
  have H := Y.1
  have o2 := ok.2.1
  have g1 : fAI h 233 100 (Int32.ofInt 2) = some (Int32.ofInt (a 233 2)) := zr_w H 2 (by decide)
  have n2 := Y.2.1.1.2.2.2.1
  obtain ⟨h1, e1, H1, F1⟩ := zr_p H 233 (123 + A.2.2.length) (by decide) (by decide) (by show 123 + A.2.2.length < 451; omega) (n : Int)
  obtain ⟨h2, a2, e2, H2, F2, p2, q2, r2⟩ := zr_shelves32 (N := N) hK hn.2 hb o2 (a0 := zr_v a 233 (123 + A.2.2.length) (n : Int)) (fun i hi => (zr_vn a _ (Or.inr (by omega))).trans (Y.2.1.1.2.2.1 i hi)) ((zr_vn a _ (Or.inr (by omega))).trans n2) n N 0 h1 _ H1 (Nat.zero_add _) (by omega) (fun _ _ _ => rfl) (fun j hj => absurd hj (Nat.not_lt_zero j))
  have hl : (zw_p A.2.1 b (b + n)).length = n := by
    rw [zw_pl _ _ _ hb]
    omega
  have n3 : zy_is (a2 233) (A.1, A.2.1, A.2.2 ++ [zw_p A.2.1 b (b + n)]) := zy_isS ok Y.2.1.1 hK q2 (by rw [p2 233 _ (Or.inr (by omega)), zr_vs, hl]) (fun i hi => by
    rw [hl] at hi
    rw [r2 i hi, zw_pd (by omega)]) (fun j j1 j2 j3 => (p2 233 j (Or.inr ⟨j3, j1⟩)).trans (zr_vn a _ (Or.inr j2)))
  have g2 : ∀ p i, p ≠ 233 → a2 p i = a p i := fun p i hp => (p2 p i (Or.inl hp)).trans (zr_vn a _ (Or.inl hp))
  have Q : yQ fl a fl a2 := ⟨fun _ _ => rfl, fun p i h1 _ _ => g2 p i h1⟩
  refine ⟨Int32.ofInt ((A.2.2.length + 1 : Nat) : Int), h2, a2, ?_, yv_op Y H2 Q n3 ⟨ok.1, ok.2.1, ok.2.2.1, ?_, fun w hw => ?_⟩, zr_Ft F1 F2, Q⟩
  · unfold fM_shelves
    rw [zr_T H, cond_true, zr_r0 H, b1_s, g1, b1_s, b1_s, b1_s, g1, b1_s, n2, zw_add]
    have e1 : fAS h 233 100 (Int32.ofInt (123 + (A.2.2.length : Int))) (.int (Int32.ofInt (n : Int))) = some h1 := e1
    rw [e1, b1_s, show Int32.ofInt 131 + Int32.ofInt 40 * Int32.ofInt (A.2.2.length : Int) = Int32.ofInt ((131 + 40 * A.2.2.length : Nat) : Int) from (by rw [← Int32.ofInt_mul, ← Int32.ofInt_add]; rfl)]
    exact e2
  · show (A.2.2 ++ [zw_p A.2.1 b (b + n)]).length ≤ 8
    rw [List.length_append]
    show A.2.2.length + 1 ≤ 8
    omega
  · have hw : w ∈ A.2.2 ++ [zw_p A.2.1 b (b + n)] := hw
    rw [List.mem_append, List.mem_singleton] at hw
    rcases hw with hw | hw
    · exact ok.2.2.2.2 w hw
    · rw [hw]
      exact ⟨by omega, by omega, fun v hv => ok.2.2.1 v (List.mem_of_mem_drop (List.mem_of_mem_take hv))⟩
theorem yv_keepsFactor (hN : 1000 ≤ N) (Y : yv G h A fl a) {k b : Nat} (hk : k < (zw_fs A.2.1).length) (hb : zw_bF A.2.1 (k : Int) = (b : Int)) (h40 : zw_lE A.2.1 b - b ≤ 40) (hK : A.2.2.length < 8) : ∃ r h' fl' a', fM_keepsFactor N 232 (Int32.ofInt (k : Int)) h = some (r, h') ∧ yv G h' (A.1, A.2.1, A.2.2 ++ [zw_p A.2.1 b (zw_lE A.2.1 b)]) fl' a' ∧ zr_F h h' ∧ yQ fl a fl' a' := by
  have ok := yv_ok Y
  have o2 := ok.2.1
  have o5 := zm_fsl A.2.1
  obtain ⟨h1, f1, a1, e1, Y1, F1, Q1, S⟩ := yv_factors hN Y
  have H := Y1.1
  obtain ⟨b', b1, b2', b3, b4, b5, b6⟩ := zr_fk S hk
  have eb : b' = b := by omega
  subst eb
  obtain ⟨r, h2, a2, e2, Y2, F2, Q2⟩ := yv_shelves (N := N) hN Y1 b' (zw_lE A.2.1 b' - b') (by omega) (by omega) hK
  rw [show b' + (zw_lE A.2.1 b' - b') = zw_lE A.2.1 b' by omega] at Y2
  refine ⟨r, h2, f1, a2, ?_, Y2, zr_Ft F1 F2, yQ_t Q1 Q2⟩
  have g3 : fAI h1 240 100 (Int32.ofInt ((k : Int) + 1)) = some (Int32.ofInt (a1 240 (k + 1))) := zr_st H (k + 1) (by omega)
  unfold fM_keepsFactor
  rw [yv_T Y, cond_true, e1, b2, zr_r9 H, b1_s, zr_st H k (by omega), b1_s, b1_s, zw_add, g3, b1_s, b1_s, zr_st H k (by omega), b1_s, b3, b4, zw_sub, show (zw_lE A.2.1 b' : Int) - (b' : Int) = ((zw_lE A.2.1 b' - b' : Nat) : Int) by omega, e2]
  rfl
theorem yv_removes (hN : 1000 ≤ N) (Y : yv G h A fl a) {v : Nat} (hv : v < A.2.2.length) : ∃ r h' a', fM_removes N 232 (Int32.ofInt (v : Int)) h = some (r, h') ∧ yv G h' (A.1, A.2.1, A.2.2.eraseIdx v) fl a' ∧ zr_F h h' ∧ yQ fl a fl a' := by
  have ok := yv_ok Y
  have o4 := ok.2.2.2.1
  have H := Y.1
  obtain ⟨h3, a3, e3, H3, F3, c3, p3, q3⟩ := zr_rem2 (N := N) (by omega) (K := A.2.2.length - 1) (x := v) (by omega) (by omega) (a0 := a) (by rw [Y.2.1.1.2.2.2.1]; congr 1; omega) (A.2.2.length - 1 - v) N v h a H (by omega) (Nat.le_refl _) (by omega) (fun _ _ _ => rfl) (fun k k1 k2 => absurd k2 (by omega))
  have n3 : zy_is (a3 233) (A.1, A.2.1, A.2.2.eraseIdx v) := zy_isE ok Y.2.1.1 (by omega) c3 (fun j hj => p3 233 j (Or.inr hj)) q3
  have Q : yQ fl a fl a3 := ⟨fun _ _ => rfl, fun p i h1 _ _ => p3 p i (Or.inl h1)⟩
  refine ⟨Int32.ofInt ((A.2.2.length - 1 : Nat) : Int), h3, a3, ?_, yv_op Y H3 Q n3 ⟨ok.1, ok.2.1, ok.2.2.1, ?_, fun w hw => ok.2.2.2.2 w (List.mem_of_mem_eraseIdx hw)⟩, F3, Q⟩
  · unfold fM_removes
    rw [zr_T H, cond_true, e3]
  · show (A.2.2.eraseIdx v).length ≤ 8
    rw [List.length_eraseIdx_of_lt hv]
    omega
theorem yv_joins (hN : 1000 ≤ N) (Y : yv G h A fl a) (hj : 0 < A.2.2.length ∧ (A.2.2.map List.length).sum ≤ 120) : ∃ r h' fl' a', fM_joins N 232 h = some (r, h') ∧ yv G h' (A.1, zv_jn A.2.2, A.2.2) fl' a' ∧ zr_F h h' ∧ yQ fl a fl' a' := by
  have ok := yv_ok Y
  have o4 := ok.2.2.2.1
  have H := Y.1
  obtain ⟨h3, e3, H3, F3⟩ := zr_s H 14 rfl 0
  have Q3 : zr_Q fl a (zr_u fl 14 0) a := ⟨fun k hk => if_neg hk, fun _ _ _ _ => rfl⟩
  have Y3 := yv_Q Y H3 Q3
  have us := zs_usS (l := A.2.2) A.2.2.length 0 (Nat.zero_add _)
  rw [List.drop_zero] at us
  obtain ⟨h4, f4, a4, z, e4, H4, F4, Q4, z4, r4, l4⟩ := zr_joins9 (N := N) (by omega) ok A.2.2.length N 0 0 h3 _ a [] H3 Y3.2.1 ⟨rfl, fun i hi => by cases hi⟩ (Nat.zero_add _) (by omega) (by decide) (zs_one0 _ _) (by rw [us]; show 0 + _ ≤ 120; omega)
  have z4 : z = zv_jn A.2.2 := z4
  subst z4
  have Y4 := yv_Q Y3 H4 Q4
  obtain ⟨h5, a5, e5, Y5, F5, Q5⟩ := yv_takes (N := N) hN Y4 r4 l4 (by
    intro v hv
    refine zs_jnL (S := fun i => A.2.2.getD i []) (P := fun v => 97 ≤ v ∧ v < 97 + A.1) (fun j hj v hv => ?_) _ _ _ (fun v hv => by cases hv) v hv
    have : A.2.2.getD j [] ∈ A.2.2 := by
      rw [List.getD_eq_getElem?_getD, List.getElem?_eq_getElem hj]
      exact List.getElem_mem hj
    exact (ok.2.2.2.2 _ this).2.2 v hv)
  refine ⟨Int32.ofInt ((zv_jn A.2.2).length : Int), h5, f4, a5, ?_, Y5, zr_Ft F3 (zr_Ft F4 F5), yQ_t (yQ_of (zr_Qt Q3 Q4)) Q5⟩
  have e4 : fM_joins_9 N N 232 (Int32.ofInt 0) (Int32.ofInt 0) h3 = _ := e4
  unfold fM_joins
  rw [zr_T H, cond_true, e3, b1_s, e4, e5]
  rfl
end YVB
