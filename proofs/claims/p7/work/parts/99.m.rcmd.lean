/-! THE REFERENCE'S COMMANDS. -/
/-- refused -/
def yFr (G : yH) (h : zH) (r : Option (Int32 × zH)) : Prop := ∃ h' A' fl' a', r = some (Int32.ofInt 0, h') ∧ yv G h' A' fl' a' ∧ zr_F h h'
theorem yFr_t {G : yH} {h h1 : zH} {r : Option (Int32 × zH)} (F : zr_F h h1) (o : yFr G h1 r) : yFr G h r := by
  obtain ⟨h', A', f', a', e, Y, F'⟩ := o
  exact ⟨h', A', f', a', e, Y, zr_Ft F F'⟩
/-- how a command ends: refused, or done and at its semicolon -/
def yU (G : yH) (h : zH) (ex : Int) (r : Option (Int32 × zH)) (x : Option (zA × Nat)) : Prop := (x = none ∧ yFr G h r) ∨ (∃ A' p', x = some (A', p') ∧ ∃ h' fl' a', r = some (Int32.ofInt 1, h') ∧ yv G h' A' fl' a' ∧ zr_F h h' ∧ fl' 20 = (p' : Int) ∧ fl' 22 = ex)
section YVC
variable {N : Nat} {G : yH} {h : zH} {A : zA} {fl : Nat → Int} {a : Nat → Nat → Int}
theorem yv_fail (Y : yv G h A fl a) (x : Int) : ∃ h' fl', fM_fail N 232 (Int32.ofInt x) h = some (Int32.ofInt 0, h') ∧ yv G h' A fl' a ∧ zr_F h h' := by
  unfold fM_fail fM_fail_20
  rw [yv_T Y, cond_true, yv_i Y 12 rfl, b1_s]
  cases z_cmp .ne (Int32.ofInt (fl 12)) (Int32.ofInt 0) with
  | true => exact ⟨h, fl, rfl, Y, zr_Fr h⟩
  | false =>
    obtain ⟨h1, e1, Y1, F1⟩ := yv_s Y 12 (by decide) x
    obtain ⟨h2, e2, Y2, F2⟩ := yv_s Y1 13 (by decide) (fl 19)
    refine ⟨h2, _, ?_, Y2, zr_Ft F1 F2⟩
    rw [cond_false, e1, b1_s, yv_i Y1 19 rfl, b1_s, zr_un fl _ (show (19 : Nat) ≠ 12 by decide), e2, b1_s]
theorem yv_failF (Y : yv G h A fl a) (x : Int) : yFr G h (fM_fail N 232 (Int32.ofInt x) h) := by
  obtain ⟨h1, f1, e1, Y1, F1⟩ := yv_fail (N := N) Y x
  exact ⟨h1, A, f1, a, e1, Y1, F1⟩
theorem yFr_w {r : Option (Int32 × zH)} (o : yFr G h r) : yFr G h (b2 r (fun x g => cond (decide (x = Int32.ofInt 0) || decide (x = Int32.ofInt 1)) (some (x, g)) none)) := by
  obtain ⟨h', A', f', a', e, Y, F'⟩ := o
  refine ⟨h', A', f', a', ?_, Y, F'⟩
  rw [e, b2]
  rfl
theorem yv_is (Y : yv G h A fl a) {m : Nat} (h4 : fl 18 = (m : Int)) (hm : m ≤ 6) (w : Int) (hw : 0 ≤ w ∧ w ≤ 6) : ((m : Int) = w ∧ fM_is N 232 (Int32.ofInt w) h = some (Int32.ofInt 1, h)) ∨ ((m : Int) ≠ w ∧ ∃ h' fl', fM_is N 232 (Int32.ofInt w) h = some (Int32.ofInt 0, h') ∧ yv G h' A fl' a ∧ zr_F h h') := by
  unfold fM_is
  rw [yv_T Y, cond_true, yv_i Y 18 rfl, b1_s, h4, zqo_eq _ _ (by omega) (by omega)]
  by_cases e : (m : Int) = w
  · refine Or.inl ⟨e, ?_⟩
    rw [decide_eq_true e]
    rfl
  · obtain ⟨h1, f1, e1, Y1, F1⟩ := yv_fail (N := N) Y 1
    refine Or.inr ⟨e, h1, f1, ?_, Y1, F1⟩
    rw [decide_eq_false e, cond_false, e1, b2]
    rfl
/-- a number in its bounds -/
theorem yv_num (hN : 1000 ≤ N) (Y : yv G h A fl a) {p : Nat} (hp : p ≤ (yX G).length) (T : yT (yX G) (yt_s (yX G) p) fl) (pl : Nat) (hpl : pl < 2) (lo hi : Int) (hlo : -2147483648 ≤ lo ∧ lo < 2147483648) (hhi : -2147483648 ≤ hi ∧ hi < 2147483648) : (∃ v e, ym_num (yX G) p lo hi = some (v, e) ∧ ∃ h' fl' a', fM_number N 232 (Int32.ofInt (pl : Int)) (Int32.ofInt lo) (Int32.ofInt hi) h = some (Int32.ofInt 1, h') ∧ yv G h' A fl' a' ∧ zr_F h h' ∧ yT (yX G) (yt_s (yX G) e) fl' ∧ fl' 22 = fl 22 ∧ a' 242 pl = (v : Int) ∧ (∀ r i, r ≠ 242 → a' r i = a r i) ∧ ∀ i, i ≠ pl → a' 242 i = a 242 i) ∨ (ym_num (yX G) p lo hi = none ∧ ∃ h' fl', fM_number N 232 (Int32.ofInt (pl : Int)) (Int32.ofInt lo) (Int32.ofInt hi) h = some (Int32.ofInt 0, h') ∧ yv G h' A fl' a ∧ zr_F h h') := by
  have mi := yt_mi (q := yt_q (yX G) (yt_s (yX G) p))
  have mb := yt_mb (yt_q (yX G) (yt_s (yX G) p))
  have sb := yt_sb hp
  have eb := yt_eb sb.2
  unfold fM_number
  rw [yv_T Y, cond_true]
  rcases yv_is (N := N) Y T.1 mb 3 (by decide) with ⟨q1, e1⟩ | ⟨q1, h1, f1, e1, Y1, F1⟩
  · have q2 : yt_q (yX G) (yt_s (yX G) p) = 2 := by omega
    have v9 := yt_v999 q2
    have t21 := T.2.2.2 q2
    rw [e1, b2, show z_cmp .ne (Int32.ofInt 1) (Int32.ofInt 0) = true from rfl, cond_true, yv_i Y 21 rfl, b1_s, t21, zr_in N _ lo hi (by omega) hlo hhi, b2]
    by_cases e : lo ≤ (yt_v (yX G) (yt_s (yX G) p) : Int) ∧ (yt_v (yX G) (yt_s (yX G) p) : Int) ≤ hi
    · obtain ⟨h2, e2, H2, F2⟩ := zr_p Y.1 242 pl (by decide) (by decide) (show pl < 2 from hpl) (yt_v (yX G) (yt_s (yX G) p) : Int)
      have e2 : fAS h 242 100 (Int32.ofInt (pl : Int)) (.int (Int32.ofInt (yt_v (yX G) (yt_s (yX G) p) : Int))) = some h2 := e2
      have Q : yQ fl a fl a := yQ_r fl a
      have Y2 : yv G h2 A fl (zr_v a 242 pl (yt_v (yX G) (yt_s (yX G) p) : Int)) := by
        obtain ⟨y1, R, y3, y4, y5, y6⟩ := Y
        refine ⟨H2, zyR_a R (fun _ _ => rfl) (fun p i hp => zr_vn a _ (by omega)) ?_, ?_, ⟨y4.1, fun i hi => (zr_vn a _ (Or.inl (by decide))).trans (y4.2 i hi)⟩, y5, y6⟩
        · rw [show zr_v a 242 pl (yt_v (yX G) (yt_s (yX G) p) : Int) 233 = a 233 from funext fun i => zr_vn a _ (Or.inl (by decide))]
          exact R.1
        · rw [show zr_v a 242 pl (yt_v (yX G) (yt_s (yX G) p) : Int) 234 = a 234 from funext fun i => zr_vn a _ (Or.inl (by decide))]
          exact y3
      obtain ⟨h3, f3, e3, Y3, F3, T3, k3⟩ := yv_next hN Y2 T.2.2.1 eb.2.1
      refine Or.inl ⟨_, _, if_pos ⟨q2, e.1, e.2⟩, h3, f3, _, ?_, Y3, zr_Ft F2 F3, T3, k3 22 (by omega), zr_vs _ _ _ _, fun r i hr => zr_vn a _ (Or.inl hr), fun i hi => zr_vn a _ (Or.inr hi)⟩
      rw [decide_eq_true e, cond_true, show z_cmp .ne (Int32.ofInt 1) (Int32.ofInt 0) = true from rfl, cond_true, zr_r23 Y.1, b1_s, yv_i Y 21 rfl, b1_s, t21, e2, b1_s, e3, b2]
    · obtain ⟨h2, f2, e2, Y2, F2⟩ := yv_fail (N := N) Y 2
      refine Or.inr ⟨if_neg (fun x => e ⟨x.2.1, x.2.2⟩), h2, f2, ?_, Y2, F2⟩
      rw [decide_eq_false e, cond_false, show z_cmp .ne (Int32.ofInt 0) (Int32.ofInt 0) = false from rfl, cond_false, e2, b2]
      rfl
  · refine Or.inr ⟨if_neg (fun x => q1 (by omega)), h1, f1, ?_, Y1, F1⟩
    rw [e1, b2, show z_cmp .ne (Int32.ofInt 0) (Int32.ofInt 0) = false from rfl, cond_false]
/-- the semicolon behind a command that must be possible -/
theorem yv_stops (Y : yv G h A fl a) {p : Nat} (T : yT (yX G) (yt_s (yX G) p) fl) (b : Bool) : (∃ e, ym_sem (yX G) p = some e ∧ b = true ∧ fM_stops N 232 (cond b (Int32.ofInt 1) (Int32.ofInt 0)) h = some (Int32.ofInt 1, h) ∧ fl 20 = (e : Int)) ∨ ((ym_sem (yX G) p = none ∨ b = false) ∧ ∃ h' fl', fM_stops N 232 (cond b (Int32.ofInt 1) (Int32.ofInt 0)) h = some (Int32.ofInt 0, h') ∧ yv G h' A fl' a ∧ zr_F h h') := by
  have mi := yt_mi (q := yt_q (yX G) (yt_s (yX G) p))
  have mb := yt_mb (yt_q (yX G) (yt_s (yX G) p))
  unfold fM_stops
  rw [yv_T Y, cond_true]
  rcases yv_is (N := N) Y T.1 mb 1 (by decide) with ⟨q1, e1⟩ | ⟨q1, h1, f1, e1, Y1, F1⟩
  · rw [e1, b2, show z_cmp .eq (Int32.ofInt 1) (Int32.ofInt 0) = false from rfl, cond_false]
    cases b with
    | true => exact Or.inl ⟨_, if_pos (by omega), rfl, rfl, T.2.2.1⟩
    | false =>
      obtain ⟨h2, f2, e2, Y2, F2⟩ := yv_fail (N := N) Y 3
      refine Or.inr ⟨Or.inr rfl, h2, f2, ?_, Y2, F2⟩
      rw [cond_false, show z_cmp .ne (Int32.ofInt 0) (Int32.ofInt 0) = false from rfl, cond_false, e2, b2]
      rfl
  · refine Or.inr ⟨Or.inl (if_neg (fun x => q1 (by omega))), h1, f1, ?_, Y1, F1⟩
    rw [e1, b2, show z_cmp .eq (Int32.ofInt 0) (Int32.ofInt 0) = true from rfl, cond_true]
    rfl
theorem yv_w1 (Y : yv G h A fl a) : fAI h 233 100 (Int32.ofInt 1) = some (Int32.ofInt (A.2.1.length : Int)) := by
  have g1 : fAI h 233 100 (Int32.ofInt 1) = some (Int32.ofInt (a 233 1)) := zr_w Y.1 1 (by decide)
  rw [g1, Y.2.1.1.2.1]
theorem yv_w2 (Y : yv G h A fl a) : fAI h 233 100 (Int32.ofInt 2) = some (Int32.ofInt (A.2.2.length : Int)) := by
  have g1 : fAI h 233 100 (Int32.ofInt 2) = some (Int32.ofInt (a 233 2)) := zr_w Y.1 2 (by decide)
  rw [g1, Y.2.1.1.2.2.2.1]
theorem yv_n0 (Y : yv G h A fl a) : fAI h 242 100 (Int32.ofInt 0) = some (Int32.ofInt (a 242 0)) := zr_g Y.1 242 0 (by decide) (by decide) (by decide)
theorem yv_n1 (Y : yv G h A fl a) : fAI h 242 100 (Int32.ofInt 1) = some (Int32.ofInt (a 242 1)) := zr_g Y.1 242 1 (by decide) (by decide) (by decide)
/-- behind a number: a semicolon, then what the command does -/
theorem yv_ns {f : Nat → Option zA} {lo hi : Int} {p v e : Nat} {ex : Int} {r : Option (Int32 × zH)} (m1 : ym_num (yX G) p lo hi = some (v, e)) (o : yU G h ex r ((ym_sem (yX G) e).bind fun q => (f v).bind fun A => some (A, q))) : yU G h ex r (yx_n (yX G) p lo hi f) := by
  rw [yx_n, m1]
  exact o
theorem yv_drop (hN : 4000 ≤ N) (Y : yv G h A fl a) {p : Nat} (hp : p ≤ (yX G).length) (T : yT (yX G) (yt_s (yX G) p) fl) : yU G h (fl 22) (fM_readsDrop N 232 h) (yx 2 (yX G) A p) := by
  have o2 := (yv_ok Y).2.1
  show yU G h (fl 22) (fM_readsDrop N 232 h) (yx_n (yX G) p 0 (A.2.1.length : Int) (yf_drop A))
  have s0 : ∀ g : Int32 → zH → Option (Int32 × zH), cond (fT h 232 5) (b1 (fR h 232 5 0) fun x1 => b1 (fAI h x1 100 (Int32.ofInt 1)) fun x2 => b2 (fM_number N 232 (Int32.ofInt 0) (Int32.ofInt 0) x2 h) g) none = b2 (fM_number N 232 (Int32.ofInt ((0 : Nat) : Int)) (Int32.ofInt 0) (Int32.ofInt (A.2.1.length : Int)) h) g := fun g => by
    rw [yv_T Y, cond_true, zr_r0 Y.1, b1_s, yv_w1 Y, b1_s]
    rfl
  unfold fM_readsDrop
  rw [s0]
  rcases yv_num (N := N) (by omega) Y hp T 0 (by decide) 0 (A.2.1.length : Int) (by decide) (by omega) with ⟨v, e, m1, h1, f1, a1, e1, Y1, F1, T1, x1, n1, _, _⟩ | ⟨m1, h1, f1, e1, Y1, F1⟩
  · obtain ⟨_, _, _, pe, el, _, vl, _⟩ := ym_numb hp m1
    refine yv_ns m1 ?_
    rw [e1, b2, show z_cmp .eq (Int32.ofInt 1) (Int32.ofInt 0) = false from rfl, cond_false]
    rcases yv_stops (N := N) Y1 T1 true with ⟨q, m2, _, e2, q20⟩ | ⟨m2, h2, f2, e2, Y2, F2⟩
    · obtain ⟨r, h3, f3, a3, e3, Y3, F3, Q3⟩ := yv_drops (N := N) (by omega) Y1 v (by omega)
      refine Or.inr ⟨(A.1, A.2.1.take (A.2.1.length - v), A.2.2), q, by rw [m2]; rfl, h3, f3, a3, ?_, Y3, zr_Ft F1 F3, (Q3.1 20 (by decide)).trans q20, (Q3.1 22 (by decide)).trans x1⟩
      have e2 : fM_stops N 232 (Int32.ofInt 1) h1 = _ := e2
      rw [e2, b2, show z_cmp .ne (Int32.ofInt 1) (Int32.ofInt 0) = true from rfl, cond_true, zr_r23 Y1.1, b1_s, yv_n0 Y1, b1_s, n1, e3, b2]
    · have m2 : ym_sem (yX G) e = none := m2.resolve_right (by decide)
      refine Or.inl ⟨by rw [m2]; rfl, h2, A, f2, a1, ?_, Y2, zr_Ft F1 F2⟩
      have e2 : fM_stops N 232 (Int32.ofInt 1) h1 = _ := e2
      rw [e2, b2, show z_cmp .ne (Int32.ofInt 0) (Int32.ofInt 0) = false from rfl, cond_false]
      rfl
  · refine Or.inl ⟨by rw [yx_n, m1]; rfl, h1, A, f1, a, ?_, Y1, F1⟩
    rw [e1, b2, show z_cmp .eq (Int32.ofInt 0) (Int32.ofInt 0) = true from rfl, cond_true]
    rfl
theorem yv_rotate (hN : 4000 ≤ N) (Y : yv G h A fl a) {p : Nat} (hp : p ≤ (yX G).length) (T : yT (yX G) (yt_s (yX G) p) fl) : yU G h (fl 22) (fM_readsRotate N 232 h) (yx 4 (yX G) A p) := by
  have o2 := (yv_ok Y).2.1
  show yU G h (fl 22) (fM_readsRotate N 232 h) (yx_n (yX G) p 0 (A.2.1.length : Int) (yf_rot A))
  have s0 : ∀ g : Int32 → zH → Option (Int32 × zH), cond (fT h 232 5) (b1 (fR h 232 5 0) fun x1 => b1 (fAI h x1 100 (Int32.ofInt 1)) fun x2 => b2 (fM_number N 232 (Int32.ofInt 0) (Int32.ofInt 0) x2 h) g) none = b2 (fM_number N 232 (Int32.ofInt ((0 : Nat) : Int)) (Int32.ofInt 0) (Int32.ofInt (A.2.1.length : Int)) h) g := fun g => by
    rw [yv_T Y, cond_true, zr_r0 Y.1, b1_s, yv_w1 Y, b1_s]
    rfl
  unfold fM_readsRotate
  rw [s0]
  rcases yv_num (N := N) (by omega) Y hp T 0 (by decide) 0 (A.2.1.length : Int) (by decide) (by omega) with ⟨v, e, m1, h1, f1, a1, e1, Y1, F1, T1, x1, n1, _, _⟩ | ⟨m1, h1, f1, e1, Y1, F1⟩
  · obtain ⟨_, _, _, pe, el, _, vl, _⟩ := ym_numb hp m1
    refine yv_ns m1 ?_
    rw [e1, b2, show z_cmp .eq (Int32.ofInt 1) (Int32.ofInt 0) = false from rfl, cond_false]
    rcases yv_stops (N := N) Y1 T1 true with ⟨q, m2, _, e2, q20⟩ | ⟨m2, h2, f2, e2, Y2, F2⟩
    · obtain ⟨r, h3, f3, a3, e3, Y3, F3, Q3⟩ := yv_turns (N := N) (by omega) Y1 v (by omega)
      refine Or.inr ⟨(A.1, zw_trn A.2.1 v, A.2.2), q, by rw [m2]; rfl, h3, f3, a3, ?_, Y3, zr_Ft F1 F3, (Q3.1 20 (by decide)).trans q20, (Q3.1 22 (by decide)).trans x1⟩
      have e2 : fM_stops N 232 (Int32.ofInt 1) h1 = _ := e2
      rw [e2, b2, show z_cmp .ne (Int32.ofInt 1) (Int32.ofInt 0) = true from rfl, cond_true, zr_r23 Y1.1, b1_s, yv_n0 Y1, b1_s, n1, e3, b2]
    · have m2 : ym_sem (yX G) e = none := m2.resolve_right (by decide)
      refine Or.inl ⟨by rw [m2]; rfl, h2, A, f2, a1, ?_, Y2, zr_Ft F1 F2⟩
      have e2 : fM_stops N 232 (Int32.ofInt 1) h1 = _ := e2
      rw [e2, b2, show z_cmp .ne (Int32.ofInt 0) (Int32.ofInt 0) = false from rfl, cond_false]
      rfl
  · refine Or.inl ⟨by rw [yx_n, m1]; rfl, h1, A, f1, a, ?_, Y1, F1⟩
    rw [e1, b2, show z_cmp .eq (Int32.ofInt 0) (Int32.ofInt 0) = true from rfl, cond_true]
    rfl
theorem yv_remove (hN : 4000 ≤ N) (Y : yv G h A fl a) {p : Nat} (hp : p ≤ (yX G).length) (T : yT (yX G) (yt_s (yX G) p) fl) : yU G h (fl 22) (fM_readsRemove N 232 h) (yx 9 (yX G) A p) := by
  have o4 := (yv_ok Y).2.2.2.1
  show yU G h (fl 22) (fM_readsRemove N 232 h) (yx_n (yX G) p 0 ((A.2.2.length : Int) - 1) (yf_rem A))
  have s0 : ∀ g : Int32 → zH → Option (Int32 × zH), cond (fT h 232 5) (b1 (fR h 232 5 0) fun x1 => b1 (fAI h x1 100 (Int32.ofInt 2)) fun x2 => b2 (fM_number N 232 (Int32.ofInt 0) (Int32.ofInt 0) (x2 - (Int32.ofInt 1)) h) g) none = b2 (fM_number N 232 (Int32.ofInt ((0 : Nat) : Int)) (Int32.ofInt 0) (Int32.ofInt ((A.2.2.length : Int) - 1)) h) g := fun g => by
    rw [yv_T Y, cond_true, zr_r0 Y.1, b1_s, yv_w2 Y, b1_s, zw_sub]
    rfl
  unfold fM_readsRemove
  rw [s0]
  rcases yv_num (N := N) (by omega) Y hp T 0 (by decide) 0 ((A.2.2.length : Int) - 1) (by decide) (by omega) with ⟨v, e, m1, h1, f1, a1, e1, Y1, F1, T1, x1, n1, _, _⟩ | ⟨m1, h1, f1, e1, Y1, F1⟩
  · obtain ⟨_, _, _, pe, el, _, vl, _⟩ := ym_numb hp m1
    refine yv_ns m1 ?_
    rw [e1, b2, show z_cmp .eq (Int32.ofInt 1) (Int32.ofInt 0) = false from rfl, cond_false]
    rcases yv_stops (N := N) Y1 T1 true with ⟨q, m2, _, e2, q20⟩ | ⟨m2, h2, f2, e2, Y2, F2⟩
    · obtain ⟨r, h3, a3, e3, Y3, F3, Q3⟩ := yv_removes (N := N) (by omega) Y1 (v := v) (by omega)
      refine Or.inr ⟨(A.1, A.2.1, A.2.2.eraseIdx v), q, by rw [m2]; rfl, h3, f1, a3, ?_, Y3, zr_Ft F1 F3, q20, x1⟩
      have e2 : fM_stops N 232 (Int32.ofInt 1) h1 = _ := e2
      rw [e2, b2, show z_cmp .ne (Int32.ofInt 1) (Int32.ofInt 0) = true from rfl, cond_true, zr_r23 Y1.1, b1_s, yv_n0 Y1, b1_s, n1, e3, b2]
    · have m2 : ym_sem (yX G) e = none := m2.resolve_right (by decide)
      refine Or.inl ⟨by rw [m2]; rfl, h2, A, f2, a1, ?_, Y2, zr_Ft F1 F2⟩
      have e2 : fM_stops N 232 (Int32.ofInt 1) h1 = _ := e2
      rw [e2, b2, show z_cmp .ne (Int32.ofInt 0) (Int32.ofInt 0) = false from rfl, cond_false]
      rfl
  · refine Or.inl ⟨by rw [yx_n, m1]; rfl, h1, A, f1, a, ?_, Y1, F1⟩
    rw [e1, b2, show z_cmp .eq (Int32.ofInt 0) (Int32.ofInt 0) = true from rfl, cond_true]
    rfl
theorem yv_part (hN : 4000 ≤ N) (Y : yv G h A fl a) {p : Nat} (hp : p ≤ (yX G).length) (T : yT (yX G) (yt_s (yX G) p) fl) : yU G h (fl 22) (fM_readsPart N 232 h) (yx 3 (yX G) A p) := by
  have o2 := (yv_ok Y).2.1
  show yU G h (fl 22) (fM_readsPart N 232 h) (yx_part (yX G) A p)
  have s0 : ∀ g : Int32 → zH → Option (Int32 × zH), cond (fT h 232 5) (b1 (fR h 232 5 0) fun x1 => b1 (fAI h x1 100 (Int32.ofInt 1)) fun x2 => b2 (fM_number N 232 (Int32.ofInt 0) (Int32.ofInt 0) x2 h) g) none = b2 (fM_number N 232 (Int32.ofInt ((0 : Nat) : Int)) (Int32.ofInt 0) (Int32.ofInt (A.2.1.length : Int)) h) g := fun g => by
    rw [yv_T Y, cond_true, zr_r0 Y.1, b1_s, yv_w1 Y, b1_s]
    rfl
  -- the class asks for a number of at most 999, the reference for one of at most the length; the second number decides
  have ex : ∀ v e, ym_num (yX G) p 0 (A.2.1.length : Int) = some (v, e) → ym_num (yX G) p 0 999 = some (v, e) := by
    intro v e m1
    obtain ⟨b1, b2, b3, b4, b5, b6, b7, b8⟩ := ym_numb hp m1
    rw [ym_num, if_pos ⟨b1, by omega, by omega⟩, b2, b3]
  have en : ym_num (yX G) p 0 (A.2.1.length : Int) = none → yx_part (yX G) A p = none := by
    intro m1
    unfold yx_part
    cases m2 : ym_num (yX G) p 0 999 with
    | none => rfl
    | some n =>
      obtain ⟨v, e⟩ := n
      obtain ⟨b1, b2, b3, b4, b5, b6, b7, b8⟩ := ym_numb hp m2
      show (ym_num (yX G) e (v : Int) (A.2.1.length : Int)).bind _ = none
      have : ym_num (yX G) e (v : Int) (A.2.1.length : Int) = none := by
        unfold ym_num
        by_cases c : yt_q (yX G) (yt_s (yX G) e) = 2 ∧ (v : Int) ≤ (yt_v (yX G) (yt_s (yX G) e) : Int) ∧ (yt_v (yX G) (yt_s (yX G) e) : Int) ≤ (A.2.1.length : Int)
        · exfalso
          rw [ym_num, if_pos ⟨b1, by omega, by omega⟩] at m1
          cases m1
        · exact if_neg c
      rw [this]
      rfl
  unfold fM_readsPart
  rw [s0]
  rcases yv_num (N := N) (by omega) Y hp T 0 (by decide) 0 (A.2.1.length : Int) (by decide) (by omega) with ⟨v, e, m1, h1, f1, a1, e1, Y1, F1, T1, x1, n1, _, _⟩ | ⟨m1, h1, f1, e1, Y1, F1⟩
  · obtain ⟨_, _, _, pe, el, _, vl, _⟩ := ym_numb hp m1
    rw [yx_part, ex v e m1]
    show yU G h (fl 22) _ ((ym_num (yX G) e (v : Int) (A.2.1.length : Int)).bind fun b => (ym_sem (yX G) b.2).bind fun q => some ((A.1, zw_p A.2.1 v b.1, A.2.2), q))
    rw [e1, b2, show z_cmp .eq (Int32.ofInt 1) (Int32.ofInt 0) = false from rfl, cond_false, zr_r23 Y1.1, b1_s, yv_n0 Y1, b1_s, n1, zr_r0 Y1.1, b1_s, yv_w1 Y1, b1_s]
    rcases yv_num (N := N) (by omega) Y1 el T1 1 (by decide) (v : Int) (A.2.1.length : Int) (by omega) (by omega) with ⟨u, g, m2, h2, f2, a2, e2, Y2, F2, T2, x2, n2, _, k2⟩ | ⟨m2, h2, f2, e2, Y2, F2⟩
    · obtain ⟨_, _, _, pg, gl, vu, ul, _⟩ := ym_numb el m2
      have e2 : fM_number N 232 (Int32.ofInt 1) (Int32.ofInt (v : Int)) (Int32.ofInt (A.2.1.length : Int)) h1 = _ := e2
      rw [m2, e2, b2, show z_cmp .eq (Int32.ofInt 1) (Int32.ofInt 0) = false from rfl, cond_false]
      show yU G h (fl 22) _ ((ym_sem (yX G) g).bind fun q => some ((A.1, zw_p A.2.1 v u, A.2.2), q))
      rcases yv_stops (N := N) Y2 T2 true with ⟨q, m3, _, e3, q20⟩ | ⟨m3, h3, f3, e3, Y3, F3⟩
      · obtain ⟨r, h4, f4, a4, e4, Y4, F4, Q4⟩ := yv_parts (N := N) (by omega) Y2 v u (by omega) (by omega)
        refine Or.inr ⟨(A.1, zw_p A.2.1 v u, A.2.2), q, by rw [m3]; rfl, h4, f4, a4, ?_, Y4, zr_Ft F1 (zr_Ft F2 F4), (Q4.1 20 (by decide)).trans q20, (Q4.1 22 (by decide)).trans (x2.trans x1)⟩
        have e3 : fM_stops N 232 (Int32.ofInt 1) h2 = _ := e3
        rw [e3, b2, show z_cmp .ne (Int32.ofInt 1) (Int32.ofInt 0) = true from rfl, cond_true, zr_r23 Y2.1, b1_s, yv_n0 Y2, b1_s, k2 0 (by decide), n1, b1_s, yv_n1 Y2, b1_s, n2, e4, b2]
      · have m3 : ym_sem (yX G) g = none := m3.resolve_right (by decide)
        refine Or.inl ⟨by rw [m3]; rfl, h3, A, f3, a2, ?_, Y3, zr_Ft F1 (zr_Ft F2 F3)⟩
        have e3 : fM_stops N 232 (Int32.ofInt 1) h2 = _ := e3
        rw [e3, b2, show z_cmp .ne (Int32.ofInt 0) (Int32.ofInt 0) = false from rfl, cond_false]
        rfl
    · have e2 : fM_number N 232 (Int32.ofInt 1) (Int32.ofInt (v : Int)) (Int32.ofInt (A.2.1.length : Int)) h1 = _ := e2
      refine Or.inl ⟨by rw [m2]; rfl, h2, A, f2, a1, ?_, Y2, zr_Ft F1 F2⟩
      rw [e2, b2, show z_cmp .eq (Int32.ofInt 0) (Int32.ofInt 0) = true from rfl, cond_true]
      rfl
  · refine Or.inl ⟨en m1, h1, A, f1, a, ?_, Y1, F1⟩
    rw [e1, b2, show z_cmp .eq (Int32.ofInt 0) (Int32.ofInt 0) = true from rfl, cond_true]
    rfl
end YVC
