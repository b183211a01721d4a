/-! THE CLASS'S LOOP over a script. -/
/-- the loop from its j-th step on -/
def yg (N j : Nat) (h : zH) : Option (Int32 × zH) := fC_run_11 N (N - j) 203 (Int32.ofInt (j : Int)) h
/-- behind a step -/
def yK (N j : Nat) (x : Int32) (h : zH) : Option (Int32 × zH) := cond (z_cmp .ne x (Int32.ofInt 0)) (yg N (j + 1) h) (some (Int32.ofInt 0, h))
/-- refused -/
def yF (B : yB) (h : zH) (nu : Nat → Int) (r : Option (Int32 × zH)) : Prop := ∃ h' A' nu', r = some (Int32.ofInt 0, h') ∧ yc B h' A' nu' ∧ zc_F h h' ∧ ∀ i, i < 2 → nu' i = nu i
/-- the numbers of the repeats below k, and what isn't the script's -/
def yfr (k : Nat) (nu nu' : Nat → Int) : Prop := ∀ i, (i < 2 ∨ (10 ≤ i ∧ i < 10 + k) ∨ (12 ≤ i ∧ i < 12 + k)) → nu' i = nu i
theorem yfr_t {k : Nat} {a b c : Nat → Int} (x : yfr k a b) (y : yfr k b c) : yfr k a c := fun i hi => (y i hi).trans (x i hi)
theorem yfr_n {k : Nat} {a b : Nat → Int} (x : yn a b) : yfr k a b := fun i hi => x i (by omega)
theorem yF_t {B : yB} {h h1 : zH} {nu nu1 : Nat → Int} {r : Option (Int32 × zH)} (F : zc_F h h1) (f : ∀ i, i < 2 → nu1 i = nu i) (o : yF B h1 nu1 r) : yF B h nu r := by
  obtain ⟨h', A', n', a, b, c, d⟩ := o
  exact ⟨h', A', n', a, b, zc_Ft F c, fun i hi => (d i hi).trans (f i hi)⟩
/-- how commands at depth k go: refused, or done after some steps -/
def yG (N : Nat) (B : yB) (h : zH) (nu : Nat → Int) (k : Nat) (r : Option (Int32 × zH)) (j κ p : Nat) (x : Option (zA × Nat × Nat)) : Prop :=
  (yF B h nu r ∧ ∀ A' ex' q, x = some (A', ex', q) → 1000000 < j + κ * (q - p)) ∨ (∃ A' ex' q, x = some (A', ex', q) ∧ ∃ m h' nu', m ≤ κ * (q - p) ∧ j + m ≤ 1000000 ∧ r = yg N (j + m) h' ∧ yc B h' A' nu' ∧ zc_F h h' ∧ nu' 6 = (q : Int) ∧ nu' 8 = (ex' : Int) ∧ ex' ≤ 200 ∧ nu' 9 = (k : Int) ∧ yfr k nu nu')
theorem yG_t {N : Nat} {B : yB} {h h1 : zH} {nu nu1 : Nat → Int} {k j m κ p p1 : Nat} {r : Option (Int32 × zH)} {x : Option (zA × Nat × Nat)} (F : zc_F h h1) (f : yfr k nu nu1) (hr : r = yg N (j + m) h1) (hm : m ≤ κ * (p1 - p)) (hp : p ≤ p1) (hq : ∀ A' ex' q, x = some (A', ex', q) → p1 ≤ q) (o : yG N B h1 nu1 k (yg N (j + m) h1) (j + m) κ p1 x) : yG N B h nu k r j κ p x := by
  have ar : ∀ q, p1 ≤ q → κ * (q - p) = κ * (q - p1) + κ * (p1 - p) := fun q h => by
    rw [← Nat.mul_add]
    congr 1
    omega
  rw [hr]
  rcases o with ⟨a, b⟩ | ⟨A', ex', q, a, m', h', n', b, c, d, e, g, r'⟩
  · refine Or.inl ⟨yF_t F (fun i hi => f i (Or.inl hi)) a, fun A' ex' q e => ?_⟩
    have h1 := b A' ex' q e
    have h2 := ar q (hq A' ex' q e)
    omega
  · have h2 := ar q (hq A' ex' q a)
    refine Or.inr ⟨A', ex', q, a, m + m', h', n', by omega, by omega, ?_, e, zc_Ft F g, r'.1, r'.2.1, r'.2.2.1, r'.2.2.2.1, yfr_t f r'.2.2.2.2⟩
    rw [d, Nat.add_assoc]
section YCL
variable {N : Nat} {B : yB} {h : zH} {A : zA} {nu : Nat → Int}
theorem yg_over (hN : 1000001 ≤ N) (Y : yc B h A nu) {j : Nat} (hj : j = 1000000) : yF B h nu (yg N j h) := by
  obtain ⟨h1, n1, e1, Y1, F1, r1⟩ := yc_fail (N := N) Y 1
  refine ⟨h1, A, n1, ?_, Y1, F1, fun i hi => r1 i (by omega) (by omega)⟩
  obtain ⟨g, hg⟩ : ∃ g, N - j = g + 1 := ⟨N - j - 1, by omega⟩
  unfold yg
  rw [hg, fC_run_11, show (1000000 : Int32) = Int32.ofInt 1000000 from rfl, zqo_ge _ _ (by omega) (by decide), decide_eq_true (by omega), cond_true, e1, b2]
  rfl
/-- a step, its token read -/
theorem yg_tok (hN : 1000001 ≤ N) (Y : yc B h A nu) {p k j : Nat} (h6 : nu 6 = (p : Int)) (hp : p ≤ (yW B).length) (h9 : nu 9 = (k : Int)) (hk : k ≤ 2) (hj : j < 1000000) : ∃ h1 nu1, yc B h1 A nu1 ∧ zc_F h h1 ∧ yk (yW B) (yt_s (yW B) p) nu nu1 ∧ (yt_q (yW B) (yt_s (yW B) p) = 0 → k = 0 → yg N j h = some (Int32.ofInt 1, h1)) ∧ (yt_q (yW B) (yt_s (yW B) p) = 4 → 0 < k → yg N j h = b2 (fC_endRound N 203 h1) (yK N j)) ∧ ((yt_q (yW B) (yt_s (yW B) p) ≠ 0 ∨ 0 < k) → (yt_q (yW B) (yt_s (yW B) p) ≠ 4 ∨ k = 0) → yg N j h = b2 (fC_runCommand N 203 h1) (yK N j)) := by
  have qb := yt_qb (yW B) (yt_s (yW B) p)
  obtain ⟨h1, n1, e1, Y1, F1, K1⟩ := yc_tok (N := N) (by omega) Y h6 hp
  have m9 : n1 9 = (k : Int) := (K1.2.2.2.2.2 9 (by omega)).trans h9
  refine ⟨h1, n1, Y1, F1, K1, ?_⟩
  obtain ⟨g, hg⟩ : ∃ g, N - j = g + 1 := ⟨N - j - 1, by omega⟩
  have hg2 : g = N - (j + 1) := by omega
  have s0 : yg N j h = b1 (fI h1 203 2 4) fun x7 => cond (z_cmp .ne x7 (Int32.ofInt 0)) (fC_run_37 N (fC_run_11 N g) 203 (Int32.ofInt (j : Int)) h1) (b1 (fI h1 203 2 9) fun x8 => cond (z_cmp .ne x8 (Int32.ofInt 0)) (fC_run_37 N (fC_run_11 N g) 203 (Int32.ofInt (j : Int)) h1) (some ((Int32.ofInt 1), h1))) := by
    unfold yg
    rw [hg, fC_run_11, show (1000000 : Int32) = Int32.ofInt 1000000 from rfl, zqo_ge _ _ (by omega) (by decide), decide_eq_false (by omega), cond_false, e1, b2]
  have s63 : fC_run_63 N (fC_run_11 N g) 203 (Int32.ofInt (j : Int)) = yK N j := by
    funext x h'
    unfold fC_run_63 yK yg
    rw [zh_inc, hg2]
  have s37 : fC_run_37 N (fC_run_11 N g) 203 (Int32.ofInt (j : Int)) h1 = cond (decide (yt_q (yW B) (yt_s (yW B) p) = 4 ∧ 0 < k)) (b2 (fC_endRound N 203 h1) (yK N j)) (b2 (fC_runCommand N 203 h1) (yK N j)) := by
    unfold fC_run_37 fC_run_59
    rw [yc_i Y1 4 (by decide), b1_s, K1.1, zqo_ne _ _ (by omega) (by decide), s63]
    by_cases e4 : yt_q (yW B) (yt_s (yW B) p) = 4
    · rw [decide_eq_true (show (yt_q (yW B) (yt_s (yW B) p) : Int) = 4 by omega), Bool.not_true, cond_false, yc_i Y1 9 (by decide), b1_s, m9, zqo_le _ _ (by omega) (by decide)]
      by_cases e9 : 0 < k
      · rw [decide_eq_false (show ¬ ((k : Int) ≤ 0) by omega), cond_false, decide_eq_true ⟨e4, e9⟩, cond_true]
      · rw [decide_eq_true (show (k : Int) ≤ 0 by omega), cond_true, decide_eq_false (fun x => e9 x.2), cond_false]
    · rw [decide_eq_false (show ¬ (yt_q (yW B) (yt_s (yW B) p) : Int) = 4 by omega), Bool.not_false, cond_true, decide_eq_false (fun x => e4 x.1), cond_false]
  rw [s0, yc_i Y1 4 (by decide), b1_s, K1.1, zqo_ne _ _ (by omega) (by decide), s37]
  by_cases e0 : yt_q (yW B) (yt_s (yW B) p) = 0
  · rw [decide_eq_true (show (yt_q (yW B) (yt_s (yW B) p) : Int) = 0 by omega), Bool.not_true, cond_false, yc_i Y1 9 (by decide), b1_s, m9, zqo_ne _ _ (by omega) (by decide)]
    by_cases e9 : k = 0
    · rw [decide_eq_true (show (k : Int) = 0 by omega), Bool.not_true, cond_false]
      exact ⟨fun _ _ => rfl, fun x => by omega, fun x => by omega⟩
    · rw [decide_eq_false (show ¬ (k : Int) = 0 by omega), Bool.not_false, cond_true, decide_eq_false (fun x => by omega), cond_false]
      exact ⟨fun _ x => absurd x e9, fun x => by omega, fun _ _ => rfl⟩
  · rw [decide_eq_false (show ¬ (yt_q (yW B) (yt_s (yW B) p) : Int) = 0 by omega), Bool.not_false, cond_true]
    by_cases e4 : yt_q (yW B) (yt_s (yW B) p) = 4 ∧ 0 < k
    · rw [decide_eq_true e4, cond_true]
      exact ⟨fun x => absurd x e0, fun _ _ => rfl, fun _ x => by omega⟩
    · rw [decide_eq_false e4, cond_false]
      exact ⟨fun x => absurd x e0, fun x y => absurd ⟨x, y⟩ e4, fun _ _ => rfl⟩
/-- a step that is refused -/
theorem yF_K {j : Nat} {r : Option (Int32 × zH)} (o : ∃ h' A' nu', r = some (Int32.ofInt 0, h') ∧ yc B h' A' nu' ∧ zc_F h h' ∧ ∀ i, i < 2 → nu' i = nu i) : yF B h nu (b2 r (yK N j)) := by
  obtain ⟨h', A', n', a, b, c, d⟩ := o
  refine ⟨h', A', n', ?_, b, c, d⟩
  rw [a, b2]
  rfl
theorem yK_1 {j : Nat} {r : Option (Int32 × zH)} {h' : zH} (e : r = some (Int32.ofInt 1, h')) : b2 r (yK N j) = yg N (j + 1) h' := by
  rw [e, b2]
  rfl
end YCL
/-- a repeat at depth k, from its opening on -/
def yRP (N : Nat) (B : yB) (k κ : Nat) (rp : zA → Nat → Nat → Option (zA × Nat × Nat)) : Prop := ∀ (h : zH) (A : zA) (nu : Nat → Int) (ex p j : Nat), yc B h A nu → nu 6 = (p : Int) → p ≤ (yW B).length → nu 8 = (ex : Int) → ex ≤ 200 → nu 9 = (k : Int) → j < 1000000 → yG N B h nu k (b2 (fC_openRepeat N 203 h) (yK N j)) j κ p (rp A ex p)
/-- commands at depth k, from the loop's j-th step on -/
def yBP (N : Nat) (B : yB) (k κ b : Nat) (bd : zA → Nat → Option (zA × Nat × Nat)) : Prop := ∀ (h : zH) (A : zA) (nu : Nat → Int) (ex j : Nat), yc B h A nu → nu 6 = (b : Int) → nu 8 = (ex : Int) → ex ≤ 200 → nu 9 = (k : Int) → j ≤ 1000000 → yG N B h nu k (yg N j h) j κ b (bd A ex)
theorem yb_run {N : Nat} {B : yB} {k κ cl : Nat} {rp : zA → Nat → Nat → Option (zA × Nat × Nat)} (hN : 1000001 ≤ N) (hk : k ≤ 2) (hκ : 1 ≤ κ) (hcl : (cl = 0 ∧ k = 0) ∨ (cl = 4 ∧ 1 ≤ k)) (RP : yRP N B k κ rp) (D : yPd rp (yW B)) : ∀ (c : Nat) (h : zH) (A : zA) (nu : Nat → Int) (ex p j : Nat), yc B h A nu → nu 6 = (p : Int) → p ≤ (yW B).length → (yW B).length < p + c → nu 8 = (ex : Int) → ex ≤ 200 → nu 9 = (k : Int) → j ≤ 1000000 → yG N B h nu k (yg N j h) j κ p (yb rp (yW B) cl c A ex p) := by
  intro c
  induction c with
  | zero => intro h A nu ex p j Y h6 hp hc; omega
  | succ c ih =>
    intro h A nu ex p j Y h6 hp hc h8 hx h9 hj
    by_cases e0 : yt_q (yW B) (yt_s (yW B) p) = cl
    · refine Or.inr ⟨A, ex, p, by rw [yb, if_pos e0], 0, h, nu, Nat.zero_le _, by omega, by rw [Nat.add_zero], Y, zc_Fr h, h6, h8, hx, h9, fun _ _ => rfl⟩
    · by_cases ej : j = 1000000
      · refine Or.inl ⟨yg_over hN Y ej, fun A' ex' q e => ?_⟩
        have := yb_lt D hp e e0
        have : κ * 1 ≤ κ * (q - p) := Nat.mul_le_mul_left _ (by omega)
        omega
      · obtain ⟨h1, n1, Y1, F1, K1, _, g2, g3⟩ := yg_tok hN Y h6 hp h9 hk (show j < 1000000 by omega)
        have qb := yt_qb (yW B) (yt_s (yW B) p)
        have y1 : yn nu n1 := fun i hi => K1.2.2.2.2.2 i (by omega)
        have m8 : n1 8 = (ex : Int) := (y1 8 (by omega)).trans h8
        have m9 : n1 9 = (k : Int) := (y1 9 (by omega)).trans h9
        by_cases e1 : yt_q (yW B) (yt_s (yW B) p) = 1
        · have tb := yt_tokb hp (show yt_q (yW B) (yt_s (yW B) p) ≠ 0 by omega)
          have sb := yt_sb hp
          have eb := yt_eb sb.2
          rw [g3 (Or.inl (by omega)) (Or.inl (by omega)), yc_cmd (by omega) Y1 (K1.1.trans (by omega)) K1.2.1 K1.2.2.1 eb.1 eb.2.1]
          have wb : ym_w (yW B) p ≤ 12 := yt_cmdb _
          change yG N B h nu k (b2 (fC_runCommand_27 N 203 (if ym_w (yW B) p < 12 then some (1000000 + ym_w (yW B) p) else none) h1) (yK N j)) j κ p (yb rp (yW B) cl (c + 1) A ex p)
          rw [yb, if_neg e0, if_pos e1]
          by_cases w11 : ym_w (yW B) p = 11
          · rw [if_pos w11, if_pos (by omega), w11]
            have op : b2 (fC_runCommand_27 N 203 (some (1000000 + 11)) h1) (yK N j) = b2 (fC_openRepeat N 203 h1) (yK N j) := by
              rw [show (1000000 + 11 : Nat) = 1000011 from rfl, yc_rep27]
              rcases yc_open (N := N) (by omega) Y1 K1.2.2.1 tb.2 m9 hk with ⟨_, h2, n2, e2, _⟩ | ⟨_, t, b, _, h2, n2, e2, _⟩
              · rw [e2, b2]
                rfl
              · rw [e2, b2]
                rfl
            rw [op]
            have pl : p ≤ yt_e (yW B) (yt_s (yW B) p) := by omega
            rcases RP h1 A n1 ex (yt_e (yW B) (yt_s (yW B) p)) j Y1 K1.2.2.1 tb.2 m8 hx m9 (by omega) with ⟨f1, f2⟩ | ⟨A2, ex2, e, f1, m, h2, n2, q1, q2, q3, Y2, F2, q6, q8, qx, q9, qf⟩
            · refine Or.inl ⟨yF_t F1 (fun i hi => y1 i (by omega)) f1, fun A' ex' q e => ?_⟩
              cases e5 : rp A ex (yt_e (yW B) (yt_s (yW B) p)) with
              | none => rw [e5] at e; cases e
              | some r =>
                obtain ⟨A3, ex3, q3⟩ := r
                rw [e5] at e
                change yb rp (yW B) cl c A3 ex3 q3 = _ at e
                have d := D _ _ _ _ _ _ tb.2 e5
                have d2 := (yb_det D _ _ _ _ _ _ _ d.2.1 e).1
                have k1 := f2 _ _ _ e5
                have k2 : κ * (q3 - yt_e (yW B) (yt_s (yW B) p)) ≤ κ * (q - p) := Nat.mul_le_mul_left _ (by omega)
                omega
            · have d := D _ _ _ _ _ _ tb.2 f1
              rw [f1]
              show yG N B h nu k _ j κ p (yb rp (yW B) cl c A2 ex2 e)
              have k2 : κ * (e - yt_e (yW B) (yt_s (yW B) p)) ≤ κ * (e - p) := Nat.mul_le_mul_left _ (by omega)
              exact yG_t (zc_Ft F1 F2) (yfr_t (yfr_n y1) qf) q3 (by omega) (by omega) (fun A' ex' q x => (yb_det D _ _ _ _ _ _ _ d.2.1 x).1) (ih h2 A2 n2 ex2 e (j + m) Y2 q6 d.2.1 (by omega) q8 qx q9 q2)
          · rw [if_neg w11]
            by_cases w12 : ym_w (yW B) p = 12 ∨ 200 ≤ ex
            · rw [if_pos w12]
              refine Or.inl ⟨yF_t F1 (fun i hi => y1 i (by omega)) (yF_K ?_), fun A' ex' q e => by cases e⟩
              by_cases w : ym_w (yW B) p < 12
              · rw [if_pos w]
                obtain ⟨h2, n2, e2, Y2, F2, y2⟩ := yc_many (N := N) Y1 (i := ym_w (yW B) p) m8 (by omega) (by omega)
                exact ⟨h2, A, n2, e2, Y2, F2, fun i hi => y2 i (by omega)⟩
              · rw [if_neg w]
                obtain ⟨h2, n2, e2, Y2, F2, y2⟩ := yc_nocmd (N := N) Y1
                exact ⟨h2, A, n2, e2, Y2, F2, fun i hi => y2 i (by omega)⟩
            · rw [if_neg w12, if_pos (by omega)]
              obtain ⟨h2, Y2, F2, o⟩ := yc_run1 (N := N) (by omega) Y1 (p := yt_e (yW B) (yt_s (yW B) p)) (i := ym_w (yW B) p) K1.2.2.1 tb.2 m8 (by omega) (by omega)
              have n8 : ∀ i, i < 2 ∨ 9 < i → zc_u n1 8 ((ex : Int) + 1) i = nu i := fun i hi => (zc_un _ _ (by omega)).trans (y1 i (by omega))
              rcases o with ⟨o1, h3, A3, n3, o2, Y3, F3, y3⟩ | ⟨A3, e, o1, h3, n3, o2, Y3, F3, y3, o6⟩
              · rw [o1]
                refine Or.inl ⟨yF_K ⟨h3, A3, n3, o2, Y3, zc_Ft F1 (zc_Ft F2 F3), fun i hi => (y3 i (by omega)).trans (n8 i (by omega))⟩, fun A' ex' q e => by cases e⟩
              · have d := yx_end tb.2 o1
                rw [o1, yK_1 o2]
                show yG N B h nu k _ j κ p (yb rp (yW B) cl c A3 (ex + 1) e)
                have k2 : κ * 1 ≤ κ * (e - p) := Nat.mul_le_mul_left _ (by omega)
                refine yG_t (m := 1) (zc_Ft F1 (zc_Ft F2 F3)) (fun i hi => (y3 i (by omega)).trans (n8 i (by omega))) rfl (by omega) (by omega) (fun A' ex' q x => (yb_det D _ _ _ _ _ _ _ d.2.1 x).1) (ih h3 A3 n3 (ex + 1) e (j + 1) Y3 o6 d.2.1 (by omega) ?_ (by omega) ?_ (by omega))
                · exact (y3 8 (by omega)).trans (zc_us _ _ _)
                · exact (y3 9 (by omega)).trans ((zc_un _ _ (by decide)).trans m9)
        · rw [yb, if_neg e0, if_neg e1, g3 (by omega) (by omega)]
          obtain ⟨h2, n2, e2, Y2, F2, y2⟩ := yc_noword (N := N) Y1 K1.1 qb e1
          exact Or.inl ⟨yF_K ⟨h2, A, n2, e2, Y2, zc_Ft F1 F2, fun i hi => (y2 i (by omega)).trans (y1 i (by omega))⟩, fun A' ex' q e => by cases e⟩
/-- rounds, from the first one's start on -/
theorem yr_run {N : Nat} {B : yB} {k κ b q0 : Nat} {bd : zA → Nat → Option (zA × Nat × Nat)} (hN : 1000001 ≤ N) (hk : k < 2) (BP : yBP N B (k + 1) κ b bd) (D : ∀ A ex A' ex' q, bd A ex = some (A', ex', q) → q = q0 ∧ b ≤ q0 ∧ q0 ≤ (yW B).length ∧ yt_q (yW B) (yt_s (yW B) q0) = 4) : ∀ (t : Nat) (h : zH) (A : zA) (nu : Nat → Int) (ex j : Nat), yc B h A nu → nu 6 = (b : Int) → nu 8 = (ex : Int) → ex ≤ 200 → nu 9 = (k : Int) + 1 → nu (10 + k) = (b : Int) → nu (12 + k) = (t : Int) + 1 → t < 20 → j ≤ 1000000 → (yF B h nu (yg N j h) ∧ ∀ A' ex' e, yq (yW B) (yr bd (t + 1) A ex) = some (A', ex', e) → 1000000 < j + (t + 1) * (κ * (q0 - b) + 1)) ∨ (∃ A' ex' e, yq (yW B) (yr bd (t + 1) A ex) = some (A', ex', e) ∧ ∃ m h' nu', m ≤ (t + 1) * (κ * (q0 - b) + 1) ∧ j + m ≤ 1000000 ∧ yg N j h = yg N (j + m) h' ∧ yc B h' A' nu' ∧ zc_F h h' ∧ nu' 6 = (e : Int) ∧ nu' 8 = (ex' : Int) ∧ ex' ≤ 200 ∧ nu' 9 = (k : Int) ∧ yfr k nu nu') := by
  intro t
  induction t with
  | zero =>
    intro h A nu ex j Y h6 h8 hx h9 h10 h12 ht hj
    have er : yr bd (0 + 1) A ex = bd A ex := by
      show (bd A ex).bind _ = _
      cases bd A ex <;> rfl
    rw [er, Nat.zero_add, Nat.one_mul]
    rcases BP h A nu ex j Y h6 h8 hx h9 hj with ⟨f1, f2⟩ | ⟨A1, ex1, q, f1, m, h1, n1, q1, q2, q3, Y1, F1, q6, q8, qx, q9, qf⟩
    · refine Or.inl ⟨f1, fun A' ex' e he => ?_⟩
      obtain ⟨q, r1, r2⟩ := yq_of he
      have := f2 _ _ _ r1
      have := (D _ _ _ _ _ r1).1
      subst this
      omega
    · obtain ⟨d1, d2, d3, d4⟩ := D _ _ _ _ _ f1
      subst d1
      rw [f1]
      have tb := yt_tokb d3 (show yt_q (yW B) (yt_s (yW B) q) ≠ 0 by omega)
      by_cases ej : j + m = 1000000
      · rw [q3]
        exact Or.inl ⟨yF_t F1 (fun i hi => qf i (Or.inl hi)) (yg_over hN Y1 ej), fun A' ex' e he => by omega⟩
      · obtain ⟨h2, n2, Y2, F2, K2, _, g2, _⟩ := yg_tok hN Y1 q6 d3 q9 (by omega) (show j + m < 1000000 by omega)
        have y2 : yn n1 n2 := fun i hi => K2.2.2.2.2.2 i (by omega)
        rw [q3, g2 d4 (by omega)]
        rcases yc_last (N := N) (by omega) Y2 K2.2.2.1 tb.2 ((y2 9 (by omega)).trans q9) hk ((y2 _ (by omega)).trans ((qf _ (by omega)).trans h12)) with ⟨e, s1, h3, n3, e3, Y3, F3, p6, p9, p⟩ | ⟨s1, h3, n3, e3, Y3, F3, p⟩
        · refine Or.inr ⟨A1, ex1, e, ?_, m + 1, h3, n3, by omega, by omega, yK_1 e3, Y3, zc_Ft F1 (zc_Ft F2 F3), p6, ?_, qx, p9, fun i hi => ?_⟩
          · show (ym_sem _ _).bind _ = _
            rw [s1]
            rfl
          · exact (p 8 (by omega) (by omega) (by omega)).trans ((y2 8 (by omega)).trans q8)
          · exact (p i (by omega) (by omega) (by omega)).trans ((y2 i (by omega)).trans (qf i (by omega)))
        · refine Or.inl ⟨yF_K ⟨h3, A1, n3, e3, Y3, zc_Ft F1 (zc_Ft F2 F3), fun i hi => (p i hi).trans ((y2 i (by omega)).trans (qf i (Or.inl hi)))⟩, fun A' ex' e he => ?_⟩
          change (ym_sem _ _).bind _ = _ at he
          rw [s1] at he
          cases he
  | succ t ih =>
    intro h A nu ex j Y h6 h8 hx h9 h10 h12 ht hj
    have ar : (t + 1 + 1) * (κ * (q0 - b) + 1) = (t + 1) * (κ * (q0 - b) + 1) + (κ * (q0 - b) + 1) := Nat.succ_mul _ _
    rcases BP h A nu ex j Y h6 h8 hx h9 hj with ⟨f1, f2⟩ | ⟨A1, ex1, q, f1, m, h1, n1, q1, q2, q3, Y1, F1, q6, q8, qx, q9, qf⟩
    · refine Or.inl ⟨f1, fun A' ex' e he => ?_⟩
      obtain ⟨q, r1, r2⟩ := yq_of he
      rw [yr] at r1
      cases e5 : bd A ex with
      | none => rw [e5] at r1; cases r1
      | some r =>
        obtain ⟨A3, ex3, q3⟩ := r
        have k1 := f2 _ _ _ e5
        have k2 := (D _ _ _ _ _ e5).1
        rw [k2] at k1
        omega
    · obtain ⟨d1, d2, d3, d4⟩ := D _ _ _ _ _ f1
      subst d1
      have er : yr bd (t + 1 + 1) A ex = yr bd (t + 1) A1 ex1 := by
        show (bd A ex).bind (fun r => if t + 1 = 0 then some r else yr bd (t + 1) r.1 r.2.1) = _
        rw [f1]
        show (if t + 1 = 0 then some (A1, ex1, q) else yr bd (t + 1) A1 ex1) = _
        rw [if_neg (Nat.succ_ne_zero t)]
      rw [er, ar]
      have tb := yt_tokb d3 (show yt_q (yW B) (yt_s (yW B) q) ≠ 0 by omega)
      by_cases ej : j + m = 1000000
      · rw [q3]
        exact Or.inl ⟨yF_t F1 (fun i hi => qf i (Or.inl hi)) (yg_over hN Y1 ej), fun A' ex' e he => by omega⟩
      · obtain ⟨h2, n2, Y2, F2, K2, _, g2, _⟩ := yg_tok hN Y1 q6 d3 q9 (by omega) (show j + m < 1000000 by omega)
        have y2 : yn n1 n2 := fun i hi => K2.2.2.2.2.2 i (by omega)
        obtain ⟨h3, n3, e3, Y3, F3, p6, p12, p⟩ := yc_again (N := N) Y2 (k := k) (b := b) (t := t + 2) ((y2 9 (by omega)).trans q9) hk ((y2 _ (by omega)).trans ((qf _ (by omega)).trans h10)) ((y2 _ (by omega)).trans ((qf _ (by omega)).trans (h12.trans (by omega)))) (by omega)
        have hr : yg N j h = yg N (j + m + 1) h3 := by rw [q3, g2 d4 (by omega), yK_1 e3]
        have fr : yfr k nu n3 := fun i hi => (p i (by omega) (by omega)).trans ((y2 i (by omega)).trans (qf i (by omega)))
        have FF := zc_Ft F1 (zc_Ft F2 F3)
        rcases ih h3 A1 n3 ex1 (j + m + 1) Y3 p6 ((p 8 (by omega) (by omega)).trans ((y2 8 (by omega)).trans q8)) qx ((p 9 (by omega) (by omega)).trans ((y2 9 (by omega)).trans q9)) ((p _ (by omega) (by omega)).trans ((y2 _ (by omega)).trans ((qf _ (by omega)).trans h10))) (p12.trans (by omega)) (by omega) (by omega) with ⟨i1, i2⟩ | ⟨A', ex', e, i1, m', h', n', i2, i3, i4, i5, i6, i7, i8, i9, i10, i11⟩
        · rw [hr]
          refine Or.inl ⟨yF_t FF (fun i hi => fr i (Or.inl hi)) i1, fun A' ex' e he => ?_⟩
          have := i2 A' ex' e he
          omega
        · rw [hr]
          refine Or.inr ⟨A', ex', e, i1, m + 1 + m', h', n', by omega, by omega, ?_, i5, zc_Ft FF i6, i7, i8, i9, i10, yfr_t fr i11⟩
          rw [i4]
          congr 1
          omega
theorem yp_arith {κ t a c : Nat} (hκ : 1 ≤ κ) (ht : t ≤ 20) (h : a + 4 ≤ c) : 1 + t * (κ * a + 1) ≤ 20 * κ * c := by
  have h1 : t * (κ * a + 1) ≤ 20 * (κ * a + 1) := Nat.mul_le_mul_right _ ht
  have h2 : κ * (a + 4) ≤ κ * c := Nat.mul_le_mul_left _ h
  rw [Nat.mul_add] at h2
  rw [Nat.mul_assoc]
  omega
/-- a repeat -/
theorem yp_run {N : Nat} {B : yB} {k κ : Nat} {bd : Nat → zA → Nat → Option (zA × Nat × Nat)} (hN : 1000001 ≤ N) (hk : k < 2) (hκ : 1 ≤ κ) (BP : ∀ b, b ≤ (yW B).length → yBP N B (k + 1) κ b (bd b)) (D : yBd bd (yW B)) : yRP N B k (20 * κ) (yp bd (yW B)) := by
  intro h A nu ex p j Y h6 hp h8 hx h9 hj
  rcases yc_open (N := N) (by omega) Y h6 hp h9 (by omega) with ⟨o1, h1, n1, e1, Y1, F1, y1⟩ | ⟨_, t, b, o1, h1, n1, e1, Y1, F1, p6, p8, p9, p10, p12, pr⟩
  · have on : ym_rep (yW B) p = none := by
      rcases o1 with o1 | o1
      · omega
      · exact o1
    refine Or.inl ⟨yF_K ⟨h1, A, n1, e1, Y1, F1, fun i hi => y1 i (by omega)⟩, fun A' ex' q e => ?_⟩
    obtain ⟨t, b, q, g1, _⟩ := yp_of e
    rw [on] at g1
    cases g1
  · obtain ⟨r1, r2, r3, r4⟩ := ym_repb hp o1
    obtain ⟨t', rfl⟩ : ∃ t', t = t' + 1 := ⟨t - 1, by omega⟩
    have eq : yp bd (yW B) A ex p = yq (yW B) (yr (bd b) (t' + 1) A ex) := by
      unfold yp
      rw [o1]
      rfl
    have fr : yfr k nu n1 := fun i hi => pr i (by omega) (by omega) (by omega)
    have ends : ∀ A' ex' e, yq (yW B) (yr (bd b) (t' + 1) A ex) = some (A', ex', e) → ∃ q, (∃ A1 ex1 A2 ex2, bd b A1 ex1 = some (A2, ex2, q)) ∧ (q - b) + 4 ≤ e - p := by
      intro A' ex' e he
      obtain ⟨q, a1, a2⟩ := yq_of he
      obtain ⟨A1, ex1, a3⟩ := yr_of _ _ _ _ _ _ a1
      obtain ⟨d1, d2, d3, _⟩ := D _ _ _ _ _ _ r4 a3
      have tb := yt_tokb d2 (show yt_q (yW B) (yt_s (yW B) q) ≠ 0 by omega)
      obtain ⟨_, m2, m3, m4⟩ := ym_semb tb.2 a2
      exact ⟨q, ⟨A1, ex1, _, _, a3⟩, by omega⟩
    obtain ⟨q0, D0⟩ : ∃ q0, ∀ A ex A' ex' q, bd b A ex = some (A', ex', q) → q = q0 ∧ b ≤ q0 ∧ q0 ≤ (yW B).length ∧ yt_q (yW B) (yt_s (yW B) q0) = 4 := by
      by_cases ex0 : ∃ A1 ex1 A2 ex2 q, bd b A1 ex1 = some (A2, ex2, q)
      · obtain ⟨A1, ex1, A2, ex2, q, a⟩ := ex0
        obtain ⟨d1, d2, d3, d4⟩ := D _ _ _ _ _ _ r4 a
        exact ⟨q, fun A3 ex3 A4 ex4 q' a' => ⟨d4 _ _ _ _ _ a', d1, d2, d3⟩⟩
      · exact ⟨b, fun A3 ex3 A4 ex4 q' a' => absurd ⟨A3, ex3, A4, ex4, q', a'⟩ ex0⟩
    rw [eq, yK_1 e1]
    rcases yr_run hN hk (BP b r4) D0 t' h1 A n1 ex (j + 1) Y1 p6 (p8.trans h8) hx p9 p10 (p12.trans (by omega)) (by omega) (by omega) with ⟨i1, i2⟩ | ⟨A', ex', e, i1, m', h', n', i2, i3, i4, i5, i6, i7, i8, i9, i10, i11⟩
    · refine Or.inl ⟨yF_t F1 (fun i hi => fr i (Or.inl hi)) i1, fun A' ex' e he => ?_⟩
      have k1 := i2 A' ex' e he
      obtain ⟨q, ⟨A1, ex1, A2, ex2, a3⟩, k2⟩ := ends A' ex' e he
      have := (D0 _ _ _ _ _ a3).1
      subst this
      have := yp_arith hκ r2 k2
      omega
    · obtain ⟨q, ⟨A1, ex1, A2, ex2, a3⟩, k2⟩ := ends A' ex' e i1
      have := (D0 _ _ _ _ _ a3).1
      subst this
      have := yp_arith hκ r2 k2
      refine Or.inr ⟨A', ex', e, i1, 1 + m', h', n', by omega, by omega, ?_, i5, zc_Ft F1 i6, i7, i8, i9, i10, yfr_t fr i11⟩
      rw [i4, Nat.add_assoc]
