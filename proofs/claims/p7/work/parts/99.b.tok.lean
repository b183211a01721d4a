/-! THE CLASS'S SCRIPT: a token read; what is expected. -/
/-- the numbers that a token leaves -/
def yn (nu nu' : Nat → Int) : Prop := ∀ k, (k < 2 ∨ 7 < k) → nu' k = nu k
theorem yn_r (nu : Nat → Int) : yn nu nu := fun _ _ => rfl
theorem yn_t {a b c : Nat → Int} (x : yn a b) (y : yn b c) : yn a c := fun k hk => (y k hk).trans (x k hk)
section YCB
variable {N : Nat} {B : yB} {h : zH} {A : zA} {nu : Nat → Int}
theorem yc_number (hN : 1000 ≤ N) (Y : yc B h A nu) {p : Nat} (h5 : nu 5 = (p : Int)) (h6 : nu 6 = (yt_e (yW B) p : Int)) (h4 : nu 4 = 2) (hp : p < (yW B).length) (hq : yt_k ((yW B).getD p 0) = 2) : ∃ h' nu', fC_readNumber N 203 h = some ((), h') ∧ yc B h' A nu' ∧ zc_F h h' ∧ nu' 4 = (yt_q (yW B) p : Int) ∧ (yt_q (yW B) p = 2 → nu' 7 = (yt_v (yW B) p : Int)) ∧ (yt_q (yW B) p ≠ 2 → nu' 7 = nu 7) ∧ ∀ k, k ≠ 4 → k ≠ 7 → nu' k = nu k := by
  have l6 := (yc_W Y).2.2.2.1
  have eb := yt_eb (s := yW B) (p := p) (by omega)
  by_cases e : yt_e (yW B) p - p ≤ 3
  · have q2 : yt_q (yW B) p = 2 := by
      unfold yt_q
      rw [if_neg (by omega), if_neg (by omega)]
      exact hq
    obtain ⟨_, _, dg⟩ := yt_q2 q2
    obtain ⟨h1, e1, Y1, F1⟩ := yc_s Y 7 (by decide) 0
    obtain ⟨h2, n2, e2, Y2, F2, p2, r2⟩ := yc_value (N := N) (e0 := yt_e (yW B) p) (yt_e (yW B) p - p) N p 0 h1 _ Y1 ((zc_un nu _ (by decide)).trans h6) (zc_us _ _ _) (by omega) eb.2.1 (by omega) dg
    refine ⟨h2, n2, ?_, Y2, zc_Ft F1 F2, ?_, fun _ => p2, fun x => absurd q2 x, fun k k4 k7 => (r2 k k7).trans (zc_un nu _ k7)⟩
    · unfold fC_readNumber
      rw [yc_T Y, cond_true, yc_i Y 6 (by decide), b1_s, h6, yc_i Y 5 (by decide), b1_s, h5, zw_sub, zqo_le _ _ (by omega) (by decide), decide_eq_true (by omega), cond_true, e1, b1_s, yc_i Y1 5 (by decide), b1_s, zc_un nu _ (show (5 : Nat) ≠ 7 by decide), h5]
      exact e2
    · rw [q2, r2 4 (by decide), zc_un nu _ (show (4 : Nat) ≠ 7 by decide)]
      exact h4
  · have q7 : yt_q (yW B) p = 7 := by
      unfold yt_q
      rw [if_neg (by omega), if_pos ⟨hq, by omega⟩]
    obtain ⟨h1, e1, Y1, F1⟩ := yc_s Y 4 (by decide) 7
    refine ⟨h1, _, ?_, Y1, F1, ?_, fun x => ?_, fun _ => zc_un nu _ (by decide), fun k k4 _ => zc_un nu _ k4⟩
    · unfold fC_readNumber
      rw [yc_T Y, cond_true, yc_i Y 6 (by decide), b1_s, h6, yc_i Y 5 (by decide), b1_s, h5, zw_sub, zqo_le _ _ (by omega) (by decide), decide_eq_false (by omega), cond_false, e1, b1_s]
    · rw [q7]
      exact zc_us _ _ _
    · rw [q7] at x
      exact absurd x (by decide)
/-- what the numbers are behind the token that begins at p -/
def yk (s : List Nat) (p : Nat) (nu nu' : Nat → Int) : Prop := nu' 4 = (yt_q s p : Int) ∧ nu' 5 = (p : Int) ∧ nu' 6 = (yt_e s p : Int) ∧ (yt_q s p = 2 → nu' 7 = (yt_v s p : Int)) ∧ (yt_q s p ≠ 2 → nu' 7 = nu 7) ∧ ∀ k, (k < 4 ∨ 7 < k) → nu' k = nu k
theorem yc_153 (hN : 1000 ≤ N) (Y : yc B h A nu) {p : Nat} (h5 : nu 5 = (p : Int)) (h6 : nu 6 = (yt_e (yW B) p : Int)) (h4 : nu 4 = (yt_k ((yW B).getD p 0) : Int)) (hp : p < (yW B).length) : ∃ h' nu', fC_readToken_153 N 203 h = some ((), h') ∧ yc B h' A nu' ∧ zc_F h h' ∧ yk (yW B) p nu nu' := by
  have kb := yt_kb ((yW B).getD p 0)
  by_cases e : yt_k ((yW B).getD p 0) = 2
  · obtain ⟨h1, n1, e1, Y1, F1, q4, q7, r7, r⟩ := yc_number hN Y h5 h6 (h4.trans (by omega)) hp e
    refine ⟨h1, n1, ?_, Y1, F1, q4, (r 5 (by decide) (by decide)).trans h5, (r 6 (by decide) (by decide)).trans h6, q7, r7, fun k hk => r k (by omega) (by omega)⟩
    unfold fC_readToken_153
    rw [yc_i Y 4 (by decide), b1_s, h4, zqo_ne _ _ (by omega) (by decide), decide_eq_true (by omega), Bool.not_true, cond_false, e1, b2]
  · have q : yt_q (yW B) p = yt_k ((yW B).getD p 0) := by
      unfold yt_q
      rw [if_neg (by omega), if_neg (fun x => e x.1)]
    refine ⟨h, nu, ?_, Y, zc_Fr h, by rw [q]; exact h4, h5, h6, fun x => absurd (q.symm.trans x) e, fun _ => rfl, fun _ _ => rfl⟩
    unfold fC_readToken_153
    rw [yc_i Y 4 (by decide), b1_s, h4, zqo_ne _ _ (by omega) (by decide), decide_eq_false (by omega), Bool.not_false, cond_true]
theorem yc_46 (hN : 1000 ≤ N) (Y : yc B h A nu) {p : Nat} (h6 : nu 6 = (p : Int)) (hp : p ≤ (yW B).length) : ∃ h' nu', fC_readToken_46 N 203 h = some ((), h') ∧ yc B h' A nu' ∧ zc_F h h' ∧ yk (yW B) p nu nu' := by
  have l6 := (yc_W Y).2.2.2.1
  have l256 := (yc_W Y).2.2.2.2.2
  obtain ⟨h1, e1, Y1, F1⟩ := yc_s Y 5 (by decide) (p : Int)
  have W1 := yc_W Y1
  by_cases e : (yW B).length ≤ p
  · obtain ⟨h2, e2, Y2, F2⟩ := yc_s Y1 4 (by decide) 0
    have q0 : yt_q (yW B) p = 0 := (yt_q0 hp).mpr (by omega)
    have ee : yt_e (yW B) p = p := by
      unfold yt_e
      rw [if_pos e]
    refine ⟨h2, _, ?_, Y2, zc_Ft F1 F2, ?_, ?_, ?_, fun x => absurd (q0.symm.trans x) (by decide), fun _ => ?_, fun k hk => ?_⟩
    · unfold fC_readToken_46
      rw [yc_i Y 6 (by decide), b1_s, h6, e1, b1_s, yc_r0 Y1, b1_s, yc_i Y1 6 (by decide), b1_s, zc_un nu _ (show (6 : Nat) ≠ 5 by decide), h6, zw_at W1 _ (by omega), b2, zw_go (Or.inr (by omega)), yt_kindE, b2, e2, b1_s, yc_i Y2 4 (by decide), b1_s, zc_us, show z_cmp .eq (Int32.ofInt 0) (Int32.ofInt 0) = true from rfl, cond_true]
      unfold fC_readToken_89
      rw [yc_i Y2 4 (by decide), b1_s, zc_us, show z_cmp .eq (Int32.ofInt 0) (Int32.ofInt 1) = false from rfl, cond_false, b1_s, show z_cmp .ne (Int32.ofInt 0) (Int32.ofInt 2) = true from rfl, cond_true]
      unfold fC_readToken_153
      rw [yc_i Y2 4 (by decide), b1_s, zc_us, show z_cmp .ne (Int32.ofInt 0) (Int32.ofInt 2) = true from rfl, cond_true]
    · rw [q0]
      exact zc_us _ _ _
    · rw [zc_un _ _ (show (5 : Nat) ≠ 4 by decide), zc_us]
    · rw [zc_un _ _ (show (6 : Nat) ≠ 4 by decide), zc_un _ _ (show (6 : Nat) ≠ 5 by decide), h6, ee]
    · rw [zc_un _ _ (show (7 : Nat) ≠ 4 by decide), zc_un _ _ (show (7 : Nat) ≠ 5 by decide)]
    · rw [zc_un _ _ (show k ≠ 4 by omega), zc_un _ _ (show k ≠ 5 by omega)]
  · have kb := yt_kb ((yW B).getD p 0)
    have g1 := zw_gD l256 p
    obtain ⟨h2, e2, Y2, F2⟩ := yc_s Y1 4 (by decide) (yt_k ((yW B).getD p 0) : Int)
    obtain ⟨h3, e3, Y3, F3⟩ := yc_s Y2 6 (by decide) ((p : Int) + 1)
    have s1 : fC_readToken_46 N 203 h = fC_readToken_89 N 203 h3 := by
      unfold fC_readToken_46
      rw [yc_i Y 6 (by decide), b1_s, h6, e1, b1_s, yc_r0 Y1, b1_s, yc_i Y1 6 (by decide), b1_s, zc_un nu _ (show (6 : Nat) ≠ 5 by decide), h6, zw_at W1 _ (by omega), b2, zw_gi (by omega), show ((p : Nat) : Int).toNat = p by omega, yt_kind N _ g1, b2, e2, b1_s, yc_i Y2 4 (by decide), b1_s, zc_us, zqo_eq _ _ (by omega) (by decide), decide_eq_false (by omega), cond_false, yc_i Y2 6 (by decide), b1_s, zc_un _ _ (show (6 : Nat) ≠ 4 by decide), zc_un _ _ (show (6 : Nat) ≠ 5 by decide), h6, zw_add, e3, b1_s]
    have n4 : zc_u (zc_u (zc_u nu 5 (p : Int)) 4 (yt_k ((yW B).getD p 0) : Int)) 6 ((p : Int) + 1) 4 = (yt_k ((yW B).getD p 0) : Int) := by rw [zc_un _ _ (show (4 : Nat) ≠ 6 by decide), zc_us]
    have n5 : zc_u (zc_u (zc_u nu 5 (p : Int)) 4 (yt_k ((yW B).getD p 0) : Int)) 6 ((p : Int) + 1) 5 = (p : Int) := by rw [zc_un _ _ (show (5 : Nat) ≠ 6 by decide), zc_un _ _ (show (5 : Nat) ≠ 4 by decide), zc_us]
    have nk : ∀ k, k ≠ 4 → k ≠ 5 → k ≠ 6 → zc_u (zc_u (zc_u nu 5 (p : Int)) 4 (yt_k ((yW B).getD p 0) : Int)) 6 ((p : Int) + 1) k = nu k := fun k a b c => by rw [zc_un _ _ c, zc_un _ _ a, zc_un _ _ b]
    have n6 : zc_u (zc_u (zc_u nu 5 (p : Int)) 4 (yt_k ((yW B).getD p 0) : Int)) 6 ((p : Int) + 1) 6 = (p : Int) + 1 := zc_us _ _ _
    by_cases ek : yt_k ((yW B).getD p 0) = 1 ∨ yt_k ((yW B).getD p 0) = 2
    · have s2 : fC_readToken_89 N 203 h3 = fC_readToken_105 N N 203 h3 := by
        unfold fC_readToken_89
        rw [yc_i Y3 4 (by decide), b1_s, n4, zqo_eq _ _ (by omega) (by decide)]
        by_cases ek1 : yt_k ((yW B).getD p 0) = 1
        · rw [decide_eq_true (by omega), cond_true]
        · rw [decide_eq_false (by omega), cond_false, b1_s, zqo_ne _ _ (by omega) (by decide), decide_eq_true (by omega), Bool.not_true, cond_false]
      obtain ⟨h4, m4, e4, Y4, F4, p4, r4⟩ := yc_more (N := N) (q := yt_k ((yW B).getD p 0)) (by omega) ((yW B).length - (p + 1)) N (p + 1) h3 _ Y3 (by rw [n6]; omega) n4 (by omega) (by omega)
      have ee : yt_e (yW B) p = yt_r (yW B) (yt_k ((yW B).getD p 0)) ((yW B).length - (p + 1)) (p + 1) := by
        unfold yt_e
        rw [if_neg e, if_pos ek]
      obtain ⟨h5, m5, e5, Y5, F5, K5⟩ := yc_153 hN Y4 (p := p) ((r4 5 (by decide)).trans n5) (by rw [ee]; exact p4) ((r4 4 (by decide)).trans n4) (by omega)
      refine ⟨h5, m5, by rw [s1, s2, e4, e5], Y5, zc_Ft F1 (zc_Ft F2 (zc_Ft F3 (zc_Ft F4 F5))), K5.1, K5.2.1, K5.2.2.1, K5.2.2.2.1, fun x => (K5.2.2.2.2.1 x).trans ((r4 7 (by decide)).trans (nk 7 (by decide) (by decide) (by decide))), fun k hk => (K5.2.2.2.2.2 k hk).trans ((r4 k (by omega)).trans (nk k (by omega) (by omega) (by omega)))⟩
    · have s2 : fC_readToken_89 N 203 h3 = fC_readToken_153 N 203 h3 := by
        unfold fC_readToken_89
        rw [yc_i Y3 4 (by decide), b1_s, n4, zqo_eq _ _ (by omega) (by decide), decide_eq_false (by omega), cond_false, b1_s, zqo_ne _ _ (by omega) (by decide), decide_eq_false (by omega), Bool.not_false, cond_true]
      have ee : yt_e (yW B) p = p + 1 := by
        unfold yt_e
        rw [if_neg e, if_neg ek]
      obtain ⟨h5, m5, e5, Y5, F5, K5⟩ := yc_153 hN Y3 (p := p) n5 (by rw [ee, n6]; omega) n4 (by omega)
      refine ⟨h5, m5, by rw [s1, s2, e5], Y5, zc_Ft F1 (zc_Ft F2 (zc_Ft F3 F5)), K5.1, K5.2.1, K5.2.2.1, K5.2.2.2.1, fun x => (K5.2.2.2.2.1 x).trans (nk 7 (by decide) (by decide) (by decide)), fun k hk => (K5.2.2.2.2.2 k hk).trans (nk k (by omega) (by omega) (by omega))⟩
/-- a token is read -/
theorem yc_tok (hN : 1000 ≤ N) (Y : yc B h A nu) {p : Nat} (h6 : nu 6 = (p : Int)) (hp : p ≤ (yW B).length) : ∃ h' nu', fC_readToken N 203 h = some ((), h') ∧ yc B h' A nu' ∧ zc_F h h' ∧ yk (yW B) (yt_s (yW B) p) nu nu' := by
  have l6 := (yc_W Y).2.2.2.1
  obtain ⟨h1, n1, e1, Y1, F1, p1, r1⟩ := yc_skip (N := N) ((yW B).length - p) N p h nu Y h6 (by omega) (by omega)
  obtain ⟨h2, n2, e2, Y2, F2, k1, k2, k3, k4, k5, k6⟩ := yc_46 hN Y1 (p := yt_s (yW B) p) p1 (yt_sb hp).2
  refine ⟨h2, n2, ?_, Y2, zc_Ft F1 F2, k1, k2, k3, k4, fun x => (k5 x).trans (r1 7 (by decide)), fun k hk => (k6 k hk).trans (r1 k (by omega))⟩
  unfold fC_readToken
  rw [yc_T Y, cond_true, e1, e2]
theorem yc_fail (Y : yc B h A nu) (x : Int) : ∃ h' nu', fC_fail N 203 (Int32.ofInt x) h = some (Int32.ofInt 0, h') ∧ yc B h' A nu' ∧ zc_F h h' ∧ ∀ k, k ≠ 2 → k ≠ 3 → nu' k = nu k := by
  obtain ⟨h1, e1, Y1, F1⟩ := yc_s Y 2 (by decide) x
  obtain ⟨h2, e2, Y2, F2⟩ := yc_s Y1 3 (by decide) (nu 5)
  refine ⟨h2, _, ?_, Y2, zc_Ft F1 F2, fun k k2 k3 => by rw [zc_un _ _ k3, zc_un _ _ k2]⟩
  unfold fC_fail
  rw [yc_T Y, cond_true, e1, b1_s, yc_i Y1 5 (by decide), b1_s, zc_un nu _ (show (5 : Nat) ≠ 2 by decide), e2, b1_s]
/-- one kind of token is expected -/
theorem yc_expect (hN : 1000 ≤ N) (Y : yc B h A nu) {p : Nat} (h6 : nu 6 = (p : Int)) (hp : p ≤ (yW B).length) (w : Int) (hw : 0 ≤ w ∧ w ≤ 7) : ((yt_q (yW B) (yt_s (yW B) p) : Int) = w ∧ ∃ h' nu', fC_expect N 203 (Int32.ofInt w) h = some (Int32.ofInt 1, h') ∧ yc B h' A nu' ∧ zc_F h h' ∧ yk (yW B) (yt_s (yW B) p) nu nu') ∨ ((yt_q (yW B) (yt_s (yW B) p) : Int) ≠ w ∧ ∃ h' nu', fC_expect N 203 (Int32.ofInt w) h = some (Int32.ofInt 0, h') ∧ yc B h' A nu' ∧ zc_F h h' ∧ yn nu nu') := by
  have qb := yt_qb (yW B) (yt_s (yW B) p)
  obtain ⟨h1, n1, e1, Y1, F1, K1⟩ := yc_tok hN Y h6 hp
  by_cases e : (yt_q (yW B) (yt_s (yW B) p) : Int) = w
  · refine Or.inl ⟨e, h1, n1, ?_, Y1, F1, K1⟩
    unfold fC_expect
    rw [yc_T Y, cond_true, e1, b2, yc_i Y1 4 (by decide), b1_s, K1.1, zqo_eq _ _ (by omega) (by omega), decide_eq_true e, cond_true]
    rfl
  · obtain ⟨h2, n2, e2, Y2, F2, r2⟩ := yc_fail (N := N) Y1 1
    refine Or.inr ⟨e, h2, n2, ?_, Y2, zc_Ft F1 F2, fun k hk => (r2 k (by omega) (by omega)).trans (K1.2.2.2.2.2 k (by omega))⟩
    unfold fC_expect
    rw [yc_T Y, cond_true, e1, b2, yc_i Y1 4 (by decide), b1_s, K1.1, zqo_eq _ _ (by omega) (by omega), decide_eq_false e, cond_false, e2, b2]
    rfl
end YCB
/-- a number in its bounds: its value and its end -/
def ym_num (s : List Nat) (p : Nat) (lo hi : Int) : Option (Nat × Nat) := if yt_q s (yt_s s p) = 2 ∧ lo ≤ (yt_v s (yt_s s p) : Int) ∧ (yt_v s (yt_s s p) : Int) ≤ hi then some (yt_v s (yt_s s p), yt_e s (yt_s s p)) else none
/-- a semicolon: its end -/
def ym_sem (s : List Nat) (p : Nat) : Option Nat := if yt_q s (yt_s s p) = 5 then some (yt_e s (yt_s s p)) else none
theorem ym_semb {s : List Nat} {p e : Nat} (hp : p ≤ s.length) (h : ym_sem s p = some e) : yt_q s (yt_s s p) = 5 ∧ e = yt_e s (yt_s s p) ∧ p < e ∧ e ≤ s.length := by
  unfold ym_sem at h
  split at h
  · next q =>
    cases h
    have b1' := yt_sb hp
    have b2' := yt_eb b1'.2
    have : yt_s s p ≠ s.length := fun x => by
      have := (yt_q0 b1'.2).mpr x
      omega
    exact ⟨q, rfl, by omega, b2'.2.1⟩
  · cases h
theorem ym_numb {s : List Nat} {p v e : Nat} {lo hi : Int} (hp : p ≤ s.length) (h : ym_num s p lo hi = some (v, e)) : yt_q s (yt_s s p) = 2 ∧ v = yt_v s (yt_s s p) ∧ e = yt_e s (yt_s s p) ∧ p < e ∧ e ≤ s.length ∧ lo ≤ (v : Int) ∧ (v : Int) ≤ hi ∧ v ≤ 999 := by
  unfold ym_num at h
  split at h
  · next q =>
    cases h
    have b1' := yt_sb hp
    have b2' := yt_eb b1'.2
    have : yt_s s p ≠ s.length := fun x => by
      have := (yt_q0 b1'.2).mpr x
      omega
    exact ⟨q.1, rfl, rfl, by omega, b2'.2.1, q.2.1, q.2.2, yt_v999 q.1⟩
  · cases h
section YCD
variable {N : Nat} {B : yB} {h : zH} {A : zA} {nu : Nat → Int}
theorem yc_num (hN : 1000 ≤ N) (Y : yc B h A nu) {p : Nat} (h6 : nu 6 = (p : Int)) (hp : p ≤ (yW B).length) (lo hi : Int) (hlo : -2147483648 ≤ lo ∧ lo < 2147483648) (hhi : -2147483648 ≤ hi ∧ hi < 2147483648) : (∃ v e, ym_num (yW B) p lo hi = some (v, e) ∧ ∃ h' nu', fC_expectNumber N 203 (Int32.ofInt lo) (Int32.ofInt hi) h = some (Int32.ofInt 1, h') ∧ yc B h' A nu' ∧ zc_F h h' ∧ yn nu nu' ∧ nu' 6 = (e : Int) ∧ nu' 7 = (v : Int)) ∨ (ym_num (yW B) p lo hi = none ∧ ∃ h' nu', fC_expectNumber N 203 (Int32.ofInt lo) (Int32.ofInt hi) h = some (Int32.ofInt 0, h') ∧ yc B h' A nu' ∧ zc_F h h' ∧ yn nu nu') := by
  have qb := yt_qb (yW B) (yt_s (yW B) p)
  obtain ⟨h1, n1, e1, Y1, F1, K1⟩ := yc_tok hN Y h6 hp
  have yn1 : yn nu n1 := fun k hk => K1.2.2.2.2.2 k (by omega)
  have s1 : ∀ g : Unit → zH → Option (Int32 × zH), cond (fT h 203 2) (b2 (fC_readToken N 203 h) g) none = g () h1 := fun g => by rw [yc_T Y, cond_true, e1, b2]
  by_cases e : yt_q (yW B) (yt_s (yW B) p) = 2
  · have v9 := yt_v999 e
    have k7 := K1.2.2.2.1 e
    obtain ⟨h2, n2, e2, Y2, F2, r2⟩ := yc_fail (N := N) Y1 2
    have yn2 : yn nu n2 := yn_t yn1 (fun k hk => r2 k (by omega) (by omega))
    have s34 : fC_expectNumber_34 N 203 h1 = some (Int32.ofInt 0, h2) := by
      unfold fC_expectNumber_34
      rw [e2, b2]
      rfl
    by_cases e3 : lo ≤ (yt_v (yW B) (yt_s (yW B) p) : Int)
    · by_cases e4 : (yt_v (yW B) (yt_s (yW B) p) : Int) ≤ hi
      · refine Or.inl ⟨_, _, if_pos ⟨e, e3, e4⟩, h1, n1, ?_, Y1, F1, yn1, K1.2.2.1, k7⟩
        unfold fC_expectNumber
        rw [s1, yc_i Y1 4 (by decide), b1_s, K1.1, zqo_eq _ _ (by omega) (by decide), decide_eq_true (by omega), cond_true, yc_i Y1 7 (by decide), b1_s, k7, zqo_lt _ _ (by omega) hlo, decide_eq_false (by omega), cond_false, b1_s, zqo_le _ _ (by omega) hhi, decide_eq_true e4, cond_true]
        rfl
      · refine Or.inr ⟨if_neg (fun x => e4 x.2.2), h2, n2, ?_, Y2, zc_Ft F1 F2, yn2⟩
        unfold fC_expectNumber
        rw [s1, yc_i Y1 4 (by decide), b1_s, K1.1, zqo_eq _ _ (by omega) (by decide), decide_eq_true (by omega), cond_true, yc_i Y1 7 (by decide), b1_s, k7, zqo_lt _ _ (by omega) hlo, decide_eq_false (by omega), cond_false, b1_s, zqo_le _ _ (by omega) hhi, decide_eq_false e4, cond_false]
        exact s34
    · refine Or.inr ⟨if_neg (fun x => e3 x.2.1), h2, n2, ?_, Y2, zc_Ft F1 F2, yn2⟩
      unfold fC_expectNumber
      rw [s1, yc_i Y1 4 (by decide), b1_s, K1.1, zqo_eq _ _ (by omega) (by decide), decide_eq_true (by omega), cond_true, yc_i Y1 7 (by decide), b1_s, k7, zqo_lt _ _ (by omega) hlo, decide_eq_true (by omega), cond_true]
      exact s34
  · obtain ⟨h2, n2, e2, Y2, F2, r2⟩ := yc_fail (N := N) Y1 1
    refine Or.inr ⟨if_neg (fun x => e x.1), h2, n2, ?_, Y2, zc_Ft F1 F2, yn_t yn1 (fun k hk => r2 k (by omega) (by omega))⟩
    unfold fC_expectNumber
    rw [s1, yc_i Y1 4 (by decide), b1_s, K1.1, zqo_eq _ _ (by omega) (by decide), decide_eq_false (by omega), cond_false, e2, b2]
    rfl
theorem yc_sem (hN : 1000 ≤ N) (Y : yc B h A nu) {p : Nat} (h6 : nu 6 = (p : Int)) (hp : p ≤ (yW B).length) : (∃ e, ym_sem (yW B) p = some e ∧ ∃ h' nu', fC_expect N 203 (Int32.ofInt 5) h = some (Int32.ofInt 1, h') ∧ yc B h' A nu' ∧ zc_F h h' ∧ yn nu nu' ∧ nu' 6 = (e : Int) ∧ nu' 7 = nu 7) ∨ (ym_sem (yW B) p = none ∧ ∃ h' nu', fC_expect N 203 (Int32.ofInt 5) h = some (Int32.ofInt 0, h') ∧ yc B h' A nu' ∧ zc_F h h' ∧ yn nu nu') := by
  rcases yc_expect hN Y h6 hp 5 (by decide) with ⟨e, h1, n1, e1, Y1, F1, K1⟩ | ⟨e, h1, n1, e1, Y1, F1, K1⟩
  · exact Or.inl ⟨_, if_pos (by omega), h1, n1, e1, Y1, F1, fun k hk => K1.2.2.2.2.2 k (by omega), K1.2.2.1, K1.2.2.2.2.1 (by omega)⟩
  · exact Or.inr ⟨if_neg (by omega), h1, n1, e1, Y1, F1, K1⟩
/-- the semicolon of a command that is possible or not -/
theorem yc_end (hN : 1000 ≤ N) (Y : yc B h A nu) {p : Nat} (h6 : nu 6 = (p : Int)) (hp : p ≤ (yW B).length) (b : Bool) : (∃ e, ym_sem (yW B) p = some e ∧ b = true ∧ ∃ h' nu', fC_expectEnd N 203 (cond b (Int32.ofInt 1) (Int32.ofInt 0)) h = some (Int32.ofInt 1, h') ∧ yc B h' A nu' ∧ zc_F h h' ∧ yn nu nu' ∧ nu' 6 = (e : Int) ∧ nu' 7 = nu 7) ∨ ((ym_sem (yW B) p = none ∨ b = false) ∧ ∃ h' nu', fC_expectEnd N 203 (cond b (Int32.ofInt 1) (Int32.ofInt 0)) h = some (Int32.ofInt 0, h') ∧ yc B h' A nu' ∧ zc_F h h' ∧ yn nu nu') := by
  have qb := yt_qb (yW B) (yt_s (yW B) p)
  obtain ⟨h1, n1, e1, Y1, F1, K1⟩ := yc_tok hN Y h6 hp
  have yn1 : yn nu n1 := fun k hk => K1.2.2.2.2.2 k (by omega)
  have s1 : ∀ g : Unit → zH → Option (Int32 × zH), cond (fT h 203 2) (b2 (fC_readToken N 203 h) g) none = g () h1 := fun g => by rw [yc_T Y, cond_true, e1, b2]
  by_cases e : yt_q (yW B) (yt_s (yW B) p) = 5
  · cases b with
    | true =>
      refine Or.inl ⟨_, if_pos e, rfl, h1, n1, ?_, Y1, F1, yn1, K1.2.2.1, K1.2.2.2.2.1 (by omega)⟩
      unfold fC_expectEnd
      rw [s1, yc_i Y1 4 (by decide), b1_s, K1.1, zqo_eq _ _ (by omega) (by decide), decide_eq_true (by omega), cond_true, cond_true, show z_cmp .ne (Int32.ofInt 1) (Int32.ofInt 0) = true from rfl, cond_true]
      rfl
    | false =>
      obtain ⟨h2, n2, e2, Y2, F2, r2⟩ := yc_fail (N := N) Y1 3
      refine Or.inr ⟨Or.inr rfl, h2, n2, ?_, Y2, zc_Ft F1 F2, yn_t yn1 (fun k hk => r2 k (by omega) (by omega))⟩
      unfold fC_expectEnd
      rw [s1, yc_i Y1 4 (by decide), b1_s, K1.1, zqo_eq _ _ (by omega) (by decide), decide_eq_true (by omega), cond_true, cond_false, show z_cmp .ne (Int32.ofInt 0) (Int32.ofInt 0) = false from rfl, cond_false, e2, b2]
      rfl
  · obtain ⟨h2, n2, e2, Y2, F2, r2⟩ := yc_fail (N := N) Y1 1
    refine Or.inr ⟨Or.inl (if_neg e), h2, n2, ?_, Y2, zc_Ft F1 F2, yn_t yn1 (fun k hk => r2 k (by omega) (by omega))⟩
    unfold fC_expectEnd
    rw [s1, yc_i Y1 4 (by decide), b1_s, K1.1, zqo_eq _ _ (by omega) (by decide), decide_eq_false (by omega), cond_false, e2, b2]
    rfl
end YCD
