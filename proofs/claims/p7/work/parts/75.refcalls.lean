/-! THE REFERENCE'S CHANGES OF THE TEXT. -/
theorem zr_nz {n : Nat} (h : 0 < n) (h2 : n < 2147483648) : Int32.ofInt (n : Int) ≠ Int32.ofInt 0 := by
  intro e
  have := congrArg Int32.toInt e
  rw [zqo_i _ (by omega), zqo_i _ (by decide)] at this
  omega
theorem zr_in (N : Nat) (x l u : Int) (hx : -2147483648 ≤ x ∧ x < 2147483648) (hl : -2147483648 ≤ l ∧ l < 2147483648) (hu : -2147483648 ≤ u ∧ u < 2147483648) (h : zH) : fM_in N (Int32.ofInt x) (Int32.ofInt l) (Int32.ofInt u) h = some (cond (decide (l ≤ x ∧ x ≤ u)) (Int32.ofInt 1) (Int32.ofInt 0), h) := by
  unfold fM_in
  rw [zqo_lt _ _ hx hl, zqo_gt _ _ hx hu]
  by_cases e : x < l
  · rw [decide_eq_true e, decide_eq_false (by omega : ¬ (l ≤ x ∧ x ≤ u))]
    rfl
  · rw [decide_eq_false e, cond_false]
    by_cases e2 : u < x
    · rw [decide_eq_true e2, decide_eq_false (by omega : ¬ (l ≤ x ∧ x ≤ u))]
      rfl
    · rw [decide_eq_false e2, decide_eq_true (by omega : l ≤ x ∧ x ≤ u)]
      rfl
theorem zm_clt {l : List Nat} (hv : ∀ v ∈ l, v < 256) (i : Nat) : zm_c l i < 256 := by
  unfold zm_c
  rw [List.getD_eq_getElem?_getD]
  cases e : l[i % l.length]? with
  | none => exact (by decide : (0 : Nat) < 256)
  | some v => exact hv v (List.mem_of_getElem? e)
section ZYD
variable {N : Nat} {h : zH} {fl fl' : Nat → Int} {a a' : Nat → Nat → Int} {bef now snap : zA} {hist : List zA} {sv t : Int} {inp : List Nat} {rep : zvP} {T : List Nat}
theorem zr_isLetter (H : zr h fl a) {g : Nat} (e : a 233 0 = (g : Int)) (hg : g ≤ 9) (x : Int) (hx : -2147483648 ≤ x ∧ x < 2147483648) : fM_isLetter N 232 (Int32.ofInt x) h = some (cond (decide (97 ≤ x ∧ x < 97 + (g : Int))) (Int32.ofInt 1) (Int32.ofInt 0), h) := by
  have g0 : fAI h 233 100 (Int32.ofInt 0) = some (Int32.ofInt (a 233 0)) := zr_w H 0 (by decide)
  unfold fM_isLetter
  rw [zr_T H, cond_true, zr_r0 H, b1_s, g0, b1_s, e, zw_add, zw_sub, zr_in N x _ _ hx (by decide) (by omega), b2]
  by_cases e2 : 97 ≤ x ∧ x < 97 + (g : Int)
  · rw [decide_eq_true e2, decide_eq_true (by omega : 97 ≤ x ∧ x ≤ 97 + (g : Int) - 1)]
    rfl
  · rw [decide_eq_false e2, decide_eq_false (by omega : ¬ (97 ≤ x ∧ x ≤ 97 + (g : Int) - 1))]
    rfl
theorem zy_one0 (Y : zy h now hist snap sv inp rep t) : ∃ h', fM_throwsOne N 232 (Int32.ofInt 0) h = some (Int32.ofInt 0, h') ∧ zy h' now hist snap sv inp rep 0 ∧ zr_F h h' := by
  obtain ⟨h1, e1, Y1, F1⟩ := zy_throw Y 0
  refine ⟨h1, ?_, Y1, F1⟩
  obtain ⟨fl, a, H, R⟩ := Y
  unfold fM_throwsOne
  rw [zr_T H, cond_true]
  show b1 (fS h 232 5 17 (.int (Int32.ofInt 0))) _ = _
  rw [e1]
  rfl
theorem zy_one1 (Y : zy h now hist snap sv inp rep t) : ∃ h', fM_throwsOne N 232 (Int32.ofInt 1) h = some (Int32.ofInt 1, h') ∧ zy h' now hist snap sv inp rep 1 ∧ zr_F h h' := by
  obtain ⟨h1, e1, Y1, F1⟩ := zy_throw Y 1
  refine ⟨h1, ?_, Y1, F1⟩
  obtain ⟨fl, a, H, R⟩ := Y
  unfold fM_throwsOne
  rw [zr_T H, cond_true]
  show b1 (fS h 232 5 17 (.int (Int32.ofInt 1))) _ = _
  rw [e1]
  rfl
theorem zy_two00 (Y : zy h now hist snap sv inp rep t) : ∃ h', fM_throwsOne2 N 232 (Int32.ofInt 0) (Int32.ofInt 0) h = some (Int32.ofInt 0, h') ∧ zy h' now hist snap sv inp rep 0 ∧ zr_F h h' := by
  obtain ⟨h1, e1, Y1, F1⟩ := zy_throw Y 0
  refine ⟨h1, ?_, Y1, F1⟩
  obtain ⟨fl, a, H, R⟩ := Y
  unfold fM_throwsOne2
  rw [zr_T H, cond_true]
  show b1 (fS h 232 5 17 (.int (Int32.ofInt 0))) _ = _
  rw [e1]
  rfl
theorem zy_two01 (Y : zy h now hist snap sv inp rep t) : ∃ h', fM_throwsOne2 N 232 (Int32.ofInt 0) (Int32.ofInt 1) h = some (Int32.ofInt 1, h') ∧ zy h' now hist snap sv inp rep 2 ∧ zr_F h h' := by
  obtain ⟨h1, e1, Y1, F1⟩ := zy_throw Y 2
  refine ⟨h1, ?_, Y1, F1⟩
  obtain ⟨fl, a, H, R⟩ := Y
  unfold fM_throwsOne2
  rw [zr_T H, cond_true]
  show b1 (fS h 232 5 17 (.int (Int32.ofInt 2))) _ = _
  rw [e1]
  rfl
theorem zy_two1 (Y : zy h now hist snap sv inp rep t) (x : Int32) : ∃ h', fM_throwsOne2 N 232 (Int32.ofInt 1) x h = some (Int32.ofInt 1, h') ∧ zy h' now hist snap sv inp rep 1 ∧ zr_F h h' := by
  obtain ⟨h1, e1, Y1, F1⟩ := zy_throw Y 1
  refine ⟨h1, ?_, Y1, F1⟩
  obtain ⟨fl, a, H, R⟩ := Y
  unfold fM_throwsOne2
  rw [zr_T H, cond_true]
  show b1 (fS h 232 5 17 (.int (Int32.ofInt 1))) _ = _
  rw [e1]
  rfl
theorem zr_tl {x : Nat} (l : List Nat) {i : Nat} (hi : i < x) : (l.take x).getD i 0 = l.getD i 0 := by
  rw [List.getD_eq_getElem?_getD, List.getElem?_take_of_lt hi, ← List.getD_eq_getElem?_getD]
theorem zy_drops (hN : 1000 ≤ N) (Y : zyp h bef now hist snap sv inp rep t) (ok : zv_ok now) (x : Nat) (hx : x ≤ now.2.1.length) : ∃ h', fM_drops N 232 (Int32.ofInt (x : Int)) h = some (Int32.ofInt ((zw_fs (now.2.1.take (now.2.1.length - x))).length : Int), h') ∧ zyp h' bef (now.1, now.2.1.take (now.2.1.length - x), now.2.2) hist snap sv inp rep t ∧ zr_F h h' := by
  obtain ⟨fl, a, H, R, B⟩ := Y
  have o2 := ok.2.1
  have o1 := ok.1.2
  obtain ⟨h1, f1, a1, e1, H1, F1, Q1, r1⟩ := zr_loads hN H (zyR_tx R) o2
  obtain ⟨h2, e2, H2, F2⟩ := zr_s H1 14 rfl ((now.2.1.length - x : Nat) : Int)
  have Q : zr_Q fl a (zr_u f1 14 ((now.2.1.length - x : Nat) : Int)) a1 := ⟨fun k hk => (if_neg hk).trans (Q1.1 k hk), Q1.2⟩
  have hl : (now.2.1.take (now.2.1.length - x)).length = now.2.1.length - x := by
    rw [List.length_take]
    omega
  obtain ⟨h3, ⟨h4, e4, e5⟩, Y3, F3⟩ := zy_takes hN H2 (zyR_Q R Q) (by rw [show a1 234 = a 234 from funext fun i => Q.2 234 i (by decide) (by decide)]; exact B) (T := now.2.1.take (now.2.1.length - x)) ⟨by rw [hl]; rfl, fun i hi => by
    rw [hl] at hi
    rw [zr_tl _ hi]
    exact r1.2 i (by omega)⟩ (by omega) (fun u hu => by
      have := ok.2.2.1 u (List.mem_of_mem_take hu)
      omega)
  refine ⟨h3, ?_, Y3, zr_Ft F1 (zr_Ft F2 F3)⟩
  unfold fM_drops
  rw [zr_T H, cond_true, e1, b2, zr_i H1 14 rfl, b1_s, r1.1, zw_sub, show (now.2.1.length : Int) - (x : Int) = ((now.2.1.length - x : Nat) : Int) by omega, e2, b1_s, e4, b2, e5]
  rfl
/-- two turns of the text -/
theorem zr_rotations2 (H : zr h fl a) (tx : zr_tx a T) (hT : T.length ≤ 120) (hv : ∀ v ∈ T, v < 256) {x y : Nat} (hx : x ≤ 1000) (hy : y ≤ 1000) : ∀ (c f i : Nat), i + c = T.length → c < f → fM_rotations_2 N f 232 (Int32.ofInt (x : Int)) (Int32.ofInt (y : Int)) (Int32.ofInt (i : Int)) h = some (Int32.ofInt (zm_ro T x y c), h) := by
  have g1 : fAI h 233 100 (Int32.ofInt 1) = some (Int32.ofInt (a 233 1)) := zr_w H 1 (by decide)
  intro c
  induction c with
  | zero =>
    intro f i h1 h2
    obtain ⟨g, rfl⟩ : ∃ g, f = g + 1 := ⟨f - 1, by omega⟩
    rw [fM_rotations_2, zr_r0 H, b1_s, g1, b1_s, tx.1, zqo_ge _ _ (by omega) (by omega), decide_eq_true (by omega), cond_true]
    rfl
  | succ c ih =>
    intro f i h1 h2
    obtain ⟨g, rfl⟩ : ∃ g, f = g + 1 := ⟨f - 1, by omega⟩
    have hn : 0 < T.length := by omega
    have m1 := Nat.mod_lt (i + x) hn
    have m2 := Nat.mod_lt (i + y) hn
    have k1 : fAI h 233 100 (Int32.ofInt (3 + (((i + x) % T.length : Nat) : Int))) = some (Int32.ofInt ((zm_c T (x + i) : Int) - 97)) := by
      rw [show 3 + (((i + x) % T.length : Nat) : Int) = ((3 + (i + x) % T.length : Nat) : Int) by omega, zr_w H _ (by omega), tx.2 _ m1, Nat.add_comm i x]
      rfl
    have k2 : fAI h 233 100 (Int32.ofInt (3 + (((i + y) % T.length : Nat) : Int))) = some (Int32.ofInt ((zm_c T (y + i) : Int) - 97)) := by
      rw [show 3 + (((i + y) % T.length : Nat) : Int) = ((3 + (i + y) % T.length : Nat) : Int) by omega, zr_w H _ (by omega), tx.2 _ m2, Nat.add_comm i y]
      rfl
    rw [fM_rotations_2, zr_r0 H, b1_s, g1, b1_s, tx.1, zqo_ge _ _ (by omega) (by omega), decide_eq_false (by omega), cond_false, b1_s, b1_s, g1, b1_s, tx.1, if_neg (zr_nz hn (by omega)), zw_add, show (i : Int) + (x : Int) = ((i + x : Nat) : Int) by omega, zw_modi _ _ (by omega) (by omega), zw_add, k1, b1_s, b1_s, b1_s, g1, b1_s, tx.1, if_neg (zr_nz hn (by omega)), zw_add, show (i : Int) + (y : Int) = ((i + y : Nat) : Int) by omega, zw_modi _ _ (by omega) (by omega), zw_add, k2, b1_s]
    have c1 := zm_clt hv (x + i)
    have c2 := zm_clt hv (y + i)
    rw [zw_sub, zqo_eq _ _ (by omega) (by decide), zm_ro, show T.length - (c + 1) = i by omega]
    by_cases e : zm_c T (x + i) = zm_c T (y + i)
    · rw [decide_eq_true (by omega), cond_true, if_pos e, zh_inc]
      exact ih g (i + 1) (by omega) (by omega)
    · rw [decide_eq_false (by omega), cond_false, if_neg e, show (zm_c T (x + i) : Int) - 97 - ((zm_c T (y + i) : Int) - 97) = (zm_c T (x + i) : Int) - (zm_c T (y + i) : Int) by omega]
theorem zr_rotations (hN : 1000 ≤ N) (H : zr h fl a) (tx : zr_tx a T) (hT : T.length ≤ 120) (hv : ∀ v ∈ T, v < 256) {x y : Nat} (hx : x ≤ 1000) (hy : y ≤ 1000) : fM_rotations N 232 (Int32.ofInt (x : Int)) (Int32.ofInt (y : Int)) h = some (Int32.ofInt (zm_ro T x y T.length), h) := by
  unfold fM_rotations
  rw [zr_T H, cond_true]
  exact zr_rotations2 H tx hT hv hx hy T.length N 0 (Nat.zero_add _) (by omega)
theorem zm_rob {l : List Nat} (hv : ∀ v ∈ l, v < 256) (i j : Nat) : ∀ c, -256 ≤ zm_ro l i j c ∧ zm_ro l i j c ≤ 256 := by
  intro c
  induction c with
  | zero =>
    show (-256 : Int) ≤ 0 ∧ (0 : Int) ≤ 256
    decide
  | succ c ih =>
    rw [zm_ro]
    have c1 := zm_clt hv (i + (l.length - (c + 1)))
    have c2 := zm_clt hv (j + (l.length - (c + 1)))
    split
    · exact ih
    · omega
theorem zr_least4 (hN : 1000 ≤ N) (H : zr h fl a) (tx : zr_tx a T) (hT : T.length ≤ 120) (hv : ∀ v ∈ T, v < 256) (hn : 0 < T.length) : ∀ (c f i x : Nat), i + c = T.length → x ≤ 120 → c < f → fM_least_4 N f 232 (Int32.ofInt (x : Int)) (Int32.ofInt (i : Int)) h = some (Int32.ofInt ((zm_lst T c x : Nat) : Int), h) := by
  have g1 : fAI h 233 100 (Int32.ofInt 1) = some (Int32.ofInt (a 233 1)) := zr_w H 1 (by decide)
  intro c
  induction c with
  | zero =>
    intro f i x h1 h2 h3
    obtain ⟨g, rfl⟩ : ∃ g, f = g + 1 := ⟨f - 1, by omega⟩
    rw [fM_least_4, zr_r0 H, b1_s, g1, b1_s, tx.1, zqo_ge _ _ (by omega) (by omega), decide_eq_true (by omega), cond_true]
    rfl
  | succ c ih =>
    intro f i x h1 h2 h3
    obtain ⟨g, rfl⟩ : ∃ g, f = g + 1 := ⟨f - 1, by omega⟩
    have b := zm_rob hv i x T.length
    rw [fM_least_4, zr_r0 H, b1_s, g1, b1_s, tx.1, zqo_ge _ _ (by omega) (by omega), decide_eq_false (by omega), cond_false, zr_rotations hN H tx hT hv (by omega) (by omega), b2, zqo_ge _ _ (by omega) (by decide), zm_lst, show T.length - (c + 1) = i by omega]
    by_cases e : zm_ro T i x T.length < 0
    · rw [decide_eq_false (by omega), cond_false, if_pos e]
      unfold fM_least_28
      rw [zh_inc]
      exact ih g (i + 1) i (by omega) (by omega) (by omega)
    · rw [decide_eq_true (by omega), cond_true, if_neg e]
      unfold fM_least_28
      rw [zh_inc]
      exact ih g (i + 1) x (by omega) (by omega) (by omega)
theorem zr_least (hN : 1000 ≤ N) (H : zr h fl a) (tx : zr_tx a T) (hT : T.length ≤ 120) (hv : ∀ v ∈ T, v < 256) (hn : 0 < T.length) : fM_least N 232 h = some (Int32.ofInt ((zm_least T : Nat) : Int), h) := by
  unfold fM_least
  rw [zr_T H, cond_true]
  exact zr_least4 hN H tx hT hv hn (T.length - 1) N 1 0 (by omega) (by decide) (by omega)
/-- the row becomes the turned text -/
theorem zr_rotated12 (tx0 : zr_tx a T) (hT : T.length ≤ 120) {x : Nat} (hx : x ≤ 120) {fl : Nat → Int} (h14 : fl 14 = (T.length : Int)) : ∀ (c f i : Nat) (h : zH) (a1 : Nat → Nat → Int), zr h fl a1 → (∀ p j, p ≠ 239 → a1 p j = a p j) → i + c = T.length → c < f → (∀ j, j < i → a1 239 j = (zm_c T (j + x) : Int) - 97) → ∃ h' a', fM_loadsRotated_12 N f 232 (Int32.ofInt (x : Int)) (Int32.ofInt (i : Int)) h = some ((), h') ∧ zr h' fl a' ∧ zr_F h h' ∧ (∀ p j, p ≠ 239 → a' p j = a p j) ∧ ∀ j, j < T.length → a' 239 j = (zm_c T (j + x) : Int) - 97 := by
  intro c
  induction c with
  | zero =>
    intro f i h a1 H h1 h2 h3 h4
    obtain ⟨g, rfl⟩ : ∃ g, f = g + 1 := ⟨f - 1, by omega⟩
    refine ⟨h, a1, ?_, H, zr_Fr h, h1, fun j hj => h4 j (by omega)⟩
    rw [fM_loadsRotated_12, zr_i H 14 rfl, b1_s, h14, zqo_ge _ _ (by omega) (by omega), decide_eq_true (by omega), cond_true]
  | succ c ih =>
    intro f i h a1 H h1 h2 h3 h4
    obtain ⟨g, rfl⟩ : ∃ g, f = g + 1 := ⟨f - 1, by omega⟩
    have hn : 0 < T.length := by omega
    have m1 := Nat.mod_lt (i + x) hn
    have k1 : fAI h 233 100 (Int32.ofInt (3 + (((i + x) % T.length : Nat) : Int))) = some (Int32.ofInt ((zm_c T (i + x) : Int) - 97)) := by
      rw [show 3 + (((i + x) % T.length : Nat) : Int) = ((3 + (i + x) % T.length : Nat) : Int) by omega, zr_w H _ (by omega), h1 233 _ (by decide), tx0.2 _ m1]
      rfl
    obtain ⟨h5, e5, H5, F5⟩ := zr_p H 239 i (by decide) (by decide) (by show i < 130; omega) ((zm_c T (i + x) : Int) - 97)
    obtain ⟨h6, a6, e6, H6, F6, p6, r6⟩ := ih g (i + 1) h5 _ H5 (fun p j hp => (zr_vn a1 _ (Or.inl hp)).trans (h1 p j hp)) (by omega) (by omega) (fun j hj => by
      by_cases e : j = i
      · rw [e, zr_vs]
      · rw [zr_vn a1 _ (Or.inr e)]
        exact h4 j (by omega))
    refine ⟨h6, a6, ?_, H6, zr_Ft F5 F6, p6, r6⟩
    rw [fM_loadsRotated_12, zr_i H 14 rfl, b1_s, h14, zqo_ge _ _ (by omega) (by omega), decide_eq_false (by omega), cond_false, zr_r8 H, b1_s, zr_r0 H, b1_s, b1_s, if_neg (zr_nz hn (by omega)), zw_add, show (i : Int) + (x : Int) = ((i + x : Nat) : Int) by omega, zw_modi _ _ (by omega) (by omega), zw_add, k1, b1_s]
    show b1 (fAS h 239 (zr_t 239) (Int32.ofInt (i : Int)) (.int (Int32.ofInt ((zm_c T (i + x) : Int) - 97)))) _ = _
    rw [e5, b1_s, zh_inc]
    exact e6
theorem zr_rotated (hN : 1000 ≤ N) (H : zr h fl a) (tx : zr_tx a T) (hT : T.length ≤ 120) {x : Nat} (hx : x ≤ T.length) : ∃ h' fl' a', fM_loadsRotated N 232 (Int32.ofInt (x : Int)) h = some ((), h') ∧ zr h' fl' a' ∧ zr_F h h' ∧ zr_Q fl a fl' a' ∧ zr_rw fl' a' (zw_trn T x) := by
  have g1 : fAI h 233 100 (Int32.ofInt 1) = some (Int32.ofInt (a 233 1)) := zr_w H 1 (by decide)
  obtain ⟨h1, e1, H1, F1⟩ := zr_s H 14 rfl (T.length : Int)
  obtain ⟨h2, a2, e2, H2, F2, p2, r2⟩ := zr_rotated12 (N := N) tx hT (x := x) (by omega) (fl := zr_u fl 14 (T.length : Int)) rfl T.length N 0 h1 a H1 (fun _ _ _ => rfl) (by omega) (by omega) (fun j hj => absurd hj (Nat.not_lt_zero j))
  refine ⟨h2, _, a2, ?_, H2, zr_Ft F1 F2, ⟨fun k hk => if_neg hk, fun p i h3 h4 => p2 p i h3⟩, ?_, fun i hi => ?_⟩
  · unfold fM_loadsRotated
    rw [zr_T H, cond_true, zr_r0 H, b1_s, g1, b1_s, tx.1, e1, b1_s]
    exact e2
  · rw [zw_trnl]
    rfl
  · rw [zw_trnl] at hi
    rw [r2 i hi, zm_trn hx hi]
end ZYD
