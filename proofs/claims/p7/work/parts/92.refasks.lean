/-! THE REFERENCE'S ENDINGS. -/
theorem zw_cmpn : ∀ l m : List Nat, zw_cmp m l = -zw_cmp l m := by
  intro l
  induction l with
  | nil =>
    intro m
    cases m <;> rfl
  | cons x l ih =>
    intro m
    cases m with
    | nil => rfl
    | cons b m =>
      rw [zw_cmp, zw_cmp]
      by_cases e : x = b
      · rw [if_pos e, if_pos e.symm, ih m]
      · rw [if_neg e, if_neg (fun y => e y.symm)]
        by_cases e2 : x < b
        · rw [if_pos e2, if_neg (by omega)]
          rfl
        · rw [if_neg e2, if_pos (by omega)]
theorem zw_cmpl : ∀ l m k : List Nat, zw_cmp l m = -1 → zw_cmp m k = -1 → zw_cmp l k = -1 := by
  intro l
  induction l with
  | nil =>
    intro m k h1 h2
    cases m with
    | nil => exact absurd h1 (by decide)
    | cons b m =>
      cases k with
      | nil => exact absurd h2 (by rw [zw_cmp]; decide)
      | cons c k => rfl
  | cons x l ih =>
    intro m k h1 h2
    cases m with
    | nil => exact absurd h1 (by rw [zw_cmp]; decide)
    | cons b m =>
      cases k with
      | nil => exact absurd h2 (by rw [zw_cmp]; decide)
      | cons c k =>
        rw [zw_cmp] at h1 h2 ⊢
        by_cases e1 : x = b
        · rw [if_pos e1] at h1
          by_cases e2 : b = c
          · rw [if_pos e2] at h2
            rw [if_pos (e1.trans e2)]
            exact ih m k h1 h2
          · rw [if_neg e2] at h2
            by_cases e3 : b < c
            · rw [if_neg (by omega), if_pos (by omega)]
            · rw [if_neg e3] at h2
              exact absurd h2 (by decide)
        · rw [if_neg e1] at h1
          by_cases e3 : x < b
          · by_cases e2 : b = c
            · rw [if_neg (by omega), if_pos (by omega)]
            · rw [if_neg e2] at h2
              by_cases e4 : b < c
              · rw [if_neg (by omega), if_pos (by omega)]
              · rw [if_neg e4] at h2
                exact absurd h2 (by decide)
          · rw [if_neg e3] at h1
            exact absurd h1 (by decide)
theorem zw_cmpt {sg : Int} (hs : sg = -1 ∨ sg = 1) {l m k : List Nat} (h1 : zw_cmp l m = sg) (h2 : zw_cmp m k = sg) : zw_cmp l k = sg := by
  rcases hs with rfl | rfl
  · exact zw_cmpl l m k h1 h2
  · have a := zw_cmpn l m
    have b := zw_cmpn m k
    have := zw_cmpl k m l (by omega) (by omega)
    have c := zw_cmpn l k
    omega
/-- the ending x is the extreme one among those in P -/
def zm_Xt (T : List Nat) (sg : Int) (P : Nat → Prop) (x : Nat) : Prop := ∀ j, P j → j < T.length → j ≠ x → zw_cmp (zw_p T x T.length) (zw_p T j T.length) = sg
theorem zm_pe0 {T : List Nat} {x y : Nat} (hx : x < T.length) (hy : y < T.length) (h : x ≠ y) : zw_cmp (zw_p T x T.length) (zw_p T y T.length) ≠ 0 := by
  intro e
  have := congrArg List.length ((zw_cmp0 _ _).mp e)
  rw [zw_pl _ _ _ (Nat.le_refl _), zw_pl _ _ _ (Nat.le_refl _)] at this
  omega
/-- one ending more -/
theorem zm_Xts {T : List Nat} {sg : Int} (hs : sg = -1 ∨ sg = 1) {P : Nat → Prop} {x c : Nat} (hx : x < T.length) (hc : c < T.length) (hxc : x ≠ c) (h : zm_Xt T sg P x) (hP : P x) : (zw_cmp (zw_p T c T.length) (zw_p T x T.length) = sg → zm_Xt T sg (fun j => j = c ∨ P j) c) ∧ (zw_cmp (zw_p T c T.length) (zw_p T x T.length) ≠ sg → zm_Xt T sg (fun j => j = c ∨ P j) x) := by
  refine ⟨fun e j hj hl hn => ?_, fun e j hj hl hn => ?_⟩
  · rcases hj with hj | hj
    · exact absurd hj hn
    · by_cases ex : j = x
      · rw [ex]
        exact e
      · exact zw_cmpt hs e (h j hj hl ex)
  · rcases hj with hj | hj
    · subst hj
      have n := zw_cmpn (zw_p T j T.length) (zw_p T x T.length)
      have z := zm_pe0 hc hx (fun y => hxc y.symm)
      rcases zw_cmpb (zw_p T j T.length) (zw_p T x T.length) with w | w | w <;> omega
    · exact h j hj hl hn
theorem zm_Xtu {T : List Nat} {sg : Int} (hs : sg = -1 ∨ sg = 1) {x y : Nat} (hx : x < T.length) (hy : y < T.length) (h1 : zm_Xt T sg (fun _ => True) x) (h2 : zm_Xt T sg (fun _ => True) y) : x = y := by
  by_cases e : x = y
  · exact e
  · have a := h1 y trivial hy (fun z => e z.symm)
    have b := h2 x trivial hx e
    have n := zw_cmpn (zw_p T x T.length) (zw_p T y T.length)
    omega
theorem zm_exE {T : List Nat} {sg : Int} (hs : sg = -1 ∨ sg = 1) : ∀ c b, c ≤ b → b < T.length → zm_Xt T sg (fun j => c ≤ j) b → zm_Xt T sg (fun _ => True) (zw_ex T sg c b) := by
  intro c
  induction c with
  | zero =>
    intro b h1 h2 h3 j _ hl hn
    exact h3 j (Nat.zero_le _) hl hn
  | succ c ih =>
    intro b h1 h2 h3
    obtain ⟨s1, s2⟩ := zm_Xts hs h2 (show c < T.length by omega) (by omega) h3 h1
    rw [zw_ex]
    by_cases e : zw_cmp (zw_p T c T.length) (zw_p T b T.length) = sg
    · rw [if_pos e]
      exact ih c (Nat.le_refl _) (by omega) (fun j hj hl hn => s1 e j (Or.inr (by omega)) hl hn)
    · rw [if_neg e]
      exact ih b (by omega) h2 (fun j hj hl hn => s2 e j (by
        by_cases ej : j = c
        · exact Or.inl ej
        · exact Or.inr (by omega)) hl hn)
section ZYV
variable {N : Nat} {h : zH} {fl fl' : Nat → Int} {a a' : Nat → Nat → Int} {bef now snap : zA} {hist : List zA} {sv t : Int} {inp : List Nat} {rep : zvP} {T : List Nat}
theorem zr_suffix4 (hN : 1000 ≤ N) (H : zr h fl a) (tx : zr_tx a T) (hT : T.length ≤ 120) (hv : ∀ v ∈ T, v < 256) {sg : Int} (hs : sg = -1 ∨ sg = 1) : ∀ (c f i x : Nat), i + c = T.length → x < i → c < f → zm_Xt T sg (fun j => j < i) x → ∃ y : Nat, fM_suffix_4 N f 232 (Int32.ofInt sg) (Int32.ofInt (x : Int)) (Int32.ofInt (i : Int)) h = some (Int32.ofInt (y : Int), h) ∧ y < T.length ∧ zm_Xt T sg (fun _ => True) y := by
  have g1 : fAI h 233 100 (Int32.ofInt 1) = some (Int32.ofInt (a 233 1)) := zr_w H 1 (by decide)
  intro c
  induction c with
  | zero =>
    intro f i x h1 h2 h3 h4
    obtain ⟨g, rfl⟩ : ∃ g, f = g + 1 := ⟨f - 1, by omega⟩
    refine ⟨x, ?_, by omega, fun j _ hl hn => h4 j (by omega) hl hn⟩
    rw [fM_suffix_4, zr_r0 H, b1_s, g1, b1_s, tx.1, zqo_ge _ _ (by omega) (by omega), decide_eq_true (by omega), cond_true]
  | succ c ih =>
    intro f i x h1 h2 h3 h4
    obtain ⟨g, rfl⟩ : ∃ g, f = g + 1 := ⟨f - 1, by omega⟩
    obtain ⟨q, q1, q2, q3, q4⟩ := zr_cmpT (N := N) hN H tx hT hv (x := i) (y := T.length) (z := x) (w := T.length) (by omega) (Nat.le_refl _) (by omega) (Nat.le_refl _)
    obtain ⟨s1, s2⟩ := zm_Xts hs (show x < T.length by omega) (show i < T.length by omega) (by omega) h4 h2
    have z := zm_pe0 (show i < T.length by omega) (show x < T.length by omega) (by omega)
    have nz : q ≠ 0 := fun y => z (q4.mp y)
    rw [fM_suffix_4, zr_r0 H, b1_s, g1, b1_s, tx.1, zqo_ge _ _ (by omega) (by omega), decide_eq_false (by omega), cond_false, zqo_eq _ _ (by omega) (by decide), decide_eq_false (by omega), cond_false, b1_s, g1, b1_s, b1_s, g1, b1_s, tx.1, zw_add, zw_sub, zw_add, zw_sub, q1, b2, ← Int32.ofInt_mul, zqo_le _ _ (by rcases hs with e | e <;> rw [e] <;> omega) (by decide)]
    unfold fM_suffix_50 fM_suffix_52
    rw [zh_inc]
    by_cases e : zw_cmp (zw_p T i T.length) (zw_p T x T.length) = sg
    · have sq : ¬ sg * q ≤ 0 := by
        rcases hs with rfl | rfl
        · have := q3.mpr e
          omega
        · have : ¬ q < 0 := fun y => by rw [q3.mp y] at e; exact absurd e (by decide)
          omega
      rw [decide_eq_false sq, cond_false]
      exact ih g (i + 1) i (by omega) (by omega) (by omega) (fun j hj hl hn => s1 e j (Or.inr (by omega)) hl hn)
    · have sq : sg * q ≤ 0 := by
        rcases hs with rfl | rfl
        · have : ¬ q < 0 := fun y => e (q3.mp y)
          omega
        · rcases zw_cmpb (zw_p T i T.length) (zw_p T x T.length) with w | w | w
          · have := q3.mpr w
            omega
          · exact absurd w z
          · exact absurd w e
      rw [decide_eq_true sq, cond_true]
      exact ih g (i + 1) x (by omega) (by omega) (by omega) (fun j hj hl hn => s2 e j (by
        by_cases ej : j = i
        · exact Or.inl ej
        · exact Or.inr (by omega)) hl hn)
theorem zr_suffix (hN : 1000 ≤ N) (H : zr h fl a) (tx : zr_tx a T) (hT : T.length ≤ 120) (hv : ∀ v ∈ T, v < 256) {sg : Int} (hs : sg = -1 ∨ sg = 1) : fM_suffix N 232 (Int32.ofInt sg) h = some (Int32.ofInt (zw_ext T sg), h) := by
  have g1 : fAI h 233 100 (Int32.ofInt 1) = some (Int32.ofInt (a 233 1)) := zr_w H 1 (by decide)
  obtain ⟨g, hg⟩ : ∃ g, N = g + 1 := ⟨N - 1, by omega⟩
  unfold fM_suffix zw_ext
  rw [zr_T H, cond_true]
  have st : fM_suffix_4 N N 232 (Int32.ofInt sg) (Int32.ofInt (-1)) (Int32.ofInt 0) h = fM_suffix_4 N (g + 1) 232 (Int32.ofInt sg) (Int32.ofInt (-1)) (Int32.ofInt 0) h := by rw [← hg]
  rw [st, fM_suffix_4, zr_r0 H, b1_s, g1, b1_s, tx.1, zqo_ge _ _ (by decide) (by omega)]
  by_cases e : T.length = 0
  · rw [decide_eq_true (by omega), cond_true, if_pos e]
  · rw [decide_eq_false (by omega), cond_false, if_neg e, zqo_eq _ _ (by decide) (by decide), decide_eq_true rfl, cond_true]
    unfold fM_suffix_50 fM_suffix_52
    obtain ⟨y, y1, y2, y3⟩ := zr_suffix4 (N := N) hN H tx hT hv hs (T.length - 1) g 1 0 (by omega) (by decide) (by omega) (fun j hj hl hn => absurd hj (by omega))
    have e0 : zm_Xt T sg (fun j => T.length - 1 ≤ j) (T.length - 1) := fun j (hj : T.length - 1 ≤ j) hl hn => absurd (show j = T.length - 1 by omega) hn
    have ex := zm_exE hs (T.length - 1) (T.length - 1) (Nat.le_refl _) (by omega) e0
    have eb := zw_exb T sg (T.length - 1) (T.length - 1) (by omega) (by omega)
    rw [zm_Xtu hs eb y2 ex y3]
    exact y1
theorem zn_leastSuffix (Y : zy h now hist snap sv inp rep t) (ok : zv_ok now) (hN : 4000 ≤ N) : ∃ h', fM_leastSuffix N 232 h = some (Int32.ofInt (zw_ext now.2.1 (-1)), h') ∧ zy h' now hist snap sv inp rep 0 ∧ zr_F h h' := by
  obtain ⟨h1, e1, ⟨fl, a, H, R⟩, F1⟩ := zy_throw Y 0
  obtain ⟨fl0, a0, H0, R0⟩ := Y
  refine ⟨h1, ?_, ⟨fl, a, H, R⟩, F1⟩
  unfold fM_leastSuffix
  rw [zr_T H0, cond_true, e1, b1_s, zr_suffix (by omega) H (zyR_tx R) ok.2.1 (zv_256 ok) (Or.inl rfl)]
  rfl
theorem zn_greatestSuffix (Y : zy h now hist snap sv inp rep t) (ok : zv_ok now) (hN : 4000 ≤ N) : ∃ h', fM_greatestSuffix N 232 h = some (Int32.ofInt (zw_ext now.2.1 1), h') ∧ zy h' now hist snap sv inp rep 0 ∧ zr_F h h' := by
  obtain ⟨h1, e1, ⟨fl, a, H, R⟩, F1⟩ := zy_throw Y 0
  obtain ⟨fl0, a0, H0, R0⟩ := Y
  refine ⟨h1, ?_, ⟨fl, a, H, R⟩, F1⟩
  unfold fM_greatestSuffix
  rw [zr_T H0, cond_true, e1, b1_s, zr_suffix (by omega) H (zyR_tx R) ok.2.1 (zv_256 ok) (Or.inr rfl)]
  rfl
end ZYV
