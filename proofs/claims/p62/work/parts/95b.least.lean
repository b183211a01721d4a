/-! The extreme endings of a word. -/
theorem zm_itc {l : List Nat} : ∀ c s, s ≤ l.length → l.length ≤ s + c → (∀ k, k < (zm_it l c s).length → ((zm_it l c s).getD k (0, 0)).2 = zw_lE l ((zm_it l c s).getD k (0, 0)).1 ∧ ((zm_it l c s).getD k (0, 0)).1 < l.length ∧ (k + 1 < (zm_it l c s).length → ((zm_it l c s).getD (k + 1) (0, 0)).1 = ((zm_it l c s).getD k (0, 0)).2) ∧ (k + 1 = (zm_it l c s).length → ((zm_it l c s).getD k (0, 0)).2 = l.length)) ∧ (s < l.length → 0 < (zm_it l c s).length ∧ ((zm_it l c s).getD 0 (0, 0)).1 = s) ∧ (s = l.length → (zm_it l c s).length = 0) := by
  intro c
  induction c with
  | zero =>
    intro s h1 h2
    exact ⟨fun k hk => absurd hk (Nat.not_lt_zero k), fun h => absurd h (by omega), fun _ => rfl⟩
  | succ c ih =>
    intro s h1 h2
    rw [zm_it]
    by_cases e : l.length ≤ s
    · rw [if_pos e]
      exact ⟨fun k hk => absurd hk (Nat.not_lt_zero k), fun h => absurd h (by omega), fun _ => rfl⟩
    · rw [if_neg e]
      have b := zw_lEb (l := l) (s := s) (by omega)
      obtain ⟨i1, i2, i3⟩ := ih (zw_lE l s) (by omega) (by omega)
      refine ⟨?_, fun _ => ⟨Nat.succ_pos _, rfl⟩, fun h => absurd h (by omega)⟩
      intro k hk
      cases k with
      | zero =>
        refine ⟨rfl, by show s < l.length; omega, fun h3 => ?_, fun h3 => ?_⟩
        · have h4 : 0 < (zm_it l c (zw_lE l s)).length := by
            rw [List.length_cons] at h3
            omega
          by_cases e2 : zw_lE l s = l.length
          · have := i3 e2
            omega
          · exact (i2 (by omega)).2
        · rw [List.length_cons] at h3
          by_cases e2 : zw_lE l s = l.length
          · exact e2
          · have := (i2 (by omega)).1
            omega
      | succ k =>
        rw [List.length_cons] at hk
        obtain ⟨j1, j2, j3, j4⟩ := i1 k (by omega)
        refine ⟨j1, j2, fun h3 => j3 ?_, fun h3 => j4 ?_⟩
        · rw [List.length_cons] at h3
          omega
        · rw [List.length_cons] at h3
          omega
theorem zw_cmp0 : ∀ l m : List Nat, zw_cmp l m = 0 ↔ l = m := by
  intro l
  induction l with
  | nil =>
    intro m
    cases m with
    | nil => exact ⟨fun _ => rfl, fun _ => rfl⟩
    | cons b m => exact ⟨fun h => absurd h (by rw [zw_cmp]; decide), fun h => by cases h⟩
  | cons x l ih =>
    intro m
    cases m with
    | nil => exact ⟨fun h => absurd h (by rw [zw_cmp]; decide), fun h => by cases h⟩
    | cons b m =>
      rw [zw_cmp]
      by_cases e : x = b
      · rw [if_pos e, ih m, e]
        exact ⟨fun h => by rw [h], fun h => (List.cons.inj h).2⟩
      · rw [if_neg e]
        refine ⟨fun h => ?_, fun h => absurd (List.cons.inj h).1 e⟩
        split at h <;> exact absurd h (by decide)
theorem zw_cmpn : ∀ l m : List Nat, zw_cmp m l = -zw_cmp l m := by
  intro l
  induction l with
  | nil =>
    intro m
    cases m <;> rfl
  | cons x l ih =>
    intro m
    cases m with
    | nil => rfl
    | cons b m =>
      rw [zw_cmp, zw_cmp]
      by_cases e : x = b
      · rw [if_pos e, if_pos e.symm, ih m]
      · rw [if_neg e, if_neg (fun y => e y.symm)]
        by_cases e2 : x < b
        · rw [if_pos e2, if_neg (by omega)]
          rfl
        · rw [if_neg e2, if_pos (by omega)]
theorem zw_cmpl : ∀ l m k : List Nat, zw_cmp l m = -1 → zw_cmp m k = -1 → zw_cmp l k = -1 := by
  intro l
  induction l with
  | nil =>
    intro m k h1 h2
    cases m with
    | nil => exact absurd h1 (by decide)
    | cons b m =>
      cases k with
      | nil => exact absurd h2 (by rw [zw_cmp]; decide)
      | cons c k => rfl
  | cons x l ih =>
    intro m k h1 h2
    cases m with
    | nil => exact absurd h1 (by rw [zw_cmp]; decide)
    | cons b m =>
      cases k with
      | nil => exact absurd h2 (by rw [zw_cmp]; decide)
      | cons c k =>
        rw [zw_cmp] at h1 h2 ⊢
        by_cases e1 : x = b
        · rw [if_pos e1] at h1
          by_cases e2 : b = c
          · rw [if_pos e2] at h2
            rw [if_pos (e1.trans e2)]
            exact ih m k h1 h2
          · rw [if_neg e2] at h2
            by_cases e3 : b < c
            · rw [if_neg (by omega), if_pos (by omega)]
            · rw [if_neg e3] at h2
              exact absurd h2 (by decide)
        · rw [if_neg e1] at h1
          by_cases e3 : x < b
          · by_cases e2 : b = c
            · rw [if_neg (by omega), if_pos (by omega)]
            · rw [if_neg e2] at h2
              by_cases e4 : b < c
              · rw [if_neg (by omega), if_pos (by omega)]
              · rw [if_neg e4] at h2
                exact absurd h2 (by decide)
          · rw [if_neg e3] at h1
            exact absurd h1 (by decide)
theorem zw_cmpt {sg : Int} (hs : sg = -1 ∨ sg = 1) {l m k : List Nat} (h1 : zw_cmp l m = sg) (h2 : zw_cmp m k = sg) : zw_cmp l k = sg := by
  rcases hs with rfl | rfl
  · exact zw_cmpl l m k h1 h2
  · have a := zw_cmpn l m
    have b := zw_cmpn m k
    have := zw_cmpl k m l (by omega) (by omega)
    have c := zw_cmpn l k
    omega
/-- the ending x is the extreme one among those in P -/
def zm_Xt (T : List Nat) (sg : Int) (P : Nat → Prop) (x : Nat) : Prop := ∀ j, P j → j < T.length → j ≠ x → zw_cmp (zw_p T x T.length) (zw_p T j T.length) = sg
theorem zm_pe0 {T : List Nat} {x y : Nat} (hx : x < T.length) (hy : y < T.length) (h : x ≠ y) : zw_cmp (zw_p T x T.length) (zw_p T y T.length) ≠ 0 := by
  intro e
  have := congrArg List.length ((zw_cmp0 _ _).mp e)
  rw [zw_pl _ _ _ (Nat.le_refl _), zw_pl _ _ _ (Nat.le_refl _)] at this
  omega
/-- one ending more -/
theorem zm_Xts {T : List Nat} {sg : Int} (hs : sg = -1 ∨ sg = 1) {P : Nat → Prop} {x c : Nat} (hx : x < T.length) (hc : c < T.length) (hxc : x ≠ c) (h : zm_Xt T sg P x) (hP : P x) : (zw_cmp (zw_p T c T.length) (zw_p T x T.length) = sg → zm_Xt T sg (fun j => j = c ∨ P j) c) ∧ (zw_cmp (zw_p T c T.length) (zw_p T x T.length) ≠ sg → zm_Xt T sg (fun j => j = c ∨ P j) x) := by
  refine ⟨fun e j hj hl hn => ?_, fun e j hj hl hn => ?_⟩
  · rcases hj with hj | hj
    · exact absurd hj hn
    · by_cases ex : j = x
      · rw [ex]
        exact e
      · exact zw_cmpt hs e (h j hj hl ex)
  · rcases hj with hj | hj
    · subst hj
      have n := zw_cmpn (zw_p T j T.length) (zw_p T x T.length)
      have z := zm_pe0 hc hx (fun y => hxc y.symm)
      rcases zw_cmpb (zw_p T j T.length) (zw_p T x T.length) with w | w | w <;> omega
    · exact h j hj hl hn
theorem zm_Xtu {T : List Nat} {sg : Int} (hs : sg = -1 ∨ sg = 1) {x y : Nat} (hx : x < T.length) (hy : y < T.length) (h1 : zm_Xt T sg (fun _ => True) x) (h2 : zm_Xt T sg (fun _ => True) y) : x = y := by
  by_cases e : x = y
  · exact e
  · have a := h1 y trivial hy (fun z => e z.symm)
    have b := h2 x trivial hx e
    have n := zw_cmpn (zw_p T x T.length) (zw_p T y T.length)
    omega
theorem zm_exE {T : List Nat} {sg : Int} (hs : sg = -1 ∨ sg = 1) : ∀ c b, c ≤ b → b < T.length → zm_Xt T sg (fun j => c ≤ j) b → zm_Xt T sg (fun _ => True) (zw_ex T sg c b) := by
  intro c
  induction c with
  | zero =>
    intro b h1 h2 h3 j _ hl hn
    exact h3 j (Nat.zero_le _) hl hn
  | succ c ih =>
    intro b h1 h2 h3
    obtain ⟨s1, s2⟩ := zm_Xts hs h2 (show c < T.length by omega) (by omega) h3 h1
    rw [zw_ex]
    by_cases e : zw_cmp (zw_p T c T.length) (zw_p T b T.length) = sg
    · rw [if_pos e]
      exact ih c (Nat.le_refl _) (by omega) (fun j hj hl hn => s1 e j (Or.inr (by omega)) hl hn)
    · rw [if_neg e]
      exact ih b (by omega) h2 (fun j hj hl hn => s2 e j (by
        by_cases ej : j = c
        · exact Or.inl ej
        · exact Or.inr (by omega)) hl hn)
