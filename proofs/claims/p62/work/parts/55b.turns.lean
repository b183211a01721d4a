/-! ROTATIONS: one against the other; the least one. -/
/-- the letter at a place, around and around -/
def zm_c (l : List Nat) (i : Nat) : Nat := l.getD (i % l.length) 0
theorem zm_car {l : List Nat} {i : Nat} (h : i < 2 * l.length) : zw_ar l i = zm_c l i := by
  unfold zw_ar zm_c
  by_cases e : i < l.length
  · rw [if_pos e, Nat.mod_eq_of_lt e]
  · rw [if_neg e, Nat.mod_eq_sub_mod (by omega), Nat.mod_eq_of_lt (by omega)]
theorem zm_cm (l : List Nat) (i k : Nat) : zm_c l (i % l.length + k) = zm_c l (i + k) := by
  unfold zm_c
  rw [Nat.mod_add_mod]
/-- the rotation by i is smaller than that by j -/
def zm_R (l : List Nat) (i j : Nat) : Prop := ∃ d, d < l.length ∧ (∀ e, e < d → zm_c l (i + e) = zm_c l (j + e)) ∧ zm_c l (i + d) < zm_c l (j + d)
def zm_E (l : List Nat) (i j : Nat) : Prop := ∀ e, e < l.length → zm_c l (i + e) = zm_c l (j + e)
theorem zm_tri (l : List Nat) (i j : Nat) : zm_R l i j ∨ zm_E l i j ∨ zm_R l j i := by
  have key : ∀ c, c ≤ l.length → (∀ e, e < l.length - c → zm_c l (i + e) = zm_c l (j + e)) → zm_R l i j ∨ zm_E l i j ∨ zm_R l j i := by
    intro c
    induction c with
    | zero =>
      intro h1 h2
      exact Or.inr (Or.inl (fun e he => h2 e (by omega)))
    | succ c ih =>
      intro h1 h2
      rcases Nat.lt_trichotomy (zm_c l (i + (l.length - (c + 1)))) (zm_c l (j + (l.length - (c + 1)))) with h | h | h
      · exact Or.inl ⟨l.length - (c + 1), by omega, h2, h⟩
      · refine ih (by omega) (fun e he => ?_)
        by_cases e1 : e = l.length - (c + 1)
        · rw [e1]
          exact h
        · exact h2 e (by omega)
      · exact Or.inr (Or.inr ⟨l.length - (c + 1), by omega, fun e he => (h2 e he).symm, h⟩)
  exact key l.length (Nat.le_refl _) (fun e he => by omega)
theorem zm_Rt {l : List Nat} {i j k : Nat} (a : zm_R l i j) (b : zm_R l j k) : zm_R l i k := by
  obtain ⟨d, d1, d2, d3⟩ := a
  obtain ⟨f, f1, f2, f3⟩ := b
  rcases Nat.lt_trichotomy d f with h | h | h
  · exact ⟨d, d1, fun e he => (d2 e he).trans (f2 e (by omega)), by rw [← f2 d h]; exact d3⟩
  · subst h
    exact ⟨d, d1, fun e he => (d2 e he).trans (f2 e he), by omega⟩
  · exact ⟨f, f1, fun e he => (d2 e (by omega)).trans (f2 e he), by rw [d2 f h]; exact f3⟩
theorem zm_Re {l : List Nat} {i j k : Nat} (a : zm_R l i j) (b : zm_E l j k) : zm_R l i k := by
  obtain ⟨d, d1, d2, d3⟩ := a
  exact ⟨d, d1, fun e he => (d2 e he).trans (b e (by omega)), by rw [← b d d1]; exact d3⟩
theorem zm_eR {l : List Nat} {i j k : Nat} (b : zm_E l i j) (a : zm_R l j k) : zm_R l i k := by
  obtain ⟨d, d1, d2, d3⟩ := a
  exact ⟨d, d1, fun e he => (b e (by omega)).trans (d2 e he), by rw [b d d1]; exact d3⟩
theorem zm_Ri {l : List Nat} {i : Nat} : ¬ zm_R l i i := fun ⟨d, _, _, d3⟩ => absurd d3 (Nat.lt_irrefl _)
theorem zm_RE {l : List Nat} {i j : Nat} (a : zm_R l i j) : ¬ zm_E l i j := by
  obtain ⟨d, d1, d2, d3⟩ := a
  intro h
  have := h d d1
  omega
theorem zm_Es {l : List Nat} {i j : Nat} (a : zm_E l i j) : zm_E l j i := fun e he => (a e he).symm
/-- the gap of two rotations, as the reference finds it; c places are left -/
def zm_ro (l : List Nat) (i j : Nat) : Nat → Int
  | 0 => 0
  | c + 1 => if zm_c l (i + (l.length - (c + 1))) = zm_c l (j + (l.length - (c + 1))) then zm_ro l i j c else (zm_c l (i + (l.length - (c + 1))) : Int) - (zm_c l (j + (l.length - (c + 1))) : Int)
theorem zm_roS (l : List Nat) (i j : Nat) : ∀ c, c ≤ l.length → (∀ e, e < l.length - c → zm_c l (i + e) = zm_c l (j + e)) → (zm_ro l i j c < 0 ∧ zm_R l i j) ∨ (zm_ro l i j c = 0 ∧ zm_E l i j) ∨ (0 < zm_ro l i j c ∧ zm_R l j i) := by
  intro c
  induction c with
  | zero =>
    intro h1 h2
    exact Or.inr (Or.inl ⟨rfl, fun e he => h2 e (by omega)⟩)
  | succ c ih =>
    intro h1 h2
    rw [zm_ro]
    by_cases e0 : zm_c l (i + (l.length - (c + 1))) = zm_c l (j + (l.length - (c + 1)))
    · rw [if_pos e0]
      refine ih (by omega) (fun e he => ?_)
      by_cases e1 : e = l.length - (c + 1)
      · rw [e1]
        exact e0
      · exact h2 e (by omega)
    · rw [if_neg e0]
      by_cases e2 : zm_c l (i + (l.length - (c + 1))) < zm_c l (j + (l.length - (c + 1)))
      · exact Or.inl ⟨by omega, l.length - (c + 1), by omega, h2, e2⟩
      · exact Or.inr (Or.inr ⟨by omega, l.length - (c + 1), by omega, fun e he => (h2 e he).symm, by omega⟩)
theorem zm_roC (l : List Nat) (i j : Nat) : (zm_ro l i j l.length < 0 ∧ zm_R l i j) ∨ (zm_ro l i j l.length = 0 ∧ zm_E l i j) ∨ (0 < zm_ro l i j l.length ∧ zm_R l j i) := zm_roS l i j l.length (Nat.le_refl _) (fun e he => by omega)
theorem zm_ro1 {l : List Nat} {i j : Nat} : zm_ro l i j l.length < 0 ↔ zm_R l i j := by
  rcases zm_roC l i j with h | h | h
  · exact ⟨fun _ => h.2, fun _ => h.1⟩
  · exact ⟨fun x => absurd x (by omega), fun x => absurd h.2 (zm_RE x)⟩
  · exact ⟨fun x => absurd x (by omega), fun x => absurd (zm_Rt x h.2) zm_Ri⟩
theorem zm_ro0 {l : List Nat} {i j : Nat} : zm_ro l i j l.length = 0 ↔ zm_E l i j := by
  rcases zm_roC l i j with h | h | h
  · exact ⟨fun x => absurd x (by omega), fun x => absurd x (zm_RE h.2)⟩
  · exact ⟨fun _ => h.2, fun _ => h.1⟩
  · exact ⟨fun x => absurd x (by omega), fun x => absurd (zm_Es x) (zm_RE h.2)⟩
/-- the least rotation, as the reference finds it: from by on, c are left -/
def zm_lst (l : List Nat) : Nat → Nat → Nat
  | 0, f => f
  | c + 1, f => zm_lst l c (if zm_ro l (l.length - (c + 1)) f l.length < 0 then l.length - (c + 1) else f)
def zm_least (l : List Nat) : Nat := zm_lst l (l.length - 1) 0
/-- x is the least one: no rotation is smaller, none before it is as small -/
def zm_M (l : List Nat) (n x : Nat) : Prop := (∀ j, j < n → ¬ zm_R l j x) ∧ ∀ j, j < x → zm_R l x j
theorem zm_lstM (l : List Nat) : ∀ c f, c < l.length → f < l.length - c → zm_M l (l.length - c) f → zm_lst l c f < l.length ∧ zm_M l l.length (zm_lst l c f) := by
  intro c
  induction c with
  | zero =>
    intro f h1 h2 h3
    exact ⟨h2, h3⟩
  | succ c ih =>
    intro f h1 h2 h3
    rw [zm_lst]
    by_cases e1 : zm_ro l (l.length - (c + 1)) f l.length < 0
    · rw [if_pos e1]
      have r := zm_ro1.mp e1
      refine ih _ (by omega) (by omega) ⟨?_, ?_⟩
      · intro j hj
        by_cases e2 : j = l.length - (c + 1)
        · rw [e2]
          exact zm_Ri
        · intro x
          exact h3.1 j (by omega) (zm_Rt x r)
      · intro j hj
        rcases zm_tri l f j with t | t | t
        · exact zm_Rt r t
        · exact zm_Re r t
        · exact absurd t (h3.1 j hj)
    · rw [if_neg e1]
      refine ih f (by omega) (by omega) ⟨?_, h3.2⟩
      intro j hj
      by_cases e2 : j = l.length - (c + 1)
      · rw [e2]
        exact fun x => e1 (zm_ro1.mpr x)
      · exact h3.1 j (by omega)
theorem zm_leastM {l : List Nat} (h : 0 < l.length) : zm_least l < l.length ∧ zm_M l l.length (zm_least l) := by
  refine zm_lstM l _ 0 (by omega) (by omega) ⟨?_, fun j hj => by omega⟩
  intro j hj
  have : j = 0 := by omega
  rw [this]
  exact zm_Ri
/-- j isn't the least one -/
def zm_O (l : List Nat) (j : Nat) : Prop := ∃ k, k < l.length ∧ (zm_R l k j ∨ (zm_E l k j ∧ k < j))
theorem zm_MO {l : List Nat} {x : Nat} (M : zm_M l l.length x) : ¬ zm_O l x := by
  intro ⟨k, k1, k2⟩
  rcases k2 with k2 | ⟨k2, k3⟩
  · exact M.1 k k1 k2
  · exact zm_RE (M.2 k k3) (zm_Es k2)
/-- two places raced to a difference: those before the greater one are out -/
theorem zm_race {l : List Nat} {a r s : Nat} (hn : 0 < l.length) (hs : s < l.length) (he : ∀ e, e < s → zm_c l (a + e) = zm_c l (r + e)) (hd : zm_c l (r + s) < zm_c l (a + s)) : ∀ e, e ≤ s → zm_O l (a + e) := by
  intro e h1
  refine ⟨(r + e) % l.length, Nat.mod_lt _ hn, Or.inl ⟨s - e, by omega, ?_, ?_⟩⟩
  · intro k hk
    rw [zm_cm, show r + e + k = r + (e + k) by omega, show a + e + k = a + (e + k) by omega]
    exact (he (e + k) (by omega)).symm
  · rw [zm_cm, show r + e + (s - e) = r + s by omega, show a + e + (s - e) = a + s by omega]
    exact hd
theorem zm_ltL {l : List Nat} (hn : 0 < l.length) : ∀ f a r s : Nat, a < r → s ≤ l.length → 3 * l.length + 2 < f + (a + r + s) → (∀ j, j < l.length → j < r → j ≠ a → zm_O l j) → (∀ e, e < s → zm_c l (a + e) = zm_c l (r + e)) → (r ≤ l.length ∨ s = 0) → zw_lt l f a r s = zm_least l := by
  obtain ⟨m1, m2⟩ := zm_leastM hn
  have fin : ∀ a, (∀ j, j < l.length → j ≠ a → zm_O l j) → a = zm_least l := by
    intro a h
    by_cases e : zm_least l = a
    · exact e.symm
    · exact absurd (h _ m1 e) (zm_MO m2)
  intro f
  induction f with
  | zero =>
    intro a r s h1 h2 h3 h4 h5 h6
    rw [zw_lt]
    refine fin a (fun j j1 j2 => h4 j j1 ?_ j2)
    rcases h6 with h6 | h6 <;> omega
  | succ f ih =>
    intro a r s h1 h2 h3 h4 h5 h6
    rw [zw_lt]
    by_cases e0 : r < l.length ∧ s < l.length
    · rw [if_pos e0, zm_car (by omega), zm_car (by omega)]
      by_cases e1 : zm_c l (a + s) = zm_c l (r + s)
      · rw [if_pos e1]
        refine ih a r (s + 1) h1 (by omega) (by omega) h4 ?_ (Or.inl (by omega))
        intro e he
        by_cases e2 : e = s
        · rw [e2]
          exact e1
        · exact h5 e (by omega)
      · rw [if_neg e1]
        by_cases e2 : zm_c l (r + s) < zm_c l (a + s)
        · rw [if_pos e2]
          have race := zm_race hn e0.2 h5 e2
          refine ih _ _ 0 (by omega) (by omega) (by omega) ?_ (fun e he => by omega) (Or.inr rfl)
          intro j j1 j2 j3
          by_cases e3 : a ≤ j ∧ j ≤ a + s
          · have := race (j - a) (by omega)
            rw [show a + (j - a) = j by omega] at this
            exact this
          · exact h4 j j1 (by omega) (by omega)
        · rw [if_neg e2]
          have race := zm_race hn e0.2 (fun e he => (h5 e he).symm) (show zm_c l (a + s) < zm_c l (r + s) by omega)
          refine ih a (r + s + 1) 0 (by omega) (by omega) (by omega) ?_ (fun e he => by omega) (Or.inr rfl)
          intro j j1 j2 j3
          by_cases e3 : r ≤ j
          · have := race (j - r) (by omega)
            rw [show r + (j - r) = j by omega] at this
            exact this
          · exact h4 j j1 (by omega) j3
    · rw [if_neg e0]
      refine fin a (fun j j1 j2 => ?_)
      by_cases e1 : j < r
      · exact h4 j j1 e1 j2
      · have e2 : r < l.length := by omega
        have e3 : s = l.length := by omega
        refine ⟨j - (r - a), by omega, Or.inr ⟨?_, by omega⟩⟩
        intro e he
        have h7 : ∀ x, zm_c l (a + x) = zm_c l (r + x) := by
          intro x
          have := h5 (x % l.length) (by rw [e3]; exact Nat.mod_lt _ hn)
          unfold zm_c at this ⊢
          rw [Nat.add_mod_mod, Nat.add_mod_mod] at this
          exact this
        have h8 := h7 (j - r + e)
        rw [show a + (j - r + e) = j - (r - a) + e by omega, show r + (j - r + e) = j + e by omega] at h8
        exact h8
theorem zm_lT {l : List Nat} (hn : 0 < l.length) : zw_lT l = zm_least l := by
  unfold zw_lT
  by_cases e : l.length = 1
  · have h1 := zm_leastM hn
    rw [e]
    show zw_lt l 4 0 1 0 = _
    rw [zw_lt, if_neg (by omega)]
    omega
  · exact zm_ltL hn (4 * l.length) 0 1 0 (by omega) (by omega) (by omega) (fun j j1 j2 j3 => by omega) (fun e he => by omega) (Or.inr rfl)
