/-! SCRIPTS, on lists: commands one after the other, repeats in repeats. -/
/-- the number of the command whose word is behind p -/
def ym_w (s : List Nat) (p : Nat) : Nat := yt_cmd (zw_p s (yt_s s p) (yt_e s (yt_s s p)))
/-- commands up to a token of the kind cl: the state, how many were executed, where that token is -/
def yb (rp : zA → Nat → Nat → Option (zA × Nat × Nat)) (s : List Nat) (cl : Nat) : Nat → zA → Nat → Nat → Option (zA × Nat × Nat)
  | 0, _, _, _ => none
  | c + 1, A, ex, p =>
    if yt_q s (yt_s s p) = cl then some (A, ex, p)
    else if yt_q s (yt_s s p) = 1 then
      (if ym_w s p = 11 then (rp A ex (yt_e s (yt_s s p))).bind fun r => yb rp s cl c r.1 r.2.1 r.2.2
      else if ym_w s p = 12 ∨ 200 ≤ ex then none
      else (yx (ym_w s p) s A (yt_e s (yt_s s p))).bind fun r => yb rp s cl c r.1 (ex + 1) r.2)
    else none
/-- rounds -/
def yr (bd : zA → Nat → Option (zA × Nat × Nat)) : Nat → zA → Nat → Option (zA × Nat × Nat)
  | 0, _, _ => none
  | t + 1, A, ex => (bd A ex).bind fun r => if t = 0 then some r else yr bd t r.1 r.2.1
/-- behind the last round -/
def yq (s : List Nat) (x : Option (zA × Nat × Nat)) : Option (zA × Nat × Nat) := x.bind fun r => (ym_sem s (yt_e s (yt_s s r.2.2))).bind fun e => some (r.1, r.2.1, e)
/-- a repeat behind its word -/
def yp (bd : Nat → zA → Nat → Option (zA × Nat × Nat)) (s : List Nat) (A : zA) (ex p : Nat) : Option (zA × Nat × Nat) := (ym_rep s p).bind fun tb => yq s (yr (bd tb.2) tb.1 A ex)
def yL2 (s : List Nat) (b : Nat) (A : zA) (ex : Nat) : Option (zA × Nat × Nat) := yb (fun _ _ _ => none) s 4 (s.length + 1) A ex b
def yR1 (s : List Nat) : zA → Nat → Nat → Option (zA × Nat × Nat) := yp (yL2 s) s
def yL1 (s : List Nat) (b : Nat) (A : zA) (ex : Nat) : Option (zA × Nat × Nat) := yb (yR1 s) s 4 (s.length + 1) A ex b
def yR0 (s : List Nat) : zA → Nat → Nat → Option (zA × Nat × Nat) := yp (yL1 s) s
def yL0 (s : List Nat) (A : zA) (p : Nat) : Option (zA × Nat × Nat) := yb (yR0 s) s 0 (s.length + 1) A 0 p
/-- a script's head: the state that it begins with, and where it ends -/
def yz_h (s : List Nat) : Option (zA × Nat) := if yt_q s (yt_s s 0) = 1 ∧ zw_p s (yt_s s 0) (yt_e s (yt_s s 0)) = yt_letters then (ym_num s (yt_e s (yt_s s 0)) 2 9).bind fun n => (ym_sem s n.2).bind fun e => some ((n.1, [], []), e) else none
/-- a script: the state that it makes -/
def yz (s : List Nat) : Option zA := (yz_h s).bind fun r => (yL0 s r.1 r.2).bind fun x => some x.1
theorem yt_tokb {s : List Nat} {p : Nat} (hp : p ≤ s.length) (h : yt_q s (yt_s s p) ≠ 0) : p < yt_e s (yt_s s p) ∧ yt_e s (yt_s s p) ≤ s.length := by
  have b1' := yt_sb hp
  have b2' := yt_eb b1'.2
  have : yt_s s p ≠ s.length := fun x => h ((yt_q0 b1'.2).mpr x)
  exact ⟨by omega, b2'.2.1⟩
/-- where a repeat ends is told by where it begins -/
def yPd (rp : zA → Nat → Nat → Option (zA × Nat × Nat)) (s : List Nat) : Prop := ∀ A ex p A' ex' q, p ≤ s.length → rp A ex p = some (A', ex', q) → p < q ∧ q ≤ s.length ∧ ∀ A2 ex2 A3 ex3 q2, rp A2 ex2 p = some (A3, ex3, q2) → q2 = q
/-- the cases of commands that go through -/
theorem yb_cases {rp : zA → Nat → Nat → Option (zA × Nat × Nat)} {s : List Nat} {cl c ex p q ex' : Nat} {A A' : zA} (h : yb rp s cl (c + 1) A ex p = some (A', ex', q)) : (yt_q s (yt_s s p) = cl ∧ q = p ∧ A' = A ∧ ex' = ex) ∨ (yt_q s (yt_s s p) ≠ cl ∧ yt_q s (yt_s s p) = 1 ∧ ((ym_w s p = 11 ∧ ∃ A1 ex1 e, rp A ex (yt_e s (yt_s s p)) = some (A1, ex1, e) ∧ yb rp s cl c A1 ex1 e = some (A', ex', q)) ∨ (ym_w s p ≠ 11 ∧ ym_w s p ≠ 12 ∧ ex < 200 ∧ ∃ A1 e, yx (ym_w s p) s A (yt_e s (yt_s s p)) = some (A1, e) ∧ yb rp s cl c A1 (ex + 1) e = some (A', ex', q)))) := by
  rw [yb] at h
  by_cases e1 : yt_q s (yt_s s p) = cl
  · rw [if_pos e1] at h
    cases h
    exact Or.inl ⟨e1, rfl, rfl, rfl⟩
  · rw [if_neg e1] at h
    by_cases e2 : yt_q s (yt_s s p) = 1
    · rw [if_pos e2] at h
      refine Or.inr ⟨e1, e2, ?_⟩
      by_cases e3 : ym_w s p = 11
      · rw [if_pos e3] at h
        refine Or.inl ⟨e3, ?_⟩
        cases e4 : rp A ex (yt_e s (yt_s s p)) with
        | none => rw [e4] at h; cases h
        | some r =>
          rw [e4] at h
          exact ⟨r.1, r.2.1, r.2.2, rfl, h⟩
      · rw [if_neg e3] at h
        by_cases e4 : ym_w s p = 12 ∨ 200 ≤ ex
        · rw [if_pos e4] at h
          cases h
        · rw [if_neg e4] at h
          refine Or.inr ⟨e3, fun x => e4 (Or.inl x), by omega, ?_⟩
          cases e5 : yx (ym_w s p) s A (yt_e s (yt_s s p)) with
          | none => rw [e5] at h; cases h
          | some r =>
            rw [e5] at h
            exact ⟨r.1, r.2, rfl, h⟩
    · rw [if_neg e2] at h
      cases h
/-- where commands end is told by where they begin -/
theorem yb_det {rp : zA → Nat → Nat → Option (zA × Nat × Nat)} {s : List Nat} {cl : Nat} (D : yPd rp s) : ∀ c A ex p A' ex' q, p ≤ s.length → yb rp s cl c A ex p = some (A', ex', q) → p ≤ q ∧ q ≤ s.length ∧ yt_q s (yt_s s q) = cl ∧ ∀ c2 A2 ex2 A3 ex3 q2, yb rp s cl c2 A2 ex2 p = some (A3, ex3, q2) → q2 = q := by
  intro c
  induction c with
  | zero => intro A ex p A' ex' q hp h; cases h
  | succ c ih =>
    intro A ex p A' ex' q hp h
    rcases yb_cases h with ⟨e1, e2, _, _⟩ | ⟨e1, e2, e3⟩
    · subst e2
      refine ⟨Nat.le_refl q, hp, e1, fun c2 A2 ex2 A3 ex3 q2 h2 => ?_⟩
      cases c2 with
      | zero => cases h2
      | succ c2 =>
        rcases yb_cases h2 with ⟨_, d2, _, _⟩ | ⟨d1, _, _⟩
        · exact d2
        · exact absurd e1 d1
    · have tb := yt_tokb hp (show yt_q s (yt_s s p) ≠ 0 by omega)
      rcases e3 with ⟨f1, A1, ex1, e, f2, f3⟩ | ⟨f1, f2, f3, A1, e, f4, f5⟩
      · obtain ⟨g1, g2, g3⟩ := D _ _ _ _ _ _ tb.2 f2
        obtain ⟨i1, i2, i3, i4⟩ := ih A1 ex1 e A' ex' q g2 f3
        refine ⟨by omega, i2, i3, fun c2 A2 ex2 A3 ex3 q2 h2 => ?_⟩
        cases c2 with
        | zero => cases h2
        | succ c2 =>
          rcases yb_cases h2 with ⟨d1, _, _, _⟩ | ⟨_, _, d3⟩
          · exact absurd d1 e1
          · rcases d3 with ⟨_, B1, ey, e', k2, k3⟩ | ⟨k1, _⟩
            · have := g3 _ _ _ _ _ k2
              subst this
              exact i4 _ _ _ _ _ _ k3
            · exact absurd f1 k1
      · obtain ⟨g1, g2, g3⟩ := yx_end tb.2 f4
        obtain ⟨i1, i2, i3, i4⟩ := ih A1 (ex + 1) e A' ex' q g2 f5
        refine ⟨by omega, i2, i3, fun c2 A2 ex2 A3 ex3 q2 h2 => ?_⟩
        cases c2 with
        | zero => cases h2
        | succ c2 =>
          rcases yb_cases h2 with ⟨d1, _, _, _⟩ | ⟨_, _, d3⟩
          · exact absurd d1 e1
          · rcases d3 with ⟨k1, _⟩ | ⟨_, _, _, B1, e', k2, k3⟩
            · exact absurd k1 f1
            · have := (yx_end tb.2 k2).2.2
              rw [← g3] at this
              subst this
              exact i4 _ _ _ _ _ _ k3
theorem yb_lt {rp : zA → Nat → Nat → Option (zA × Nat × Nat)} {s : List Nat} {cl c ex p q ex' : Nat} {A A' : zA} (D : yPd rp s) (hp : p ≤ s.length) (h : yb rp s cl (c + 1) A ex p = some (A', ex', q)) (hc : yt_q s (yt_s s p) ≠ cl) : p < q := by
  rcases yb_cases h with ⟨e1, _⟩ | ⟨e1, e2, e3⟩
  · exact absurd e1 hc
  · have tb := yt_tokb hp (show yt_q s (yt_s s p) ≠ 0 by omega)
    rcases e3 with ⟨f1, A1, ex1, e, f2, f3⟩ | ⟨f1, f2, f3, A1, e, f4, f5⟩
    · obtain ⟨g1, g2, g3⟩ := D _ _ _ _ _ _ tb.2 f2
      have := (yb_det D _ _ _ _ _ _ _ g2 f3).1
      omega
    · obtain ⟨g1, g2, g3⟩ := yx_end tb.2 f4
      have := (yb_det D _ _ _ _ _ _ _ g2 f5).1
      omega
/-- a body: where it ends is told by where it begins -/
def yBd (bd : Nat → zA → Nat → Option (zA × Nat × Nat)) (s : List Nat) : Prop := ∀ b A ex A' ex' q, b ≤ s.length → bd b A ex = some (A', ex', q) → b ≤ q ∧ q ≤ s.length ∧ yt_q s (yt_s s q) = 4 ∧ ∀ A2 ex2 A3 ex3 q2, bd b A2 ex2 = some (A3, ex3, q2) → q2 = q
theorem yr_of {bd : zA → Nat → Option (zA × Nat × Nat)} : ∀ t A ex A' ex' q, yr bd t A ex = some (A', ex', q) → ∃ A1 ex1, bd A1 ex1 = some (A', ex', q) := by
  intro t
  induction t with
  | zero => intro A ex A' ex' q h; cases h
  | succ t ih =>
    intro A ex A' ex' q h
    rw [yr] at h
    cases e1 : bd A ex with
    | none => rw [e1] at h; cases h
    | some r =>
      rw [e1] at h
      change (if t = 0 then some r else yr bd t r.1 r.2.1) = _ at h
      split at h
      · cases h
        exact ⟨A, ex, e1⟩
      · exact ih _ _ _ _ _ h
theorem yq_of {s : List Nat} {x : Option (zA × Nat × Nat)} {A' : zA} {ex' e : Nat} (h : yq s x = some (A', ex', e)) : ∃ q, x = some (A', ex', q) ∧ ym_sem s (yt_e s (yt_s s q)) = some e := by
  unfold yq at h
  cases x with
  | none => cases h
  | some r =>
    change (ym_sem s (yt_e s (yt_s s r.2.2))).bind _ = _ at h
    cases e1 : ym_sem s (yt_e s (yt_s s r.2.2)) with
    | none => rw [e1] at h; cases h
    | some e =>
      rw [e1] at h
      cases h
      exact ⟨r.2.2, rfl, e1⟩
theorem yp_of {bd : Nat → zA → Nat → Option (zA × Nat × Nat)} {s : List Nat} {A A' : zA} {ex p ex' e : Nat} (h : yp bd s A ex p = some (A', ex', e)) : ∃ t b q, ym_rep s p = some (t, b) ∧ yr (bd b) t A ex = some (A', ex', q) ∧ ym_sem s (yt_e s (yt_s s q)) = some e := by
  unfold yp at h
  cases e1 : ym_rep s p with
  | none => rw [e1] at h; cases h
  | some tb =>
    rw [e1] at h
    obtain ⟨q, q1, q2⟩ := yq_of h
    exact ⟨tb.1, tb.2, q, rfl, q1, q2⟩
theorem yp_det {bd : Nat → zA → Nat → Option (zA × Nat × Nat)} {s : List Nat} (D : yBd bd s) : yPd (yp bd s) s := by
  intro A ex p A' ex' e hp h
  obtain ⟨t, b, q, h1, h2, h3⟩ := yp_of h
  obtain ⟨_, _, r3, r4⟩ := ym_repb hp h1
  obtain ⟨A1, ex1, h4⟩ := yr_of _ _ _ _ _ _ h2
  obtain ⟨d1, d2, d3, d4⟩ := D _ _ _ _ _ _ r4 h4
  have tb := yt_tokb d2 (show yt_q s (yt_s s q) ≠ 0 by omega)
  obtain ⟨_, m2, m3, m4⟩ := ym_semb tb.2 h3
  refine ⟨by omega, m4, fun A2 ex2 A3 ex3 e2 g => ?_⟩
  obtain ⟨t', b', q', g1, g2, g3⟩ := yp_of g
  rw [h1] at g1
  cases g1
  obtain ⟨A4, ex4, g4⟩ := yr_of _ _ _ _ _ _ g2
  have := d4 _ _ _ _ _ g4
  subst this
  rw [h3] at g3
  cases g3
  rfl
theorem yL_det {rp : zA → Nat → Nat → Option (zA × Nat × Nat)} {s : List Nat} (D : yPd rp s) : yBd (fun b A ex => yb rp s 4 (s.length + 1) A ex b) s := by
  intro b A ex A' ex' q hb h
  obtain ⟨d1, d2, d3, d4⟩ := yb_det D _ _ _ _ _ _ _ hb h
  exact ⟨d1, d2, d3, fun A2 ex2 A3 ex3 q2 g => d4 _ _ _ _ _ _ g⟩
theorem yL2_det (s : List Nat) : yBd (yL2 s) s := yL_det (rp := fun _ _ _ => none) (fun _ _ _ _ _ _ _ h => by cases h)
theorem yR1_det (s : List Nat) : yPd (yR1 s) s := yp_det (yL2_det s)
theorem yL1_det (s : List Nat) : yBd (yL1 s) s := yL_det (yR1_det s)
theorem yR0_det (s : List Nat) : yPd (yR0 s) s := yp_det (yL1_det s)
