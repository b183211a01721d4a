/-! LYNDON WORDS by the scan and by rotations; periods and turns; endings. -/
theorem zm_c0 {l : List Nat} {i : Nat} (h : i < l.length) : zm_c l i = l.getD i 0 := by
  unfold zm_c
  rw [Nat.mod_eq_of_lt h]
/-- one factor: smaller than all its other rotations -/
theorem zm_lyn {l : List Nat} (hn : 0 < l.length) : zw_lE l 0 = l.length ↔ ∀ r, 0 < r → r < l.length → zm_R l 0 r := by
  obtain ⟨p, p1, p2, i, s1, s2, s3, s4⟩ := zm_lE hn
  rw [p1]
  rw [Nat.zero_add] at s1 ⊢
  constructor
  · intro h r r1 r2
    obtain ⟨d, d1, d2, d3⟩ := p2.2.2 r r1 (by omega)
    refine ⟨d, by omega, ?_, ?_⟩
    · intro e he
      rw [zm_c0 (by omega), zm_c0 (by omega)]
      have := d2 e he
      rw [Nat.zero_add, Nat.zero_add] at this
      rw [Nat.zero_add]
      exact this.symm
    · rw [zm_c0 (by omega), zm_c0 (by omega)]
      rw [Nat.zero_add, Nat.zero_add] at d3
      rw [Nat.zero_add]
      exact d3
  · intro h
    by_cases e : p = l.length
    · exact e
    · exfalso
      have pl : p < l.length := by
        have := p2.2.1
        omega
      have pp := p2.1
      have per := zm_per pp s3
      rcases s4 with s4 | ⟨s4, s5⟩
      · -- the period goes to the end
        by_cases m0 : l.length % p = 0
        · -- a rotation equals the word
          have hE : zm_E l 0 p := by
            intro e he
            rw [Nat.zero_add, zm_c0 he]
            have a1 := per e (by omega)
            rw [Nat.zero_add, Nat.zero_add] at a1
            rw [a1]
            unfold zm_c
            have a2 := per ((p + e) % l.length) (by rw [Nat.zero_add, s4]; exact Nat.mod_lt _ hn)
            rw [Nat.zero_add, Nat.zero_add] at a2
            rw [a2]
            congr 1
            rw [Nat.mod_mod_of_dvd _ (Nat.dvd_of_mod_eq_zero m0), Nat.add_mod_left]
          exact zm_RE (h p (by omega) pl) hE
        · -- the rotation that begins with what is left over
          have j1 : l.length % p < p := Nat.mod_lt _ (by omega)
          have hq := Nat.mod_add_div l.length p
          obtain ⟨d, d1, d2, d3⟩ := p2.2.2 (l.length % p) (by omega) j1
          rw [Nat.zero_add] at d2 d3
          have r1 : 0 < l.length - l.length % p := by
            have := Nat.mod_le l.length p
            omega
          have r2 : l.length - l.length % p < l.length := by omega
          have hm : (l.length - l.length % p) % p = 0 := by
            rw [show l.length - l.length % p = p * (l.length / p) by omega]
            exact Nat.mul_mod_right p _
          have hR : zm_R l (l.length - l.length % p) 0 := by
            refine ⟨l.length % p + d, by omega, ?_, ?_⟩
            · intro e he
              rw [Nat.zero_add, zm_c0 (show e < l.length by omega)]
              by_cases e1 : e < l.length % p
              · rw [zm_c0 (by omega)]
                have a1 := per (l.length - l.length % p + e) (by omega)
                rw [Nat.zero_add, Nat.zero_add, Nat.add_mod, hm, Nat.zero_add, Nat.mod_mod, Nat.mod_eq_of_lt (show e < p by omega)] at a1
                exact a1
              · have a1 := d2 (e - l.length % p) (by omega)
                rw [show l.length % p + (e - l.length % p) = e by omega, Nat.zero_add] at a1
                rw [a1]
                unfold zm_c
                rw [show l.length - l.length % p + e = (e - l.length % p) + l.length by omega, Nat.add_mod_right, Nat.mod_eq_of_lt (by omega)]
            · rw [Nat.zero_add, zm_c0 (show l.length % p + d < l.length by omega)]
              unfold zm_c
              rw [show l.length - l.length % p + (l.length % p + d) = d + l.length by omega, Nat.add_mod_right, Nat.mod_eq_of_lt (by omega)]
              rw [Nat.zero_add] at d3
              exact d3
          exact zm_Ri (zm_Rt hR (h _ r1 r2))
      · -- a smaller letter ends the scan
        have hR : zm_R l p 0 := by
          refine ⟨i - p, by omega, ?_, ?_⟩
          · intro e he
            rw [Nat.zero_add, zm_c0 (by omega), zm_c0 (by omega)]
            have := s3 (p + e) (by omega) (by omega)
            rw [Nat.zero_add, show p + e - p = e by omega] at this
            exact this
          · rw [Nat.zero_add, zm_c0 (by omega), zm_c0 (by omega), show p + (i - p) = i by omega]
            exact s5
        exact zm_Ri (zm_Rt hR (h p (by omega) pl))
/-- the period that hasPeriod finds -/
theorem zm_hp {l : List Nat} {p : Nat} : ∀ c, p + c ≤ l.length → (zw_hp l p c = true ↔ ∀ i, l.length - c ≤ i → i < l.length → l.getD i 0 = l.getD (i - p) 0) := by
  intro c
  induction c with
  | zero =>
    intro h
    exact ⟨fun _ i h1 h2 => by omega, fun _ => rfl⟩
  | succ c ih =>
    intro h
    rw [zw_hp]
    by_cases e1 : l.getD (l.length - (c + 1)) 0 = l.getD (l.length - (c + 1) - p) 0
    · rw [if_pos e1, ih (by omega)]
      constructor
      · intro h1 i h2 h3
        by_cases e2 : i = l.length - (c + 1)
        · rw [e2]
          exact e1
        · exact h1 i (by omega) h3
      · intro h1 i h2 h3
        exact h1 i (by omega) h3
    · rw [if_neg e1]
      constructor
      · intro h1
        cases h1
      · intro h1
        exact absurd (h1 _ (Nat.le_refl _) (by omega)) e1
/-- p is a period of the whole -/
def zm_Q (l : List Nat) (p : Nat) : Prop := ∀ i, p ≤ i → i < l.length → l.getD i 0 = l.getD (i - p) 0
theorem zm_hpQ {l : List Nat} {p : Nat} (h : p ≤ l.length) : zw_hp l p (l.length - p) = true ↔ zm_Q l p := by
  rw [zm_hp _ (by omega), show l.length - (l.length - p) = p by omega]
  exact Iff.rfl
theorem zm_pe {l : List Nat} : ∀ c, c + 1 ≤ l.length → (zm_Q l (zw_pe l c) ∧ ∀ r, l.length - c ≤ r → r < zw_pe l c → ¬ zm_Q l r) := by
  intro c
  induction c with
  | zero =>
    intro h
    rw [zw_pe]
    exact ⟨fun i h1 h2 => by omega, fun r h1 h2 => by omega⟩
  | succ c ih =>
    intro h
    rw [zw_pe]
    cases e : zw_hp l (l.length - (c + 1)) (c + 1) with
    | true =>
      rw [if_pos rfl]
      have := (zm_hpQ (l := l) (p := l.length - (c + 1)) (by omega)).mp (by rw [show l.length - (l.length - (c + 1)) = c + 1 by omega]; exact e)
      exact ⟨this, fun r h1 h2 => by omega⟩
    | false =>
      rw [if_neg (by decide)]
      obtain ⟨i1, i2⟩ := ih (by omega)
      refine ⟨i1, ?_⟩
      intro r h1 h2
      by_cases e2 : r = l.length - (c + 1)
      · intro h3
        rw [e2] at h3
        have := (zm_hpQ (l := l) (p := l.length - (c + 1)) (by omega)).mpr h3
        rw [show l.length - (l.length - (c + 1)) = c + 1 by omega, e] at this
        cases this
      · exact i2 r (by omega) h2
theorem zm_perQ {l : List Nat} (h : 0 < l.length) : zm_Q l (zw_per l) ∧ ∀ r, 0 < r → r < zw_per l → ¬ zm_Q l r := by
  unfold zw_per
  obtain ⟨i1, i2⟩ := zm_pe (l := l) (l.length - 1) (by omega)
  exact ⟨i1, fun r h1 h2 => i2 r (by omega) h2⟩
/-- a rotation equal to the word is a period -/
theorem zm_EQ {l : List Nat} {r : Nat} (h : zm_E l r 0) : zm_Q l r := by
  intro i h1 h2
  have := h (i - r) (by omega)
  rw [show r + (i - r) = i by omega, Nat.zero_add, zm_c0 h2, zm_c0 (by omega)] at this
  exact this
/-- a turn that changes nothing, as the law of all places -/
theorem zm_Eall {l : List Nat} {r : Nat} (hn : 0 < l.length) (h : zm_E l r 0) (i : Nat) : zm_c l (i + r) = zm_c l i := by
  have := h (i % l.length) (Nat.mod_lt _ hn)
  rw [Nat.zero_add] at this
  unfold zm_c at this ⊢
  rw [Nat.add_mod_mod, Nat.mod_mod] at this
  rw [Nat.add_comm i r]
  exact this
theorem zm_Emul {l : List Nat} {r : Nat} (hn : 0 < l.length) (h : zm_E l r 0) : ∀ k i, zm_c l (i + r * k) = zm_c l i := by
  intro k
  induction k with
  | zero => intro i; rfl
  | succ k ih =>
    intro i
    rw [Nat.mul_succ, ← Nat.add_assoc, zm_Eall hn h, ih]
/-- the length of the root, as the reference finds it; c are left -/
def zm_rt (l : List Nat) : Nat → Nat
  | 0 => l.length
  | c + 1 => if zm_ro l (l.length - (c + 1)) 0 l.length = 0 then l.length - (c + 1) else zm_rt l c
theorem zm_rtE {l : List Nat} : ∀ c, c + 1 ≤ l.length → ((zm_rt l c < l.length → zm_E l (zm_rt l c) 0) ∧ zm_rt l c ≤ l.length ∧ l.length - c ≤ zm_rt l c ∧ ∀ r, l.length - c ≤ r → r < zm_rt l c → ¬ zm_E l r 0) := by
  intro c
  induction c with
  | zero =>
    intro h
    rw [zm_rt]
    exact ⟨fun x => absurd x (Nat.lt_irrefl _), Nat.le_refl _, by omega, fun r h1 h2 => by omega⟩
  | succ c ih =>
    intro h
    rw [zm_rt]
    by_cases e : zm_ro l (l.length - (c + 1)) 0 l.length = 0
    · rw [if_pos e]
      exact ⟨fun _ => zm_ro0.mp e, by omega, Nat.le_refl _, fun r h1 h2 => by omega⟩
    · rw [if_neg e]
      obtain ⟨i1, i2, i3, i4⟩ := ih (by omega)
      refine ⟨i1, i2, by omega, ?_⟩
      intro r h1 h2
      by_cases e2 : r = l.length - (c + 1)
      · rw [e2]
        exact fun x => e (zm_ro0.mpr x)
      · exact i4 r (by omega) h2
/-- the number of turns, both ways -/
theorem zm_tu {l : List Nat} (hn : 0 < l.length) : zw_tu l = zm_rt l (l.length - 1) := by
  obtain ⟨t1, t2, t3, t4⟩ := zm_rtE (l := l) (l.length - 1) (by omega)
  obtain ⟨q1, q2⟩ := zm_perQ hn
  have q3 := zw_perb l
  have q4 := q3.2 (by omega)
  unfold zw_tu
  by_cases e : l.length % zw_per l = 0
  · rw [if_pos ⟨by omega, e⟩]
    by_cases e1 : zw_per l = l.length
    · rw [e1]
      by_cases e2 : zm_rt l (l.length - 1) < l.length
      · have := zm_EQ (t1 e2)
        exact absurd this (q2 _ (by omega) (by omega))
      · omega
    · have hE : zm_E l (zw_per l) 0 := by
        intro x hx
        rw [Nat.zero_add, zm_c0 hx]
        have per := zm_per (l := l) (s := 0) (p := zw_per l) (i := l.length) (by omega) (fun j j1 j2 => by
          rw [Nat.zero_add] at j2 ⊢
          exact q1 j j1 j2)
        have a1 := per x (by omega)
        rw [Nat.zero_add, Nat.zero_add] at a1
        rw [a1]
        unfold zm_c
        have a2 := per ((zw_per l + x) % l.length) (by rw [Nat.zero_add]; exact Nat.mod_lt _ hn)
        rw [Nat.zero_add, Nat.zero_add] at a2
        rw [a2]
        congr 1
        rw [Nat.mod_mod_of_dvd _ (Nat.dvd_of_mod_eq_zero e), Nat.add_mod_left]
      rcases Nat.lt_trichotomy (zw_per l) (zm_rt l (l.length - 1)) with h | h | h
      · exact absurd hE (t4 _ (by omega) h)
      · exact h
      · have := zm_EQ (t1 (by omega))
        exact absurd this (q2 _ (by omega) h)
  · rw [if_neg (fun x => e x.2)]
    by_cases e2 : zm_rt l (l.length - 1) < l.length
    · exfalso
      have hE := t1 e2
      generalize zm_rt l (l.length - 1) = r at hE t3 t4 e2
      have rd : l.length % r = 0 := by
        by_cases e3 : l.length % r = 0
        · exact e3
        · exfalso
          have m1 := Nat.mod_lt l.length (show 0 < r by omega)
          have m2 := Nat.mod_add_div l.length r
          refine t4 (l.length % r) (by omega) m1 ?_
          intro x hx
          rw [Nat.zero_add, Nat.add_comm, ← zm_Emul hn hE (l.length / r) (x + l.length % r), show x + l.length % r + r * (l.length / r) = x + l.length by omega]
          unfold zm_c
          rw [Nat.add_mod_right]
      have pr : zw_per l ≤ r := by
        by_cases e4 : zw_per l ≤ r
        · exact e4
        · exact absurd (zm_EQ hE) (q2 r (by omega) (by omega))
      have r2 : r + r ≤ l.length := by
        have m2 := Nat.mod_add_div l.length r
        have m3 : l.length / r ≠ 0 ∧ l.length / r ≠ 1 := by
          constructor
          · intro x
            rw [x] at m2
            omega
          · intro x
            rw [x] at m2
            omega
        generalize l.length / r = k at m2 m3
        have m4 : r * 2 ≤ r * k := Nat.mul_le_mul_left r (by omega)
        omega
      have hp : zm_E l (zw_per l) 0 := by
        intro x hx
        rw [Nat.zero_add]
        have m1 := Nat.mod_lt x (show 0 < r by omega)
        have m2 := Nat.mod_add_div x r
        have b1 := zm_Emul hn hE (x / r) (zw_per l + x % r)
        have b2 := zm_Emul hn hE (x / r) (x % r)
        rw [show zw_per l + x % r + r * (x / r) = zw_per l + x by omega] at b1
        rw [show x % r + r * (x / r) = x by omega] at b2
        rw [b1, b2, zm_c0 (by omega), zm_c0 (by omega)]
        have := q1 (zw_per l + x % r) (by omega) (by omega)
        rw [show zw_per l + x % r - zw_per l = x % r by omega] at this
        exact this
      by_cases e5 : zw_per l = r
      · rw [e5] at e
        exact e rd
      · exact t4 (zw_per l) (by omega) (by omega) hp
    · omega
