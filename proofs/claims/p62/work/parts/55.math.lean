/-! LYNDON WORDS: what the scan for a factor's end finds. -/
theorem zm_cd {l m : List Nat} : ∀ d a b x y : Nat, x ≤ l.length → y ≤ m.length → a + d < x → b + d < y → (∀ e, e < d → l.getD (a + e) 0 = m.getD (b + e) 0) → l.getD (a + d) 0 ≠ m.getD (b + d) 0 → zw_cmp (zw_p l a x) (zw_p m b y) = if l.getD (a + d) 0 < m.getD (b + d) 0 then -1 else 1 := by
  intro d
  induction d with
  | zero =>
    intro a b x y h1 h2 h3 h4 h5 h6
    simp only [Nat.add_zero] at h6 ⊢
    rw [zw_pc (by omega) h1, zw_pc (by omega) h2, zw_cmp, if_neg h6]
  | succ d ih =>
    intro a b x y h1 h2 h3 h4 h5 h6
    have e0 := h5 0 (by omega)
    rw [Nat.add_zero, Nat.add_zero] at e0
    rw [zw_pc (by omega) h1, zw_pc (by omega) h2, zw_cmp, if_pos e0]
    have e1 := ih (a + 1) (b + 1) x y h1 h2 (by omega) (by omega) (fun e he => by
      have := h5 (e + 1) (by omega)
      rw [show a + 1 + e = a + (e + 1) by omega, show b + 1 + e = b + (e + 1) by omega]
      exact this) (by rw [show a + 1 + d = a + (d + 1) by omega, show b + 1 + d = b + (d + 1) by omega]; exact h6)
    rw [show a + 1 + d = a + (d + 1) by omega, show b + 1 + d = b + (d + 1) by omega] at e1
    exact e1
theorem zm_ce {l m : List Nat} : ∀ c a b y : Nat, a + c ≤ l.length → y ≤ m.length → b + c ≤ y → (∀ e, e < c → l.getD (a + e) 0 = m.getD (b + e) 0) → zw_cmp (zw_p l a (a + c)) (zw_p m b y) = if b + c = y then 0 else -1 := by
  intro c
  induction c with
  | zero =>
    intro a b y h1 h2 h3 h4
    rw [zw_p0 (show a + 0 ≤ a by omega)]
    by_cases e1 : b + 0 = y
    · rw [if_pos e1, zw_p0 (by omega)]
      rfl
    · rw [if_neg e1, zw_pc (by omega) h2]
      rfl
  | succ c ih =>
    intro a b y h1 h2 h3 h4
    have e0 := h4 0 (by omega)
    rw [Nat.add_zero, Nat.add_zero] at e0
    rw [zw_pc (by omega) h1, zw_pc (by omega) h2, zw_cmp, if_pos e0]
    have e1 := ih (a + 1) (b + 1) y (by omega) h2 (by omega) (fun e he => by
      have := h4 (e + 1) (by omega)
      rw [show a + 1 + e = a + (e + 1) by omega, show b + 1 + e = b + (e + 1) by omega]
      exact this)
    rw [show a + 1 + c = a + (c + 1) by omega, show b + 1 + c = b + (c + 1) by omega] at e1
    exact e1
theorem zm_anti : ∀ l m : List Nat, zw_cmp m l = - zw_cmp l m := by
  intro l
  induction l with
  | nil =>
    intro m
    cases m with
    | nil => rfl
    | cons b m => rfl
  | cons a l ih =>
    intro m
    cases m with
    | nil => rfl
    | cons b m =>
      rw [zw_cmp, zw_cmp]
      by_cases h1 : a = b
      · rw [if_pos h1, if_pos h1.symm]
        exact ih m
      · rw [if_neg h1, if_neg (fun h => h1 h.symm)]
        by_cases h2 : a < b
        · rw [if_pos h2, if_neg (by omega)]
          rfl
        · rw [if_neg h2, if_pos (by omega)]
theorem zm_eq : ∀ l m : List Nat, zw_cmp l m = 0 → l = m := by
  intro l
  induction l with
  | nil =>
    intro m h
    cases m with
    | nil => rfl
    | cons b m => exact absurd h (by rw [zw_cmp]; decide)
  | cons a l ih =>
    intro m h
    cases m with
    | nil => exact absurd h (by rw [zw_cmp]; decide)
    | cons b m =>
      rw [zw_cmp] at h
      by_cases h1 : a = b
      · rw [if_pos h1] at h
        rw [h1, ih m h]
      · rw [if_neg h1] at h
        by_cases h2 : a < b
        · rw [if_pos h2] at h
          exact absurd h (by decide)
        · rw [if_neg h2] at h
          exact absurd h (by decide)
theorem zm_self : ∀ l : List Nat, zw_cmp l l = 0 := by
  intro l
  induction l with
  | nil => rfl
  | cons a l ih => rw [zw_cmp, if_pos rfl, ih]
theorem zm_tr : ∀ a b c : List Nat, zw_cmp a b = -1 → zw_cmp b c = -1 → zw_cmp a c = -1 := by
  intro a
  induction a with
  | nil =>
    intro b c h1 h2
    cases c with
    | nil =>
      cases b with
      | nil => exact h1
      | cons y b => exact absurd h2 (by rw [zw_cmp]; decide)
    | cons z c => rfl
  | cons x a ih =>
    intro b c h1 h2
    cases b with
    | nil => exact absurd h1 (by rw [zw_cmp]; decide)
    | cons y b =>
      cases c with
      | nil => exact absurd h2 (by rw [zw_cmp]; decide)
      | cons z c =>
        rw [zw_cmp] at h1 h2 ⊢
        by_cases e1 : x = y
        · rw [if_pos e1] at h1
          by_cases e2 : y = z
          · rw [if_pos e2] at h2
            rw [if_pos (e1.trans e2)]
            exact ih b c h1 h2
          · rw [if_neg e2] at h2
            rw [e1, if_neg e2]
            exact h2
        · rw [if_neg e1] at h1
          have e3 : x < y := by
            by_cases e3 : x < y
            · exact e3
            · rw [if_neg e3] at h1
              exact absurd h1 (by decide)
          by_cases e2 : y = z
          · rw [← e2, if_neg e1, if_pos e3]
          · rw [if_neg e2] at h2
            have e4 : y < z := by
              by_cases e4 : y < z
              · exact e4
              · rw [if_neg e4] at h2
                exact absurd h2 (by decide)
            rw [if_neg (by omega), if_pos (by omega)]
/-- an end of the word from s of p letters is greater, and not by its length -/
def zm_D (l : List Nat) (s p j : Nat) : Prop := ∃ d, j + d < p ∧ (∀ e, e < d → l.getD (s + j + e) 0 = l.getD (s + e) 0) ∧ l.getD (s + d) 0 < l.getD (s + j + d) 0
/-- the p letters from s are a Lyndon word -/
def zm_L (l : List Nat) (s p : Nat) : Prop := 1 ≤ p ∧ s + p ≤ l.length ∧ ∀ j, 0 < j → j < p → zm_D l s p j
theorem zm_one {l : List Nat} {s : Nat} (h : s < l.length) : zm_L l s 1 := ⟨Nat.le_refl 1, h, fun j h1 h2 => by omega⟩
/-- a period p up to i -/
def zm_P (l : List Nat) (s p i : Nat) : Prop := ∀ j, p ≤ j → s + j < i → l.getD (s + j) 0 = l.getD (s + j - p) 0
theorem zm_per {l : List Nat} {s p i : Nat} (hp : 1 ≤ p) (H : zm_P l s p i) : ∀ x, s + x < i → l.getD (s + x) 0 = l.getD (s + x % p) 0 := by
  intro x
  induction x using Nat.strongRecOn with
  | ind x ih =>
    intro hx
    by_cases h1 : x < p
    · rw [Nat.mod_eq_of_lt h1]
    · rw [H x (by omega) hx, show s + x - p = s + (x - p) by omega, ih (x - p) (by omega) (by omega), Nat.mod_eq_sub_mod (show p ≤ x by omega)]
theorem zm_ext {l : List Nat} {s p i : Nat} (W : zm_L l s p) (H : zm_P l s p i) (h1 : s + p ≤ i) (h2 : i < l.length) (h3 : l.getD (i - p) 0 < l.getD i 0) : zm_L l s (i - s + 1) := by
  obtain ⟨w1, w2, w3⟩ := W
  refine ⟨by omega, by omega, ?_⟩
  intro j j1 j2
  have per := zm_per w1 H
  have em : l.getD (i - p) 0 = l.getD (s + (i - s) % p) 0 := by
    have := per (i - s - p) (by omega)
    rw [show s + (i - s - p) = i - p by omega] at this
    rw [this, Nat.mod_eq_sub_mod (show p ≤ i - s by omega)]
  rw [em] at h3
  have ei : l.getD i 0 = l.getD (s + j + (i - s - j)) 0 := by
    congr 1
    omega
  rw [ei] at h3
  have hj : j % p + p * (j / p) = j := Nat.mod_add_div j p
  by_cases r0 : j % p = 0
  · refine ⟨i - s - j, by omega, ?_, ?_⟩
    · intro e he
      have a1 := per (j + e) (by omega)
      have a2 := per e (by omega)
      rw [show s + j + e = s + (j + e) by omega, a1, a2]
      congr 2
      rw [Nat.add_mod, r0, Nat.zero_add, Nat.mod_mod]
    · have a2 := per (i - s - j) (by omega)
      rw [a2]
      have a3 : (i - s - j) % p = (i - s) % p := by
        have : i - s = j + (i - s - j) := by omega
        rw [this, Nat.add_mod j, r0, Nat.zero_add, Nat.mod_mod]
        congr 1
        omega
      rw [a3]
      exact h3
  · have rp : j % p < p := Nat.mod_lt j (by omega)
    obtain ⟨d0, d1, d2, d3⟩ := w3 (j % p) (by omega) rp
    have key : ∀ e, j % p + e < p → (j + e) % p = j % p + e := by
      intro e he
      rw [Nat.add_mod]
      have e1 : e % p = e := Nat.mod_eq_of_lt (by omega)
      rw [e1, Nat.mod_eq_of_lt he]
    by_cases c1 : s + j + d0 < i
    · refine ⟨d0, by omega, ?_, ?_⟩
      · intro e he
        rw [show s + j + e = s + (j + e) by omega, per (j + e) (by omega), key e (by omega), show s + (j % p + e) = s + j % p + e by omega]
        exact d2 e he
      · rw [show s + j + d0 = s + (j + d0) by omega, per (j + d0) (by omega), key d0 d1, show s + (j % p + d0) = s + j % p + d0 by omega]
        exact d3
    · have hd : i - s - j ≤ d0 := by omega
      refine ⟨i - s - j, by omega, ?_, ?_⟩
      · intro e he
        rw [show s + j + e = s + (j + e) by omega, per (j + e) (by omega), key e (by omega), show s + (j % p + e) = s + j % p + e by omega]
        exact d2 e (by omega)
      · have a3 : (i - s) % p = j % p + (i - s - j) := by
          have := key (i - s - j) (by omega)
          rw [show j + (i - s - j) = i - s by omega] at this
          exact this
        rw [a3, show s + (j % p + (i - s - j)) = s + j % p + (i - s - j) by omega] at h3
        by_cases c2 : i - s - j = d0
        · rw [c2] at h3 ⊢
          omega
        · rw [d2 (i - s - j) (by omega)] at h3
          exact h3
/-- where the scan stops -/
def zm_S (l : List Nat) (s p i : Nat) : Prop := s + p ≤ i ∧ i ≤ l.length ∧ zm_P l s p i ∧ (i = l.length ∨ (i < l.length ∧ l.getD i 0 < l.getD (i - p) 0))
theorem zm_le {l : List Nat} {s : Nat} : ∀ c p, s + p + c ≤ l.length → zm_L l s p → zm_P l s p (l.length - c) → ∃ p', zw_le l s c p = s + p' ∧ zm_L l s p' ∧ ∃ i, zm_S l s p' i := by
  intro c
  induction c with
  | zero =>
    intro p h1 h2 h3
    exact ⟨p, rfl, h2, l.length, by omega, Nat.le_refl _, h3, Or.inl rfl⟩
  | succ c ih =>
    intro p h1 h2 h3
    rw [zw_le]
    by_cases e1 : l.getD (l.length - (c + 1)) 0 < l.getD (l.length - (c + 1) - p) 0
    · rw [if_pos e1]
      exact ⟨p, rfl, h2, l.length - (c + 1), by omega, by omega, h3, Or.inr ⟨by omega, e1⟩⟩
    · rw [if_neg e1]
      by_cases e2 : l.getD (l.length - (c + 1) - p) 0 < l.getD (l.length - (c + 1)) 0
      · rw [if_pos e2]
        refine ih _ (by omega) (zm_ext h2 h3 (by omega) (by omega) e2) ?_
        intro j j1 j2
        omega
      · rw [if_neg e2]
        refine ih p (by omega) h2 ?_
        intro j j1 j2
        by_cases e3 : s + j < l.length - (c + 1)
        · exact h3 j j1 e3
        · have e4 : s + j = l.length - (c + 1) := by omega
          rw [e4]
          omega
/-- the factor at s is a Lyndon word, and what comes behind it is smaller -/
theorem zm_lE {l : List Nat} {s : Nat} (h : s < l.length) : ∃ p, zw_lE l s = s + p ∧ zm_L l s p ∧ ∃ i, zm_S l s p i := by
  refine zm_le _ 1 (by omega) (zm_one h) ?_
  intro j j1 j2
  omega
theorem zm_big {l : List Nat} {s p j x : Nat} (W : zm_L l s p) (j1 : 0 < j) (j2 : j < p) (hx : s + p ≤ x) (hl : x ≤ l.length) : zw_cmp (zw_p l (s + j) x) (zw_p l s x) = 1 := by
  obtain ⟨d, d1, d2, d3⟩ := W.2.2 j j1 j2
  rw [zm_cd d (s + j) s x x hl hl (by omega) (by omega) d2 (by omega), if_neg (by omega)]
theorem zm_next {l : List Nat} {s p i : Nat} (hp : 1 ≤ p) (S : zm_S l s p i) (h : s + p < l.length) : zw_cmp (zw_p l (s + p) l.length) (zw_p l s l.length) = -1 := by
  obtain ⟨s1, s2, s3, s4⟩ := S
  have per : ∀ e, s + p + e < i → l.getD (s + p + e) 0 = l.getD (s + e) 0 := by
    intro e he
    have := s3 (p + e) (by omega) (by omega)
    rw [show s + (p + e) = s + p + e by omega, show s + p + e - p = s + e by omega] at this
    exact this
  rcases s4 with s4 | ⟨s4, s5⟩
  · have := zm_ce (l := l) (m := l) (l.length - (s + p)) (s + p) s l.length (by omega) (Nat.le_refl _) (by omega) (fun e he => per e (by omega))
    rw [show s + p + (l.length - (s + p)) = l.length by omega, if_neg (by omega)] at this
    exact this
  · have := zm_cd (l := l) (m := l) (i - (s + p)) (s + p) s l.length l.length (Nat.le_refl _) (Nat.le_refl _) (by omega) (by omega) (fun e he => per e (by omega))
    rw [show s + p + (i - (s + p)) = i by omega, show s + (i - (s + p)) = i - p by omega] at this
    rw [this (by omega), if_pos s5]
/-- the first p letters taken away from both -/
theorem zm_cancel {l : List Nat} : ∀ p a b : Nat, a + p ≤ l.length → b + p ≤ l.length → (∀ e, e < p → l.getD (a + e) 0 = l.getD (b + e) 0) → zw_cmp (zw_p l a l.length) (zw_p l b l.length) = zw_cmp (zw_p l (a + p) l.length) (zw_p l (b + p) l.length) := by
  intro p
  induction p with
  | zero => intro a b h1 h2 h3; rfl
  | succ p ih =>
    intro a b h1 h2 h3
    have e0 := h3 0 (by omega)
    rw [Nat.add_zero, Nat.add_zero] at e0
    rw [zw_pc (show a < l.length by omega) (Nat.le_refl _), zw_pc (show b < l.length by omega) (Nat.le_refl _), zw_cmp, if_pos e0, ih (a + 1) (b + 1) (by omega) (by omega) (fun e he => by
      have := h3 (e + 1) (by omega)
      rw [show a + 1 + e = a + (e + 1) by omega, show b + 1 + e = b + (e + 1) by omega]
      exact this), show a + 1 + p = a + (p + 1) by omega, show b + 1 + p = b + (p + 1) by omega]
theorem zm_pget {l : List Nat} {a b e : Nat} (h : a + e < b) (h1 : b ≤ l.length) : (zw_p l a b).getD e 0 = l.getD (a + e) 0 := by
  unfold zw_p
  rw [List.getD_eq_getElem?_getD, List.getElem?_take_of_lt (by omega), List.getElem?_drop, ← List.getD_eq_getElem?_getD]
/-- a factor that stands there once more is the next one -/
theorem zm_fE {l : List Nat} {b s : Nat} (hb : b < s) (hs : s < l.length) (W : zm_L l b (s - b)) (hc : zw_cmp (zw_p l s l.length) (zw_p l b l.length) = -1) : zw_fE l b s = zw_lE l s := by
  unfold zw_fE
  by_cases h : b < s ∧ s + s - b ≤ l.length ∧ zw_cmp (zw_p l b s) (zw_p l s (s + s - b)) = 0
  · rw [if_pos h]
    obtain ⟨_, h2, h3⟩ := h
    have he := zm_eq _ _ h3
    have hg : ∀ e, e < s - b → l.getD (s + e) 0 = l.getD (b + e) 0 := by
      intro e he2
      rw [← zm_pget (l := l) (a := s) (b := s + s - b) (by omega) h2, ← zm_pget (l := l) (a := b) (b := s) (by omega) (by omega), he]
    have W2 : zm_L l s (s - b) := by
      obtain ⟨w1, w2, w3⟩ := W
      refine ⟨w1, by omega, ?_⟩
      intro j j1 j2
      obtain ⟨d, d1, d2, d3⟩ := w3 j j1 j2
      refine ⟨d, d1, ?_, ?_⟩
      · intro e he2
        rw [show s + j + e = s + (j + e) by omega, hg (j + e) (by omega), hg e (by omega), show b + (j + e) = b + j + e by omega]
        exact d2 e he2
      · rw [show s + j + d = s + (j + d) by omega, hg (j + d) d1, hg d (by omega), show b + (j + d) = b + j + d by omega]
        exact d3
    obtain ⟨p', p1, p2, i, p3⟩ := zm_lE hs
    rw [p1]
    have p4 : p' = s - b := by
      rcases Nat.lt_trichotomy p' (s - b) with q | q | q
      · have a1 := zm_big W2 (by have := p2.1; omega) q (show s + (s - b) ≤ l.length by omega) (Nat.le_refl _)
        have a2 := zm_next p2.1 p3 (by omega)
        rw [a2] at a1
        exact absurd a1 (by decide)
      · exact q
      · have a1 := zm_big p2 (by have := W.1; omega) q p2.2.1 (Nat.le_refl _)
        have a2 := zm_cancel (s - b) s b (by omega) (by omega) hg
        rw [hc, show b + (s - b) = s by omega] at a2
        rw [← a2] at a1
        exact absurd a1 (by decide)
    omega
  · rw [if_neg h]
/-- the factors, by the scan alone -/
def zm_it (l : List Nat) : Nat → Nat → List (Nat × Nat)
  | 0, _ => []
  | c + 1, s => if l.length ≤ s then [] else (s, zw_lE l s) :: zm_it l c (zw_lE l s)
theorem zm_itE {l : List Nat} : ∀ c b s, (b = s ∨ (b < s ∧ zm_L l b (s - b) ∧ (s < l.length → zw_cmp (zw_p l s l.length) (zw_p l b l.length) = -1))) → zw_it l c b s = zm_it l c s := by
  intro c
  induction c with
  | zero => intro b s h; rfl
  | succ c ih =>
    intro b s h
    rw [zw_it, zm_it]
    by_cases e1 : l.length ≤ s
    · rw [if_pos e1, if_pos e1]
    · rw [if_neg e1, if_neg e1]
      have e2 : zw_fE l b s = zw_lE l s := by
        rcases h with h | ⟨h1, h2, h3⟩
        · unfold zw_fE
          rw [if_neg (by omega)]
        · exact zm_fE h1 (by omega) h2 (h3 (by omega))
      rw [e2]
      congr 1
      obtain ⟨p, p1, p2, i, p3⟩ := zm_lE (show s < l.length by omega)
      have hp := p2.1
      refine ih s _ (Or.inr ⟨by omega, ?_, ?_⟩)
      · rw [p1, show s + p - s = p by omega]
        exact p2
      · intro h4
        rw [p1] at h4 ⊢
        exact zm_next p2.1 p3 h4
theorem zm_fs (l : List Nat) : zw_fs l = zm_it l l.length 0 := zm_itE l.length 0 0 (Or.inl rfl)
