/-! THE CLASS'S WORDS: factors by number and by position, periods, endings. -/
def zw_opt : Option (Nat × Nat) → Int
  | some t => (t.1 : Int)
  | none => -1
/-- the number of the last factor that begins at p or before -/
def zw_lead (p : Nat) : List (Nat × Nat) → Nat
  | [] => 0
  | t :: r => if t.1 ≤ p then zw_lead p r + 1 else 0
theorem zw_leadl (p : Nat) : ∀ r : List (Nat × Nat), zw_lead p r ≤ r.length := by
  intro r
  induction r with
  | nil => exact Nat.le_refl 0
  | cons t r ih =>
    rw [zw_lead, List.length_cons]
    split <;> omega
/-- the first longest: k is its number, g the one found, m its length -/
def zw_long : List (Nat × Nat) → Nat → Int → Nat → Int
  | [], _, g, _ => g
  | t :: r, k, g, m => if m < t.2 - t.1 then zw_long r (k + 1) (k : Int) (t.2 - t.1) else zw_long r (k + 1) g m
theorem zw_longb : ∀ (r : List (Nat × Nat)) (k : Nat) (g : Int) (m : Nat), -1 ≤ g → g < (k : Int) + r.length + 1 → -1 ≤ zw_long r k g m ∧ zw_long r k g m < (k : Int) + r.length + 1 := by
  intro r
  induction r with
  | nil =>
    intro k g m h1 h2
    rw [zw_long]
    exact ⟨h1, h2⟩
  | cons t r ih =>
    intro k g m h1 h2
    rw [List.length_cons] at h2 ⊢
    rw [zw_long]
    split
    · have := ih (k + 1) (k : Int) (t.2 - t.1) (by omega) (by omega)
      omega
    · have := ih (k + 1) g m h1 (by omega)
      omega
/-- how many factors are alike -/
def zw_like (l : List Nat) (a b : Nat) : List (Nat × Nat) → Nat
  | [] => 0
  | t :: r => (if zw_cmp (zw_p l t.1 t.2) (zw_p l a b) = 0 then 1 else 0) + zw_like l a b r
theorem zw_likel (l : List Nat) (a b : Nat) : ∀ r : List (Nat × Nat), zw_like l a b r ≤ r.length := by
  intro r
  induction r with
  | nil => exact Nat.le_refl 0
  | cons t r ih =>
    rw [zw_like, List.length_cons]
    split <;> omega
section ZWQ3
variable {h : zH} {q n N : Nat} {l : List Nat}
theorem zw_begin7 (H : zw_W h q n l) (hN : 1000 ≤ N) {x : Nat} (hx : x < 2147483648) : ∀ c f k b s : Nat, c < f → k + c = l.length → k ≤ s → b ≤ s → s ≤ l.length → k ≤ x → fW_beginOfFactor_7 N f q (Int32.ofInt (x : Int)) (Int32.ofInt (b : Int)) (Int32.ofInt (s : Int)) (Int32.ofInt (k : Int)) h = some (Int32.ofInt (zw_opt (zw_it l c b s)[x - k]?), h) := by
  have u1 := H.2.2.2.1
  have u2 := H.2.2.2.2.1
  have e40 : ∀ s : Nat, s ≤ l.length → fW_beginOfFactor_40 N q (Int32.ofInt (x : Int)) (Int32.ofInt (s : Int)) h = some (Int32.ofInt (if s < l.length then (s : Int) else -1), h) := by
    intro s hs
    unfold fW_beginOfFactor_40
    rw [zqo_lt _ _ (by omega) (by decide), decide_eq_false (by omega), cond_false, zw_z H, b1_s, zqo_ge _ _ (by omega) (by omega)]
    by_cases e1 : s < l.length
    · rw [decide_eq_false (by omega), cond_false, if_pos e1]
      rfl
    · rw [decide_eq_true (by omega), cond_true, if_neg e1]
      rfl
  intro c
  induction c with
  | zero =>
    intro f k b s h1 h2 h3 h4 h5 h6
    obtain ⟨g, rfl⟩ : ∃ g, f = g + 1 := ⟨f - 1, by omega⟩
    rw [fW_beginOfFactor_7, zw_z H, b1_s, zqo_ge (s : Int) _ (by omega) (by omega), decide_eq_true (show ((l.length : Int) ≤ (s : Int)) by omega), cond_true, e40 s h5, if_neg (by omega)]
    cases z_cmp .ge (Int32.ofInt (k : Int)) (Int32.ofInt (x : Int)) <;> rfl
  | succ c ih =>
    intro f k b s h1 h2 h3 h4 h5 h6
    obtain ⟨g, rfl⟩ : ∃ g, f = g + 1 := ⟨f - 1, by omega⟩
    rw [fW_beginOfFactor_7, zw_z H, b1_s, zqo_ge _ _ (by omega) (by omega), zqo_ge _ _ (by omega) (by omega), e40 s h5, zw_it]
    by_cases e1 : l.length ≤ s
    · rw [if_neg (by omega), if_pos e1, decide_eq_true (show ((l.length : Int) ≤ (s : Int)) by omega), cond_true]
      cases decide ((x : Int) ≤ (k : Int)) <;> rfl
    · rw [if_pos (by omega), if_neg e1, decide_eq_false (show ¬ ((l.length : Int) ≤ (s : Int)) by omega), cond_false]
      by_cases e2 : x = k
      · rw [decide_eq_true (by omega), cond_true, e2, Nat.sub_self]
        rfl
      · have e3 := zw_fEb (b := b) (show s < l.length by omega)
        rw [decide_eq_false (by omega), cond_false, zw_fac H hN (by omega) h4, b2, zh_inc, show x - k = (x - (k + 1)) + 1 by omega, List.getElem?_cons_succ]
        exact ih g (k + 1) s _ (by omega) (by omega) (by omega) (by omega) e3.2 (by omega)
/-- where a factor begins, by its number; -1 if there is none -/
def zw_bF (l : List Nat) (x : Int) : Int := if x < 0 then -1 else zw_opt (zw_fs l)[x.toNat]?
theorem zw_begin (H : zw_W h q n l) (hN : 1000 ≤ N) (x : Int) (hx : -2147483648 ≤ x ∧ x < 2147483648) : fW_beginOfFactor N q (Int32.ofInt x) h = some (Int32.ofInt (zw_bF l x), h) := by
  have u1 := H.2.2.2.1
  have u2 := H.2.2.2.2.1
  unfold fW_beginOfFactor zw_bF
  rw [zw_T H, cond_true]
  by_cases e1 : x < 0
  · obtain ⟨g, hg⟩ : ∃ g, N = g + 1 := ⟨N - 1, by omega⟩
    rw [if_pos e1]
    rw [show fW_beginOfFactor_7 N N = fW_beginOfFactor_7 N (g + 1) by rw [← hg], fW_beginOfFactor_7, zqo_ge _ _ (by decide) hx, decide_eq_true (by omega), cond_true]
    unfold fW_beginOfFactor_40
    rw [zqo_lt _ _ hx (by decide), decide_eq_true e1, cond_true]
    rfl
  · obtain ⟨y, rfl⟩ : ∃ y : Nat, x = (y : Int) := ⟨x.toNat, by omega⟩
    rw [if_neg e1]
    have e := zw_begin7 (N := N) H hN (x := y) (by omega) l.length N 0 0 0 (by omega) (by omega) (Nat.le_refl _) (Nat.le_refl _) (Nat.zero_le _) (Nat.zero_le _)
    exact e
theorem zw_with24 (H : zw_W h q n l) (hN : 1000 ≤ N) {p : Nat} (hp : p < l.length) : ∀ c f k b s : Nat, c < f → k + c = l.length → k ≤ s → b ≤ s → s ≤ l.length → fW_factorWith_24 N f q (Int32.ofInt (p : Int)) (Int32.ofInt ((k : Int) - 1)) (Int32.ofInt (b : Int)) (Int32.ofInt (s : Int)) (Int32.ofInt (k : Int)) h = some (Int32.ofInt ((k : Int) + (zw_lead p (zw_it l c b s) : Int) - 1), h) := by
  have u1 := H.2.2.2.1
  have u2 := H.2.2.2.2.1
  intro c
  induction c with
  | zero =>
    intro f k b s h1 h2 h3 h4 h5
    obtain ⟨g, rfl⟩ : ∃ g, f = g + 1 := ⟨f - 1, by omega⟩
    rw [fW_factorWith_24, zw_z H, b1_s, zqo_ge _ _ (by omega) (by omega), decide_eq_true (by omega), cond_true]
    unfold fW_factorWith_64
    rw [zw_it, zw_lead, show (k : Int) + ((0 : Nat) : Int) - 1 = (k : Int) - 1 by omega]
  | succ c ih =>
    intro f k b s h1 h2 h3 h4 h5
    obtain ⟨g, rfl⟩ : ∃ g, f = g + 1 := ⟨f - 1, by omega⟩
    rw [fW_factorWith_24, zw_z H, b1_s, zqo_ge _ _ (by omega) (by omega), decide_eq_false (by omega), cond_false, zqo_gt _ _ (by omega) (by omega), zw_it]
    by_cases e1 : p < s
    · rw [decide_eq_true (by omega), cond_true]
      unfold fW_factorWith_64
      split
      · rw [zw_lead, show (k : Int) + ((0 : Nat) : Int) - 1 = (k : Int) - 1 by omega]
      · rw [zw_lead, if_neg (show ¬ s ≤ p by omega), show (k : Int) + ((0 : Nat) : Int) - 1 = (k : Int) - 1 by omega]
    · have e3 := zw_fEb (b := b) (show s < l.length by omega)
      rw [decide_eq_false (by omega), cond_false, if_neg (by omega), zw_fac H hN (by omega) h4, b2, zh_inc, zw_lead, if_pos (show s ≤ p by omega)]
      have e4 := ih g (k + 1) s _ (by omega) (by omega) (by omega) (by omega) e3.2
      rw [show ((k + 1 : Nat) : Int) - 1 = (k : Int) by omega] at e4
      rw [e4]
      congr 3
      omega
/-- the number of the factor with a position; -1 if there is no such position -/
def zw_wF (l : List Nat) (x : Int) : Int := if x < 0 ∨ (l.length : Int) ≤ x then -1 else (zw_lead x.toNat (zw_fs l) : Int) - 1
theorem zw_with (H : zw_W h q n l) (hN : 1000 ≤ N) (x : Int) (hx : -2147483648 ≤ x ∧ x < 2147483648) : fW_factorWith N q (Int32.ofInt x) h = some (Int32.ofInt (zw_wF l x), h) := by
  have u1 := H.2.2.2.1
  have u2 := H.2.2.2.2.1
  unfold fW_factorWith zw_wF
  rw [zw_T H, cond_true, zqo_lt _ _ hx (by decide), zw_z H, b1_s, zqo_lt _ _ hx (by omega)]
  by_cases e1 : x < 0
  · rw [decide_eq_true e1, cond_true, if_pos (Or.inl e1)]
    rfl
  · rw [decide_eq_false e1, cond_false]
    by_cases e2 : (l.length : Int) ≤ x
    · rw [decide_eq_false (by omega), cond_false, if_pos (Or.inr e2)]
      rfl
    · obtain ⟨y, rfl⟩ : ∃ y : Nat, x = (y : Int) := ⟨x.toNat, by omega⟩
      rw [decide_eq_true (by omega), cond_true, if_neg (by omega)]
      have e := zw_with24 (N := N) H hN (p := y) (by omega) l.length N 0 0 0 (by omega) (by omega) (Nat.le_refl _) (Nat.le_refl _) (Nat.zero_le _)
      rw [show ((0 : Nat) : Int) + (zw_lead y (zw_it l l.length 0 0) : Int) - 1 = (zw_lead y (zw_it l l.length 0 0) : Int) - 1 by omega] at e
      exact e
end ZWQ3
