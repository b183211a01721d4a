/-! THE CLASS'S WORDS: Lyndon parts, periods, endings, the least turn. -/
theorem zw_div (a b : Nat) (ha : a < 2147483648) (hb : b < 2147483648) : Int32.ofInt (a : Int) / Int32.ofInt (b : Int) = Int32.ofInt ((a / b : Nat) : Int) := by
  apply Int32.toInt_inj.mp
  have h1 : a / b ≤ a := Nat.div_le_self a b
  rw [Int32.toInt_div, zqo_i (a : Int) (by omega), zqo_i (b : Int) (by omega), ← Int.ofNat_tdiv]
  generalize a / b = d at h1 ⊢
  rw [zqo_i (d : Int) (by omega)]
  exact Int.bmod_eq_of_le (by omega) (by omega)
theorem zw_modi (a b : Nat) (ha : a < 2147483648) (hb : b < 2147483648) : Int32.ofInt (a : Int) - Int32.ofInt (a : Int) / Int32.ofInt (b : Int) * Int32.ofInt (b : Int) = Int32.ofInt ((a % b : Nat) : Int) := by
  rw [zw_div a b ha hb, ← Int32.ofInt_mul, zw_sub]
  congr 1
  have h1 := Nat.div_add_mod a b
  have h2 : ((b * (a / b) : Nat) : Int) + ((a % b : Nat) : Int) = (a : Int) := by omega
  rw [Int.natCast_mul, Int.mul_comm] at h2
  omega
theorem zw_n0 (a : Int) (h : -2147483648 ≤ a ∧ a < 2147483648) (h0 : a ≠ 0) : ¬ (Int32.ofInt a = Int32.ofInt 0) := by
  intro h1
  have h2 := congrArg Int32.toInt h1
  rw [zqo_i a h, zqo_i 0 (by decide)] at h2
  exact h0 h2
/-- whether a part is smaller than all its shorter ends; c of them are left -/
def zw_iL (l : List Nat) (a b : Nat) : Nat → Bool
  | 0 => decide (a < b)
  | c + 1 => if zw_cmp (zw_p l a b) (zw_p l (b - (c + 1)) b) < 0 then zw_iL l a b c else false
/-- whether p is a period; c places are left -/
def zw_hp (l : List Nat) (p : Nat) : Nat → Bool
  | 0 => true
  | c + 1 => if l.getD (l.length - (c + 1)) 0 = l.getD (l.length - (c + 1) - p) 0 then zw_hp l p c else false
/-- the least period; c are left -/
def zw_pe (l : List Nat) : Nat → Nat
  | 0 => l.length
  | c + 1 => if zw_hp l (l.length - (c + 1)) (c + 1) = true then l.length - (c + 1) else zw_pe l c
def zw_per (l : List Nat) : Nat := zw_pe l (l.length - 1)
/-- the extreme ending: c are left, the best so far -/
def zw_ex (l : List Nat) (sg : Int) : Nat → Nat → Nat
  | 0, b => b
  | c + 1, b => if zw_cmp (zw_p l c l.length) (zw_p l b l.length) = sg then zw_ex l sg c c else zw_ex l sg c b
def zw_ext (l : List Nat) (sg : Int) : Int := if l.length = 0 then -1 else (zw_ex l sg (l.length - 1) (l.length - 1) : Int)
theorem zw_exb (l : List Nat) (sg : Int) : ∀ c b, c ≤ l.length → b < l.length → zw_ex l sg c b < l.length := by
  intro c
  induction c with
  | zero => intro b h1 h2; exact h2
  | succ c ih =>
    intro b h1 h2
    rw [zw_ex]
    split
    · exact ih c (by omega) (by omega)
    · exact ih b (by omega) h2
/-- the letter at a place around -/
def zw_ar (l : List Nat) (i : Nat) : Nat := l.getD (if i < l.length then i else i - l.length) 0
/-- the least turn: f steps are left -/
def zw_lt (l : List Nat) : Nat → Nat → Nat → Nat → Nat
  | 0, a, _, _ => a
  | f + 1, a, r, s => if r < l.length ∧ s < l.length then (if zw_ar l (a + s) = zw_ar l (r + s) then zw_lt l f a r (s + 1) else if zw_ar l (r + s) < zw_ar l (a + s) then zw_lt l f (max r (a + s + 1)) (max r (a + s + 1) + 1) 0 else zw_lt l f a (r + s + 1) 0) else a
def zw_lT (l : List Nat) : Nat := zw_lt l (4 * l.length) 0 1 0
section ZWQ4
variable {h : zH} {q n N : Nat} {l : List Nat}
theorem zw_lpart (H : zw_W h q n l) (hN : 1000 ≤ N) {a b : Nat} (hab : a < b) (hb : b ≤ l.length) : fW_isLyndonPart N q (Int32.ofInt (a : Int)) (Int32.ofInt (b : Int)) h = some (cond (zw_iL l a b (b - (a + 1))) (Int32.ofInt 1) (Int32.ofInt 0), h) := by
  have u1 := H.2.2.2.1
  have u2 := H.2.2.2.2.1
  have key : ∀ c f : Nat, c < f → a + 1 + c ≤ b → fW_isLyndonPart_4 N f q (Int32.ofInt (a : Int)) (Int32.ofInt (b : Int)) (Int32.ofInt ((b - c : Nat) : Int)) h = some (cond (zw_iL l a b c) (Int32.ofInt 1) (Int32.ofInt 0), h) := by
    intro c
    induction c with
    | zero =>
      intro f h1 h2
      obtain ⟨g, rfl⟩ : ∃ g, f = g + 1 := ⟨f - 1, by omega⟩
      rw [fW_isLyndonPart_4, zqo_ge _ _ (by omega) (by omega), decide_eq_true (by omega), cond_true, zqo_ge _ _ (by omega) (by omega), decide_eq_false (by omega), cond_false, zw_iL, decide_eq_true hab]
      rfl
    | succ c ih =>
      intro f h1 h2
      obtain ⟨g, rfl⟩ : ∃ g, f = g + 1 := ⟨f - 1, by omega⟩
      have e4 := zw_cmpb (zw_p l a b) (zw_p l (b - (c + 1)) b)
      rw [fW_isLyndonPart_4, zqo_ge _ _ (by omega) (by omega), decide_eq_false (by omega), cond_false, zw_order H H hN hb hb (by omega) (by omega), b2, zqo_lt _ _ (by omega) (by decide), zw_iL]
      by_cases e1 : zw_cmp (zw_p l a b) (zw_p l (b - (c + 1)) b) < 0
      · rw [decide_eq_true e1, cond_true, if_pos e1, zh_inc, show b - (c + 1) + 1 = b - c by omega]
        exact ih g (by omega) (by omega)
      · rw [decide_eq_false e1, cond_false, if_neg e1]
        rfl
  have e := key (b - (a + 1)) N (by omega) (by omega)
  unfold fW_isLyndonPart
  rw [zw_T H, cond_true, zh_inc]
  rw [show b - (b - (a + 1)) = a + 1 by omega] at e
  exact e
theorem zw_peb (l : List Nat) : ∀ c, c + 1 ≤ l.length → 1 ≤ zw_pe l c ∧ zw_pe l c ≤ l.length := by
  intro c
  induction c with
  | zero =>
    intro h
    rw [zw_pe]
    omega
  | succ c ih =>
    intro h
    rw [zw_pe]
    split
    · omega
    · exact ih (by omega)
theorem zw_perb (l : List Nat) : zw_per l ≤ l.length ∧ (l.length ≠ 0 → 1 ≤ zw_per l) := by
  unfold zw_per
  by_cases e0 : l.length = 0
  · rw [e0]
    show zw_pe l 0 ≤ 0 ∧ _
    rw [zw_pe, e0]
    exact ⟨Nat.le_refl 0, fun h => absurd rfl h⟩
  · have := zw_peb l (l.length - 1) (by omega)
    exact ⟨this.2, fun _ => this.1⟩
/-- the number of turns -/
def zw_tu (l : List Nat) : Nat := if 0 < zw_per l ∧ l.length % zw_per l = 0 then zw_per l else l.length
theorem zw_extr (H : zw_W h q n l) (hN : 1000 ≤ N) {sg : Int} (hs : sg = -1 ∨ sg = 1) : fW_extremeEnding N q (Int32.ofInt sg) h = some (Int32.ofInt (zw_ext l sg), h) := by
  have u1 := H.2.2.2.1
  have u2 := H.2.2.2.2.1
  have key : ∀ c f b : Nat, c < f → c ≤ l.length → (l.length = 0 ∨ b < l.length) → fW_extremeEnding_14 N f q (Int32.ofInt sg) (Int32.ofInt (if l.length = 0 then -1 else (b : Int))) (Int32.ofInt ((c : Int) - 1)) h = some (Int32.ofInt (if l.length = 0 then -1 else (zw_ex l sg c b : Int)), h) := by
    intro c
    induction c with
    | zero =>
      intro f b h1 h2 h3
      obtain ⟨g, rfl⟩ : ∃ g, f = g + 1 := ⟨f - 1, by omega⟩
      rw [fW_extremeEnding_14, zqo_lt _ _ (by omega) (by decide), decide_eq_true (by omega), cond_true, zw_z H, b1_s, zqo_ne _ _ (by omega) (by decide)]
      by_cases e0 : l.length = 0
      · rw [decide_eq_true (by omega), Bool.not_true, cond_false, if_pos e0]
        rfl
      · rw [decide_eq_false (by omega), Bool.not_false, cond_true, if_neg e0, if_neg e0]
        rfl
    | succ c ih =>
      intro f b h1 h2 h3
      obtain ⟨g, rfl⟩ : ∃ g, f = g + 1 := ⟨f - 1, by omega⟩
      have e0 : ¬ l.length = 0 := by omega
      have h3 : b < l.length := by omega
      have e4 := zw_cmpb (zw_p l c l.length) (zw_p l b l.length)
      rw [if_neg e0, if_neg e0, fW_extremeEnding_14, show ((c + 1 : Nat) : Int) - 1 = (c : Int) by omega, zqo_lt _ _ (by omega) (by decide), decide_eq_false (by omega), cond_false, zw_z H, b1_s, b1_s, zw_order H H hN (Nat.le_refl _) (Nat.le_refl _) (by omega) (by omega), b2, zqo_ne _ _ (by omega) (by omega), zw_ex]
      unfold fW_extremeEnding_39
      rw [zw_add, show (c : Int) + -1 = (c : Int) - 1 by omega]
      by_cases e5 : zw_cmp (zw_p l c l.length) (zw_p l b l.length) = sg
      · rw [decide_eq_true e5, Bool.not_true, cond_false, if_pos e5]
        have := ih g c (by omega) (by omega) (Or.inr (by omega))
        rw [if_neg e0, if_neg e0] at this
        exact this
      · rw [decide_eq_false e5, Bool.not_false, cond_true, if_neg e5]
        have := ih g b (by omega) (by omega) (Or.inr h3)
        rw [if_neg e0, if_neg e0] at this
        exact this
  unfold fW_extremeEnding zw_ext
  rw [zw_T H, cond_true, zw_z H, b1_s, b1_s, zw_sub, zw_sub]
  have e := key (l.length - 1) N (l.length - 1) (by omega) (by omega) (by omega)
  by_cases e0 : l.length = 0
  · rw [if_pos e0, if_pos e0] at e
    rw [if_pos e0]
    obtain ⟨g, hg⟩ : ∃ g, N = g + 1 := ⟨N - 1, by omega⟩
    rw [show fW_extremeEnding_14 N N = fW_extremeEnding_14 N (g + 1) by rw [← hg], fW_extremeEnding_14, zqo_lt _ _ (by omega) (by decide), decide_eq_true (by omega), cond_true, zw_z H, b1_s, zqo_ne _ _ (by omega) (by decide), decide_eq_true (by omega), Bool.not_true, cond_false]
    rfl
  · rw [if_neg e0, if_neg e0] at e
    rw [if_neg e0, show (l.length : Int) - 1 = ((l.length - 1 : Nat) : Int) by omega, show (l.length : Int) - 2 = ((l.length - 1 : Nat) : Int) - 1 by omega]
    exact e
theorem zw_around (H : zw_W h q n l) {i : Nat} (hi : i < 2 * l.length) : fW_atAround N q (Int32.ofInt (i : Int)) h = some (Int32.ofInt ((zw_ar l i : Nat) : Int), h) := by
  have u1 := H.2.2.2.1
  have u2 := H.2.2.2.2.1
  unfold fW_atAround zw_ar fW_atAround_19
  rw [zw_T H, cond_true, zw_z H, b1_s, zqo_ge _ _ (by omega) (by omega), b1_s, zw_sub]
  by_cases e1 : i < l.length
  · rw [decide_eq_false (by omega), cond_false, if_pos e1, zw_at H _ (by omega), b2, zw_gi (by omega)]
    rfl
  · rw [decide_eq_true (by omega), cond_true, if_neg e1, show (i : Int) - (l.length : Int) = ((i - l.length : Nat) : Int) by omega, zw_at H _ (by omega), b2, zw_gi (by omega)]
    rfl
theorem zw_arb (hb : ∀ v ∈ l, v < 256) (i : Nat) : zw_ar l i < 256 := zw_gD hb _
theorem zw_max (a b : Nat) (ha : a < 2147483648) (hb : b < 2147483648) : (if Int32.ofInt (a : Int) < Int32.ofInt (b : Int) then Int32.ofInt (b : Int) else Int32.ofInt (a : Int)) = Int32.ofInt ((max a b : Nat) : Int) := by
  by_cases h1 : a < b
  · rw [if_pos (by rw [Int32.lt_iff_toInt_lt, zqo_i _ (by omega), zqo_i _ (by omega)]; omega), Nat.max_eq_right (by omega)]
  · rw [if_neg (by rw [Int32.lt_iff_toInt_lt, zqo_i _ (by omega), zqo_i _ (by omega)]; omega), Nat.max_eq_left (by omega)]
theorem zw_lturn (H : zw_W h q n l) (hN : 3000 ≤ N) : fW_leastTurn N q h = some (Int32.ofInt ((zw_lT l : Nat) : Int), h) := by
  have u1 := H.2.2.2.1
  have u2 := H.2.2.2.2.1
  have u3 := H.2.2.2.2.2
  have key : ∀ c f a r s : Nat, c < f → c ≤ 4 * l.length → a < r → r ≤ 2000 → s ≤ 2000 → fW_leastTurn_9 N f q (Int32.ofInt (a : Int)) (Int32.ofInt (r : Int)) (Int32.ofInt (s : Int)) (Int32.ofInt ((4 * l.length - c : Nat) : Int)) h = some (Int32.ofInt ((zw_lt l c a r s : Nat) : Int), h) := by
    intro c
    induction c with
    | zero =>
      intro f a r s h1 h2 h3 h4 h5
      obtain ⟨g, rfl⟩ : ∃ g, f = g + 1 := ⟨f - 1, by omega⟩
      rw [fW_leastTurn_9, zw_z H, b1_s, ← Int32.ofInt_mul, zqo_ge _ _ (by omega) (by omega), decide_eq_true (by omega), cond_true]
      rfl
    | succ c ih =>
      intro f a r s h1 h2 h3 h4 h5
      obtain ⟨g, rfl⟩ : ∃ g, f = g + 1 := ⟨f - 1, by omega⟩
      rw [fW_leastTurn_9, zw_z H, b1_s, ← Int32.ofInt_mul, zqo_ge _ _ (by omega) (by omega), decide_eq_false (by omega), cond_false, b1_s, zqo_ge _ _ (by omega) (by omega), zw_lt]
      by_cases e1 : l.length ≤ r
      · rw [decide_eq_true (by omega), cond_true, if_neg (show ¬ (r < l.length ∧ s < l.length) by omega)]
        rfl
      · rw [decide_eq_false (by omega), cond_false, b1_s, zqo_ge _ _ (by omega) (by omega)]
        by_cases e2 : l.length ≤ s
        · rw [decide_eq_true (by omega), cond_true, if_neg (show ¬ (r < l.length ∧ s < l.length) by omega)]
          rfl
        · have g1 := zw_arb u3 (a + s)
          have g2 := zw_arb u3 (r + s)
          rw [decide_eq_false (by omega), cond_false, if_pos (show r < l.length ∧ s < l.length by omega), zw_add, zw_add, show (a : Int) + (s : Int) = ((a + s : Nat) : Int) by omega, show (r : Int) + (s : Int) = ((r + s : Nat) : Int) by omega, zw_around H (by omega), b2, zw_around H (by omega), b2, zqo_ne _ _ (by omega) (by omega), zqo_le _ _ (by omega) (by omega)]
          unfold fW_leastTurn_97 fW_leastTurn_99
          rw [zh_inc, zh_inc, zh_inc, zh_inc, show 4 * l.length - (c + 1) + 1 = 4 * l.length - c by omega, zw_max _ _ (by omega) (by omega), zh_inc]
          by_cases e3 : zw_ar l (a + s) = zw_ar l (r + s)
          · rw [decide_eq_true (by omega), Bool.not_true, cond_false, if_pos e3]
            exact ih g a r (s + 1) (by omega) (by omega) h3 h4 (by omega)
          · rw [decide_eq_false (by omega), Bool.not_false, cond_true, if_neg e3]
            by_cases e4 : zw_ar l (r + s) < zw_ar l (a + s)
            · rw [decide_eq_false (by omega), cond_false, if_pos e4]
              exact ih g _ _ 0 (by omega) (by omega) (by omega) (by omega) (by omega)
            · rw [decide_eq_true (by omega), cond_true, if_neg e4]
              exact ih g a _ 0 (by omega) (by omega) (by omega) (by omega) (by omega)
  unfold fW_leastTurn zw_lT
  rw [zw_T H, cond_true]
  have e := key (4 * l.length) N 0 1 0 (by omega) (Nat.le_refl _) (by omega) (by omega) (by omega)
  rw [Nat.sub_self] at e
  exact e
theorem zw_one (H : zw_W h q n l) (hN : 1000 ≤ N) : fW_isOneFactor N q h = some (cond (decide (0 < l.length ∧ zw_lE l 0 = l.length)) (Int32.ofInt 1) (Int32.ofInt 0), h) := by
  have u1 := H.2.2.2.1
  have u2 := H.2.2.2.2.1
  unfold fW_isOneFactor
  rw [zw_T H, cond_true, zw_z H, b1_s, zqo_le _ _ (by omega) (by decide)]
  by_cases e1 : 0 < l.length
  · have e2 := zw_lEb e1
    have e3 := zw_lyn (N := N) H hN e1
    rw [show Int32.ofInt 0 = Int32.ofInt ((0 : Nat) : Int) from rfl, decide_eq_false (by omega), cond_false, e3, b2, zw_z H, b1_s, zqo_ne _ _ (by omega) (by omega)]
    by_cases e4 : zw_lE l 0 = l.length
    · rw [decide_eq_true (by omega), Bool.not_true, cond_false, decide_eq_true ⟨e1, e4⟩]
      rfl
    · rw [decide_eq_false (by omega), Bool.not_false, cond_true, decide_eq_false (fun x => e4 x.2)]
      rfl
  · rw [decide_eq_true (by omega), cond_true, decide_eq_false (fun x => e1 x.1)]
    rfl
/-- whether the word begins a necklace -/
def zw_bn (l : List Nat) : Bool := decide (0 < l.length) && zw_hp l (zw_lE l 0) (l.length - zw_lE l 0)
end ZWQ4
