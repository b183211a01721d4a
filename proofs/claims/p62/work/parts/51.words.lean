/-! THE CLASS'S WORDS: what its questions answer. -/
/-- as in a dictionary: -1, 0 or 1 -/
def zw_cmp : List Nat → List Nat → Int
  | [], [] => 0
  | [], _ :: _ => -1
  | _ :: _, [] => 1
  | a :: l, b :: m => if a = b then zw_cmp l m else if a < b then -1 else 1
theorem zw_cmpb : ∀ l m : List Nat, zw_cmp l m = -1 ∨ zw_cmp l m = 0 ∨ zw_cmp l m = 1 := by
  intro l
  induction l with
  | nil =>
    intro m
    cases m with
    | nil => exact Or.inr (Or.inl rfl)
    | cons b m => exact Or.inl rfl
  | cons a l ih =>
    intro m
    cases m with
    | nil => exact Or.inr (Or.inr rfl)
    | cons b m =>
      rw [zw_cmp]
      split
      · exact ih m
      · split
        · exact Or.inl rfl
        · exact Or.inr (Or.inr rfl)
/-- letters from a to b -/
def zw_p (l : List Nat) (a b : Nat) : List Nat := (l.drop a).take (b - a)
theorem zw_pl (l : List Nat) (a b : Nat) (h1 : b ≤ l.length) : (zw_p l a b).length = b - a := by
  unfold zw_p
  rw [List.length_take, List.length_drop]
  omega
theorem zw_pc {l : List Nat} {a b : Nat} (h : a < b) (h1 : b ≤ l.length) : zw_p l a b = l.getD a 0 :: zw_p l (a + 1) b := by
  unfold zw_p
  rw [List.drop_eq_getElem_cons (show a < l.length by omega), show b - a = (b - (a + 1)) + 1 by omega, List.take_succ_cons, List.getD_eq_getElem?_getD, List.getElem?_eq_getElem (show a < l.length by omega)]
  rfl
theorem zw_p0 {l : List Nat} {a b : Nat} (h : b ≤ a) : zw_p l a b = [] := by
  unfold zw_p
  rw [show b - a = 0 by omega, List.take_zero]
section ZWQ
variable {h : zH} {q n N : Nat} {l : List Nat}
theorem zw_order15 {o k : Nat} {m : List Nat} (H : zw_W h q n l) (O : zw_W h o k m) {a b c d : Nat} (hb : b ≤ l.length) (hd : d ≤ m.length) (hab : a ≤ b) (hcd : c ≤ d) : ∀ f i : Nat, i ≤ b - a → i ≤ d - c → b - a < i + f → fW_order_15 N f q (Int32.ofInt (a : Int)) o (Int32.ofInt (c : Int)) (Int32.ofInt ((b - a : Nat) : Int)) (Int32.ofInt ((d - c : Nat) : Int)) (Int32.ofInt (i : Int)) h = some (Int32.ofInt (zw_cmp (zw_p l (a + i) b) (zw_p m (c + i) d)), h) := by
  have u1 := H.2.2.2.1
  have u2 := H.2.2.2.2.1
  have u3 := O.2.2.2.1
  have u4 := O.2.2.2.2.1
  have fin : ∀ x y : Nat, x ≤ 600 → y ≤ 600 → fW_order_76 N (Int32.ofInt (x : Int)) (Int32.ofInt (y : Int)) h = some (Int32.ofInt (if x = y then 0 else if x < y then -1 else 1), h) := by
    intro x y hx hy
    unfold fW_order_76
    rw [zqo_ne _ _ (by omega) (by omega), zqo_ge _ _ (by omega) (by omega)]
    by_cases h1 : x = y
    · rw [decide_eq_true (by omega), Bool.not_true, cond_false, if_pos h1]
    · rw [decide_eq_false (by omega), Bool.not_false, cond_true, if_neg h1]
      by_cases h2 : x < y
      · rw [decide_eq_false (by omega), cond_false, if_pos h2]
        rfl
      · rw [decide_eq_true (by omega), cond_true, if_neg h2]
        rfl
  intro f
  induction f with
  | zero => intro i h1 h2 h3; omega
  | succ f ih =>
    intro i h1 h2 h3
    rw [fW_order_15, zqo_ge _ _ (by omega) (by omega), zqo_ge _ _ (by omega) (by omega)]
    by_cases e1 : b - a ≤ i
    · rw [decide_eq_true (by omega), cond_true, fin _ _ (by omega) (by omega), zw_p0 (show b ≤ a + i by omega)]
      by_cases e2 : d - c ≤ i
      · rw [zw_p0 (show d ≤ c + i by omega), if_pos (by omega)]
        rfl
      · rw [zw_pc (show c + i < d by omega) hd, if_neg (by omega), if_pos (by omega)]
        rfl
    · rw [decide_eq_false (by omega), cond_false]
      by_cases e2 : d - c ≤ i
      · rw [decide_eq_true (by omega), cond_true, fin _ _ (by omega) (by omega), zw_p0 (show d ≤ c + i by omega), zw_pc (show a + i < b by omega) hb, if_neg (by omega), if_neg (by omega)]
        rfl
      · have g1 := zw_gD H.2.2.2.2.2 (a + i)
        have g2 := zw_gD O.2.2.2.2.2 (c + i)
        rw [decide_eq_false (by omega), cond_false, zw_add, zw_add, show (a : Int) + (i : Int) = ((a + i : Nat) : Int) by omega, show (c : Int) + (i : Int) = ((c + i : Nat) : Int) by omega, zw_at H _ (by omega), b2, zw_at O _ (by omega), b2, zw_gi (by omega), zw_gi (by omega)]
        rw [show ((a + i : Nat) : Int).toNat = a + i by omega, show ((c + i : Nat) : Int).toNat = c + i by omega, zqo_eq _ _ (by omega) (by omega), zqo_ge _ _ (by omega) (by omega), zw_pc (show a + i < b by omega) hb, zw_pc (show c + i < d by omega) hd, zw_cmp]
        by_cases e3 : l.getD (a + i) 0 = m.getD (c + i) 0
        · rw [decide_eq_true (by omega), cond_true, if_pos e3, zh_inc]
          exact ih (i + 1) (by omega) (by omega) (by omega)
        · rw [decide_eq_false (by omega), cond_false, if_neg e3]
          by_cases e4 : l.getD (a + i) 0 < m.getD (c + i) 0
          · rw [decide_eq_false (by omega), cond_false, if_pos e4]
            rfl
          · rw [decide_eq_true (by omega), cond_true, if_neg e4]
            rfl
theorem zw_order {o k : Nat} {m : List Nat} (H : zw_W h q n l) (O : zw_W h o k m) (hN : 1000 ≤ N) {a b c d : Nat} (hb : b ≤ l.length) (hd : d ≤ m.length) (hab : a ≤ b) (hcd : c ≤ d) : fW_order N q (Int32.ofInt (a : Int)) (Int32.ofInt (b : Int)) o (Int32.ofInt (c : Int)) (Int32.ofInt (d : Int)) h = some (Int32.ofInt (zw_cmp (zw_p l a b) (zw_p m c d)), h) := by
  have u1 := H.2.2.2.1
  have u2 := H.2.2.2.2.1
  have e := zw_order15 (N := N) H O hb hd hab hcd N 0 (by omega) (by omega) (by omega)
  unfold fW_order
  rw [zw_T H, cond_true, zw_sub, zw_sub, show (b : Int) - (a : Int) = ((b - a : Nat) : Int) by omega, show (d : Int) - (c : Int) = ((d - c : Nat) : Int) by omega]
  exact e
/-- the end of the longest Lyndon word from s on: c letters are left, the period is p -/
def zw_le (l : List Nat) (s : Nat) : Nat → Nat → Nat
  | 0, p => s + p
  | c + 1, p => if l.getD (l.length - (c + 1)) 0 < l.getD (l.length - (c + 1) - p) 0 then s + p else if l.getD (l.length - (c + 1) - p) 0 < l.getD (l.length - (c + 1)) 0 then zw_le l s c (l.length - (c + 1) - s + 1) else zw_le l s c p
def zw_lE (l : List Nat) (s : Nat) : Nat := zw_le l s (l.length - (s + 1)) 1
theorem zw_leb {l : List Nat} {s : Nat} : ∀ c p, 1 ≤ p → s + p + c ≤ l.length → s + 1 ≤ zw_le l s c p ∧ zw_le l s c p ≤ l.length := by
  intro c
  induction c with
  | zero =>
    intro p h1 h2
    rw [zw_le]
    omega
  | succ c ih =>
    intro p h1 h2
    rw [zw_le]
    split
    · omega
    · split
      · exact ih _ (by omega) (by omega)
      · exact ih p h1 (by omega)
theorem zw_lEb {l : List Nat} {s : Nat} (hs : s < l.length) : s + 1 ≤ zw_lE l s ∧ zw_lE l s ≤ l.length := zw_leb _ 1 (Nat.le_refl 1) (by omega)
theorem zw_lyn6 (H : zw_W h q n l) {s : Nat} : ∀ c f p : Nat, c < f → 1 ≤ p → s + p + c ≤ l.length → fW_lyndonEnd_6 N f q (Int32.ofInt (s : Int)) (Int32.ofInt (p : Int)) (Int32.ofInt ((l.length - c : Nat) : Int)) h = some (Int32.ofInt ((zw_le l s c p : Nat) : Int), h) := by
  have u1 := H.2.2.2.1
  have u2 := H.2.2.2.2.1
  intro c
  induction c with
  | zero =>
    intro f p h1 h2 h3
    obtain ⟨g, rfl⟩ : ∃ g, f = g + 1 := ⟨f - 1, by omega⟩
    rw [fW_lyndonEnd_6, zw_z H, b1_s, zqo_ge _ _ (by omega) (by omega), decide_eq_true (by omega), cond_true]
    unfold fW_lyndonEnd_56
    rw [zw_add]
    rfl
  | succ c ih =>
    intro f p h1 h2 h3
    obtain ⟨g, rfl⟩ : ∃ g, f = g + 1 := ⟨f - 1, by omega⟩
    have g1 := zw_gD H.2.2.2.2.2 (l.length - (c + 1))
    have g2 := zw_gD H.2.2.2.2.2 (l.length - (c + 1) - p)
    rw [fW_lyndonEnd_6, zw_z H, b1_s, zqo_ge _ _ (by omega) (by omega), decide_eq_false (by omega), cond_false, zw_sub, show ((l.length - (c + 1) : Nat) : Int) - (p : Int) = ((l.length - (c + 1) - p : Nat) : Int) by omega, zw_at H _ (by omega), b2, zw_at H _ (by omega), b2, zw_at H _ (by omega), b2, zw_at H _ (by omega), b2, zw_gi (by omega), zw_gi (by omega)]
    rw [show ((l.length - (c + 1) : Nat) : Int).toNat = l.length - (c + 1) by omega, show ((l.length - (c + 1) - p : Nat) : Int).toNat = l.length - (c + 1) - p by omega, zqo_lt _ _ (by omega) (by omega), zqo_le _ _ (by omega) (by omega), zw_le]
    by_cases e1 : l.getD (l.length - (c + 1)) 0 < l.getD (l.length - (c + 1) - p) 0
    · rw [decide_eq_true (by omega), cond_true, if_pos e1]
      unfold fW_lyndonEnd_56
      rw [zw_add]
      rfl
    · rw [decide_eq_false (by omega), cond_false, if_neg e1]
      unfold fW_lyndonEnd_50
      rw [zh_inc, show l.length - (c + 1) + 1 = l.length - c by omega]
      by_cases e2 : l.getD (l.length - (c + 1) - p) 0 < l.getD (l.length - (c + 1)) 0
      · rw [decide_eq_false (by omega), cond_false, if_pos e2, zw_sub, zw_add, show ((l.length - (c + 1) : Nat) : Int) - (s : Int) + 1 = ((l.length - (c + 1) - s + 1 : Nat) : Int) by omega]
        exact ih g _ (by omega) (by omega) (by omega)
      · rw [decide_eq_true (by omega), cond_true, if_neg e2]
        exact ih g p (by omega) h2 (by omega)
theorem zw_lyn (H : zw_W h q n l) (hN : 1000 ≤ N) {s : Nat} (hs : s < l.length) : fW_lyndonEnd N q (Int32.ofInt (s : Int)) h = some (Int32.ofInt ((zw_lE l s : Nat) : Int), h) := by
  have u1 := H.2.2.2.1
  have u2 := H.2.2.2.2.1
  have e := zw_lyn6 (N := N) H (s := s) (l.length - (s + 1)) N 1 (by omega) (by omega) (by omega)
  unfold fW_lyndonEnd
  rw [zw_T H, cond_true, zh_inc]
  rw [show l.length - (l.length - (s + 1)) = s + 1 by omega] at e
  exact e
/-- the end of the factor at s, behind one at b -/
def zw_fE (l : List Nat) (b s : Nat) : Nat := if b < s ∧ s + s - b ≤ l.length ∧ zw_cmp (zw_p l b s) (zw_p l s (s + s - b)) = 0 then s + s - b else zw_lE l s
theorem zw_fEb {l : List Nat} {b s : Nat} (hs : s < l.length) : s + 1 ≤ zw_fE l b s ∧ zw_fE l b s ≤ l.length := by
  unfold zw_fE
  split
  · omega
  · exact zw_lEb hs
theorem zw_fac (H : zw_W h q n l) (hN : 1000 ≤ N) {b s : Nat} (hs : s < l.length) (hb : b ≤ s) : fW_factorEnd N q (Int32.ofInt (b : Int)) (Int32.ofInt (s : Int)) h = some (Int32.ofInt ((zw_fE l b s : Nat) : Int), h) := by
  have u1 := H.2.2.2.1
  have u2 := H.2.2.2.2.1
  have e33 : fW_factorEnd_33 N q (Int32.ofInt (s : Int)) h = some (Int32.ofInt ((zw_lE l s : Nat) : Int), h) := by
    unfold fW_factorEnd_33
    rw [zw_lyn H hN hs, b2]
  unfold fW_factorEnd zw_fE
  rw [zw_T H, cond_true, zqo_le _ _ (by omega) (by omega)]
  by_cases e1 : b < s
  · rw [decide_eq_false (by omega), cond_false, zw_z H, b1_s, zw_add, zw_sub, show (s : Int) + (s : Int) - (b : Int) = ((s + s - b : Nat) : Int) by omega, zqo_gt _ _ (by omega) (by omega)]
    by_cases e2 : s + s - b ≤ l.length
    · have e3 := zw_cmpb (zw_p l b s) (zw_p l s (s + s - b))
      rw [decide_eq_false (by omega), cond_false, zw_order H H hN (by omega) e2 hb (by omega), b2, zqo_ne _ _ (by omega) (by decide)]
      by_cases e4 : zw_cmp (zw_p l b s) (zw_p l s (s + s - b)) = 0
      · rw [decide_eq_true e4, Bool.not_true, cond_false, if_pos ⟨e1, e2, e4⟩]
      · rw [decide_eq_false e4, Bool.not_false, cond_true, if_neg (fun x => e4 x.2.2), e33]
    · rw [decide_eq_true (by omega), cond_true, if_neg (fun x => e2 x.2.1), e33]
  · rw [decide_eq_true (by omega), cond_true, if_neg (fun x => e1 x.1), e33]
end ZWQ
/-- where the factors begin and end -/
def zw_it (l : List Nat) : Nat → Nat → Nat → List (Nat × Nat)
  | 0, _, _ => []
  | c + 1, b, s => if l.length ≤ s then [] else (s, zw_fE l b s) :: zw_it l c s (zw_fE l b s)
def zw_fs (l : List Nat) : List (Nat × Nat) := zw_it l l.length 0 0
theorem zw_itl (l : List Nat) : ∀ c b s, (zw_it l c b s).length ≤ c := by
  intro c
  induction c with
  | zero => intro b s; exact Nat.le_refl 0
  | succ c ih =>
    intro b s
    rw [zw_it]
    split
    · exact Nat.zero_le _
    · have := ih s (zw_fE l b s)
      rw [List.length_cons]
      omega
section ZWQ2
variable {h : zH} {q n N : Nat} {l : List Nat}
theorem zw_cf9 (H : zw_W h q n l) (hN : 1000 ≤ N) : ∀ c f k b s : Nat, c < f → c ≤ l.length → k + c ≤ 2000 → b ≤ s → s ≤ l.length → fW_countFactors_9 N f q (Int32.ofInt (k : Int)) (Int32.ofInt (b : Int)) (Int32.ofInt (s : Int)) (Int32.ofInt ((l.length - c : Nat) : Int)) h = some (Int32.ofInt ((k + (zw_it l c b s).length : Nat) : Int), h) := by
  have u1 := H.2.2.2.1
  have u2 := H.2.2.2.2.1
  intro c
  induction c with
  | zero =>
    intro f k b s h1 h2 h3 h4 h5
    obtain ⟨g, rfl⟩ : ∃ g, f = g + 1 := ⟨f - 1, by omega⟩
    rw [fW_countFactors_9, zw_z H, b1_s, zqo_ge _ _ (by omega) (by omega), decide_eq_true (by omega), cond_true]
    rfl
  | succ c ih =>
    intro f k b s h1 h2 h3 h4 h5
    obtain ⟨g, rfl⟩ : ∃ g, f = g + 1 := ⟨f - 1, by omega⟩
    rw [fW_countFactors_9, zw_z H, b1_s, zqo_ge _ _ (by omega) (by omega), decide_eq_false (by omega), cond_false, b1_s, zqo_ge _ _ (by omega) (by omega), zw_it]
    by_cases e1 : l.length ≤ s
    · rw [decide_eq_true (by omega), cond_true, if_pos e1]
      rfl
    · have e2 := zw_fEb (b := b) (show s < l.length by omega)
      rw [decide_eq_false (by omega), cond_false, if_neg e1, zw_fac H hN (by omega) h4, b2, zh_inc, zh_inc, show l.length - (c + 1) + 1 = l.length - c by omega, List.length_cons, show k + ((zw_it l c s (zw_fE l b s)).length + 1) = k + 1 + (zw_it l c s (zw_fE l b s)).length by omega]
      exact ih g (k + 1) s _ (by omega) (by omega) (by omega) (by omega) e2.2
theorem zw_count (H : zw_W h q n l) (hN : 1000 ≤ N) : fW_countFactors N q h = some (Int32.ofInt (((zw_fs l).length : Nat) : Int), h) := by
  have u1 := H.2.2.2.1
  have u2 := H.2.2.2.2.1
  have e := zw_cf9 (N := N) H hN l.length N 0 0 0 (by omega) (Nat.le_refl _) (by omega) (Nat.le_refl _) (Nat.zero_le _)
  unfold fW_countFactors
  rw [zw_T H, cond_true]
  rw [Nat.sub_self, Nat.zero_add] at e
  exact e
end ZWQ2
