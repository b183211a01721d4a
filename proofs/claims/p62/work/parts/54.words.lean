/-! THE CLASS'S WORDS: what changes them. -/
/-- swapping from both ends: c swaps at most, from i to before k -/
def zw_mi : Nat → List Nat → Nat → Nat → List Nat
  | 0, l, _, _ => l
  | c + 1, l, i, k => if i + 1 < k then zw_mi c ((l.set i (l.getD (k - 1) 0)).set (k - 1) (l.getD i 0)) (i + 1) (k - 1) else l
def zw_mir (l : List Nat) (a b : Nat) : List Nat := zw_mi (b - a) l a b
theorem zw_mil : ∀ c l i k, (zw_mi c l i k).length = l.length := by
  intro c
  induction c with
  | zero => intro l i k; rfl
  | succ c ih =>
    intro l i k
    rw [zw_mi]
    split
    · rw [ih, List.length_set, List.length_set]
    · rfl
section ZWM
variable {h : zH} {q n N : Nat} {l : List Nat}
theorem zw_mir7 : ∀ (c f : Nat) (h : zH) (l : List Nat) (i k : Nat), zw_W h q n l → k ≤ l.length → k ≤ i + c → c < f → i ≤ l.length → ∃ h', fW_mirror_7 N f q (Int32.ofInt (i : Int)) (Int32.ofInt ((k : Int) - 1)) h = some ((), h') ∧ zw_W h' q n (zw_mi c l i k) ∧ zw_F h h' q := by
  intro c
  induction c with
  | zero =>
    intro f h l i k H h1 h2 h3 h4
    obtain ⟨g, rfl⟩ : ∃ g, f = g + 1 := ⟨f - 1, by omega⟩
    have u1 := H.2.2.2.1
    have u2 := H.2.2.2.2.1
    refine ⟨h, ?_, H, zw_Fr h q⟩
    rw [fW_mirror_7, zqo_ge _ _ (by omega) (by omega), decide_eq_true (by omega), cond_true]
  | succ c ih =>
    intro f h l i k H h1 h2 h3 h4
    obtain ⟨g, rfl⟩ : ∃ g, f = g + 1 := ⟨f - 1, by omega⟩
    have u1 := H.2.2.2.1
    have u2 := H.2.2.2.2.1
    have u3 := H.2.2.2.2.2
    rw [fW_mirror_7, zqo_ge _ _ (by omega) (by omega), zw_mi]
    by_cases e1 : i + 1 < k
    · rw [decide_eq_false (by omega), cond_false, if_pos e1, show (k : Int) - 1 = ((k - 1 : Nat) : Int) by omega, zw_at H _ (by omega), b2, zw_at H _ (by omega), b2, zw_gi (by omega), zw_gi (by omega)]
      rw [show ((i : Nat) : Int).toNat = i by omega, show ((k - 1 : Nat) : Int).toNat = k - 1 by omega]
      obtain ⟨h5, e5, H5, F5⟩ := zw_put (N := N) H i (l.getD (k - 1) 0) (by omega) (zw_gD u3 _)
      obtain ⟨h6, e6, H6, F6⟩ := zw_put (N := N) H5 (k - 1) (l.getD i 0) (by rw [List.length_set]; omega) (zw_gD u3 _)
      rw [e5, b2, e6, b2, zh_inc, zw_add, show ((k - 1 : Nat) : Int) + -1 = ((k - 1 : Nat) : Int) - 1 by omega]
      obtain ⟨h7, e7, H7, F7⟩ := ih g h6 _ (i + 1) (k - 1) H6 (by rw [List.length_set, List.length_set]; omega) (by omega) (by omega) (by rw [List.length_set, List.length_set]; omega)
      exact ⟨h7, e7, H7, zw_Ft F5 (zw_Ft F6 F7)⟩
    · rw [decide_eq_true (by omega), cond_true, if_neg e1]
      exact ⟨h, rfl, H, zw_Fr h q⟩
theorem zw_mirror (H : zw_W h q n l) (hN : 1000 ≤ N) {a b : Nat} (hab : a ≤ b) (hb : b ≤ l.length) : ∃ h', fW_mirror N q (Int32.ofInt (a : Int)) (Int32.ofInt (b : Int)) h = some ((), h') ∧ zw_W h' q n (zw_mir l a b) ∧ zw_F h h' q := by
  have u1 := H.2.2.2.1
  have u2 := H.2.2.2.2.1
  obtain ⟨h', e, H', F⟩ := zw_mir7 (N := N) (b - a) N h l a b H hb (by omega) (by omega) (by omega)
  refine ⟨h', ?_, H', F⟩
  unfold fW_mirror
  rw [zw_T H, cond_true, zw_sub]
  exact e
/-- turned by c -/
def zw_trn (l : List Nat) (c : Nat) : List Nat := zw_mir (zw_mir (zw_mir l 0 c) c l.length) 0 l.length
theorem zw_trnl (l : List Nat) (c : Nat) : (zw_trn l c).length = l.length := by
  unfold zw_trn zw_mir
  rw [zw_mil, zw_mil, zw_mil]
theorem zw_turn (H : zw_W h q n l) (hN : 1000 ≤ N) {c : Nat} (hc : c ≤ l.length) : ∃ h', fW_turn N q (Int32.ofInt (c : Int)) h = some ((), h') ∧ zw_W h' q n (zw_trn l c) ∧ zw_F h h' q := by
  obtain ⟨h1, e1, H1, F1⟩ := zw_mirror (N := N) H hN (Nat.zero_le c) hc
  have l1 : (zw_mir l 0 c).length = l.length := zw_mil _ _ _ _
  obtain ⟨h2, e2, H2, F2⟩ := zw_mirror (N := N) H1 hN (show c ≤ l.length from hc) (by omega)
  have l2 : (zw_mir (zw_mir l 0 c) c l.length).length = l.length := (zw_mil _ _ _ _).trans l1
  obtain ⟨h3, e3, H3, F3⟩ := zw_mirror (N := N) H2 hN (Nat.zero_le l.length) (by omega)
  refine ⟨h3, ?_, H3, zw_Ft F1 (zw_Ft F2 F3)⟩
  have z1 := zw_z H1
  have z2 := zw_z H2
  rw [l1] at z1
  rw [l2] at z2
  unfold fW_turn
  rw [zw_T H, cond_true, show Int32.ofInt 0 = Int32.ofInt ((0 : Nat) : Int) from rfl, e1, b2, z1, b1_s, e2, b2, z2, b1_s, e3, b2]
/-- the letters from a to b to the front: c are left -/
def zw_ct (a b : Nat) : Nat → List Nat → List Nat
  | 0, l => l
  | c + 1, l => zw_ct a b c (l.set (b - (c + 1) - a) (l.getD (b - (c + 1)) 0))
theorem zw_ctl (a b : Nat) : ∀ c l, (zw_ct a b c l).length = l.length := by
  intro c
  induction c with
  | zero => intro l; rfl
  | succ c ih =>
    intro l
    rw [zw_ct, ih, List.length_set]
theorem zw_cut2 {a b : Nat} (hab : a ≤ b) : ∀ (c f : Nat) (h : zH) (l : List Nat), zw_W h q n l → b ≤ l.length → c < f → a + c ≤ b → ∃ h', fW_cutTo_2 N f q (Int32.ofInt (a : Int)) (Int32.ofInt (b : Int)) (Int32.ofInt ((b - c : Nat) : Int)) h = some ((), h') ∧ zw_W h' q n ((zw_ct a b c l).take (b - a)) ∧ zw_F h h' q := by
  intro c
  induction c with
  | zero =>
    intro f h l H h1 h2 h3
    obtain ⟨g, rfl⟩ : ∃ g, f = g + 1 := ⟨f - 1, by omega⟩
    have u1 := H.2.2.2.1
    have u2 := H.2.2.2.2.1
    obtain ⟨h4, e4, H4, F4⟩ := zw_shorten (N := N) H ((b - a : Nat) : Int) (by omega)
    refine ⟨h4, ?_, ?_, F4⟩
    · rw [fW_cutTo_2, zqo_ge _ _ (by omega) (by omega), decide_eq_true (by omega), cond_true, zw_sub, show (b : Int) - (a : Int) = ((b - a : Nat) : Int) by omega, e4, b2]
    · rw [if_pos (by omega)] at H4
      exact H4
  | succ c ih =>
    intro f h l H h1 h2 h3
    obtain ⟨g, rfl⟩ : ∃ g, f = g + 1 := ⟨f - 1, by omega⟩
    have u1 := H.2.2.2.1
    have u2 := H.2.2.2.2.1
    obtain ⟨h4, e4, H4, F4⟩ := zw_put (N := N) H (b - (c + 1) - a) (l.getD (b - (c + 1)) 0) (by omega) (zw_gD H.2.2.2.2.2 _)
    obtain ⟨h5, e5, H5, F5⟩ := ih g h4 _ H4 (by rw [List.length_set]; exact h1) (by omega) (by omega)
    refine ⟨h5, ?_, H5, zw_Ft F4 F5⟩
    rw [fW_cutTo_2, zqo_ge _ _ (by omega) (by omega), decide_eq_false (by omega), cond_false, zw_at H _ (by omega), b2, zw_gi (by omega), zw_sub, show ((b - (c + 1) : Nat) : Int) - (a : Int) = ((b - (c + 1) - a : Nat) : Int) by omega, show ((b - (c + 1) : Nat) : Int).toNat = b - (c + 1) by omega, e4, b2, zh_inc, show b - (c + 1) + 1 = b - c by omega]
    exact e5
theorem zw_cut (H : zw_W h q n l) (hN : 1000 ≤ N) {a b : Nat} (hab : a ≤ b) (hb : b ≤ l.length) : ∃ h', fW_cutTo N q (Int32.ofInt (a : Int)) (Int32.ofInt (b : Int)) h = some ((), h') ∧ zw_W h' q n ((zw_ct a b (b - a) l).take (b - a)) ∧ zw_F h h' q := by
  have u1 := H.2.2.2.1
  have u2 := H.2.2.2.2.1
  obtain ⟨h', e, H', F⟩ := zw_cut2 (N := N) hab (b - a) N h l H hb (by omega) (by omega)
  refine ⟨h', ?_, H', F⟩
  unfold fW_cutTo
  rw [zw_T H, cond_true]
  rw [show b - (b - a) = a by omega] at e
  exact e
/-- letters added as they stand p places before: c more -/
def zw_xt (p : Nat) : Nat → List Nat → List Nat
  | 0, l => l
  | c + 1, l => zw_xt p c (l ++ [l.getD (l.length - p) 0])
theorem zw_xtl (p : Nat) : ∀ c l, (zw_xt p c l).length = l.length + c := by
  intro c
  induction c with
  | zero => intro l; rfl
  | succ c ih =>
    intro l
    rw [zw_xt, ih, List.length_append]
    show l.length + 1 + c = l.length + (c + 1)
    omega
/-- how many letters are left without the last ones that are g: at most c are dropped -/
def zw_sp (l : List Nat) (g : Nat) : Nat → Nat → Nat
  | 0, k => k
  | c + 1, k => if k = 0 then 0 else if l.getD (k - 1) 0 = g then zw_sp l g c (k - 1) else k
theorem zw_spl (l : List Nat) (g : Nat) : ∀ c k, zw_sp l g c k ≤ k := by
  intro c
  induction c with
  | zero => intro k; exact Nat.le_refl k
  | succ c ih =>
    intro k
    rw [zw_sp]
    split
    · omega
    · split
      · have := ih (k - 1)
        omega
      · exact Nat.le_refl k
/-- one more at the end -/
def zw_up (l : List Nat) (k : Nat) : List Nat := (l.take k).set (k - 1) (l.getD (k - 1) 0 + 1)
def zw_nx (l : List Nat) (m g : Nat) : List Nat := if l.length = 0 then [] else zw_up (zw_xt l.length (m - l.length) l) (zw_sp (zw_xt l.length (m - l.length) l) g m (zw_xt l.length (m - l.length) l).length)
theorem zw_step73 (H : zw_W h q n l) {k : Nat} (hk : k ≤ l.length) (hv : ∀ v ∈ l, v < 255) : ∃ h', fW_stepLyndon_73 N q (Int32.ofInt ((k : Int) - 1)) h = some ((), h') ∧ zw_W h' q n (zw_up l k) ∧ zw_F h h' q := by
  have u1 := H.2.2.2.1
  have u2 := H.2.2.2.2.1
  obtain ⟨h4, e4, H4, F4⟩ := zw_shorten (N := N) H ((k : Nat) : Int) (by omega)
  rw [if_pos (by omega), show ((k : Nat) : Int).toNat = k by omega] at H4
  have l4 : (l.take k).length = k := by rw [List.length_take]; omega
  unfold fW_stepLyndon_73 zw_up
  rw [zw_add, show (k : Int) - 1 + 1 = (k : Int) by omega, e4, b2, zw_at H4 _ (by omega), b2]
  by_cases e1 : k = 0
  · subst e1
    refine ⟨h4, ?_, ?_, F4⟩
    · unfold fW_put
      rw [zw_T H4, cond_true, show z_cmp .lt (Int32.ofInt (((0 : Nat) : Int) - 1)) (Int32.ofInt 0) = true from rfl, cond_true, b2]
    · rw [List.take_zero] at H4 ⊢
      exact H4
  · have g1 : (l.take k).getD (k - 1) 0 = l.getD (k - 1) 0 := by
      rw [List.getD_eq_getElem?_getD, List.getElem?_take_of_lt (by omega), ← List.getD_eq_getElem?_getD]
    have g2 : l.getD (k - 1) 0 < 255 := by
      rw [List.getD_eq_getElem?_getD, List.getElem?_eq_getElem (show k - 1 < l.length by omega)]
      exact hv _ (List.getElem_mem _)
    obtain ⟨h5, e5, H5, F5⟩ := zw_put (N := N) H4 (k - 1) (l.getD (k - 1) 0 + 1) (by omega) (by omega)
    refine ⟨h5, ?_, H5, zw_Ft F4 F5⟩
    rw [zw_gi (by omega), show ((k : Int) - 1).toNat = k - 1 by omega, g1, zw_add, show (k : Int) - 1 = ((k - 1 : Nat) : Int) by omega, show ((l.getD (k - 1) 0 : Nat) : Int) + 1 = ((l.getD (k - 1) 0 + 1 : Nat) : Int) by omega, e5, b2]
theorem zw_step48 {m g : Nat} (hm : m ≤ 600) (hg : g < 256) (H : zw_W h q n l) (hv : ∀ v ∈ l, v < 255) : ∀ c f k : Nat, c < f → c ≤ m → k ≤ l.length → ∃ h', fW_stepLyndon_48 N f q (Int32.ofInt (m : Int)) (Int32.ofInt (g : Int)) (Int32.ofInt ((k : Int) - 1)) (Int32.ofInt ((m - c : Nat) : Int)) h = some ((), h') ∧ zw_W h' q n (zw_up l (zw_sp l g c k)) ∧ zw_F h h' q := by
  have u1 := H.2.2.2.1
  have u2 := H.2.2.2.2.1
  intro c
  induction c with
  | zero =>
    intro f k h1 h2 h3
    obtain ⟨j, rfl⟩ : ∃ j, f = j + 1 := ⟨f - 1, by omega⟩
    rw [fW_stepLyndon_48, zqo_ge _ _ (by omega) (by omega), decide_eq_true (by omega), cond_true, zw_sp]
    exact zw_step73 H h3 hv
  | succ c ih =>
    intro f k h1 h2 h3
    obtain ⟨j, rfl⟩ : ∃ j, f = j + 1 := ⟨f - 1, by omega⟩
    have gb := zw_gb H.2.2.2.2.2 ((k : Int) - 1)
    rw [fW_stepLyndon_48, zqo_ge _ _ (by omega) (by omega), decide_eq_false (by omega), cond_false, zw_at H _ (by omega), b2, zqo_ne _ _ (by omega) (by omega), zw_sp]
    by_cases e0 : k = 0
    · rw [zw_go (Or.inl (by omega)), decide_eq_false (by omega), Bool.not_false, cond_true, if_pos e0]
      have := zw_step73 (N := N) H (Nat.zero_le l.length) hv
      rw [e0]
      exact this
    · rw [zw_gi (by omega), show ((k : Int) - 1).toNat = k - 1 by omega, if_neg e0]
      by_cases e1 : l.getD (k - 1) 0 = g
      · rw [decide_eq_true (by omega), Bool.not_true, cond_false, if_pos e1, zw_add, zh_inc, show (k : Int) - 1 + -1 = ((k - 1 : Nat) : Int) - 1 by omega, show m - (c + 1) + 1 = m - c by omega]
        exact ih j (k - 1) (by omega) (by omega) (by omega)
      · rw [decide_eq_false (by omega), Bool.not_false, cond_true, if_neg e1]
        exact zw_step73 H h3 hv
theorem zw_step13 {m g p : Nat} (hm : m ≤ 600) (hmn : m ≤ n) (hg : g < 256) (hN : 1000 ≤ N) (hp : 1 ≤ p) : ∀ (c f : Nat) (h : zH) (l : List Nat), zw_W h q n l → (∀ v ∈ l, v < 255) → p ≤ l.length → c < f → l.length + c = max m l.length → ∃ h', fW_stepLyndon_13 N f q (Int32.ofInt (m : Int)) (Int32.ofInt (g : Int)) (Int32.ofInt (p : Int)) (Int32.ofInt (l.length : Int)) h = some ((), h') ∧ zw_W h' q n (zw_up (zw_xt p c l) (zw_sp (zw_xt p c l) g m (zw_xt p c l).length)) ∧ zw_F h h' q := by
  intro c
  induction c with
  | zero =>
    intro f h l H hv h1 h2 h3
    obtain ⟨j, rfl⟩ : ∃ j, f = j + 1 := ⟨f - 1, by omega⟩
    have u1 := H.2.2.2.1
    have u2 := H.2.2.2.2.1
    rw [fW_stepLyndon_13, zqo_ge _ _ (by omega) (by omega), decide_eq_true (by omega), cond_true, zw_z H, b1_s, zw_sub, zw_xt]
    have e := zw_step48 (N := N) hm hg H hv m N l.length (by omega) (Nat.le_refl _) (Nat.le_refl _)
    rw [Nat.sub_self] at e
    exact e
  | succ c ih =>
    intro f h l H hv h1 h2 h3
    obtain ⟨j, rfl⟩ : ∃ j, f = j + 1 := ⟨f - 1, by omega⟩
    have u1 := H.2.2.2.1
    have u2 := H.2.2.2.2.1
    have g2 : l.getD (l.length - p) 0 < 255 := by
      rw [List.getD_eq_getElem?_getD, List.getElem?_eq_getElem (show l.length - p < l.length by omega)]
      exact hv _ (List.getElem_mem _)
    obtain ⟨h4, e4, H4, F4⟩ := zw_addN (N := N) H (l.getD (l.length - p) 0) (by omega) (by omega)
    have l4 : (l ++ [l.getD (l.length - p) 0]).length = l.length + 1 := by rw [List.length_append]; rfl
    obtain ⟨h5, e5, H5, F5⟩ := ih j h4 _ H4 (by
      intro v hv2
      rw [List.mem_append, List.mem_singleton] at hv2
      rcases hv2 with hv2 | hv2
      · exact hv v hv2
      · omega) (by omega) (by omega) (by rw [l4]; omega)
    refine ⟨h5, ?_, H5, zw_Ft F4 F5⟩
    rw [fW_stepLyndon_13, zqo_ge _ _ (by omega) (by omega), decide_eq_false (by omega), cond_false, zw_sub, show (l.length : Int) - (p : Int) = ((l.length - p : Nat) : Int) by omega, zw_at H _ (by omega), b2, zw_gi (by omega), show ((l.length - p : Nat) : Int).toNat = l.length - p by omega, e4, b2, zh_inc]
    rw [l4] at e5
    exact e5
theorem zw_step (H : zw_W h q n l) (hN : 1000 ≤ N) {m g : Nat} (hm : m ≤ 600) (hmn : m ≤ n) (hg : g < 256) (hv : ∀ v ∈ l, v < 255) : ∃ h', fW_stepLyndon N q (Int32.ofInt (m : Int)) (Int32.ofInt (g : Int)) h = some ((), h') ∧ zw_W h' q n (zw_nx l m g) ∧ zw_F h h' q := by
  have u1 := H.2.2.2.1
  have u2 := H.2.2.2.2.1
  unfold fW_stepLyndon zw_nx
  rw [zw_T H, cond_true, zw_z H, b1_s, zqo_ne _ _ (by omega) (by decide)]
  by_cases e0 : l.length = 0
  · rw [decide_eq_true (by omega), Bool.not_true, cond_false, if_pos e0]
    have := List.length_eq_zero_iff.mp e0
    rw [this] at H
    exact ⟨h, rfl, H, zw_Fr h q⟩
  · rw [decide_eq_false (by omega), Bool.not_false, cond_true, if_neg e0]
    exact zw_step13 (N := N) hm hmn hg hN (by omega) (m - l.length) N h l H hv (Nat.le_refl _) (by omega) (by omega)
theorem zw_fits (H : zw_W h q n l) (hN : 1000 ≤ N) {L : Nat} (hL : L ≤ 100) : fW_fitsLetters N q (Int32.ofInt (L : Int)) h = some (cond (l.all fun v => decide (v < 97 + L)) (Int32.ofInt 1) (Int32.ofInt 0), h) := by
  have u1 := H.2.2.2.1
  have u2 := H.2.2.2.2.1
  have key : ∀ c f : Nat, c < f → c ≤ l.length → fW_fitsLetters_2 N f q (Int32.ofInt (L : Int)) (Int32.ofInt ((l.length - c : Nat) : Int)) h = some (cond ((l.drop (l.length - c)).all fun v => decide (v < 97 + L)) (Int32.ofInt 1) (Int32.ofInt 0), h) := by
    intro c
    induction c with
    | zero =>
      intro f h1 h2
      obtain ⟨g, rfl⟩ : ∃ g, f = g + 1 := ⟨f - 1, by omega⟩
      rw [fW_fitsLetters_2, zw_z H, b1_s, zqo_ge _ _ (by omega) (by omega), decide_eq_true (by omega), cond_true, List.drop_of_length_le (by omega)]
      rfl
    | succ c ih =>
      intro f h1 h2
      obtain ⟨g, rfl⟩ : ∃ g, f = g + 1 := ⟨f - 1, by omega⟩
      have g1 := zw_gD H.2.2.2.2.2 (l.length - (c + 1))
      have hd : l.drop (l.length - (c + 1)) = l.getD (l.length - (c + 1)) 0 :: l.drop (l.length - c) := by
        rw [List.drop_eq_getElem_cons (show l.length - (c + 1) < l.length by omega), List.getD_eq_getElem?_getD, List.getElem?_eq_getElem (show l.length - (c + 1) < l.length by omega), show l.length - (c + 1) + 1 = l.length - c by omega]
        rfl
      rw [fW_fitsLetters_2, zw_z H, b1_s, zqo_ge _ _ (by omega) (by omega), decide_eq_false (by omega), cond_false, zw_at H _ (by omega), b2, zw_gi (by omega), show ((l.length - (c + 1) : Nat) : Int).toNat = l.length - (c + 1) by omega, zw_add, zqo_lt _ _ (by omega) (by omega), hd, List.all_cons]
      by_cases e1 : l.getD (l.length - (c + 1)) 0 < 97 + L
      · rw [decide_eq_true (by omega), cond_true, zh_inc, show l.length - (c + 1) + 1 = l.length - c by omega, decide_eq_true e1, Bool.true_and]
        exact ih g (by omega) (by omega)
      · rw [decide_eq_false (by omega), cond_false, decide_eq_false e1, Bool.false_and]
        rfl
  have e := key l.length N (by omega) (Nat.le_refl _)
  unfold fW_fitsLetters
  rw [zw_T H, cond_true]
  rw [Nat.sub_self] at e
  exact e
end ZWM
