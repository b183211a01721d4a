/-! THE CLASS'S WORDS: a word at q, its bytes behind it; what its methods do, on lists. -/
theorem zqo_lt (p q : Int) (hp : -2147483648 ≤ p ∧ p < 2147483648) (hq : -2147483648 ≤ q ∧ q < 2147483648) : z_cmp .lt (Int32.ofInt p) (Int32.ofInt q) = decide (p < q) := by
  rw [zj_lt _ q hq, zqo_i p hp]
theorem zqo_gt (p q : Int) (hp : -2147483648 ≤ p ∧ p < 2147483648) (hq : -2147483648 ≤ q ∧ q < 2147483648) : z_cmp .gt (Int32.ofInt p) (Int32.ofInt q) = decide (q < p) := by
  rw [zj_gt _ q hq, zqo_i p hp]
theorem zw_add (a b : Int) : Int32.ofInt a + Int32.ofInt b = Int32.ofInt (a + b) := (Int32.ofInt_add ..).symm
theorem zw_sub (a b : Int) : Int32.ofInt a - Int32.ofInt b = Int32.ofInt (a - b) := (Int32.ofInt_sub ..).symm
/-- a byte as the array holds it -/
def zw_b (v : Nat) : Int32 := vp_nar .byte (Int32.ofInt (v : Int)).toInt8.toInt32
theorem zw_b255 (v : Nat) (hv : v < 256) : zw_b v &&& Int32.ofInt 255 = Int32.ofInt (v : Int) := by
  have h := List.all_eq_true.mp (show ((List.range 256).all fun v => decide (zw_b v &&& Int32.ofInt 255 = Int32.ofInt ((v : Nat) : Int))) = true by decide +kernel) v (List.mem_range.mpr hv)
  exact of_decide_eq_true h
/-- a word at q with room for n bytes and the bytes l -/
def zw_W (h : zH) (q n : Nat) (l : List Nat) : Prop := q + 1 < 1000000 ∧ h[q]? = some (4, [.ref (q + 1), .int (Int32.ofInt (l.length : Int))]) ∧ (∃ R, h[q + 1]? = some (101, R) ∧ R.length = n ∧ ∀ i, i < l.length → R[i]? = some (.int (zw_b (l.getD i 0)))) ∧ l.length ≤ n ∧ n ≤ 600 ∧ ∀ v ∈ l, v < 256
/-- all but the word's two cells is as before -/
def zw_F (h h' : zH) (q : Nat) : Prop := h'.length = h.length ∧ ∀ p, p ≠ q → p ≠ q + 1 → h'[p]? = h[p]?
theorem zw_Fr (h : zH) (q : Nat) : zw_F h h q := ⟨rfl, fun _ _ _ => rfl⟩
theorem zw_Ft {h1 h2 h3 : zH} {q : Nat} (a : zw_F h1 h2 q) (b : zw_F h2 h3 q) : zw_F h1 h3 q := ⟨b.1.trans a.1, fun p h4 h5 => (b.2 p h4 h5).trans (a.2 p h4 h5)⟩
/-- two words apart -/
def zw_d (p q : Nat) : Prop := p + 1 < q ∨ q + 1 < p
theorem zw_keep {h h' : zH} {p q n : Nat} {l : List Nat} (H : zw_W h p n l) (f : zw_F h h' q) (d : zw_d p q) : zw_W h' p n l := by
  obtain ⟨a1, a2, ⟨R, a3, a4, a5⟩, a6, a7⟩ := H
  unfold zw_d at d
  exact ⟨a1, (f.2 p (by omega) (by omega)).trans a2, ⟨R, (f.2 (p + 1) (by omega) (by omega)).trans a3, a4, a5⟩, a6, a7⟩
/-- the byte at a position, -1 if there is none -/
def zw_g (l : List Nat) (i : Int) : Int := if 0 ≤ i ∧ i < (l.length : Int) then (l.getD i.toNat 0 : Int) else -1
theorem zw_gi {l : List Nat} {i : Int} (h : 0 ≤ i ∧ i < (l.length : Int)) : zw_g l i = (l.getD i.toNat 0 : Int) := if_pos h
theorem zw_go {l : List Nat} {i : Int} (h : i < 0 ∨ (l.length : Int) ≤ i) : zw_g l i = -1 := if_neg (by omega)
theorem zw_gD {l : List Nat} (hb : ∀ v ∈ l, v < 256) (i : Nat) : l.getD i 0 < 256 := by
  rw [List.getD_eq_getElem?_getD]
  cases h : l[i]? with
  | none => decide
  | some t => exact hb t (List.mem_of_getElem? h)
theorem zw_gb {l : List Nat} (hb : ∀ v ∈ l, v < 256) (i : Int) : -1 ≤ zw_g l i ∧ zw_g l i < 256 := by
  unfold zw_g
  split
  · have := zw_gD hb i.toNat
    omega
  · omega
section ZWW
variable {h : zH} {q n N : Nat} {l : List Nat}
theorem zw_T (H : zw_W h q n l) : fT h q 4 = true := zi_T (by have := H.1; omega) H.2.1
theorem zw_z (H : zw_W h q n l) : fI h q 4 1 = some (Int32.ofInt (l.length : Int)) := zh_I (b := 1) (by have := H.1; omega) H.2.1 rfl
theorem zw_r (H : zw_W h q n l) : fR h q 4 0 = some (q + 1) := zh_R (b := 0) (by have := H.1; omega) H.2.1 rfl
theorem zw_n (H : zw_W h q n l) : fN h (q + 1) 101 = some (Int32.ofInt (n : Int)) := by
  obtain ⟨a1, a2, ⟨R, a3, a4, a5⟩, a6, a7⟩ := H
  rw [zi_N a1 a3, a4]
  rfl
theorem zw_at (H : zw_W h q n l) (i : Int) (hi : -2147483648 ≤ i ∧ i < 2147483648) : fW_at N q (Int32.ofInt i) h = some (Int32.ofInt (zw_g l i), h) := by
  have hT := zw_T H
  have hz := zw_z H
  have hr := zw_r H
  have hn := zw_n H
  obtain ⟨a1, a2, ⟨R, a3, a4, a5⟩, a6, a7, a8⟩ := H
  unfold fW_at
  rw [hT, cond_true, zqo_lt _ _ hi (by decide), hz, b1_s, zqo_ge _ _ hi (by omega)]
  by_cases h1 : i < 0
  · rw [decide_eq_true h1, cond_true, zw_go (Or.inl h1)]
    rfl
  · rw [decide_eq_false h1, cond_false]
    by_cases h2 : (l.length : Int) ≤ i
    · rw [decide_eq_true h2, cond_true, zw_go (Or.inr h2)]
      rfl
    · obtain ⟨k, rfl⟩ : ∃ k : Nat, i = (k : Int) := ⟨i.toNat, by omega⟩
      rw [decide_eq_false h2, cond_false, hr, b1_s, hn, b1_s, zqo_ge _ _ hi (by omega), decide_eq_false (by omega), cond_false, b1_s, zh_AI a1 a3 (a5 k (by omega)) (by omega), b1_s, zw_b255 _ (zw_gD a8 k), zw_gi (by omega)]
      rfl
theorem zw_put (H : zw_W h q n l) (i v : Nat) (hi : i < l.length) (hv : v < 256) : ∃ h', fW_put N q (Int32.ofInt (i : Int)) (Int32.ofInt (v : Int)) h = some ((), h') ∧ zw_W h' q n (l.set i v) ∧ zw_F h h' q := by
  have hT := zw_T H
  have hz := zw_z H
  have hr := zw_r H
  have hn := zw_n H
  obtain ⟨a1, a2, ⟨R, a3, a4, a5⟩, a6, a7, a8⟩ := H
  refine ⟨h.set (q + 1) (101, R.set i (.int (zw_b v))), ?_, ⟨a1, ?_, ⟨R.set i (.int (zw_b v)), List.getElem?_set_self (List.getElem?_eq_some_iff.mp a3).1, ?_, ?_⟩, ?_, a7, ?_⟩, ?_, ?_⟩
  · unfold fW_put
    rw [hT, cond_true, zqo_lt _ _ (by omega) (by decide), decide_eq_false (by omega), cond_false, hz, b1_s, zqo_ge _ _ (by omega) (by omega), decide_eq_false (by omega), cond_false, hr, b1_s, hn, b1_s, zqo_ge _ _ (by omega) (by omega), decide_eq_false (by omega), cond_false, b1_s]
    show b1 (fAS h (q + 1) 101 (Int32.ofInt (i : Int)) (.int (zw_b v))) _ = _
    rw [zh_AS a3 (by omega) (by omega), b1_s]
  · rw [zh_set (by omega), List.length_set]
    exact a2
  · rw [List.length_set]
    exact a4
  · intro j hj
    rw [List.length_set] at hj
    by_cases hji : i = j
    · subst hji
      rw [List.getElem?_set_self (by omega), List.getD_eq_getElem?_getD, List.getElem?_set_self hj]
      rfl
    · rw [List.getElem?_set_ne hji, List.getD_eq_getElem?_getD, List.getElem?_set_ne hji, ← List.getD_eq_getElem?_getD]
      exact a5 j hj
  · rw [List.length_set]
    exact a6
  · intro u hu
    rcases List.mem_or_eq_of_mem_set hu with hu | hu
    · exact a8 u hu
    · omega
  · rw [List.length_set]
  · intro p h1 h2
    exact zh_set (by omega)
theorem zw_size (H : zw_W h q n l) (m : Nat) (hm : m ≤ l.length) : zw_W (h.set q (4, [.ref (q + 1), .int (Int32.ofInt (m : Int))])) q n (l.take m) ∧ zw_F h (h.set q (4, [.ref (q + 1), .int (Int32.ofInt (m : Int))])) q := by
  obtain ⟨a1, a2, ⟨R, a3, a4, a5⟩, a6, a7, a8⟩ := H
  have hl : (l.take m).length = m := by rw [List.length_take]; omega
  refine ⟨⟨a1, ?_, ⟨R, ?_, a4, ?_⟩, by omega, a7, fun v hv => a8 v (List.mem_of_mem_take hv)⟩, by rw [List.length_set], fun p h1 h2 => zh_set (by omega)⟩
  · rw [List.getElem?_set_self (List.getElem?_eq_some_iff.mp a2).1, hl]
  · rw [zh_set (by omega)]
    exact a3
  · intro i hi
    rw [hl] at hi
    rw [List.getD_eq_getElem?_getD, List.getElem?_take_of_lt hi, ← List.getD_eq_getElem?_getD]
    exact a5 i (by omega)
theorem zw_clear (H : zw_W h q n l) : ∃ h', fW_clear N q h = some ((), h') ∧ zw_W h' q n [] ∧ zw_F h h' q := by
  have h1 := zw_size H 0 (by omega)
  refine ⟨_, ?_, h1.1, h1.2⟩
  unfold fW_clear
  rw [zw_T H, cond_true, zh_S H.2.1 (Nat.lt_succ_self 1)]
  rfl
theorem zw_shorten (H : zw_W h q n l) (m : Int) (hm : -2147483648 ≤ m ∧ m < 2147483648) : ∃ h', fW_shortenTo N q (Int32.ofInt m) h = some ((), h') ∧ zw_W h' q n (if 0 ≤ m then l.take m.toNat else l) ∧ zw_F h h' q := by
  have hT := zw_T H
  have hz := zw_z H
  obtain ⟨a1, a2, a3, a6, a7, a8⟩ := H
  have H : zw_W h q n l := ⟨a1, a2, a3, a6, a7, a8⟩
  unfold fW_shortenTo
  rw [hT, cond_true, zqo_lt _ _ hm (by decide), hz, b1_s, zqo_ge _ _ hm (by omega)]
  by_cases h1 : m < 0
  · rw [decide_eq_true h1, cond_true, if_neg (by omega)]
    exact ⟨h, rfl, H, zw_Fr h q⟩
  · rw [decide_eq_false h1, cond_false, if_pos (by omega)]
    by_cases h2 : (l.length : Int) ≤ m
    · rw [decide_eq_true h2, cond_true, List.take_of_length_le (by omega)]
      exact ⟨h, rfl, H, zw_Fr h q⟩
    · obtain ⟨k, rfl⟩ : ∃ k : Nat, m = (k : Int) := ⟨m.toNat, by omega⟩
      rw [decide_eq_false h2, cond_false, zh_S a2 (Nat.lt_succ_self 1), b1_s]
      have h3 := zw_size H k (by omega)
      exact ⟨_, rfl, h3.1, h3.2⟩
theorem zw_addN (H : zw_W h q n l) (v : Nat) (hv : v < 256) (hn : l.length < n) : ∃ h', fW_add N q (Int32.ofInt (v : Int)) h = some ((), h') ∧ zw_W h' q n (l ++ [v]) ∧ zw_F h h' q := by
  have hT := zw_T H
  have hz := zw_z H
  have hr := zw_r H
  have hn2 := zw_n H
  obtain ⟨a1, a2, ⟨R, a3, a4, a5⟩, a6, a7, a8⟩ := H
  have hq1 : q + 1 < h.length := (List.getElem?_eq_some_iff.mp a3).1
  have hq : q < h.length := by omega
  have e2 : (h.set (q + 1) (101, R.set l.length (.int (zw_b v))))[q]? = some (4, [.ref (q + 1), .int (Int32.ofInt (l.length : Int))]) := (zh_set (by omega)).trans a2
  have hl : (l ++ [v]).length = l.length + 1 := by rw [List.length_append]; rfl
  refine ⟨(h.set (q + 1) (101, R.set l.length (.int (zw_b v)))).set q (4, [.ref (q + 1), .int (Int32.ofInt ((l.length + 1 : Nat) : Int))]), ?_, ⟨a1, ?_, ⟨R.set l.length (.int (zw_b v)), ?_, ?_, ?_⟩, by omega, a7, ?_⟩, ?_, ?_⟩
  · unfold fW_add
    rw [hT, cond_true, hz, b1_s, zqo_lt _ _ (by omega) (by decide), decide_eq_false (by omega), cond_false, b1_s, hr, b1_s, hn2, b1_s, zqo_ge _ _ (by omega) (by omega), decide_eq_false (by omega), cond_false, b1_s, b1_s]
    show b1 (fAS h (q + 1) 101 (Int32.ofInt (l.length : Int)) (.int (zw_b v))) _ = _
    rw [zh_AS a3 (by omega) (by omega), b1_s, zh_I (b := 1) (by omega) e2 rfl, b1_s, zh_inc, zh_S e2 (Nat.lt_succ_self 1), b1_s]
    rfl
  · rw [List.getElem?_set_self (by rw [List.length_set]; exact hq), hl]
  · rw [zh_set (by omega), List.getElem?_set_self hq1]
  · rw [List.length_set]
    exact a4
  · intro i hi
    rw [hl] at hi
    by_cases h1 : i = l.length
    · subst h1
      rw [List.getElem?_set_self (by omega), List.getD_eq_getElem?_getD, List.getElem?_append_right (Nat.le_refl _), Nat.sub_self]
      rfl
    · rw [List.getElem?_set_ne (by omega), List.getD_eq_getElem?_getD, List.getElem?_append_left (by omega), ← List.getD_eq_getElem?_getD]
      exact a5 i (by omega)
  · intro u hu
    rw [List.mem_append, List.mem_singleton] at hu
    rcases hu with hu | hu
    · exact a8 u hu
    · omega
  · rw [List.length_set, List.length_set]
  · intro p h1 h2
    rw [zh_set (by omega), zh_set (by omega)]
end ZWW
/-- a part of another word behind this one -/
theorem zw_addPart3 {N q n o k : Nat} {m : List Nat} (d : zw_d o q) : ∀ c f : Nat, ∀ (h : zH) (l : List Nat) (i : Nat), zw_W h q n l → zw_W h o k m → i + c ≤ m.length → l.length + c ≤ n → c < f → ∃ h', fW_addPart_3 N f q o (Int32.ofInt ((i + c : Nat) : Int)) (Int32.ofInt (i : Int)) h = some ((), h') ∧ zw_W h' q n (l ++ (m.drop i).take c) ∧ zw_F h h' q := by
  intro c
  induction c with
  | zero =>
    intro f h l i H O h1 h2 h3
    obtain ⟨g, rfl⟩ : ∃ g, f = g + 1 := ⟨f - 1, by omega⟩
    refine ⟨h, ?_, ?_, zw_Fr h q⟩
    · have b1' := O.2.2.2.1
      have b2' := O.2.2.2.2.1
      rw [fW_addPart_3, zqo_ge _ _ (by omega) (by omega), decide_eq_true (by omega), cond_true]
    · rw [List.take_zero, List.append_nil]
      exact H
  | succ c ih =>
    intro f h l i H O h1 h2 h3
    obtain ⟨g, rfl⟩ : ∃ g, f = g + 1 := ⟨f - 1, by omega⟩
    have b1' := O.2.2.2.1
    have b2' := O.2.2.2.2.1
    obtain ⟨h4, e4, H4, F4⟩ := zw_addN (N := N) H (m.getD i 0) (zw_gD O.2.2.2.2.2 i) (by omega)
    obtain ⟨h5, e5, H5, F5⟩ := ih g h4 (l ++ [m.getD i 0]) (i + 1) H4 (zw_keep O F4 d) (by omega) (by rw [List.length_append]; show l.length + 1 + c ≤ n; omega) (by omega)
    refine ⟨h5, ?_, ?_, zw_Ft F4 F5⟩
    · rw [fW_addPart_3, zqo_ge _ _ (by omega) (by omega), decide_eq_false (by omega), cond_false, zw_at O _ (by omega), b2, zw_gi (by omega)]
      show b2 (fW_add N q (Int32.ofInt ((m.getD i 0 : Nat) : Int)) h) _ = _
      rw [e4, b2, zh_inc, show i + (c + 1) = i + 1 + c by omega]
      exact e5
    · have e6 : (m.drop i).take (c + 1) = m.getD i 0 :: (m.drop (i + 1)).take c := by
        rw [List.drop_eq_getElem_cons (show i < m.length by omega), List.take_succ_cons, List.getD_eq_getElem?_getD, List.getElem?_eq_getElem (show i < m.length by omega)]
        rfl
      rw [e6]
      rw [List.append_assoc] at H5
      exact H5
theorem zw_addPart {N q n o k : Nat} {m l : List Nat} {h : zH} (d : zw_d o q) (H : zw_W h q n l) (O : zw_W h o k m) (i c : Nat) (h1 : i + c ≤ m.length) (h2 : l.length + c ≤ n) (h3 : c < N) : ∃ h', fW_addPart N q o (Int32.ofInt (i : Int)) (Int32.ofInt ((i + c : Nat) : Int)) h = some ((), h') ∧ zw_W h' q n (l ++ (m.drop i).take c) ∧ zw_F h h' q := by
  obtain ⟨h', e, H', F⟩ := zw_addPart3 (N := N) d c N h l i H O h1 h2 h3
  refine ⟨h', ?_, H', F⟩
  unfold fW_addPart
  rw [zw_T H, cond_true]
  exact e
theorem zw_copy {N q n o k : Nat} {m l : List Nat} {h : zH} (d : zw_d o q) (H : zw_W h q n l) (O : zw_W h o k m) (h2 : m.length ≤ n) (h3 : m.length < N) : ∃ h', fW_copyFrom N q o h = some ((), h') ∧ zw_W h' q n m ∧ zw_F h h' q := by
  obtain ⟨h4, e4, H4, F4⟩ := zw_clear (N := N) H
  have O4 := zw_keep O F4 d
  obtain ⟨h5, e5, H5, F5⟩ := zw_addPart (N := N) d H4 O4 0 m.length (by omega) (by rw [List.length_nil]; omega) h3
  refine ⟨h5, ?_, ?_, zw_Ft F4 F5⟩
  · unfold fW_copyFrom
    rw [zw_T H, cond_true, e4, b2, zw_z O4, b1_s]
    rw [Nat.zero_add] at e5
    rw [show Int32.ofInt 0 = Int32.ofInt ((0 : Nat) : Int) from rfl, e5, b2]
  · rw [List.nil_append, List.drop_zero, List.take_of_length_le (Nat.le_refl _)] at H5
    exact H5
