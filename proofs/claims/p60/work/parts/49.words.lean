section
/-! SMALL LAWS of Int32 and of the heap. -/
/-- a comparison by the whole numbers -/
theorem zj_lt (x : Int32) (c : Int) (hc : -2147483648 ≤ c ∧ c < 2147483648) : z_cmp .lt x (Int32.ofInt c) = decide (x.toInt < c) := by
  refine decide_eq_decide.mpr ?_
  rw [Int32.lt_iff_toInt_lt, Int32.toInt_ofInt_of_le hc.1 hc.2]
theorem zj_gt (x : Int32) (c : Int) (hc : -2147483648 ≤ c ∧ c < 2147483648) : z_cmp .gt x (Int32.ofInt c) = decide (c < x.toInt) := by
  refine decide_eq_decide.mpr ?_
  rw [Int32.lt_iff_toInt_lt, Int32.toInt_ofInt_of_le hc.1 hc.2]
theorem zj_ge (x : Int32) (c : Int) (hc : -2147483648 ≤ c ∧ c < 2147483648) : z_cmp .ge x (Int32.ofInt c) = decide (c ≤ x.toInt) := by
  refine decide_eq_decide.mpr ?_
  rw [Int32.le_iff_toInt_le, Int32.toInt_ofInt_of_le hc.1 hc.2]
theorem zj_le (x : Int32) (c : Int) (hc : -2147483648 ≤ c ∧ c < 2147483648) : z_cmp .le x (Int32.ofInt c) = decide (x.toInt ≤ c) := by
  refine decide_eq_decide.mpr ?_
  rw [Int32.le_iff_toInt_le, Int32.toInt_ofInt_of_le hc.1 hc.2]
theorem zj_ofInt (x : Int32) : Int32.ofInt x.toInt = x := Int32.ofInt_toInt x
theorem zj_geL (x : Int32) (c : Int) (hc : -2147483648 ≤ c ∧ c < 2147483648) : z_cmp .ge (Int32.ofInt c) x = decide (x.toInt ≤ c) := by
  refine decide_eq_decide.mpr ?_
  rw [Int32.le_iff_toInt_le, Int32.toInt_ofInt_of_le hc.1 hc.2]
theorem zj_gtL (x : Int32) (c : Int) (hc : -2147483648 ≤ c ∧ c < 2147483648) : z_cmp .gt (Int32.ofInt c) x = decide (x.toInt < c) := by
  refine decide_eq_decide.mpr ?_
  rw [Int32.lt_iff_toInt_lt, Int32.toInt_ofInt_of_le hc.1 hc.2]
theorem b1_s {α β : Type} (a : α) (g : α → Option β) : b1 (some a) g = g a := rfl
theorem zi_T {h : zH} {q t : Nat} {vs : List Value} (hq : q < 1000000) (e : h[q]? = some (t, vs)) : fT h q t = true := by
  unfold fT
  rw [zh_hg hq e]
  exact Nat.beq_refl t
theorem zi_N {h : zH} {q t : Nat} {vs : List Value} (hq : q < 1000000) (e : h[q]? = some (t, vs)) : fN h q t = some (Int32.ofNat vs.length) := by
  unfold fN
  rw [zh_hg hq e]
  show cond (Nat.beq t t) _ _ = _
  rw [Nat.beq_refl]
  rfl
theorem zqo_i (p : Int) (hp : -2147483648 ≤ p ∧ p < 2147483648) : (Int32.ofInt p).toInt = p := Int32.toInt_ofInt_of_le (by omega) (by omega)
theorem zqo_eq (p q : Int) (hp : -2147483648 ≤ p ∧ p < 2147483648) (hq : -2147483648 ≤ q ∧ q < 2147483648) : z_cmp .eq (Int32.ofInt p) (Int32.ofInt q) = decide (p = q) := by
  refine decide_eq_decide.mpr ?_
  constructor
  · intro h
    have h1 := congrArg Int32.toInt h
    rw [zqo_i p hp, zqo_i q hq] at h1
    exact h1
  · intro h
    rw [h]
theorem zqo_ne (p q : Int) (hp : -2147483648 ≤ p ∧ p < 2147483648) (hq : -2147483648 ≤ q ∧ q < 2147483648) : z_cmp .ne (Int32.ofInt p) (Int32.ofInt q) = !decide (p = q) := by
  rw [← zqo_eq p q hp hq]
  rfl
theorem zqo_ge (p q : Int) (hp : -2147483648 ≤ p ∧ p < 2147483648) (hq : -2147483648 ≤ q ∧ q < 2147483648) : z_cmp .ge (Int32.ofInt p) (Int32.ofInt q) = decide (q ≤ p) := by
  rw [zj_ge _ q hq, zqo_i p hp]
theorem zqo_le (p q : Int) (hp : -2147483648 ≤ p ∧ p < 2147483648) (hq : -2147483648 ≤ q ∧ q < 2147483648) : z_cmp .le (Int32.ofInt p) (Int32.ofInt q) = decide (p ≤ q) := by
  rw [zj_le _ q hq, zqo_i p hp]
theorem zh_AL {h : zH} {q t i : Nat} {x : Int64} {vs : List Value} (hq : q < 1000000) (e : h[q]? = some (t, vs)) (e2 : vs[i]? = some (.long x)) (hi : i < 2147483648) : fAL h q t (Int32.ofInt i) = some x := by
  unfold fAL
  rw [decide_eq_false (zh_nat hi).1, cond_false, (zh_nat hi).2]
  unfold fL fV
  rw [zh_hg hq e]
  simp [e2]
theorem zqo_lg (x : Int64) : z_cmp .eq (lg_cmp x x) (Int32.ofInt 0) = true := by
  unfold lg_cmp
  simp
  rfl
end
section
/-! THE CLASS'S WORDS: a word at q, its bytes behind it; what its methods do, on lists. -/
theorem zqo_lt (p q : Int) (hp : -2147483648 ≤ p ∧ p < 2147483648) (hq : -2147483648 ≤ q ∧ q < 2147483648) : z_cmp .lt (Int32.ofInt p) (Int32.ofInt q) = decide (p < q) := by
  rw [zj_lt _ q hq, zqo_i p hp]
theorem zqo_gt (p q : Int) (hp : -2147483648 ≤ p ∧ p < 2147483648) (hq : -2147483648 ≤ q ∧ q < 2147483648) : z_cmp .gt (Int32.ofInt p) (Int32.ofInt q) = decide (q < p) := by
  rw [zj_gt _ q hq, zqo_i p hp]
theorem zw_add (a b : Int) : Int32.ofInt a + Int32.ofInt b = Int32.ofInt (a + b) := (Int32.ofInt_add ..).symm
theorem zw_sub (a b : Int) : Int32.ofInt a - Int32.ofInt b = Int32.ofInt (a - b) := (Int32.ofInt_sub ..).symm
/-- a byte as the array holds it -/
def zw_b (v : Nat) : Int32 := vp_nar .byte (Int32.ofInt (v : Int)).toInt8.toInt32
theorem zw_b255 (v : Nat) (hv : v < 256) : zw_b v &&& Int32.ofInt 255 = Int32.ofInt (v : Int) := by
  have h := List.all_eq_true.mp (show ((List.range 256).all fun v => decide (zw_b v &&& Int32.ofInt 255 = Int32.ofInt ((v : Nat) : Int))) = true by decide +kernel) v (List.mem_range.mpr hv)
  exact of_decide_eq_true h
/-- a word at q with room for n bytes and the bytes l -/
def zw_W (h : zH) (q n : Nat) (l : List Nat) : Prop := q + 1 < 1000000 ∧ h[q]? = some (4, [.ref (q + 1), .int (Int32.ofInt (l.length : Int))]) ∧ (∃ R, h[q + 1]? = some (101, R) ∧ R.length = n ∧ ∀ i, i < l.length → R[i]? = some (.int (zw_b (l.getD i 0)))) ∧ l.length ≤ n ∧ n ≤ 600 ∧ ∀ v ∈ l, v < 256
/-- all but the word's two cells is as before -/
def zw_F (h h' : zH) (q : Nat) : Prop := h'.length = h.length ∧ ∀ p, p ≠ q → p ≠ q + 1 → h'[p]? = h[p]?
theorem zw_Fr (h : zH) (q : Nat) : zw_F h h q := ⟨rfl, fun _ _ _ => rfl⟩
theorem zw_Ft {h1 h2 h3 : zH} {q : Nat} (a : zw_F h1 h2 q) (b : zw_F h2 h3 q) : zw_F h1 h3 q := ⟨b.1.trans a.1, fun p h4 h5 => (b.2 p h4 h5).trans (a.2 p h4 h5)⟩
/-- two words apart -/
def zw_d (p q : Nat) : Prop := p + 1 < q ∨ q + 1 < p
theorem zw_keep {h h' : zH} {p q n : Nat} {l : List Nat} (H : zw_W h p n l) (f : zw_F h h' q) (d : zw_d p q) : zw_W h' p n l := by
  obtain ⟨a1, a2, ⟨R, a3, a4, a5⟩, a6, a7⟩ := H
  unfold zw_d at d
  exact ⟨a1, (f.2 p (by omega) (by omega)).trans a2, ⟨R, (f.2 (p + 1) (by omega) (by omega)).trans a3, a4, a5⟩, a6, a7⟩
/-- the byte at a position, -1 if there is none -/
def zw_g (l : List Nat) (i : Int) : Int := if 0 ≤ i ∧ i < (l.length : Int) then (l.getD i.toNat 0 : Int) else -1
theorem zw_gi {l : List Nat} {i : Int} (h : 0 ≤ i ∧ i < (l.length : Int)) : zw_g l i = (l.getD i.toNat 0 : Int) := if_pos h
theorem zw_go {l : List Nat} {i : Int} (h : i < 0 ∨ (l.length : Int) ≤ i) : zw_g l i = -1 := if_neg (by omega)
theorem zw_gD {l : List Nat} (hb : ∀ v ∈ l, v < 256) (i : Nat) : l.getD i 0 < 256 := by
  rw [List.getD_eq_getElem?_getD]
  cases h : l[i]? with
  | none => decide
  | some t => exact hb t (List.mem_of_getElem? h)
theorem zw_gb {l : List Nat} (hb : ∀ v ∈ l, v < 256) (i : Int) : -1 ≤ zw_g l i ∧ zw_g l i < 256 := by
  unfold zw_g
  split
  · have := zw_gD hb i.toNat
    omega
  · omega
section ZWW
variable {h : zH} {q n N : Nat} {l : List Nat}
theorem zw_T (H : zw_W h q n l) : fT h q 4 = true := zi_T (by have := H.1; omega) H.2.1
theorem zw_z (H : zw_W h q n l) : fI h q 4 1 = some (Int32.ofInt (l.length : Int)) := zh_I (b := 1) (by have := H.1; omega) H.2.1 rfl
theorem zw_r (H : zw_W h q n l) : fR h q 4 0 = some (q + 1) := zh_R (b := 0) (by have := H.1; omega) H.2.1 rfl
theorem zw_n (H : zw_W h q n l) : fN h (q + 1) 101 = some (Int32.ofInt (n : Int)) := by
  obtain ⟨a1, a2, ⟨R, a3, a4, a5⟩, a6, a7⟩ := H
  rw [zi_N a1 a3, a4]
  rfl
theorem zw_at (H : zw_W h q n l) (i : Int) (hi : -2147483648 ≤ i ∧ i < 2147483648) : fW_at N q (Int32.ofInt i) h = some (Int32.ofInt (zw_g l i), h) := by
  have hT := zw_T H
  have hz := zw_z H
  have hr := zw_r H
  have hn := zw_n H
  obtain ⟨a1, a2, ⟨R, a3, a4, a5⟩, a6, a7, a8⟩ := H
  unfold fW_at
  rw [hT, cond_true, zqo_lt _ _ hi (by decide), hz, b1_s, zqo_ge _ _ hi (by omega)]
  by_cases h1 : i < 0
  · rw [decide_eq_true h1, cond_true, zw_go (Or.inl h1)]
    rfl
  · rw [decide_eq_false h1, cond_false]
    by_cases h2 : (l.length : Int) ≤ i
    · rw [decide_eq_true h2, cond_true, zw_go (Or.inr h2)]
      rfl
    · obtain ⟨k, rfl⟩ : ∃ k : Nat, i = (k : Int) := ⟨i.toNat, by omega⟩
      rw [decide_eq_false h2, cond_false, hr, b1_s, hn, b1_s, zqo_ge _ _ hi (by omega), decide_eq_false (by omega), cond_false, b1_s, zh_AI a1 a3 (a5 k (by omega)) (by omega), b1_s, zw_b255 _ (zw_gD a8 k), zw_gi (by omega)]
      rfl
theorem zw_put (H : zw_W h q n l) (i v : Nat) (hi : i < l.length) (hv : v < 256) : ∃ h', fW_put N q (Int32.ofInt (i : Int)) (Int32.ofInt (v : Int)) h = some ((), h') ∧ zw_W h' q n (l.set i v) ∧ zw_F h h' q := by
  have hT := zw_T H
  have hz := zw_z H
  have hr := zw_r H
  have hn := zw_n H
  obtain ⟨a1, a2, ⟨R, a3, a4, a5⟩, a6, a7, a8⟩ := H
  refine ⟨h.set (q + 1) (101, R.set i (.int (zw_b v))), ?_, ⟨a1, ?_, ⟨R.set i (.int (zw_b v)), List.getElem?_set_self (List.getElem?_eq_some_iff.mp a3).1, ?_, ?_⟩, ?_, a7, ?_⟩, ?_, ?_⟩
  · unfold fW_put
    rw [hT, cond_true, zqo_lt _ _ (by omega) (by decide), decide_eq_false (by omega), cond_false, hz, b1_s, zqo_ge _ _ (by omega) (by omega), decide_eq_false (by omega), cond_false, hr, b1_s, hn, b1_s, zqo_ge _ _ (by omega) (by omega), decide_eq_false (by omega), cond_false, b1_s]
    show b1 (fAS h (q + 1) 101 (Int32.ofInt (i : Int)) (.int (zw_b v))) _ = _
    rw [zh_AS a3 (by omega) (by omega), b1_s]
  · rw [zh_set (by omega), List.length_set]
    exact a2
  · rw [List.length_set]
    exact a4
  · intro j hj
    rw [List.length_set] at hj
    by_cases hji : i = j
    · subst hji
      rw [List.getElem?_set_self (by omega), List.getD_eq_getElem?_getD, List.getElem?_set_self hj]
      rfl
    · rw [List.getElem?_set_ne hji, List.getD_eq_getElem?_getD, List.getElem?_set_ne hji, ← List.getD_eq_getElem?_getD]
      exact a5 j hj
  · rw [List.length_set]
    exact a6
  · intro u hu
    rcases List.mem_or_eq_of_mem_set hu with hu | hu
    · exact a8 u hu
    · omega
  · rw [List.length_set]
  · intro p h1 h2
    exact zh_set (by omega)
theorem zw_size (H : zw_W h q n l) (m : Nat) (hm : m ≤ l.length) : zw_W (h.set q (4, [.ref (q + 1), .int (Int32.ofInt (m : Int))])) q n (l.take m) ∧ zw_F h (h.set q (4, [.ref (q + 1), .int (Int32.ofInt (m : Int))])) q := by
  obtain ⟨a1, a2, ⟨R, a3, a4, a5⟩, a6, a7, a8⟩ := H
  have hl : (l.take m).length = m := by rw [List.length_take]; omega
  refine ⟨⟨a1, ?_, ⟨R, ?_, a4, ?_⟩, by omega, a7, fun v hv => a8 v (List.mem_of_mem_take hv)⟩, by rw [List.length_set], fun p h1 h2 => zh_set (by omega)⟩
  · rw [List.getElem?_set_self (List.getElem?_eq_some_iff.mp a2).1, hl]
  · rw [zh_set (by omega)]
    exact a3
  · intro i hi
    rw [hl] at hi
    rw [List.getD_eq_getElem?_getD, List.getElem?_take_of_lt hi, ← List.getD_eq_getElem?_getD]
    exact a5 i (by omega)
theorem zw_clear (H : zw_W h q n l) : ∃ h', fW_clear N q h = some ((), h') ∧ zw_W h' q n [] ∧ zw_F h h' q := by
  have h1 := zw_size H 0 (by omega)
  refine ⟨_, ?_, h1.1, h1.2⟩
  unfold fW_clear
  rw [zw_T H, cond_true, zh_S H.2.1 (Nat.lt_succ_self 1)]
  rfl
theorem zw_shorten (H : zw_W h q n l) (m : Int) (hm : -2147483648 ≤ m ∧ m < 2147483648) : ∃ h', fW_shortenTo N q (Int32.ofInt m) h = some ((), h') ∧ zw_W h' q n (if 0 ≤ m then l.take m.toNat else l) ∧ zw_F h h' q := by
  have hT := zw_T H
  have hz := zw_z H
  obtain ⟨a1, a2, a3, a6, a7, a8⟩ := H
  have H : zw_W h q n l := ⟨a1, a2, a3, a6, a7, a8⟩
  unfold fW_shortenTo
  rw [hT, cond_true, zqo_lt _ _ hm (by decide), hz, b1_s, zqo_ge _ _ hm (by omega)]
  by_cases h1 : m < 0
  · rw [decide_eq_true h1, cond_true, if_neg (by omega)]
    exact ⟨h, rfl, H, zw_Fr h q⟩
  · rw [decide_eq_false h1, cond_false, if_pos (by omega)]
    by_cases h2 : (l.length : Int) ≤ m
    · rw [decide_eq_true h2, cond_true, List.take_of_length_le (by omega)]
      exact ⟨h, rfl, H, zw_Fr h q⟩
    · obtain ⟨k, rfl⟩ : ∃ k : Nat, m = (k : Int) := ⟨m.toNat, by omega⟩
      rw [decide_eq_false h2, cond_false, zh_S a2 (Nat.lt_succ_self 1), b1_s]
      have h3 := zw_size H k (by omega)
      exact ⟨_, rfl, h3.1, h3.2⟩
theorem zw_addN (H : zw_W h q n l) (v : Nat) (hv : v < 256) (hn : l.length < n) : ∃ h', fW_add N q (Int32.ofInt (v : Int)) h = some ((), h') ∧ zw_W h' q n (l ++ [v]) ∧ zw_F h h' q := by
  have hT := zw_T H
  have hz := zw_z H
  have hr := zw_r H
  have hn2 := zw_n H
  obtain ⟨a1, a2, ⟨R, a3, a4, a5⟩, a6, a7, a8⟩ := H
  have hq1 : q + 1 < h.length := (List.getElem?_eq_some_iff.mp a3).1
  have hq : q < h.length := by omega
  have e2 : (h.set (q + 1) (101, R.set l.length (.int (zw_b v))))[q]? = some (4, [.ref (q + 1), .int (Int32.ofInt (l.length : Int))]) := (zh_set (by omega)).trans a2
  have hl : (l ++ [v]).length = l.length + 1 := by rw [List.length_append]; rfl
  refine ⟨(h.set (q + 1) (101, R.set l.length (.int (zw_b v)))).set q (4, [.ref (q + 1), .int (Int32.ofInt ((l.length + 1 : Nat) : Int))]), ?_, ⟨a1, ?_, ⟨R.set l.length (.int (zw_b v)), ?_, ?_, ?_⟩, by omega, a7, ?_⟩, ?_, ?_⟩
  · unfold fW_add
    rw [hT, cond_true, hz, b1_s, zqo_lt _ _ (by omega) (by decide), decide_eq_false (by omega), cond_false, b1_s, hr, b1_s, hn2, b1_s, zqo_ge _ _ (by omega) (by omega), decide_eq_false (by omega), cond_false, b1_s, b1_s]
    show b1 (fAS h (q + 1) 101 (Int32.ofInt (l.length : Int)) (.int (zw_b v))) _ = _
    rw [zh_AS a3 (by omega) (by omega), b1_s, zh_I (b := 1) (by omega) e2 rfl, b1_s, zh_inc, zh_S e2 (Nat.lt_succ_self 1), b1_s]
    rfl
  · rw [List.getElem?_set_self (by rw [List.length_set]; exact hq), hl]
  · rw [zh_set (by omega), List.getElem?_set_self hq1]
  · rw [List.length_set]
    exact a4
  · intro i hi
    rw [hl] at hi
    by_cases h1 : i = l.length
    · subst h1
      rw [List.getElem?_set_self (by omega), List.getD_eq_getElem?_getD, List.getElem?_append_right (Nat.le_refl _), Nat.sub_self]
      rfl
    · rw [List.getElem?_set_ne (by omega), List.getD_eq_getElem?_getD, List.getElem?_append_left (by omega), ← List.getD_eq_getElem?_getD]
      exact a5 i (by omega)
  · intro u hu
    rw [List.mem_append, List.mem_singleton] at hu
    rcases hu with hu | hu
    · exact a8 u hu
    · omega
  · rw [List.length_set, List.length_set]
  · intro p h1 h2
    rw [zh_set (by omega), zh_set (by omega)]
end ZWW
/-- a part of another word behind this one -/
theorem zw_addPart3 {N q n o k : Nat} {m : List Nat} (d : zw_d o q) : ∀ c f : Nat, ∀ (h : zH) (l : List Nat) (i : Nat), zw_W h q n l → zw_W h o k m → i + c ≤ m.length → l.length + c ≤ n → c < f → ∃ h', fW_addPart_3 N f q o (Int32.ofInt ((i + c : Nat) : Int)) (Int32.ofInt (i : Int)) h = some ((), h') ∧ zw_W h' q n (l ++ (m.drop i).take c) ∧ zw_F h h' q := by
  intro c
  induction c with
  | zero =>
    intro f h l i H O h1 h2 h3
    obtain ⟨g, rfl⟩ : ∃ g, f = g + 1 := ⟨f - 1, by omega⟩
    refine ⟨h, ?_, ?_, zw_Fr h q⟩
    · have b1' := O.2.2.2.1
      have b2' := O.2.2.2.2.1
      rw [fW_addPart_3, zqo_ge _ _ (by omega) (by omega), decide_eq_true (by omega), cond_true]
    · rw [List.take_zero, List.append_nil]
      exact H
  | succ c ih =>
    intro f h l i H O h1 h2 h3
    obtain ⟨g, rfl⟩ : ∃ g, f = g + 1 := ⟨f - 1, by omega⟩
    have b1' := O.2.2.2.1
    have b2' := O.2.2.2.2.1
    obtain ⟨h4, e4, H4, F4⟩ := zw_addN (N := N) H (m.getD i 0) (zw_gD O.2.2.2.2.2 i) (by omega)
    obtain ⟨h5, e5, H5, F5⟩ := ih g h4 (l ++ [m.getD i 0]) (i + 1) H4 (zw_keep O F4 d) (by omega) (by rw [List.length_append]; show l.length + 1 + c ≤ n; omega) (by omega)
    refine ⟨h5, ?_, ?_, zw_Ft F4 F5⟩
    · rw [fW_addPart_3, zqo_ge _ _ (by omega) (by omega), decide_eq_false (by omega), cond_false, zw_at O _ (by omega), b2, zw_gi (by omega)]
      show b2 (fW_add N q (Int32.ofInt ((m.getD i 0 : Nat) : Int)) h) _ = _
      rw [e4, b2, zh_inc, show i + (c + 1) = i + 1 + c by omega]
      exact e5
    · have e6 : (m.drop i).take (c + 1) = m.getD i 0 :: (m.drop (i + 1)).take c := by
        rw [List.drop_eq_getElem_cons (show i < m.length by omega), List.take_succ_cons, List.getD_eq_getElem?_getD, List.getElem?_eq_getElem (show i < m.length by omega)]
        rfl
      rw [e6]
      rw [List.append_assoc] at H5
      exact H5
theorem zw_addPart {N q n o k : Nat} {m l : List Nat} {h : zH} (d : zw_d o q) (H : zw_W h q n l) (O : zw_W h o k m) (i c : Nat) (h1 : i + c ≤ m.length) (h2 : l.length + c ≤ n) (h3 : c < N) : ∃ h', fW_addPart N q o (Int32.ofInt (i : Int)) (Int32.ofInt ((i + c : Nat) : Int)) h = some ((), h') ∧ zw_W h' q n (l ++ (m.drop i).take c) ∧ zw_F h h' q := by
  obtain ⟨h', e, H', F⟩ := zw_addPart3 (N := N) d c N h l i H O h1 h2 h3
  refine ⟨h', ?_, H', F⟩
  unfold fW_addPart
  rw [zw_T H, cond_true]
  exact e
theorem zw_copy {N q n o k : Nat} {m l : List Nat} {h : zH} (d : zw_d o q) (H : zw_W h q n l) (O : zw_W h o k m) (h2 : m.length ≤ n) (h3 : m.length < N) : ∃ h', fW_copyFrom N q o h = some ((), h') ∧ zw_W h' q n m ∧ zw_F h h' q := by
  obtain ⟨h4, e4, H4, F4⟩ := zw_clear (N := N) H
  have O4 := zw_keep O F4 d
  obtain ⟨h5, e5, H5, F5⟩ := zw_addPart (N := N) d H4 O4 0 m.length (by omega) (by rw [List.length_nil]; omega) h3
  refine ⟨h5, ?_, ?_, zw_Ft F4 F5⟩
  · unfold fW_copyFrom
    rw [zw_T H, cond_true, e4, b2, zw_z O4, b1_s]
    rw [Nat.zero_add] at e5
    rw [show Int32.ofInt 0 = Int32.ofInt ((0 : Nat) : Int) from rfl, e5, b2]
  · rw [List.nil_append, List.drop_zero, List.take_of_length_le (Nat.le_refl _)] at H5
    exact H5
end
section
/-! THE CLASS'S WORDS: what its questions answer. -/
/-- as in a dictionary: -1, 0 or 1 -/
def zw_cmp : List Nat → List Nat → Int
  | [], [] => 0
  | [], _ :: _ => -1
  | _ :: _, [] => 1
  | a :: l, b :: m => if a = b then zw_cmp l m else if a < b then -1 else 1
theorem zw_cmpb : ∀ l m : List Nat, zw_cmp l m = -1 ∨ zw_cmp l m = 0 ∨ zw_cmp l m = 1 := by
  intro l
  induction l with
  | nil =>
    intro m
    cases m with
    | nil => exact Or.inr (Or.inl rfl)
    | cons b m => exact Or.inl rfl
  | cons a l ih =>
    intro m
    cases m with
    | nil => exact Or.inr (Or.inr rfl)
    | cons b m =>
      rw [zw_cmp]
      split
      · exact ih m
      · split
        · exact Or.inl rfl
        · exact Or.inr (Or.inr rfl)
/-- letters from a to b -/
def zw_p (l : List Nat) (a b : Nat) : List Nat := (l.drop a).take (b - a)
theorem zw_pl (l : List Nat) (a b : Nat) (h1 : b ≤ l.length) : (zw_p l a b).length = b - a := by
  unfold zw_p
  rw [List.length_take, List.length_drop]
  omega
theorem zw_pc {l : List Nat} {a b : Nat} (h : a < b) (h1 : b ≤ l.length) : zw_p l a b = l.getD a 0 :: zw_p l (a + 1) b := by
  unfold zw_p
  rw [List.drop_eq_getElem_cons (show a < l.length by omega), show b - a = (b - (a + 1)) + 1 by omega, List.take_succ_cons, List.getD_eq_getElem?_getD, List.getElem?_eq_getElem (show a < l.length by omega)]
  rfl
theorem zw_p0 {l : List Nat} {a b : Nat} (h : b ≤ a) : zw_p l a b = [] := by
  unfold zw_p
  rw [show b - a = 0 by omega, List.take_zero]
section ZWQ
variable {h : zH} {q n N : Nat} {l : List Nat}
theorem zw_order15 {o k : Nat} {m : List Nat} (H : zw_W h q n l) (O : zw_W h o k m) {a b c d : Nat} (hb : b ≤ l.length) (hd : d ≤ m.length) (hab : a ≤ b) (hcd : c ≤ d) : ∀ f i : Nat, i ≤ b - a → i ≤ d - c → b - a < i + f → fW_order_15 N f q (Int32.ofInt (a : Int)) o (Int32.ofInt (c : Int)) (Int32.ofInt ((b - a : Nat) : Int)) (Int32.ofInt ((d - c : Nat) : Int)) (Int32.ofInt (i : Int)) h = some (Int32.ofInt (zw_cmp (zw_p l (a + i) b) (zw_p m (c + i) d)), h) := by
  have u1 := H.2.2.2.1
  have u2 := H.2.2.2.2.1
  have u3 := O.2.2.2.1
  have u4 := O.2.2.2.2.1
  have fin : ∀ x y : Nat, x ≤ 600 → y ≤ 600 → fW_order_76 N (Int32.ofInt (x : Int)) (Int32.ofInt (y : Int)) h = some (Int32.ofInt (if x = y then 0 else if x < y then -1 else 1), h) := by
    intro x y hx hy
    unfold fW_order_76
    rw [zqo_ne _ _ (by omega) (by omega), zqo_ge _ _ (by omega) (by omega)]
    by_cases h1 : x = y
    · rw [decide_eq_true (by omega), Bool.not_true, cond_false, if_pos h1]
    · rw [decide_eq_false (by omega), Bool.not_false, cond_true, if_neg h1]
      by_cases h2 : x < y
      · rw [decide_eq_false (by omega), cond_false, if_pos h2]
        rfl
      · rw [decide_eq_true (by omega), cond_true, if_neg h2]
        rfl
  intro f
  induction f with
  | zero => intro i h1 h2 h3; omega
  | succ f ih =>
    intro i h1 h2 h3
    rw [fW_order_15, zqo_ge _ _ (by omega) (by omega), zqo_ge _ _ (by omega) (by omega)]
    by_cases e1 : b - a ≤ i
    · rw [decide_eq_true (by omega), cond_true, fin _ _ (by omega) (by omega), zw_p0 (show b ≤ a + i by omega)]
      by_cases e2 : d - c ≤ i
      · rw [zw_p0 (show d ≤ c + i by omega), if_pos (by omega)]
        rfl
      · rw [zw_pc (show c + i < d by omega) hd, if_neg (by omega), if_pos (by omega)]
        rfl
    · rw [decide_eq_false (by omega), cond_false]
      by_cases e2 : d - c ≤ i
      · rw [decide_eq_true (by omega), cond_true, fin _ _ (by omega) (by omega), zw_p0 (show d ≤ c + i by omega), zw_pc (show a + i < b by omega) hb, if_neg (by omega), if_neg (by omega)]
        rfl
      · have g1 := zw_gD H.2.2.2.2.2 (a + i)
        have g2 := zw_gD O.2.2.2.2.2 (c + i)
        rw [decide_eq_false (by omega), cond_false, zw_add, zw_add, show (a : Int) + (i : Int) = ((a + i : Nat) : Int) by omega, show (c : Int) + (i : Int) = ((c + i : Nat) : Int) by omega, zw_at H _ (by omega), b2, zw_at O _ (by omega), b2, zw_gi (by omega), zw_gi (by omega)]
        rw [show ((a + i : Nat) : Int).toNat = a + i by omega, show ((c + i : Nat) : Int).toNat = c + i by omega, zqo_eq _ _ (by omega) (by omega), zqo_ge _ _ (by omega) (by omega), zw_pc (show a + i < b by omega) hb, zw_pc (show c + i < d by omega) hd, zw_cmp]
        by_cases e3 : l.getD (a + i) 0 = m.getD (c + i) 0
        · rw [decide_eq_true (by omega), cond_true, if_pos e3, zh_inc]
          exact ih (i + 1) (by omega) (by omega) (by omega)
        · rw [decide_eq_false (by omega), cond_false, if_neg e3]
          by_cases e4 : l.getD (a + i) 0 < m.getD (c + i) 0
          · rw [decide_eq_false (by omega), cond_false, if_pos e4]
            rfl
          · rw [decide_eq_true (by omega), cond_true, if_neg e4]
            rfl
theorem zw_order {o k : Nat} {m : List Nat} (H : zw_W h q n l) (O : zw_W h o k m) (hN : 1000 ≤ N) {a b c d : Nat} (hb : b ≤ l.length) (hd : d ≤ m.length) (hab : a ≤ b) (hcd : c ≤ d) : fW_order N q (Int32.ofInt (a : Int)) (Int32.ofInt (b : Int)) o (Int32.ofInt (c : Int)) (Int32.ofInt (d : Int)) h = some (Int32.ofInt (zw_cmp (zw_p l a b) (zw_p m c d)), h) := by
  have u1 := H.2.2.2.1
  have u2 := H.2.2.2.2.1
  have e := zw_order15 (N := N) H O hb hd hab hcd N 0 (by omega) (by omega) (by omega)
  unfold fW_order
  rw [zw_T H, cond_true, zw_sub, zw_sub, show (b : Int) - (a : Int) = ((b - a : Nat) : Int) by omega, show (d : Int) - (c : Int) = ((d - c : Nat) : Int) by omega]
  exact e
/-- the end of the longest Lyndon word from s on: c letters are left, the period is p -/
def zw_le (l : List Nat) (s : Nat) : Nat → Nat → Nat
  | 0, p => s + p
  | c + 1, p => if l.getD (l.length - (c + 1)) 0 < l.getD (l.length - (c + 1) - p) 0 then s + p else if l.getD (l.length - (c + 1) - p) 0 < l.getD (l.length - (c + 1)) 0 then zw_le l s c (l.length - (c + 1) - s + 1) else zw_le l s c p
def zw_lE (l : List Nat) (s : Nat) : Nat := zw_le l s (l.length - (s + 1)) 1
theorem zw_leb {l : List Nat} {s : Nat} : ∀ c p, 1 ≤ p → s + p + c ≤ l.length → s + 1 ≤ zw_le l s c p ∧ zw_le l s c p ≤ l.length := by
  intro c
  induction c with
  | zero =>
    intro p h1 h2
    rw [zw_le]
    omega
  | succ c ih =>
    intro p h1 h2
    rw [zw_le]
    split
    · omega
    · split
      · exact ih _ (by omega) (by omega)
      · exact ih p h1 (by omega)
theorem zw_lEb {l : List Nat} {s : Nat} (hs : s < l.length) : s + 1 ≤ zw_lE l s ∧ zw_lE l s ≤ l.length := zw_leb _ 1 (Nat.le_refl 1) (by omega)
theorem zw_lyn6 (H : zw_W h q n l) {s : Nat} : ∀ c f p : Nat, c < f → 1 ≤ p → s + p + c ≤ l.length → fW_lyndonEnd_6 N f q (Int32.ofInt (s : Int)) (Int32.ofInt (p : Int)) (Int32.ofInt ((l.length - c : Nat) : Int)) h = some (Int32.ofInt ((zw_le l s c p : Nat) : Int), h) := by
  have u1 := H.2.2.2.1
  have u2 := H.2.2.2.2.1
  intro c
  induction c with
  | zero =>
    intro f p h1 h2 h3
    obtain ⟨g, rfl⟩ : ∃ g, f = g + 1 := ⟨f - 1, by omega⟩
    rw [fW_lyndonEnd_6, zw_z H, b1_s, zqo_ge _ _ (by omega) (by omega), decide_eq_true (by omega), cond_true]
    unfold fW_lyndonEnd_56
    rw [zw_add]
    rfl
  | succ c ih =>
    intro f p h1 h2 h3
    obtain ⟨g, rfl⟩ : ∃ g, f = g + 1 := ⟨f - 1, by omega⟩
    have g1 := zw_gD H.2.2.2.2.2 (l.length - (c + 1))
    have g2 := zw_gD H.2.2.2.2.2 (l.length - (c + 1) - p)
    rw [fW_lyndonEnd_6, zw_z H, b1_s, zqo_ge _ _ (by omega) (by omega), decide_eq_false (by omega), cond_false, zw_sub, show ((l.length - (c + 1) : Nat) : Int) - (p : Int) = ((l.length - (c + 1) - p : Nat) : Int) by omega, zw_at H _ (by omega), b2, zw_at H _ (by omega), b2, zw_at H _ (by omega), b2, zw_at H _ (by omega), b2, zw_gi (by omega), zw_gi (by omega)]
    rw [show ((l.length - (c + 1) : Nat) : Int).toNat = l.length - (c + 1) by omega, show ((l.length - (c + 1) - p : Nat) : Int).toNat = l.length - (c + 1) - p by omega, zqo_lt _ _ (by omega) (by omega), zqo_le _ _ (by omega) (by omega), zw_le]
    by_cases e1 : l.getD (l.length - (c + 1)) 0 < l.getD (l.length - (c + 1) - p) 0
    · rw [decide_eq_true (by omega), cond_true, if_pos e1]
      unfold fW_lyndonEnd_56
      rw [zw_add]
      rfl
    · rw [decide_eq_false (by omega), cond_false, if_neg e1]
      unfold fW_lyndonEnd_50
      rw [zh_inc, show l.length - (c + 1) + 1 = l.length - c by omega]
      by_cases e2 : l.getD (l.length - (c + 1) - p) 0 < l.getD (l.length - (c + 1)) 0
      · rw [decide_eq_false (by omega), cond_false, if_pos e2, zw_sub, zw_add, show ((l.length - (c + 1) : Nat) : Int) - (s : Int) + 1 = ((l.length - (c + 1) - s + 1 : Nat) : Int) by omega]
        exact ih g _ (by omega) (by omega) (by omega)
      · rw [decide_eq_true (by omega), cond_true, if_neg e2]
        exact ih g p (by omega) h2 (by omega)
theorem zw_lyn (H : zw_W h q n l) (hN : 1000 ≤ N) {s : Nat} (hs : s < l.length) : fW_lyndonEnd N q (Int32.ofInt (s : Int)) h = some (Int32.ofInt ((zw_lE l s : Nat) : Int), h) := by
  have u1 := H.2.2.2.1
  have u2 := H.2.2.2.2.1
  have e := zw_lyn6 (N := N) H (s := s) (l.length - (s + 1)) N 1 (by omega) (by omega) (by omega)
  unfold fW_lyndonEnd
  rw [zw_T H, cond_true, zh_inc]
  rw [show l.length - (l.length - (s + 1)) = s + 1 by omega] at e
  exact e
/-- the end of the factor at s, behind one at b -/
def zw_fE (l : List Nat) (b s : Nat) : Nat := if b < s ∧ s + s - b ≤ l.length ∧ zw_cmp (zw_p l b s) (zw_p l s (s + s - b)) = 0 then s + s - b else zw_lE l s
theorem zw_fEb {l : List Nat} {b s : Nat} (hs : s < l.length) : s + 1 ≤ zw_fE l b s ∧ zw_fE l b s ≤ l.length := by
  unfold zw_fE
  split
  · omega
  · exact zw_lEb hs
theorem zw_fac (H : zw_W h q n l) (hN : 1000 ≤ N) {b s : Nat} (hs : s < l.length) (hb : b ≤ s) : fW_factorEnd N q (Int32.ofInt (b : Int)) (Int32.ofInt (s : Int)) h = some (Int32.ofInt ((zw_fE l b s : Nat) : Int), h) := by
  have u1 := H.2.2.2.1
  have u2 := H.2.2.2.2.1
  have e33 : fW_factorEnd_33 N q (Int32.ofInt (s : Int)) h = some (Int32.ofInt ((zw_lE l s : Nat) : Int), h) := by
    unfold fW_factorEnd_33
    rw [zw_lyn H hN hs, b2]
  unfold fW_factorEnd zw_fE
  rw [zw_T H, cond_true, zqo_le _ _ (by omega) (by omega)]
  by_cases e1 : b < s
  · rw [decide_eq_false (by omega), cond_false, zw_z H, b1_s, zw_add, zw_sub, show (s : Int) + (s : Int) - (b : Int) = ((s + s - b : Nat) : Int) by omega, zqo_gt _ _ (by omega) (by omega)]
    by_cases e2 : s + s - b ≤ l.length
    · have e3 := zw_cmpb (zw_p l b s) (zw_p l s (s + s - b))
      rw [decide_eq_false (by omega), cond_false, zw_order H H hN (by omega) e2 hb (by omega), b2, zqo_ne _ _ (by omega) (by decide)]
      by_cases e4 : zw_cmp (zw_p l b s) (zw_p l s (s + s - b)) = 0
      · rw [decide_eq_true e4, Bool.not_true, cond_false, if_pos ⟨e1, e2, e4⟩]
      · rw [decide_eq_false e4, Bool.not_false, cond_true, if_neg (fun x => e4 x.2.2), e33]
    · rw [decide_eq_true (by omega), cond_true, if_neg (fun x => e2 x.2.1), e33]
  · rw [decide_eq_true (by omega), cond_true, if_neg (fun x => e1 x.1), e33]
end ZWQ
/-- where the factors begin and end -/
def zw_it (l : List Nat) : Nat → Nat → Nat → List (Nat × Nat)
  | 0, _, _ => []
  | c + 1, b, s => if l.length ≤ s then [] else (s, zw_fE l b s) :: zw_it l c s (zw_fE l b s)
def zw_fs (l : List Nat) : List (Nat × Nat) := zw_it l l.length 0 0
theorem zw_itl (l : List Nat) : ∀ c b s, (zw_it l c b s).length ≤ c := by
  intro c
  induction c with
  | zero => intro b s; exact Nat.le_refl 0
  | succ c ih =>
    intro b s
    rw [zw_it]
    split
    · exact Nat.zero_le _
    · have := ih s (zw_fE l b s)
      rw [List.length_cons]
      omega
section ZWQ2
variable {h : zH} {q n N : Nat} {l : List Nat}
theorem zw_cf9 (H : zw_W h q n l) (hN : 1000 ≤ N) : ∀ c f k b s : Nat, c < f → c ≤ l.length → k + c ≤ 2000 → b ≤ s → s ≤ l.length → fW_countFactors_9 N f q (Int32.ofInt (k : Int)) (Int32.ofInt (b : Int)) (Int32.ofInt (s : Int)) (Int32.ofInt ((l.length - c : Nat) : Int)) h = some (Int32.ofInt ((k + (zw_it l c b s).length : Nat) : Int), h) := by
  have u1 := H.2.2.2.1
  have u2 := H.2.2.2.2.1
  intro c
  induction c with
  | zero =>
    intro f k b s h1 h2 h3 h4 h5
    obtain ⟨g, rfl⟩ : ∃ g, f = g + 1 := ⟨f - 1, by omega⟩
    rw [fW_countFactors_9, zw_z H, b1_s, zqo_ge _ _ (by omega) (by omega), decide_eq_true (by omega), cond_true]
    rfl
  | succ c ih =>
    intro f k b s h1 h2 h3 h4 h5
    obtain ⟨g, rfl⟩ : ∃ g, f = g + 1 := ⟨f - 1, by omega⟩
    rw [fW_countFactors_9, zw_z H, b1_s, zqo_ge _ _ (by omega) (by omega), decide_eq_false (by omega), cond_false, b1_s, zqo_ge _ _ (by omega) (by omega), zw_it]
    by_cases e1 : l.length ≤ s
    · rw [decide_eq_true (by omega), cond_true, if_pos e1]
      rfl
    · have e2 := zw_fEb (b := b) (show s < l.length by omega)
      rw [decide_eq_false (by omega), cond_false, if_neg e1, zw_fac H hN (by omega) h4, b2, zh_inc, zh_inc, show l.length - (c + 1) + 1 = l.length - c by omega, List.length_cons, show k + ((zw_it l c s (zw_fE l b s)).length + 1) = k + 1 + (zw_it l c s (zw_fE l b s)).length by omega]
      exact ih g (k + 1) s _ (by omega) (by omega) (by omega) (by omega) e2.2
theorem zw_count (H : zw_W h q n l) (hN : 1000 ≤ N) : fW_countFactors N q h = some (Int32.ofInt (((zw_fs l).length : Nat) : Int), h) := by
  have u1 := H.2.2.2.1
  have u2 := H.2.2.2.2.1
  have e := zw_cf9 (N := N) H hN l.length N 0 0 0 (by omega) (Nat.le_refl _) (by omega) (Nat.le_refl _) (Nat.zero_le _)
  unfold fW_countFactors
  rw [zw_T H, cond_true]
  rw [Nat.sub_self, Nat.zero_add] at e
  exact e
end ZWQ2
end
section
/-! THE CLASS'S WORDS: factors by number and by position, periods, endings. -/
def zw_opt : Option (Nat × Nat) → Int
  | some t => (t.1 : Int)
  | none => -1
/-- the number of the last factor that begins at p or before -/
def zw_lead (p : Nat) : List (Nat × Nat) → Nat
  | [] => 0
  | t :: r => if t.1 ≤ p then zw_lead p r + 1 else 0
theorem zw_leadl (p : Nat) : ∀ r : List (Nat × Nat), zw_lead p r ≤ r.length := by
  intro r
  induction r with
  | nil => exact Nat.le_refl 0
  | cons t r ih =>
    rw [zw_lead, List.length_cons]
    split <;> omega
/-- the first longest: k is its number, g the one found, m its length -/
def zw_long : List (Nat × Nat) → Nat → Int → Nat → Int
  | [], _, g, _ => g
  | t :: r, k, g, m => if m < t.2 - t.1 then zw_long r (k + 1) (k : Int) (t.2 - t.1) else zw_long r (k + 1) g m
theorem zw_longb : ∀ (r : List (Nat × Nat)) (k : Nat) (g : Int) (m : Nat), -1 ≤ g → g < (k : Int) + r.length + 1 → -1 ≤ zw_long r k g m ∧ zw_long r k g m < (k : Int) + r.length + 1 := by
  intro r
  induction r with
  | nil =>
    intro k g m h1 h2
    rw [zw_long]
    exact ⟨h1, h2⟩
  | cons t r ih =>
    intro k g m h1 h2
    rw [List.length_cons] at h2 ⊢
    rw [zw_long]
    split
    · have := ih (k + 1) (k : Int) (t.2 - t.1) (by omega) (by omega)
      omega
    · have := ih (k + 1) g m h1 (by omega)
      omega
/-- how many factors are alike -/
def zw_like (l : List Nat) (a b : Nat) : List (Nat × Nat) → Nat
  | [] => 0
  | t :: r => (if zw_cmp (zw_p l t.1 t.2) (zw_p l a b) = 0 then 1 else 0) + zw_like l a b r
theorem zw_likel (l : List Nat) (a b : Nat) : ∀ r : List (Nat × Nat), zw_like l a b r ≤ r.length := by
  intro r
  induction r with
  | nil => exact Nat.le_refl 0
  | cons t r ih =>
    rw [zw_like, List.length_cons]
    split <;> omega
section ZWQ3
variable {h : zH} {q n N : Nat} {l : List Nat}
theorem zw_begin7 (H : zw_W h q n l) (hN : 1000 ≤ N) {x : Nat} (hx : x < 2147483648) : ∀ c f k b s : Nat, c < f → k + c = l.length → k ≤ s → b ≤ s → s ≤ l.length → k ≤ x → fW_beginOfFactor_7 N f q (Int32.ofInt (x : Int)) (Int32.ofInt (b : Int)) (Int32.ofInt (s : Int)) (Int32.ofInt (k : Int)) h = some (Int32.ofInt (zw_opt (zw_it l c b s)[x - k]?), h) := by
  have u1 := H.2.2.2.1
  have u2 := H.2.2.2.2.1
  have e40 : ∀ s : Nat, s ≤ l.length → fW_beginOfFactor_40 N q (Int32.ofInt (x : Int)) (Int32.ofInt (s : Int)) h = some (Int32.ofInt (if s < l.length then (s : Int) else -1), h) := by
    intro s hs
    unfold fW_beginOfFactor_40
    rw [zqo_lt _ _ (by omega) (by decide), decide_eq_false (by omega), cond_false, zw_z H, b1_s, zqo_ge _ _ (by omega) (by omega)]
    by_cases e1 : s < l.length
    · rw [decide_eq_false (by omega), cond_false, if_pos e1]
      rfl
    · rw [decide_eq_true (by omega), cond_true, if_neg e1]
      rfl
  intro c
  induction c with
  | zero =>
    intro f k b s h1 h2 h3 h4 h5 h6
    obtain ⟨g, rfl⟩ : ∃ g, f = g + 1 := ⟨f - 1, by omega⟩
    rw [fW_beginOfFactor_7, zw_z H, b1_s, zqo_ge (s : Int) _ (by omega) (by omega), decide_eq_true (show ((l.length : Int) ≤ (s : Int)) by omega), cond_true, e40 s h5, if_neg (by omega)]
    cases z_cmp .ge (Int32.ofInt (k : Int)) (Int32.ofInt (x : Int)) <;> rfl
  | succ c ih =>
    intro f k b s h1 h2 h3 h4 h5 h6
    obtain ⟨g, rfl⟩ : ∃ g, f = g + 1 := ⟨f - 1, by omega⟩
    rw [fW_beginOfFactor_7, zw_z H, b1_s, zqo_ge _ _ (by omega) (by omega), zqo_ge _ _ (by omega) (by omega), e40 s h5, zw_it]
    by_cases e1 : l.length ≤ s
    · rw [if_neg (by omega), if_pos e1, decide_eq_true (show ((l.length : Int) ≤ (s : Int)) by omega), cond_true]
      cases decide ((x : Int) ≤ (k : Int)) <;> rfl
    · rw [if_pos (by omega), if_neg e1, decide_eq_false (show ¬ ((l.length : Int) ≤ (s : Int)) by omega), cond_false]
      by_cases e2 : x = k
      · rw [decide_eq_true (by omega), cond_true, e2, Nat.sub_self]
        rfl
      · have e3 := zw_fEb (b := b) (show s < l.length by omega)
        rw [decide_eq_false (by omega), cond_false, zw_fac H hN (by omega) h4, b2, zh_inc, show x - k = (x - (k + 1)) + 1 by omega, List.getElem?_cons_succ]
        exact ih g (k + 1) s _ (by omega) (by omega) (by omega) (by omega) e3.2 (by omega)
/-- where a factor begins, by its number; -1 if there is none -/
def zw_bF (l : List Nat) (x : Int) : Int := if x < 0 then -1 else zw_opt (zw_fs l)[x.toNat]?
theorem zw_begin (H : zw_W h q n l) (hN : 1000 ≤ N) (x : Int) (hx : -2147483648 ≤ x ∧ x < 2147483648) : fW_beginOfFactor N q (Int32.ofInt x) h = some (Int32.ofInt (zw_bF l x), h) := by
  have u1 := H.2.2.2.1
  have u2 := H.2.2.2.2.1
  unfold fW_beginOfFactor zw_bF
  rw [zw_T H, cond_true]
  by_cases e1 : x < 0
  · obtain ⟨g, hg⟩ : ∃ g, N = g + 1 := ⟨N - 1, by omega⟩
    rw [if_pos e1]
    rw [show fW_beginOfFactor_7 N N = fW_beginOfFactor_7 N (g + 1) by rw [← hg], fW_beginOfFactor_7, zqo_ge _ _ (by decide) hx, decide_eq_true (by omega), cond_true]
    unfold fW_beginOfFactor_40
    rw [zqo_lt _ _ hx (by decide), decide_eq_true e1, cond_true]
    rfl
  · obtain ⟨y, rfl⟩ : ∃ y : Nat, x = (y : Int) := ⟨x.toNat, by omega⟩
    rw [if_neg e1]
    have e := zw_begin7 (N := N) H hN (x := y) (by omega) l.length N 0 0 0 (by omega) (by omega) (Nat.le_refl _) (Nat.le_refl _) (Nat.zero_le _) (Nat.zero_le _)
    exact e
theorem zw_with24 (H : zw_W h q n l) (hN : 1000 ≤ N) {p : Nat} (hp : p < l.length) : ∀ c f k b s : Nat, c < f → k + c = l.length → k ≤ s → b ≤ s → s ≤ l.length → fW_factorWith_24 N f q (Int32.ofInt (p : Int)) (Int32.ofInt ((k : Int) - 1)) (Int32.ofInt (b : Int)) (Int32.ofInt (s : Int)) (Int32.ofInt (k : Int)) h = some (Int32.ofInt ((k : Int) + (zw_lead p (zw_it l c b s) : Int) - 1), h) := by
  have u1 := H.2.2.2.1
  have u2 := H.2.2.2.2.1
  intro c
  induction c with
  | zero =>
    intro f k b s h1 h2 h3 h4 h5
    obtain ⟨g, rfl⟩ : ∃ g, f = g + 1 := ⟨f - 1, by omega⟩
    rw [fW_factorWith_24, zw_z H, b1_s, zqo_ge _ _ (by omega) (by omega), decide_eq_true (by omega), cond_true]
    unfold fW_factorWith_64
    rw [zw_it, zw_lead, show (k : Int) + ((0 : Nat) : Int) - 1 = (k : Int) - 1 by omega]
  | succ c ih =>
    intro f k b s h1 h2 h3 h4 h5
    obtain ⟨g, rfl⟩ : ∃ g, f = g + 1 := ⟨f - 1, by omega⟩
    rw [fW_factorWith_24, zw_z H, b1_s, zqo_ge _ _ (by omega) (by omega), decide_eq_false (by omega), cond_false, zqo_gt _ _ (by omega) (by omega), zw_it]
    by_cases e1 : p < s
    · rw [decide_eq_true (by omega), cond_true]
      unfold fW_factorWith_64
      split
      · rw [zw_lead, show (k : Int) + ((0 : Nat) : Int) - 1 = (k : Int) - 1 by omega]
      · rw [zw_lead, if_neg (show ¬ s ≤ p by omega), show (k : Int) + ((0 : Nat) : Int) - 1 = (k : Int) - 1 by omega]
    · have e3 := zw_fEb (b := b) (show s < l.length by omega)
      rw [decide_eq_false (by omega), cond_false, if_neg (by omega), zw_fac H hN (by omega) h4, b2, zh_inc, zw_lead, if_pos (show s ≤ p by omega)]
      have e4 := ih g (k + 1) s _ (by omega) (by omega) (by omega) (by omega) e3.2
      rw [show ((k + 1 : Nat) : Int) - 1 = (k : Int) by omega] at e4
      rw [e4]
      congr 3
      omega
/-- the number of the factor with a position; -1 if there is no such position -/
def zw_wF (l : List Nat) (x : Int) : Int := if x < 0 ∨ (l.length : Int) ≤ x then -1 else (zw_lead x.toNat (zw_fs l) : Int) - 1
theorem zw_with (H : zw_W h q n l) (hN : 1000 ≤ N) (x : Int) (hx : -2147483648 ≤ x ∧ x < 2147483648) : fW_factorWith N q (Int32.ofInt x) h = some (Int32.ofInt (zw_wF l x), h) := by
  have u1 := H.2.2.2.1
  have u2 := H.2.2.2.2.1
  unfold fW_factorWith zw_wF
  rw [zw_T H, cond_true, zqo_lt _ _ hx (by decide), zw_z H, b1_s, zqo_lt _ _ hx (by omega)]
  by_cases e1 : x < 0
  · rw [decide_eq_true e1, cond_true, if_pos (Or.inl e1)]
    rfl
  · rw [decide_eq_false e1, cond_false]
    by_cases e2 : (l.length : Int) ≤ x
    · rw [decide_eq_false (by omega), cond_false, if_pos (Or.inr e2)]
      rfl
    · obtain ⟨y, rfl⟩ : ∃ y : Nat, x = (y : Int) := ⟨x.toNat, by omega⟩
      rw [decide_eq_true (by omega), cond_true, if_neg (by omega)]
      have e := zw_with24 (N := N) H hN (p := y) (by omega) l.length N 0 0 0 (by omega) (by omega) (Nat.le_refl _) (Nat.le_refl _) (Nat.zero_le _)
      rw [show ((0 : Nat) : Int) + (zw_lead y (zw_it l l.length 0 0) : Int) - 1 = (zw_lead y (zw_it l l.length 0 0) : Int) - 1 by omega] at e
      exact e
theorem zw_long12 (H : zw_W h q n l) (hN : 1000 ≤ N) : ∀ c f k b s m : Nat, ∀ g : Int, c < f → k + c = l.length → k ≤ s → b ≤ s → s ≤ l.length → m ≤ 1000 → fW_firstLongestFactor_12 N f q (Int32.ofInt g) (Int32.ofInt (m : Int)) (Int32.ofInt (b : Int)) (Int32.ofInt (s : Int)) (Int32.ofInt (k : Int)) h = some (Int32.ofInt (zw_long (zw_it l c b s) k g m), h) := by
  have u1 := H.2.2.2.1
  have u2 := H.2.2.2.2.1
  intro c
  induction c with
  | zero =>
    intro f k b s m g h1 h2 h3 h4 h5 h6
    obtain ⟨j, rfl⟩ : ∃ j, f = j + 1 := ⟨f - 1, by omega⟩
    rw [fW_firstLongestFactor_12, zw_z H, b1_s, zqo_ge _ _ (by omega) (by omega), decide_eq_true (by omega), cond_true]
    rfl
  | succ c ih =>
    intro f k b s m g h1 h2 h3 h4 h5 h6
    obtain ⟨j, rfl⟩ : ∃ j, f = j + 1 := ⟨f - 1, by omega⟩
    rw [fW_firstLongestFactor_12, zw_z H, b1_s, zqo_ge _ _ (by omega) (by omega), decide_eq_false (by omega), cond_false, b1_s, zqo_ge _ _ (by omega) (by omega), zw_it]
    by_cases e1 : l.length ≤ s
    · rw [decide_eq_true (by omega), cond_true, if_pos e1]
      rfl
    · have e3 := zw_fEb (b := b) (show s < l.length by omega)
      rw [decide_eq_false (by omega), cond_false, if_neg e1, zw_fac H hN (by omega) h4, b2, zw_sub, zqo_le _ _ (by omega) (by omega), zw_long]
      unfold fW_firstLongestFactor_57
      rw [zh_inc]
      by_cases e2 : m < zw_fE l b s - s
      · rw [decide_eq_false (by omega), cond_false, if_pos e2, show ((zw_fE l b s : Nat) : Int) - (s : Int) = ((zw_fE l b s - s : Nat) : Int) by omega]
        exact ih j (k + 1) s _ _ _ (by omega) (by omega) (by omega) (by omega) e3.2 (by omega)
      · rw [decide_eq_true (by omega), cond_true, if_neg e2]
        exact ih j (k + 1) s _ _ _ (by omega) (by omega) (by omega) (by omega) e3.2 h6
theorem zw_longest (H : zw_W h q n l) (hN : 1000 ≤ N) : fW_firstLongestFactor N q h = some (Int32.ofInt (zw_long (zw_fs l) 0 (-1) 0), h) := by
  have u1 := H.2.2.2.1
  have u2 := H.2.2.2.2.1
  unfold fW_firstLongestFactor
  rw [zw_T H, cond_true]
  exact zw_long12 (N := N) H hN l.length N 0 0 0 0 (-1) (by omega) (by omega) (Nat.le_refl _) (Nat.le_refl _) (Nat.zero_le _) (by omega)
theorem zw_like11 (H : zw_W h q n l) (hN : 1000 ≤ N) {x y : Nat} (hxy : x ≤ y) (hy : y ≤ l.length) : ∀ c f k b s m : Nat, c < f → k + c = l.length → k ≤ s → b ≤ s → s ≤ l.length → m + c ≤ 1000 → fW_countFactorsLike_11 N f q (Int32.ofInt (x : Int)) (Int32.ofInt (y : Int)) (Int32.ofInt (m : Int)) (Int32.ofInt (b : Int)) (Int32.ofInt (s : Int)) (Int32.ofInt (k : Int)) h = some (Int32.ofInt ((m + zw_like l x y (zw_it l c b s) : Nat) : Int), h) := by
  have u1 := H.2.2.2.1
  have u2 := H.2.2.2.2.1
  intro c
  induction c with
  | zero =>
    intro f k b s m h1 h2 h3 h4 h5 h6
    obtain ⟨j, rfl⟩ : ∃ j, f = j + 1 := ⟨f - 1, by omega⟩
    rw [fW_countFactorsLike_11, zw_z H, b1_s, zqo_ge _ _ (by omega) (by omega), decide_eq_true (by omega), cond_true]
    rfl
  | succ c ih =>
    intro f k b s m h1 h2 h3 h4 h5 h6
    obtain ⟨j, rfl⟩ : ∃ j, f = j + 1 := ⟨f - 1, by omega⟩
    rw [fW_countFactorsLike_11, zw_z H, b1_s, zqo_ge _ _ (by omega) (by omega), decide_eq_false (by omega), cond_false, b1_s, zqo_ge _ _ (by omega) (by omega), zw_it]
    by_cases e1 : l.length ≤ s
    · rw [decide_eq_true (by omega), cond_true, if_pos e1]
      rfl
    · have e3 := zw_fEb (b := b) (show s < l.length by omega)
      have e4 := zw_cmpb (zw_p l s (zw_fE l b s)) (zw_p l x y)
      rw [decide_eq_false (by omega), cond_false, if_neg e1, zw_fac H hN (by omega) h4, b2, zw_order H H hN e3.2 hy (by omega) hxy, b2, zqo_ne _ _ (by omega) (by decide), zw_like]
      unfold fW_countFactorsLike_56
      rw [zh_inc]
      by_cases e2 : zw_cmp (zw_p l s (zw_fE l b s)) (zw_p l x y) = 0
      · rw [decide_eq_true e2, Bool.not_true, cond_false, if_pos e2, zh_inc, ← Nat.add_assoc]
        exact ih j (k + 1) s _ (m + 1) (by omega) (by omega) (by omega) (by omega) e3.2 (by omega)
      · rw [decide_eq_false e2, Bool.not_false, cond_true, if_neg e2, Nat.zero_add]
        exact ih j (k + 1) s _ m (by omega) (by omega) (by omega) (by omega) e3.2 (by omega)
theorem zw_likes (H : zw_W h q n l) (hN : 1000 ≤ N) {x y : Nat} (hxy : x ≤ y) (hy : y ≤ l.length) : fW_countFactorsLike N q (Int32.ofInt (x : Int)) (Int32.ofInt (y : Int)) h = some (Int32.ofInt ((zw_like l x y (zw_fs l) : Nat) : Int), h) := by
  have u1 := H.2.2.2.1
  have u2 := H.2.2.2.2.1
  have e := zw_like11 (N := N) H hN hxy hy l.length N 0 0 0 0 (by omega) (by omega) (Nat.le_refl _) (Nat.le_refl _) (Nat.zero_le _) (by omega)
  unfold fW_countFactorsLike
  rw [zw_T H, cond_true]
  rw [Nat.zero_add] at e
  exact e
end ZWQ3
end
section
/-! THE CLASS'S WORDS: Lyndon parts, periods, endings, the least turn. -/
theorem zw_div (a b : Nat) (ha : a < 2147483648) (hb : b < 2147483648) : Int32.ofInt (a : Int) / Int32.ofInt (b : Int) = Int32.ofInt ((a / b : Nat) : Int) := by
  apply Int32.toInt_inj.mp
  have h1 : a / b ≤ a := Nat.div_le_self a b
  rw [Int32.toInt_div, zqo_i (a : Int) (by omega), zqo_i (b : Int) (by omega), ← Int.ofNat_tdiv]
  generalize a / b = d at h1 ⊢
  rw [zqo_i (d : Int) (by omega)]
  exact Int.bmod_eq_of_le (by omega) (by omega)
theorem zw_modi (a b : Nat) (ha : a < 2147483648) (hb : b < 2147483648) : Int32.ofInt (a : Int) - Int32.ofInt (a : Int) / Int32.ofInt (b : Int) * Int32.ofInt (b : Int) = Int32.ofInt ((a % b : Nat) : Int) := by
  rw [zw_div a b ha hb, ← Int32.ofInt_mul, zw_sub]
  congr 1
  have h1 := Nat.div_add_mod a b
  have h2 : ((b * (a / b) : Nat) : Int) + ((a % b : Nat) : Int) = (a : Int) := by omega
  rw [Int.natCast_mul, Int.mul_comm] at h2
  omega
theorem zw_n0 (a : Int) (h : -2147483648 ≤ a ∧ a < 2147483648) (h0 : a ≠ 0) : ¬ (Int32.ofInt a = Int32.ofInt 0) := by
  intro h1
  have h2 := congrArg Int32.toInt h1
  rw [zqo_i a h, zqo_i 0 (by decide)] at h2
  exact h0 h2
/-- whether a part is smaller than all its shorter ends; c of them are left -/
def zw_iL (l : List Nat) (a b : Nat) : Nat → Bool
  | 0 => decide (a < b)
  | c + 1 => if zw_cmp (zw_p l a b) (zw_p l (b - (c + 1)) b) < 0 then zw_iL l a b c else false
/-- whether p is a period; c places are left -/
def zw_hp (l : List Nat) (p : Nat) : Nat → Bool
  | 0 => true
  | c + 1 => if l.getD (l.length - (c + 1)) 0 = l.getD (l.length - (c + 1) - p) 0 then zw_hp l p c else false
/-- the least period; c are left -/
def zw_pe (l : List Nat) : Nat → Nat
  | 0 => l.length
  | c + 1 => if zw_hp l (l.length - (c + 1)) (c + 1) = true then l.length - (c + 1) else zw_pe l c
def zw_per (l : List Nat) : Nat := zw_pe l (l.length - 1)
/-- the extreme ending: c are left, the best so far -/
def zw_ex (l : List Nat) (sg : Int) : Nat → Nat → Nat
  | 0, b => b
  | c + 1, b => if zw_cmp (zw_p l c l.length) (zw_p l b l.length) = sg then zw_ex l sg c c else zw_ex l sg c b
def zw_ext (l : List Nat) (sg : Int) : Int := if l.length = 0 then -1 else (zw_ex l sg (l.length - 1) (l.length - 1) : Int)
theorem zw_exb (l : List Nat) (sg : Int) : ∀ c b, c ≤ l.length → b < l.length → zw_ex l sg c b < l.length := by
  intro c
  induction c with
  | zero => intro b h1 h2; exact h2
  | succ c ih =>
    intro b h1 h2
    rw [zw_ex]
    split
    · exact ih c (by omega) (by omega)
    · exact ih b (by omega) h2
/-- the letter at a place around -/
def zw_ar (l : List Nat) (i : Nat) : Nat := l.getD (if i < l.length then i else i - l.length) 0
/-- the least turn: f steps are left -/
def zw_lt (l : List Nat) : Nat → Nat → Nat → Nat → Nat
  | 0, a, _, _ => a
  | f + 1, a, r, s => if r < l.length ∧ s < l.length then (if zw_ar l (a + s) = zw_ar l (r + s) then zw_lt l f a r (s + 1) else if zw_ar l (r + s) < zw_ar l (a + s) then zw_lt l f (max r (a + s + 1)) (max r (a + s + 1) + 1) 0 else zw_lt l f a (r + s + 1) 0) else a
def zw_lT (l : List Nat) : Nat := zw_lt l (4 * l.length) 0 1 0
section ZWQ4
variable {h : zH} {q n N : Nat} {l : List Nat}
theorem zw_lpart (H : zw_W h q n l) (hN : 1000 ≤ N) {a b : Nat} (hab : a < b) (hb : b ≤ l.length) : fW_isLyndonPart N q (Int32.ofInt (a : Int)) (Int32.ofInt (b : Int)) h = some (cond (zw_iL l a b (b - (a + 1))) (Int32.ofInt 1) (Int32.ofInt 0), h) := by
  have u1 := H.2.2.2.1
  have u2 := H.2.2.2.2.1
  have key : ∀ c f : Nat, c < f → a + 1 + c ≤ b → fW_isLyndonPart_4 N f q (Int32.ofInt (a : Int)) (Int32.ofInt (b : Int)) (Int32.ofInt ((b - c : Nat) : Int)) h = some (cond (zw_iL l a b c) (Int32.ofInt 1) (Int32.ofInt 0), h) := by
    intro c
    induction c with
    | zero =>
      intro f h1 h2
      obtain ⟨g, rfl⟩ : ∃ g, f = g + 1 := ⟨f - 1, by omega⟩
      rw [fW_isLyndonPart_4, zqo_ge _ _ (by omega) (by omega), decide_eq_true (by omega), cond_true, zqo_ge _ _ (by omega) (by omega), decide_eq_false (by omega), cond_false, zw_iL, decide_eq_true hab]
      rfl
    | succ c ih =>
      intro f h1 h2
      obtain ⟨g, rfl⟩ : ∃ g, f = g + 1 := ⟨f - 1, by omega⟩
      have e4 := zw_cmpb (zw_p l a b) (zw_p l (b - (c + 1)) b)
      rw [fW_isLyndonPart_4, zqo_ge _ _ (by omega) (by omega), decide_eq_false (by omega), cond_false, zw_order H H hN hb hb (by omega) (by omega), b2, zqo_lt _ _ (by omega) (by decide), zw_iL]
      by_cases e1 : zw_cmp (zw_p l a b) (zw_p l (b - (c + 1)) b) < 0
      · rw [decide_eq_true e1, cond_true, if_pos e1, zh_inc, show b - (c + 1) + 1 = b - c by omega]
        exact ih g (by omega) (by omega)
      · rw [decide_eq_false e1, cond_false, if_neg e1]
        rfl
  have e := key (b - (a + 1)) N (by omega) (by omega)
  unfold fW_isLyndonPart
  rw [zw_T H, cond_true, zh_inc]
  rw [show b - (b - (a + 1)) = a + 1 by omega] at e
  exact e
theorem zw_hasPer (H : zw_W h q n l) (hN : 1000 ≤ N) {p : Nat} (hp : p ≤ l.length) : fW_hasPeriod N q (Int32.ofInt (p : Int)) h = some (cond (zw_hp l p (l.length - p)) (Int32.ofInt 1) (Int32.ofInt 0), h) := by
  have u1 := H.2.2.2.1
  have u2 := H.2.2.2.2.1
  have key : ∀ c f : Nat, c < f → p + c ≤ l.length → fW_hasPeriod_2 N f q (Int32.ofInt (p : Int)) (Int32.ofInt ((l.length - c : Nat) : Int)) h = some (cond (zw_hp l p c) (Int32.ofInt 1) (Int32.ofInt 0), h) := by
    intro c
    induction c with
    | zero =>
      intro f h1 h2
      obtain ⟨g, rfl⟩ : ∃ g, f = g + 1 := ⟨f - 1, by omega⟩
      rw [fW_hasPeriod_2, zw_z H, b1_s, zqo_ge _ _ (by omega) (by omega), decide_eq_true (by omega), cond_true]
      rfl
    | succ c ih =>
      intro f h1 h2
      obtain ⟨g, rfl⟩ : ∃ g, f = g + 1 := ⟨f - 1, by omega⟩
      have g1 := zw_gD H.2.2.2.2.2 (l.length - (c + 1))
      have g2 := zw_gD H.2.2.2.2.2 (l.length - (c + 1) - p)
      rw [fW_hasPeriod_2, zw_z H, b1_s, zqo_ge _ _ (by omega) (by omega), decide_eq_false (by omega), cond_false, zw_sub, show ((l.length - (c + 1) : Nat) : Int) - (p : Int) = ((l.length - (c + 1) - p : Nat) : Int) by omega, zw_at H _ (by omega), b2, zw_at H _ (by omega), b2, zw_gi (by omega), zw_gi (by omega)]
      rw [show ((l.length - (c + 1) : Nat) : Int).toNat = l.length - (c + 1) by omega, show ((l.length - (c + 1) - p : Nat) : Int).toNat = l.length - (c + 1) - p by omega, zqo_eq _ _ (by omega) (by omega), zw_hp]
      by_cases e1 : l.getD (l.length - (c + 1)) 0 = l.getD (l.length - (c + 1) - p) 0
      · rw [decide_eq_true (by omega), cond_true, if_pos e1, zh_inc, show l.length - (c + 1) + 1 = l.length - c by omega]
        exact ih g (by omega) (by omega)
      · rw [decide_eq_false (by omega), cond_false, if_neg e1]
        rfl
  have e := key (l.length - p) N (by omega) (by omega)
  unfold fW_hasPeriod
  rw [zw_T H, cond_true]
  rw [show l.length - (l.length - p) = p by omega] at e
  exact e
theorem zw_least (H : zw_W h q n l) (hN : 1000 ≤ N) : fW_leastPeriod N q h = some (Int32.ofInt ((zw_per l : Nat) : Int), h) := by
  have u1 := H.2.2.2.1
  have u2 := H.2.2.2.2.1
  unfold fW_leastPeriod zw_per
  rw [zw_T H, cond_true]
  by_cases e0 : l.length = 0
  · obtain ⟨g, hg⟩ : ∃ g, N = g + 1 := ⟨N - 1, by omega⟩
    rw [show fW_leastPeriod_2 N N = fW_leastPeriod_2 N (g + 1) by rw [← hg], fW_leastPeriod_2, zw_z H, b1_s, show Int32.ofInt 1 = Int32.ofInt ((1 : Nat) : Int) from rfl, zqo_ge _ _ (by omega) (by omega), decide_eq_true (by omega), cond_true, b1_s, e0, show zw_pe l (0 - 1) = l.length from rfl, e0]
  · have key : ∀ c f : Nat, c < f → c + 1 ≤ l.length → fW_leastPeriod_2 N f q (Int32.ofInt ((l.length - c : Nat) : Int)) h = some (Int32.ofInt ((zw_pe l c : Nat) : Int), h) := by
      intro c
      induction c with
      | zero =>
        intro f h1 h2
        obtain ⟨g, rfl⟩ : ∃ g, f = g + 1 := ⟨f - 1, by omega⟩
        rw [fW_leastPeriod_2, zw_z H, b1_s, zqo_ge _ _ (by omega) (by omega), decide_eq_true (by omega), cond_true, b1_s]
        rfl
      | succ c ih =>
        intro f h1 h2
        obtain ⟨g, rfl⟩ : ∃ g, f = g + 1 := ⟨f - 1, by omega⟩
        rw [fW_leastPeriod_2, zw_z H, b1_s, zqo_ge _ _ (by omega) (by omega), decide_eq_false (by omega), cond_false, zw_hasPer H hN (by omega), b2, show l.length - (l.length - (c + 1)) = c + 1 by omega, zw_pe]
        cases e1 : zw_hp l (l.length - (c + 1)) (c + 1) with
        | true =>
          rw [cond_true, show z_cmp .eq (Int32.ofInt 1) (Int32.ofInt 0) = false from rfl, cond_false, if_pos rfl]
        | false =>
          rw [cond_false, show z_cmp .eq (Int32.ofInt 0) (Int32.ofInt 0) = true from rfl, cond_true, if_neg (by decide), zh_inc, show l.length - (c + 1) + 1 = l.length - c by omega]
          exact ih g (by omega) (by omega)
    have e := key (l.length - 1) N (by omega) (by omega)
    rw [show l.length - (l.length - 1) = 1 by omega] at e
    exact e
theorem zw_peb (l : List Nat) : ∀ c, c + 1 ≤ l.length → 1 ≤ zw_pe l c ∧ zw_pe l c ≤ l.length := by
  intro c
  induction c with
  | zero =>
    intro h
    rw [zw_pe]
    omega
  | succ c ih =>
    intro h
    rw [zw_pe]
    split
    · omega
    · exact ih (by omega)
theorem zw_perb (l : List Nat) : zw_per l ≤ l.length ∧ (l.length ≠ 0 → 1 ≤ zw_per l) := by
  unfold zw_per
  by_cases e0 : l.length = 0
  · rw [e0]
    show zw_pe l 0 ≤ 0 ∧ _
    rw [zw_pe, e0]
    exact ⟨Nat.le_refl 0, fun h => absurd rfl h⟩
  · have := zw_peb l (l.length - 1) (by omega)
    exact ⟨this.2, fun _ => this.1⟩
/-- the number of turns -/
def zw_tu (l : List Nat) : Nat := if 0 < zw_per l ∧ l.length % zw_per l = 0 then zw_per l else l.length
theorem zw_turns (H : zw_W h q n l) (hN : 1000 ≤ N) : fW_countTurns N q h = some (Int32.ofInt ((zw_tu l : Nat) : Int), h) := by
  have u1 := H.2.2.2.1
  have u2 := H.2.2.2.2.1
  have u3 := zw_perb l
  have e22 : fW_countTurns_22 N q h = some (Int32.ofInt (l.length : Int), h) := by
    unfold fW_countTurns_22
    rw [zw_z H, b1_s]
    rfl
  unfold fW_countTurns zw_tu
  rw [zw_T H, cond_true, zw_least H hN, b2, zqo_le _ _ (by omega) (by decide)]
  by_cases e1 : 0 < zw_per l
  · rw [decide_eq_false (by omega), cond_false, zw_z H, b1_s, if_neg (zw_n0 _ (by omega) (by omega)), zw_modi _ _ (by omega) (by omega)]
    have e2 := Nat.mod_lt l.length e1
    rw [zqo_ne _ _ (by omega) (by decide)]
    by_cases e3 : l.length % zw_per l = 0
    · rw [decide_eq_true (by omega), Bool.not_true, cond_false, if_pos ⟨e1, e3⟩]
      rfl
    · rw [decide_eq_false (by omega), Bool.not_false, cond_true, if_neg (fun x => e3 x.2), e22]
  · rw [decide_eq_true (by omega), cond_true, if_neg (fun x => e1 x.1), e22]
theorem zw_extr (H : zw_W h q n l) (hN : 1000 ≤ N) {sg : Int} (hs : sg = -1 ∨ sg = 1) : fW_extremeEnding N q (Int32.ofInt sg) h = some (Int32.ofInt (zw_ext l sg), h) := by
  have u1 := H.2.2.2.1
  have u2 := H.2.2.2.2.1
  have key : ∀ c f b : Nat, c < f → c ≤ l.length → (l.length = 0 ∨ b < l.length) → fW_extremeEnding_14 N f q (Int32.ofInt sg) (Int32.ofInt (if l.length = 0 then -1 else (b : Int))) (Int32.ofInt ((c : Int) - 1)) h = some (Int32.ofInt (if l.length = 0 then -1 else (zw_ex l sg c b : Int)), h) := by
    intro c
    induction c with
    | zero =>
      intro f b h1 h2 h3
      obtain ⟨g, rfl⟩ : ∃ g, f = g + 1 := ⟨f - 1, by omega⟩
      rw [fW_extremeEnding_14, zqo_lt _ _ (by omega) (by decide), decide_eq_true (by omega), cond_true, zw_z H, b1_s, zqo_ne _ _ (by omega) (by decide)]
      by_cases e0 : l.length = 0
      · rw [decide_eq_true (by omega), Bool.not_true, cond_false, if_pos e0]
        rfl
      · rw [decide_eq_false (by omega), Bool.not_false, cond_true, if_neg e0, if_neg e0]
        rfl
    | succ c ih =>
      intro f b h1 h2 h3
      obtain ⟨g, rfl⟩ : ∃ g, f = g + 1 := ⟨f - 1, by omega⟩
      have e0 : ¬ l.length = 0 := by omega
      have h3 : b < l.length := by omega
      have e4 := zw_cmpb (zw_p l c l.length) (zw_p l b l.length)
      rw [if_neg e0, if_neg e0, fW_extremeEnding_14, show ((c + 1 : Nat) : Int) - 1 = (c : Int) by omega, zqo_lt _ _ (by omega) (by decide), decide_eq_false (by omega), cond_false, zw_z H, b1_s, b1_s, zw_order H H hN (Nat.le_refl _) (Nat.le_refl _) (by omega) (by omega), b2, zqo_ne _ _ (by omega) (by omega), zw_ex]
      unfold fW_extremeEnding_39
      rw [zw_add, show (c : Int) + -1 = (c : Int) - 1 by omega]
      by_cases e5 : zw_cmp (zw_p l c l.length) (zw_p l b l.length) = sg
      · rw [decide_eq_true e5, Bool.not_true, cond_false, if_pos e5]
        have := ih g c (by omega) (by omega) (Or.inr (by omega))
        rw [if_neg e0, if_neg e0] at this
        exact this
      · rw [decide_eq_false e5, Bool.not_false, cond_true, if_neg e5]
        have := ih g b (by omega) (by omega) (Or.inr h3)
        rw [if_neg e0, if_neg e0] at this
        exact this
  unfold fW_extremeEnding zw_ext
  rw [zw_T H, cond_true, zw_z H, b1_s, b1_s, zw_sub, zw_sub]
  have e := key (l.length - 1) N (l.length - 1) (by omega) (by omega) (by omega)
  by_cases e0 : l.length = 0
  · rw [if_pos e0, if_pos e0] at e
    rw [if_pos e0]
    obtain ⟨g, hg⟩ : ∃ g, N = g + 1 := ⟨N - 1, by omega⟩
    rw [show fW_extremeEnding_14 N N = fW_extremeEnding_14 N (g + 1) by rw [← hg], fW_extremeEnding_14, zqo_lt _ _ (by omega) (by decide), decide_eq_true (by omega), cond_true, zw_z H, b1_s, zqo_ne _ _ (by omega) (by decide), decide_eq_true (by omega), Bool.not_true, cond_false]
    rfl
  · rw [if_neg e0, if_neg e0] at e
    rw [if_neg e0, show (l.length : Int) - 1 = ((l.length - 1 : Nat) : Int) by omega, show (l.length : Int) - 2 = ((l.length - 1 : Nat) : Int) - 1 by omega]
    exact e
theorem zw_around (H : zw_W h q n l) {i : Nat} (hi : i < 2 * l.length) : fW_atAround N q (Int32.ofInt (i : Int)) h = some (Int32.ofInt ((zw_ar l i : Nat) : Int), h) := by
  have u1 := H.2.2.2.1
  have u2 := H.2.2.2.2.1
  unfold fW_atAround zw_ar fW_atAround_19
  rw [zw_T H, cond_true, zw_z H, b1_s, zqo_ge _ _ (by omega) (by omega), b1_s, zw_sub]
  by_cases e1 : i < l.length
  · rw [decide_eq_false (by omega), cond_false, if_pos e1, zw_at H _ (by omega), b2, zw_gi (by omega)]
    rfl
  · rw [decide_eq_true (by omega), cond_true, if_neg e1, show (i : Int) - (l.length : Int) = ((i - l.length : Nat) : Int) by omega, zw_at H _ (by omega), b2, zw_gi (by omega)]
    rfl
theorem zw_arb (hb : ∀ v ∈ l, v < 256) (i : Nat) : zw_ar l i < 256 := zw_gD hb _
theorem zw_max (a b : Nat) (ha : a < 2147483648) (hb : b < 2147483648) : (if Int32.ofInt (a : Int) < Int32.ofInt (b : Int) then Int32.ofInt (b : Int) else Int32.ofInt (a : Int)) = Int32.ofInt ((max a b : Nat) : Int) := by
  by_cases h1 : a < b
  · rw [if_pos (by rw [Int32.lt_iff_toInt_lt, zqo_i _ (by omega), zqo_i _ (by omega)]; omega), Nat.max_eq_right (by omega)]
  · rw [if_neg (by rw [Int32.lt_iff_toInt_lt, zqo_i _ (by omega), zqo_i _ (by omega)]; omega), Nat.max_eq_left (by omega)]
theorem zw_lturn (H : zw_W h q n l) (hN : 3000 ≤ N) : fW_leastTurn N q h = some (Int32.ofInt ((zw_lT l : Nat) : Int), h) := by
  have u1 := H.2.2.2.1
  have u2 := H.2.2.2.2.1
  have u3 := H.2.2.2.2.2
  have key : ∀ c f a r s : Nat, c < f → c ≤ 4 * l.length → a < r → r ≤ 2000 → s ≤ 2000 → fW_leastTurn_9 N f q (Int32.ofInt (a : Int)) (Int32.ofInt (r : Int)) (Int32.ofInt (s : Int)) (Int32.ofInt ((4 * l.length - c : Nat) : Int)) h = some (Int32.ofInt ((zw_lt l c a r s : Nat) : Int), h) := by
    intro c
    induction c with
    | zero =>
      intro f a r s h1 h2 h3 h4 h5
      obtain ⟨g, rfl⟩ : ∃ g, f = g + 1 := ⟨f - 1, by omega⟩
      rw [fW_leastTurn_9, zw_z H, b1_s, ← Int32.ofInt_mul, zqo_ge _ _ (by omega) (by omega), decide_eq_true (by omega), cond_true]
      rfl
    | succ c ih =>
      intro f a r s h1 h2 h3 h4 h5
      obtain ⟨g, rfl⟩ : ∃ g, f = g + 1 := ⟨f - 1, by omega⟩
      rw [fW_leastTurn_9, zw_z H, b1_s, ← Int32.ofInt_mul, zqo_ge _ _ (by omega) (by omega), decide_eq_false (by omega), cond_false, b1_s, zqo_ge _ _ (by omega) (by omega), zw_lt]
      by_cases e1 : l.length ≤ r
      · rw [decide_eq_true (by omega), cond_true, if_neg (show ¬ (r < l.length ∧ s < l.length) by omega)]
        rfl
      · rw [decide_eq_false (by omega), cond_false, b1_s, zqo_ge _ _ (by omega) (by omega)]
        by_cases e2 : l.length ≤ s
        · rw [decide_eq_true (by omega), cond_true, if_neg (show ¬ (r < l.length ∧ s < l.length) by omega)]
          rfl
        · have g1 := zw_arb u3 (a + s)
          have g2 := zw_arb u3 (r + s)
          rw [decide_eq_false (by omega), cond_false, if_pos (show r < l.length ∧ s < l.length by omega), zw_add, zw_add, show (a : Int) + (s : Int) = ((a + s : Nat) : Int) by omega, show (r : Int) + (s : Int) = ((r + s : Nat) : Int) by omega, zw_around H (by omega), b2, zw_around H (by omega), b2, zqo_ne _ _ (by omega) (by omega), zqo_le _ _ (by omega) (by omega)]
          unfold fW_leastTurn_97 fW_leastTurn_99
          rw [zh_inc, zh_inc, zh_inc, zh_inc, show 4 * l.length - (c + 1) + 1 = 4 * l.length - c by omega, zw_max _ _ (by omega) (by omega), zh_inc]
          by_cases e3 : zw_ar l (a + s) = zw_ar l (r + s)
          · rw [decide_eq_true (by omega), Bool.not_true, cond_false, if_pos e3]
            exact ih g a r (s + 1) (by omega) (by omega) h3 h4 (by omega)
          · rw [decide_eq_false (by omega), Bool.not_false, cond_true, if_neg e3]
            by_cases e4 : zw_ar l (r + s) < zw_ar l (a + s)
            · rw [decide_eq_false (by omega), cond_false, if_pos e4]
              exact ih g _ _ 0 (by omega) (by omega) (by omega) (by omega) (by omega)
            · rw [decide_eq_true (by omega), cond_true, if_neg e4]
              exact ih g a _ 0 (by omega) (by omega) (by omega) (by omega) (by omega)
  unfold fW_leastTurn zw_lT
  rw [zw_T H, cond_true]
  have e := key (4 * l.length) N 0 1 0 (by omega) (Nat.le_refl _) (by omega) (by omega) (by omega)
  rw [Nat.sub_self] at e
  exact e
theorem zw_one (H : zw_W h q n l) (hN : 1000 ≤ N) : fW_isOneFactor N q h = some (cond (decide (0 < l.length ∧ zw_lE l 0 = l.length)) (Int32.ofInt 1) (Int32.ofInt 0), h) := by
  have u1 := H.2.2.2.1
  have u2 := H.2.2.2.2.1
  unfold fW_isOneFactor
  rw [zw_T H, cond_true, zw_z H, b1_s, zqo_le _ _ (by omega) (by decide)]
  by_cases e1 : 0 < l.length
  · have e2 := zw_lEb e1
    have e3 := zw_lyn (N := N) H hN e1
    rw [show Int32.ofInt 0 = Int32.ofInt ((0 : Nat) : Int) from rfl, decide_eq_false (by omega), cond_false, e3, b2, zw_z H, b1_s, zqo_ne _ _ (by omega) (by omega)]
    by_cases e4 : zw_lE l 0 = l.length
    · rw [decide_eq_true (by omega), Bool.not_true, cond_false, decide_eq_true ⟨e1, e4⟩]
      rfl
    · rw [decide_eq_false (by omega), Bool.not_false, cond_true, decide_eq_false (fun x => e4 x.2)]
      rfl
  · rw [decide_eq_true (by omega), cond_true, decide_eq_false (fun x => e1 x.1)]
    rfl
/-- whether the word begins a necklace -/
def zw_bn (l : List Nat) : Bool := decide (0 < l.length) && zw_hp l (zw_lE l 0) (l.length - zw_lE l 0)
theorem zw_neck (H : zw_W h q n l) (hN : 1000 ≤ N) : fW_beginsNecklace N q h = some (cond (zw_bn l) (Int32.ofInt 1) (Int32.ofInt 0), h) := by
  have u1 := H.2.2.2.1
  have u2 := H.2.2.2.2.1
  unfold fW_beginsNecklace zw_bn
  rw [zw_T H, cond_true, zw_z H, b1_s, zqo_le _ _ (by omega) (by decide)]
  by_cases e1 : 0 < l.length
  · have e2 := zw_lEb e1
    have e3 := zw_lyn (N := N) H hN e1
    rw [show Int32.ofInt 0 = Int32.ofInt ((0 : Nat) : Int) from rfl, decide_eq_false (by omega), cond_false, e3, b2, zw_hasPer H hN e2.2, b2, decide_eq_true e1, Bool.true_and]
    cases zw_hp l (zw_lE l 0) (l.length - zw_lE l 0) <;> rfl
  · rw [decide_eq_true (by omega), cond_true, decide_eq_false e1]
    rfl
end ZWQ4
end
section
/-! THE CLASS'S WORDS: what changes them. -/
/-- swapping from both ends: c swaps at most, from i to before k -/
def zw_mi : Nat → List Nat → Nat → Nat → List Nat
  | 0, l, _, _ => l
  | c + 1, l, i, k => if i + 1 < k then zw_mi c ((l.set i (l.getD (k - 1) 0)).set (k - 1) (l.getD i 0)) (i + 1) (k - 1) else l
def zw_mir (l : List Nat) (a b : Nat) : List Nat := zw_mi (b - a) l a b
theorem zw_mil : ∀ c l i k, (zw_mi c l i k).length = l.length := by
  intro c
  induction c with
  | zero => intro l i k; rfl
  | succ c ih =>
    intro l i k
    rw [zw_mi]
    split
    · rw [ih, List.length_set, List.length_set]
    · rfl
section ZWM
variable {h : zH} {q n N : Nat} {l : List Nat}
theorem zw_mir7 : ∀ (c f : Nat) (h : zH) (l : List Nat) (i k : Nat), zw_W h q n l → k ≤ l.length → k ≤ i + c → c < f → i ≤ l.length → ∃ h', fW_mirror_7 N f q (Int32.ofInt (i : Int)) (Int32.ofInt ((k : Int) - 1)) h = some ((), h') ∧ zw_W h' q n (zw_mi c l i k) ∧ zw_F h h' q := by
  intro c
  induction c with
  | zero =>
    intro f h l i k H h1 h2 h3 h4
    obtain ⟨g, rfl⟩ : ∃ g, f = g + 1 := ⟨f - 1, by omega⟩
    have u1 := H.2.2.2.1
    have u2 := H.2.2.2.2.1
    refine ⟨h, ?_, H, zw_Fr h q⟩
    rw [fW_mirror_7, zqo_ge _ _ (by omega) (by omega), decide_eq_true (by omega), cond_true]
  | succ c ih =>
    intro f h l i k H h1 h2 h3 h4
    obtain ⟨g, rfl⟩ : ∃ g, f = g + 1 := ⟨f - 1, by omega⟩
    have u1 := H.2.2.2.1
    have u2 := H.2.2.2.2.1
    have u3 := H.2.2.2.2.2
    rw [fW_mirror_7, zqo_ge _ _ (by omega) (by omega), zw_mi]
    by_cases e1 : i + 1 < k
    · rw [decide_eq_false (by omega), cond_false, if_pos e1, show (k : Int) - 1 = ((k - 1 : Nat) : Int) by omega, zw_at H _ (by omega), b2, zw_at H _ (by omega), b2, zw_gi (by omega), zw_gi (by omega)]
      rw [show ((i : Nat) : Int).toNat = i by omega, show ((k - 1 : Nat) : Int).toNat = k - 1 by omega]
      obtain ⟨h5, e5, H5, F5⟩ := zw_put (N := N) H i (l.getD (k - 1) 0) (by omega) (zw_gD u3 _)
      obtain ⟨h6, e6, H6, F6⟩ := zw_put (N := N) H5 (k - 1) (l.getD i 0) (by rw [List.length_set]; omega) (zw_gD u3 _)
      rw [e5, b2, e6, b2, zh_inc, zw_add, show ((k - 1 : Nat) : Int) + -1 = ((k - 1 : Nat) : Int) - 1 by omega]
      obtain ⟨h7, e7, H7, F7⟩ := ih g h6 _ (i + 1) (k - 1) H6 (by rw [List.length_set, List.length_set]; omega) (by omega) (by omega) (by rw [List.length_set, List.length_set]; omega)
      exact ⟨h7, e7, H7, zw_Ft F5 (zw_Ft F6 F7)⟩
    · rw [decide_eq_true (by omega), cond_true, if_neg e1]
      exact ⟨h, rfl, H, zw_Fr h q⟩
theorem zw_mirror (H : zw_W h q n l) (hN : 1000 ≤ N) {a b : Nat} (hab : a ≤ b) (hb : b ≤ l.length) : ∃ h', fW_mirror N q (Int32.ofInt (a : Int)) (Int32.ofInt (b : Int)) h = some ((), h') ∧ zw_W h' q n (zw_mir l a b) ∧ zw_F h h' q := by
  have u1 := H.2.2.2.1
  have u2 := H.2.2.2.2.1
  obtain ⟨h', e, H', F⟩ := zw_mir7 (N := N) (b - a) N h l a b H hb (by omega) (by omega) (by omega)
  refine ⟨h', ?_, H', F⟩
  unfold fW_mirror
  rw [zw_T H, cond_true, zw_sub]
  exact e
/-- turned by c -/
def zw_trn (l : List Nat) (c : Nat) : List Nat := zw_mir (zw_mir (zw_mir l 0 c) c l.length) 0 l.length
theorem zw_trnl (l : List Nat) (c : Nat) : (zw_trn l c).length = l.length := by
  unfold zw_trn zw_mir
  rw [zw_mil, zw_mil, zw_mil]
theorem zw_turn (H : zw_W h q n l) (hN : 1000 ≤ N) {c : Nat} (hc : c ≤ l.length) : ∃ h', fW_turn N q (Int32.ofInt (c : Int)) h = some ((), h') ∧ zw_W h' q n (zw_trn l c) ∧ zw_F h h' q := by
  obtain ⟨h1, e1, H1, F1⟩ := zw_mirror (N := N) H hN (Nat.zero_le c) hc
  have l1 : (zw_mir l 0 c).length = l.length := zw_mil _ _ _ _
  obtain ⟨h2, e2, H2, F2⟩ := zw_mirror (N := N) H1 hN (show c ≤ l.length from hc) (by omega)
  have l2 : (zw_mir (zw_mir l 0 c) c l.length).length = l.length := (zw_mil _ _ _ _).trans l1
  obtain ⟨h3, e3, H3, F3⟩ := zw_mirror (N := N) H2 hN (Nat.zero_le l.length) (by omega)
  refine ⟨h3, ?_, H3, zw_Ft F1 (zw_Ft F2 F3)⟩
  have z1 := zw_z H1
  have z2 := zw_z H2
  rw [l1] at z1
  rw [l2] at z2
  unfold fW_turn
  rw [zw_T H, cond_true, show Int32.ofInt 0 = Int32.ofInt ((0 : Nat) : Int) from rfl, e1, b2, z1, b1_s, e2, b2, z2, b1_s, e3, b2]
/-- the letters from a to b to the front: c are left -/
def zw_ct (a b : Nat) : Nat → List Nat → List Nat
  | 0, l => l
  | c + 1, l => zw_ct a b c (l.set (b - (c + 1) - a) (l.getD (b - (c + 1)) 0))
theorem zw_ctl (a b : Nat) : ∀ c l, (zw_ct a b c l).length = l.length := by
  intro c
  induction c with
  | zero => intro l; rfl
  | succ c ih =>
    intro l
    rw [zw_ct, ih, List.length_set]
theorem zw_cut2 {a b : Nat} (hab : a ≤ b) : ∀ (c f : Nat) (h : zH) (l : List Nat), zw_W h q n l → b ≤ l.length → c < f → a + c ≤ b → ∃ h', fW_cutTo_2 N f q (Int32.ofInt (a : Int)) (Int32.ofInt (b : Int)) (Int32.ofInt ((b - c : Nat) : Int)) h = some ((), h') ∧ zw_W h' q n ((zw_ct a b c l).take (b - a)) ∧ zw_F h h' q := by
  intro c
  induction c with
  | zero =>
    intro f h l H h1 h2 h3
    obtain ⟨g, rfl⟩ : ∃ g, f = g + 1 := ⟨f - 1, by omega⟩
    have u1 := H.2.2.2.1
    have u2 := H.2.2.2.2.1
    obtain ⟨h4, e4, H4, F4⟩ := zw_shorten (N := N) H ((b - a : Nat) : Int) (by omega)
    refine ⟨h4, ?_, ?_, F4⟩
    · rw [fW_cutTo_2, zqo_ge _ _ (by omega) (by omega), decide_eq_true (by omega), cond_true, zw_sub, show (b : Int) - (a : Int) = ((b - a : Nat) : Int) by omega, e4, b2]
    · rw [if_pos (by omega)] at H4
      exact H4
  | succ c ih =>
    intro f h l H h1 h2 h3
    obtain ⟨g, rfl⟩ : ∃ g, f = g + 1 := ⟨f - 1, by omega⟩
    have u1 := H.2.2.2.1
    have u2 := H.2.2.2.2.1
    obtain ⟨h4, e4, H4, F4⟩ := zw_put (N := N) H (b - (c + 1) - a) (l.getD (b - (c + 1)) 0) (by omega) (zw_gD H.2.2.2.2.2 _)
    obtain ⟨h5, e5, H5, F5⟩ := ih g h4 _ H4 (by rw [List.length_set]; exact h1) (by omega) (by omega)
    refine ⟨h5, ?_, H5, zw_Ft F4 F5⟩
    rw [fW_cutTo_2, zqo_ge _ _ (by omega) (by omega), decide_eq_false (by omega), cond_false, zw_at H _ (by omega), b2, zw_gi (by omega), zw_sub, show ((b - (c + 1) : Nat) : Int) - (a : Int) = ((b - (c + 1) - a : Nat) : Int) by omega, show ((b - (c + 1) : Nat) : Int).toNat = b - (c + 1) by omega, e4, b2, zh_inc, show b - (c + 1) + 1 = b - c by omega]
    exact e5
theorem zw_cut (H : zw_W h q n l) (hN : 1000 ≤ N) {a b : Nat} (hab : a ≤ b) (hb : b ≤ l.length) : ∃ h', fW_cutTo N q (Int32.ofInt (a : Int)) (Int32.ofInt (b : Int)) h = some ((), h') ∧ zw_W h' q n ((zw_ct a b (b - a) l).take (b - a)) ∧ zw_F h h' q := by
  have u1 := H.2.2.2.1
  have u2 := H.2.2.2.2.1
  obtain ⟨h', e, H', F⟩ := zw_cut2 (N := N) hab (b - a) N h l H hb (by omega) (by omega)
  refine ⟨h', ?_, H', F⟩
  unfold fW_cutTo
  rw [zw_T H, cond_true]
  rw [show b - (b - a) = a by omega] at e
  exact e
/-- letters added as they stand p places before: c more -/
def zw_xt (p : Nat) : Nat → List Nat → List Nat
  | 0, l => l
  | c + 1, l => zw_xt p c (l ++ [l.getD (l.length - p) 0])
theorem zw_xtl (p : Nat) : ∀ c l, (zw_xt p c l).length = l.length + c := by
  intro c
  induction c with
  | zero => intro l; rfl
  | succ c ih =>
    intro l
    rw [zw_xt, ih, List.length_append]
    show l.length + 1 + c = l.length + (c + 1)
    omega
/-- how many letters are left without the last ones that are g: at most c are dropped -/
def zw_sp (l : List Nat) (g : Nat) : Nat → Nat → Nat
  | 0, k => k
  | c + 1, k => if k = 0 then 0 else if l.getD (k - 1) 0 = g then zw_sp l g c (k - 1) else k
theorem zw_spl (l : List Nat) (g : Nat) : ∀ c k, zw_sp l g c k ≤ k := by
  intro c
  induction c with
  | zero => intro k; exact Nat.le_refl k
  | succ c ih =>
    intro k
    rw [zw_sp]
    split
    · omega
    · split
      · have := ih (k - 1)
        omega
      · exact Nat.le_refl k
/-- one more at the end -/
def zw_up (l : List Nat) (k : Nat) : List Nat := (l.take k).set (k - 1) (l.getD (k - 1) 0 + 1)
def zw_nx (l : List Nat) (m g : Nat) : List Nat := if l.length = 0 then [] else zw_up (zw_xt l.length (m - l.length) l) (zw_sp (zw_xt l.length (m - l.length) l) g m (zw_xt l.length (m - l.length) l).length)
theorem zw_step73 (H : zw_W h q n l) {k : Nat} (hk : k ≤ l.length) (hv : ∀ v ∈ l, v < 255) : ∃ h', fW_stepLyndon_73 N q (Int32.ofInt ((k : Int) - 1)) h = some ((), h') ∧ zw_W h' q n (zw_up l k) ∧ zw_F h h' q := by
  have u1 := H.2.2.2.1
  have u2 := H.2.2.2.2.1
  obtain ⟨h4, e4, H4, F4⟩ := zw_shorten (N := N) H ((k : Nat) : Int) (by omega)
  rw [if_pos (by omega), show ((k : Nat) : Int).toNat = k by omega] at H4
  have l4 : (l.take k).length = k := by rw [List.length_take]; omega
  unfold fW_stepLyndon_73 zw_up
  rw [zw_add, show (k : Int) - 1 + 1 = (k : Int) by omega, e4, b2, zw_at H4 _ (by omega), b2]
  by_cases e1 : k = 0
  · subst e1
    refine ⟨h4, ?_, ?_, F4⟩
    · unfold fW_put
      rw [zw_T H4, cond_true, show z_cmp .lt (Int32.ofInt (((0 : Nat) : Int) - 1)) (Int32.ofInt 0) = true from rfl, cond_true, b2]
    · rw [List.take_zero] at H4 ⊢
      exact H4
  · have g1 : (l.take k).getD (k - 1) 0 = l.getD (k - 1) 0 := by
      rw [List.getD_eq_getElem?_getD, List.getElem?_take_of_lt (by omega), ← List.getD_eq_getElem?_getD]
    have g2 : l.getD (k - 1) 0 < 255 := by
      rw [List.getD_eq_getElem?_getD, List.getElem?_eq_getElem (show k - 1 < l.length by omega)]
      exact hv _ (List.getElem_mem _)
    obtain ⟨h5, e5, H5, F5⟩ := zw_put (N := N) H4 (k - 1) (l.getD (k - 1) 0 + 1) (by omega) (by omega)
    refine ⟨h5, ?_, H5, zw_Ft F4 F5⟩
    rw [zw_gi (by omega), show ((k : Int) - 1).toNat = k - 1 by omega, g1, zw_add, show (k : Int) - 1 = ((k - 1 : Nat) : Int) by omega, show ((l.getD (k - 1) 0 : Nat) : Int) + 1 = ((l.getD (k - 1) 0 + 1 : Nat) : Int) by omega, e5, b2]
theorem zw_step48 {m g : Nat} (hm : m ≤ 600) (hg : g < 256) (H : zw_W h q n l) (hv : ∀ v ∈ l, v < 255) : ∀ c f k : Nat, c < f → c ≤ m → k ≤ l.length → ∃ h', fW_stepLyndon_48 N f q (Int32.ofInt (m : Int)) (Int32.ofInt (g : Int)) (Int32.ofInt ((k : Int) - 1)) (Int32.ofInt ((m - c : Nat) : Int)) h = some ((), h') ∧ zw_W h' q n (zw_up l (zw_sp l g c k)) ∧ zw_F h h' q := by
  have u1 := H.2.2.2.1
  have u2 := H.2.2.2.2.1
  intro c
  induction c with
  | zero =>
    intro f k h1 h2 h3
    obtain ⟨j, rfl⟩ : ∃ j, f = j + 1 := ⟨f - 1, by omega⟩
    rw [fW_stepLyndon_48, zqo_ge _ _ (by omega) (by omega), decide_eq_true (by omega), cond_true, zw_sp]
    exact zw_step73 H h3 hv
  | succ c ih =>
    intro f k h1 h2 h3
    obtain ⟨j, rfl⟩ : ∃ j, f = j + 1 := ⟨f - 1, by omega⟩
    have gb := zw_gb H.2.2.2.2.2 ((k : Int) - 1)
    rw [fW_stepLyndon_48, zqo_ge _ _ (by omega) (by omega), decide_eq_false (by omega), cond_false, zw_at H _ (by omega), b2, zqo_ne _ _ (by omega) (by omega), zw_sp]
    by_cases e0 : k = 0
    · rw [zw_go (Or.inl (by omega)), decide_eq_false (by omega), Bool.not_false, cond_true, if_pos e0]
      have := zw_step73 (N := N) H (Nat.zero_le l.length) hv
      rw [e0]
      exact this
    · rw [zw_gi (by omega), show ((k : Int) - 1).toNat = k - 1 by omega, if_neg e0]
      by_cases e1 : l.getD (k - 1) 0 = g
      · rw [decide_eq_true (by omega), Bool.not_true, cond_false, if_pos e1, zw_add, zh_inc, show (k : Int) - 1 + -1 = ((k - 1 : Nat) : Int) - 1 by omega, show m - (c + 1) + 1 = m - c by omega]
        exact ih j (k - 1) (by omega) (by omega) (by omega)
      · rw [decide_eq_false (by omega), Bool.not_false, cond_true, if_neg e1]
        exact zw_step73 H h3 hv
theorem zw_step13 {m g p : Nat} (hm : m ≤ 600) (hmn : m ≤ n) (hg : g < 256) (hN : 1000 ≤ N) (hp : 1 ≤ p) : ∀ (c f : Nat) (h : zH) (l : List Nat), zw_W h q n l → (∀ v ∈ l, v < 255) → p ≤ l.length → c < f → l.length + c = max m l.length → ∃ h', fW_stepLyndon_13 N f q (Int32.ofInt (m : Int)) (Int32.ofInt (g : Int)) (Int32.ofInt (p : Int)) (Int32.ofInt (l.length : Int)) h = some ((), h') ∧ zw_W h' q n (zw_up (zw_xt p c l) (zw_sp (zw_xt p c l) g m (zw_xt p c l).length)) ∧ zw_F h h' q := by
  intro c
  induction c with
  | zero =>
    intro f h l H hv h1 h2 h3
    obtain ⟨j, rfl⟩ : ∃ j, f = j + 1 := ⟨f - 1, by omega⟩
    have u1 := H.2.2.2.1
    have u2 := H.2.2.2.2.1
    rw [fW_stepLyndon_13, zqo_ge _ _ (by omega) (by omega), decide_eq_true (by omega), cond_true, zw_z H, b1_s, zw_sub, zw_xt]
    have e := zw_step48 (N := N) hm hg H hv m N l.length (by omega) (Nat.le_refl _) (Nat.le_refl _)
    rw [Nat.sub_self] at e
    exact e
  | succ c ih =>
    intro f h l H hv h1 h2 h3
    obtain ⟨j, rfl⟩ : ∃ j, f = j + 1 := ⟨f - 1, by omega⟩
    have u1 := H.2.2.2.1
    have u2 := H.2.2.2.2.1
    have g2 : l.getD (l.length - p) 0 < 255 := by
      rw [List.getD_eq_getElem?_getD, List.getElem?_eq_getElem (show l.length - p < l.length by omega)]
      exact hv _ (List.getElem_mem _)
    obtain ⟨h4, e4, H4, F4⟩ := zw_addN (N := N) H (l.getD (l.length - p) 0) (by omega) (by omega)
    have l4 : (l ++ [l.getD (l.length - p) 0]).length = l.length + 1 := by rw [List.length_append]; rfl
    obtain ⟨h5, e5, H5, F5⟩ := ih j h4 _ H4 (by
      intro v hv2
      rw [List.mem_append, List.mem_singleton] at hv2
      rcases hv2 with hv2 | hv2
      · exact hv v hv2
      · omega) (by omega) (by omega) (by rw [l4]; omega)
    refine ⟨h5, ?_, H5, zw_Ft F4 F5⟩
    rw [fW_stepLyndon_13, zqo_ge _ _ (by omega) (by omega), decide_eq_false (by omega), cond_false, zw_sub, show (l.length : Int) - (p : Int) = ((l.length - p : Nat) : Int) by omega, zw_at H _ (by omega), b2, zw_gi (by omega), show ((l.length - p : Nat) : Int).toNat = l.length - p by omega, e4, b2, zh_inc]
    rw [l4] at e5
    exact e5
theorem zw_step (H : zw_W h q n l) (hN : 1000 ≤ N) {m g : Nat} (hm : m ≤ 600) (hmn : m ≤ n) (hg : g < 256) (hv : ∀ v ∈ l, v < 255) : ∃ h', fW_stepLyndon N q (Int32.ofInt (m : Int)) (Int32.ofInt (g : Int)) h = some ((), h') ∧ zw_W h' q n (zw_nx l m g) ∧ zw_F h h' q := by
  have u1 := H.2.2.2.1
  have u2 := H.2.2.2.2.1
  unfold fW_stepLyndon zw_nx
  rw [zw_T H, cond_true, zw_z H, b1_s, zqo_ne _ _ (by omega) (by decide)]
  by_cases e0 : l.length = 0
  · rw [decide_eq_true (by omega), Bool.not_true, cond_false, if_pos e0]
    have := List.length_eq_zero_iff.mp e0
    rw [this] at H
    exact ⟨h, rfl, H, zw_Fr h q⟩
  · rw [decide_eq_false (by omega), Bool.not_false, cond_true, if_neg e0]
    exact zw_step13 (N := N) hm hmn hg hN (by omega) (m - l.length) N h l H hv (Nat.le_refl _) (by omega) (by omega)
theorem zw_fits (H : zw_W h q n l) (hN : 1000 ≤ N) {L : Nat} (hL : L ≤ 100) : fW_fitsLetters N q (Int32.ofInt (L : Int)) h = some (cond (l.all fun v => decide (v < 97 + L)) (Int32.ofInt 1) (Int32.ofInt 0), h) := by
  have u1 := H.2.2.2.1
  have u2 := H.2.2.2.2.1
  have key : ∀ c f : Nat, c < f → c ≤ l.length → fW_fitsLetters_2 N f q (Int32.ofInt (L : Int)) (Int32.ofInt ((l.length - c : Nat) : Int)) h = some (cond ((l.drop (l.length - c)).all fun v => decide (v < 97 + L)) (Int32.ofInt 1) (Int32.ofInt 0), h) := by
    intro c
    induction c with
    | zero =>
      intro f h1 h2
      obtain ⟨g, rfl⟩ : ∃ g, f = g + 1 := ⟨f - 1, by omega⟩
      rw [fW_fitsLetters_2, zw_z H, b1_s, zqo_ge _ _ (by omega) (by omega), decide_eq_true (by omega), cond_true, List.drop_of_length_le (by omega)]
      rfl
    | succ c ih =>
      intro f h1 h2
      obtain ⟨g, rfl⟩ : ∃ g, f = g + 1 := ⟨f - 1, by omega⟩
      have g1 := zw_gD H.2.2.2.2.2 (l.length - (c + 1))
      have hd : l.drop (l.length - (c + 1)) = l.getD (l.length - (c + 1)) 0 :: l.drop (l.length - c) := by
        rw [List.drop_eq_getElem_cons (show l.length - (c + 1) < l.length by omega), List.getD_eq_getElem?_getD, List.getElem?_eq_getElem (show l.length - (c + 1) < l.length by omega), show l.length - (c + 1) + 1 = l.length - c by omega]
        rfl
      rw [fW_fitsLetters_2, zw_z H, b1_s, zqo_ge _ _ (by omega) (by omega), decide_eq_false (by omega), cond_false, zw_at H _ (by omega), b2, zw_gi (by omega), show ((l.length - (c + 1) : Nat) : Int).toNat = l.length - (c + 1) by omega, zw_add, zqo_lt _ _ (by omega) (by omega), hd, List.all_cons]
      by_cases e1 : l.getD (l.length - (c + 1)) 0 < 97 + L
      · rw [decide_eq_true (by omega), cond_true, zh_inc, show l.length - (c + 1) + 1 = l.length - c by omega, decide_eq_true e1, Bool.true_and]
        exact ih g (by omega) (by omega)
      · rw [decide_eq_false (by omega), cond_false, decide_eq_false e1, Bool.false_and]
        rfl
  have e := key l.length N (by omega) (Nat.le_refl _)
  unfold fW_fitsLetters
  rw [zw_T H, cond_true]
  rw [Nat.sub_self] at e
  exact e
end ZWM
end
section
/-! LYNDON WORDS: what the scan for a factor's end finds. -/
theorem zm_cd {l m : List Nat} : ∀ d a b x y : Nat, x ≤ l.length → y ≤ m.length → a + d < x → b + d < y → (∀ e, e < d → l.getD (a + e) 0 = m.getD (b + e) 0) → l.getD (a + d) 0 ≠ m.getD (b + d) 0 → zw_cmp (zw_p l a x) (zw_p m b y) = if l.getD (a + d) 0 < m.getD (b + d) 0 then -1 else 1 := by
  intro d
  induction d with
  | zero =>
    intro a b x y h1 h2 h3 h4 h5 h6
    simp only [Nat.add_zero] at h6 ⊢
    rw [zw_pc (by omega) h1, zw_pc (by omega) h2, zw_cmp, if_neg h6]
  | succ d ih =>
    intro a b x y h1 h2 h3 h4 h5 h6
    have e0 := h5 0 (by omega)
    rw [Nat.add_zero, Nat.add_zero] at e0
    rw [zw_pc (by omega) h1, zw_pc (by omega) h2, zw_cmp, if_pos e0]
    have e1 := ih (a + 1) (b + 1) x y h1 h2 (by omega) (by omega) (fun e he => by
      have := h5 (e + 1) (by omega)
      rw [show a + 1 + e = a + (e + 1) by omega, show b + 1 + e = b + (e + 1) by omega]
      exact this) (by rw [show a + 1 + d = a + (d + 1) by omega, show b + 1 + d = b + (d + 1) by omega]; exact h6)
    rw [show a + 1 + d = a + (d + 1) by omega, show b + 1 + d = b + (d + 1) by omega] at e1
    exact e1
theorem zm_ce {l m : List Nat} : ∀ c a b y : Nat, a + c ≤ l.length → y ≤ m.length → b + c ≤ y → (∀ e, e < c → l.getD (a + e) 0 = m.getD (b + e) 0) → zw_cmp (zw_p l a (a + c)) (zw_p m b y) = if b + c = y then 0 else -1 := by
  intro c
  induction c with
  | zero =>
    intro a b y h1 h2 h3 h4
    rw [zw_p0 (show a + 0 ≤ a by omega)]
    by_cases e1 : b + 0 = y
    · rw [if_pos e1, zw_p0 (by omega)]
      rfl
    · rw [if_neg e1, zw_pc (by omega) h2]
      rfl
  | succ c ih =>
    intro a b y h1 h2 h3 h4
    have e0 := h4 0 (by omega)
    rw [Nat.add_zero, Nat.add_zero] at e0
    rw [zw_pc (by omega) h1, zw_pc (by omega) h2, zw_cmp, if_pos e0]
    have e1 := ih (a + 1) (b + 1) y (by omega) h2 (by omega) (fun e he => by
      have := h4 (e + 1) (by omega)
      rw [show a + 1 + e = a + (e + 1) by omega, show b + 1 + e = b + (e + 1) by omega]
      exact this)
    rw [show a + 1 + c = a + (c + 1) by omega, show b + 1 + c = b + (c + 1) by omega] at e1
    exact e1
theorem zm_anti : ∀ l m : List Nat, zw_cmp m l = - zw_cmp l m := by
  intro l
  induction l with
  | nil =>
    intro m
    cases m with
    | nil => rfl
    | cons b m => rfl
  | cons a l ih =>
    intro m
    cases m with
    | nil => rfl
    | cons b m =>
      rw [zw_cmp, zw_cmp]
      by_cases h1 : a = b
      · rw [if_pos h1, if_pos h1.symm]
        exact ih m
      · rw [if_neg h1, if_neg (fun h => h1 h.symm)]
        by_cases h2 : a < b
        · rw [if_pos h2, if_neg (by omega)]
          rfl
        · rw [if_neg h2, if_pos (by omega)]
theorem zm_eq : ∀ l m : List Nat, zw_cmp l m = 0 → l = m := by
  intro l
  induction l with
  | nil =>
    intro m h
    cases m with
    | nil => rfl
    | cons b m => exact absurd h (by rw [zw_cmp]; decide)
  | cons a l ih =>
    intro m h
    cases m with
    | nil => exact absurd h (by rw [zw_cmp]; decide)
    | cons b m =>
      rw [zw_cmp] at h
      by_cases h1 : a = b
      · rw [if_pos h1] at h
        rw [h1, ih m h]
      · rw [if_neg h1] at h
        by_cases h2 : a < b
        · rw [if_pos h2] at h
          exact absurd h (by decide)
        · rw [if_neg h2] at h
          exact absurd h (by decide)
theorem zm_self : ∀ l : List Nat, zw_cmp l l = 0 := by
  intro l
  induction l with
  | nil => rfl
  | cons a l ih => rw [zw_cmp, if_pos rfl, ih]
theorem zm_tr : ∀ a b c : List Nat, zw_cmp a b = -1 → zw_cmp b c = -1 → zw_cmp a c = -1 := by
  intro a
  induction a with
  | nil =>
    intro b c h1 h2
    cases c with
    | nil =>
      cases b with
      | nil => exact h1
      | cons y b => exact absurd h2 (by rw [zw_cmp]; decide)
    | cons z c => rfl
  | cons x a ih =>
    intro b c h1 h2
    cases b with
    | nil => exact absurd h1 (by rw [zw_cmp]; decide)
    | cons y b =>
      cases c with
      | nil => exact absurd h2 (by rw [zw_cmp]; decide)
      | cons z c =>
        rw [zw_cmp] at h1 h2 ⊢
        by_cases e1 : x = y
        · rw [if_pos e1] at h1
          by_cases e2 : y = z
          · rw [if_pos e2] at h2
            rw [if_pos (e1.trans e2)]
            exact ih b c h1 h2
          · rw [if_neg e2] at h2
            rw [e1, if_neg e2]
            exact h2
        · rw [if_neg e1] at h1
          have e3 : x < y := by
            by_cases e3 : x < y
            · exact e3
            · rw [if_neg e3] at h1
              exact absurd h1 (by decide)
          by_cases e2 : y = z
          · rw [← e2, if_neg e1, if_pos e3]
          · rw [if_neg e2] at h2
            have e4 : y < z := by
              by_cases e4 : y < z
              · exact e4
              · rw [if_neg e4] at h2
                exact absurd h2 (by decide)
            rw [if_neg (by omega), if_pos (by omega)]
/-- an end of the word from s of p letters is greater, and not by its length -/
def zm_D (l : List Nat) (s p j : Nat) : Prop := ∃ d, j + d < p ∧ (∀ e, e < d → l.getD (s + j + e) 0 = l.getD (s + e) 0) ∧ l.getD (s + d) 0 < l.getD (s + j + d) 0
/-- the p letters from s are a Lyndon word -/
def zm_L (l : List Nat) (s p : Nat) : Prop := 1 ≤ p ∧ s + p ≤ l.length ∧ ∀ j, 0 < j → j < p → zm_D l s p j
theorem zm_one {l : List Nat} {s : Nat} (h : s < l.length) : zm_L l s 1 := ⟨Nat.le_refl 1, h, fun j h1 h2 => by omega⟩
/-- a period p up to i -/
def zm_P (l : List Nat) (s p i : Nat) : Prop := ∀ j, p ≤ j → s + j < i → l.getD (s + j) 0 = l.getD (s + j - p) 0
theorem zm_per {l : List Nat} {s p i : Nat} (hp : 1 ≤ p) (H : zm_P l s p i) : ∀ x, s + x < i → l.getD (s + x) 0 = l.getD (s + x % p) 0 := by
  intro x
  induction x using Nat.strongRecOn with
  | ind x ih =>
    intro hx
    by_cases h1 : x < p
    · rw [Nat.mod_eq_of_lt h1]
    · rw [H x (by omega) hx, show s + x - p = s + (x - p) by omega, ih (x - p) (by omega) (by omega), Nat.mod_eq_sub_mod (show p ≤ x by omega)]
theorem zm_ext {l : List Nat} {s p i : Nat} (W : zm_L l s p) (H : zm_P l s p i) (h1 : s + p ≤ i) (h2 : i < l.length) (h3 : l.getD (i - p) 0 < l.getD i 0) : zm_L l s (i - s + 1) := by
  obtain ⟨w1, w2, w3⟩ := W
  refine ⟨by omega, by omega, ?_⟩
  intro j j1 j2
  have per := zm_per w1 H
  have em : l.getD (i - p) 0 = l.getD (s + (i - s) % p) 0 := by
    have := per (i - s - p) (by omega)
    rw [show s + (i - s - p) = i - p by omega] at this
    rw [this, Nat.mod_eq_sub_mod (show p ≤ i - s by omega)]
  rw [em] at h3
  have ei : l.getD i 0 = l.getD (s + j + (i - s - j)) 0 := by
    congr 1
    omega
  rw [ei] at h3
  have hj : j % p + p * (j / p) = j := Nat.mod_add_div j p
  by_cases r0 : j % p = 0
  · refine ⟨i - s - j, by omega, ?_, ?_⟩
    · intro e he
      have a1 := per (j + e) (by omega)
      have a2 := per e (by omega)
      rw [show s + j + e = s + (j + e) by omega, a1, a2]
      congr 2
      rw [Nat.add_mod, r0, Nat.zero_add, Nat.mod_mod]
    · have a2 := per (i - s - j) (by omega)
      rw [a2]
      have a3 : (i - s - j) % p = (i - s) % p := by
        have : i - s = j + (i - s - j) := by omega
        rw [this, Nat.add_mod j, r0, Nat.zero_add, Nat.mod_mod]
        congr 1
        omega
      rw [a3]
      exact h3
  · have rp : j % p < p := Nat.mod_lt j (by omega)
    obtain ⟨d0, d1, d2, d3⟩ := w3 (j % p) (by omega) rp
    have key : ∀ e, j % p + e < p → (j + e) % p = j % p + e := by
      intro e he
      rw [Nat.add_mod]
      have e1 : e % p = e := Nat.mod_eq_of_lt (by omega)
      rw [e1, Nat.mod_eq_of_lt he]
    by_cases c1 : s + j + d0 < i
    · refine ⟨d0, by omega, ?_, ?_⟩
      · intro e he
        rw [show s + j + e = s + (j + e) by omega, per (j + e) (by omega), key e (by omega), show s + (j % p + e) = s + j % p + e by omega]
        exact d2 e he
      · rw [show s + j + d0 = s + (j + d0) by omega, per (j + d0) (by omega), key d0 d1, show s + (j % p + d0) = s + j % p + d0 by omega]
        exact d3
    · have hd : i - s - j ≤ d0 := by omega
      refine ⟨i - s - j, by omega, ?_, ?_⟩
      · intro e he
        rw [show s + j + e = s + (j + e) by omega, per (j + e) (by omega), key e (by omega), show s + (j % p + e) = s + j % p + e by omega]
        exact d2 e (by omega)
      · have a3 : (i - s) % p = j % p + (i - s - j) := by
          have := key (i - s - j) (by omega)
          rw [show j + (i - s - j) = i - s by omega] at this
          exact this
        rw [a3, show s + (j % p + (i - s - j)) = s + j % p + (i - s - j) by omega] at h3
        by_cases c2 : i - s - j = d0
        · rw [c2] at h3 ⊢
          omega
        · rw [d2 (i - s - j) (by omega)] at h3
          exact h3
/-- where the scan stops -/
def zm_S (l : List Nat) (s p i : Nat) : Prop := s + p ≤ i ∧ i ≤ l.length ∧ zm_P l s p i ∧ (i = l.length ∨ (i < l.length ∧ l.getD i 0 < l.getD (i - p) 0))
theorem zm_le {l : List Nat} {s : Nat} : ∀ c p, s + p + c ≤ l.length → zm_L l s p → zm_P l s p (l.length - c) → ∃ p', zw_le l s c p = s + p' ∧ zm_L l s p' ∧ ∃ i, zm_S l s p' i := by
  intro c
  induction c with
  | zero =>
    intro p h1 h2 h3
    exact ⟨p, rfl, h2, l.length, by omega, Nat.le_refl _, h3, Or.inl rfl⟩
  | succ c ih =>
    intro p h1 h2 h3
    rw [zw_le]
    by_cases e1 : l.getD (l.length - (c + 1)) 0 < l.getD (l.length - (c + 1) - p) 0
    · rw [if_pos e1]
      exact ⟨p, rfl, h2, l.length - (c + 1), by omega, by omega, h3, Or.inr ⟨by omega, e1⟩⟩
    · rw [if_neg e1]
      by_cases e2 : l.getD (l.length - (c + 1) - p) 0 < l.getD (l.length - (c + 1)) 0
      · rw [if_pos e2]
        refine ih _ (by omega) (zm_ext h2 h3 (by omega) (by omega) e2) ?_
        intro j j1 j2
        omega
      · rw [if_neg e2]
        refine ih p (by omega) h2 ?_
        intro j j1 j2
        by_cases e3 : s + j < l.length - (c + 1)
        · exact h3 j j1 e3
        · have e4 : s + j = l.length - (c + 1) := by omega
          rw [e4]
          omega
/-- the factor at s is a Lyndon word, and what comes behind it is smaller -/
theorem zm_lE {l : List Nat} {s : Nat} (h : s < l.length) : ∃ p, zw_lE l s = s + p ∧ zm_L l s p ∧ ∃ i, zm_S l s p i := by
  refine zm_le _ 1 (by omega) (zm_one h) ?_
  intro j j1 j2
  omega
theorem zm_big {l : List Nat} {s p j x : Nat} (W : zm_L l s p) (j1 : 0 < j) (j2 : j < p) (hx : s + p ≤ x) (hl : x ≤ l.length) : zw_cmp (zw_p l (s + j) x) (zw_p l s x) = 1 := by
  obtain ⟨d, d1, d2, d3⟩ := W.2.2 j j1 j2
  rw [zm_cd d (s + j) s x x hl hl (by omega) (by omega) d2 (by omega), if_neg (by omega)]
theorem zm_next {l : List Nat} {s p i : Nat} (hp : 1 ≤ p) (S : zm_S l s p i) (h : s + p < l.length) : zw_cmp (zw_p l (s + p) l.length) (zw_p l s l.length) = -1 := by
  obtain ⟨s1, s2, s3, s4⟩ := S
  have per : ∀ e, s + p + e < i → l.getD (s + p + e) 0 = l.getD (s + e) 0 := by
    intro e he
    have := s3 (p + e) (by omega) (by omega)
    rw [show s + (p + e) = s + p + e by omega, show s + p + e - p = s + e by omega] at this
    exact this
  rcases s4 with s4 | ⟨s4, s5⟩
  · have := zm_ce (l := l) (m := l) (l.length - (s + p)) (s + p) s l.length (by omega) (Nat.le_refl _) (by omega) (fun e he => per e (by omega))
    rw [show s + p + (l.length - (s + p)) = l.length by omega, if_neg (by omega)] at this
    exact this
  · have := zm_cd (l := l) (m := l) (i - (s + p)) (s + p) s l.length l.length (Nat.le_refl _) (Nat.le_refl _) (by omega) (by omega) (fun e he => per e (by omega))
    rw [show s + p + (i - (s + p)) = i by omega, show s + (i - (s + p)) = i - p by omega] at this
    rw [this (by omega), if_pos s5]
/-- the first p letters taken away from both -/
theorem zm_cancel {l : List Nat} : ∀ p a b : Nat, a + p ≤ l.length → b + p ≤ l.length → (∀ e, e < p → l.getD (a + e) 0 = l.getD (b + e) 0) → zw_cmp (zw_p l a l.length) (zw_p l b l.length) = zw_cmp (zw_p l (a + p) l.length) (zw_p l (b + p) l.length) := by
  intro p
  induction p with
  | zero => intro a b h1 h2 h3; rfl
  | succ p ih =>
    intro a b h1 h2 h3
    have e0 := h3 0 (by omega)
    rw [Nat.add_zero, Nat.add_zero] at e0
    rw [zw_pc (show a < l.length by omega) (Nat.le_refl _), zw_pc (show b < l.length by omega) (Nat.le_refl _), zw_cmp, if_pos e0, ih (a + 1) (b + 1) (by omega) (by omega) (fun e he => by
      have := h3 (e + 1) (by omega)
      rw [show a + 1 + e = a + (e + 1) by omega, show b + 1 + e = b + (e + 1) by omega]
      exact this), show a + 1 + p = a + (p + 1) by omega, show b + 1 + p = b + (p + 1) by omega]
theorem zm_pget {l : List Nat} {a b e : Nat} (h : a + e < b) (h1 : b ≤ l.length) : (zw_p l a b).getD e 0 = l.getD (a + e) 0 := by
  unfold zw_p
  rw [List.getD_eq_getElem?_getD, List.getElem?_take_of_lt (by omega), List.getElem?_drop, ← List.getD_eq_getElem?_getD]
/-- a factor that stands there once more is the next one -/
theorem zm_fE {l : List Nat} {b s : Nat} (hb : b < s) (hs : s < l.length) (W : zm_L l b (s - b)) (hc : zw_cmp (zw_p l s l.length) (zw_p l b l.length) = -1) : zw_fE l b s = zw_lE l s := by
  unfold zw_fE
  by_cases h : b < s ∧ s + s - b ≤ l.length ∧ zw_cmp (zw_p l b s) (zw_p l s (s + s - b)) = 0
  · rw [if_pos h]
    obtain ⟨_, h2, h3⟩ := h
    have he := zm_eq _ _ h3
    have hg : ∀ e, e < s - b → l.getD (s + e) 0 = l.getD (b + e) 0 := by
      intro e he2
      rw [← zm_pget (l := l) (a := s) (b := s + s - b) (by omega) h2, ← zm_pget (l := l) (a := b) (b := s) (by omega) (by omega), he]
    have W2 : zm_L l s (s - b) := by
      obtain ⟨w1, w2, w3⟩ := W
      refine ⟨w1, by omega, ?_⟩
      intro j j1 j2
      obtain ⟨d, d1, d2, d3⟩ := w3 j j1 j2
      refine ⟨d, d1, ?_, ?_⟩
      · intro e he2
        rw [show s + j + e = s + (j + e) by omega, hg (j + e) (by omega), hg e (by omega), show b + (j + e) = b + j + e by omega]
        exact d2 e he2
      · rw [show s + j + d = s + (j + d) by omega, hg (j + d) d1, hg d (by omega), show b + (j + d) = b + j + d by omega]
        exact d3
    obtain ⟨p', p1, p2, i, p3⟩ := zm_lE hs
    rw [p1]
    have p4 : p' = s - b := by
      rcases Nat.lt_trichotomy p' (s - b) with q | q | q
      · have a1 := zm_big W2 (by have := p2.1; omega) q (show s + (s - b) ≤ l.length by omega) (Nat.le_refl _)
        have a2 := zm_next p2.1 p3 (by omega)
        rw [a2] at a1
        exact absurd a1 (by decide)
      · exact q
      · have a1 := zm_big p2 (by have := W.1; omega) q p2.2.1 (Nat.le_refl _)
        have a2 := zm_cancel (s - b) s b (by omega) (by omega) hg
        rw [hc, show b + (s - b) = s by omega] at a2
        rw [← a2] at a1
        exact absurd a1 (by decide)
    omega
  · rw [if_neg h]
/-- the factors, by the scan alone -/
def zm_it (l : List Nat) : Nat → Nat → List (Nat × Nat)
  | 0, _ => []
  | c + 1, s => if l.length ≤ s then [] else (s, zw_lE l s) :: zm_it l c (zw_lE l s)
theorem zm_itE {l : List Nat} : ∀ c b s, (b = s ∨ (b < s ∧ zm_L l b (s - b) ∧ (s < l.length → zw_cmp (zw_p l s l.length) (zw_p l b l.length) = -1))) → zw_it l c b s = zm_it l c s := by
  intro c
  induction c with
  | zero => intro b s h; rfl
  | succ c ih =>
    intro b s h
    rw [zw_it, zm_it]
    by_cases e1 : l.length ≤ s
    · rw [if_pos e1, if_pos e1]
    · rw [if_neg e1, if_neg e1]
      have e2 : zw_fE l b s = zw_lE l s := by
        rcases h with h | ⟨h1, h2, h3⟩
        · unfold zw_fE
          rw [if_neg (by omega)]
        · exact zm_fE h1 (by omega) h2 (h3 (by omega))
      rw [e2]
      congr 1
      obtain ⟨p, p1, p2, i, p3⟩ := zm_lE (show s < l.length by omega)
      have hp := p2.1
      refine ih s _ (Or.inr ⟨by omega, ?_, ?_⟩)
      · rw [p1, show s + p - s = p by omega]
        exact p2
      · intro h4
        rw [p1] at h4 ⊢
        exact zm_next p2.1 p3 h4
theorem zm_fs (l : List Nat) : zw_fs l = zm_it l l.length 0 := zm_itE l.length 0 0 (Or.inl rfl)
end
section
/-! ROTATIONS: one against the other; the least one. -/
/-- the letter at a place, around and around -/
def zm_c (l : List Nat) (i : Nat) : Nat := l.getD (i % l.length) 0
theorem zm_car {l : List Nat} {i : Nat} (h : i < 2 * l.length) : zw_ar l i = zm_c l i := by
  unfold zw_ar zm_c
  by_cases e : i < l.length
  · rw [if_pos e, Nat.mod_eq_of_lt e]
  · rw [if_neg e, Nat.mod_eq_sub_mod (by omega), Nat.mod_eq_of_lt (by omega)]
theorem zm_cm (l : List Nat) (i k : Nat) : zm_c l (i % l.length + k) = zm_c l (i + k) := by
  unfold zm_c
  rw [Nat.mod_add_mod]
/-- the rotation by i is smaller than that by j -/
def zm_R (l : List Nat) (i j : Nat) : Prop := ∃ d, d < l.length ∧ (∀ e, e < d → zm_c l (i + e) = zm_c l (j + e)) ∧ zm_c l (i + d) < zm_c l (j + d)
def zm_E (l : List Nat) (i j : Nat) : Prop := ∀ e, e < l.length → zm_c l (i + e) = zm_c l (j + e)
theorem zm_tri (l : List Nat) (i j : Nat) : zm_R l i j ∨ zm_E l i j ∨ zm_R l j i := by
  have key : ∀ c, c ≤ l.length → (∀ e, e < l.length - c → zm_c l (i + e) = zm_c l (j + e)) → zm_R l i j ∨ zm_E l i j ∨ zm_R l j i := by
    intro c
    induction c with
    | zero =>
      intro h1 h2
      exact Or.inr (Or.inl (fun e he => h2 e (by omega)))
    | succ c ih =>
      intro h1 h2
      rcases Nat.lt_trichotomy (zm_c l (i + (l.length - (c + 1)))) (zm_c l (j + (l.length - (c + 1)))) with h | h | h
      · exact Or.inl ⟨l.length - (c + 1), by omega, h2, h⟩
      · refine ih (by omega) (fun e he => ?_)
        by_cases e1 : e = l.length - (c + 1)
        · rw [e1]
          exact h
        · exact h2 e (by omega)
      · exact Or.inr (Or.inr ⟨l.length - (c + 1), by omega, fun e he => (h2 e he).symm, h⟩)
  exact key l.length (Nat.le_refl _) (fun e he => by omega)
theorem zm_Rt {l : List Nat} {i j k : Nat} (a : zm_R l i j) (b : zm_R l j k) : zm_R l i k := by
  obtain ⟨d, d1, d2, d3⟩ := a
  obtain ⟨f, f1, f2, f3⟩ := b
  rcases Nat.lt_trichotomy d f with h | h | h
  · exact ⟨d, d1, fun e he => (d2 e he).trans (f2 e (by omega)), by rw [← f2 d h]; exact d3⟩
  · subst h
    exact ⟨d, d1, fun e he => (d2 e he).trans (f2 e he), by omega⟩
  · exact ⟨f, f1, fun e he => (d2 e (by omega)).trans (f2 e he), by rw [d2 f h]; exact f3⟩
theorem zm_Re {l : List Nat} {i j k : Nat} (a : zm_R l i j) (b : zm_E l j k) : zm_R l i k := by
  obtain ⟨d, d1, d2, d3⟩ := a
  exact ⟨d, d1, fun e he => (d2 e he).trans (b e (by omega)), by rw [← b d d1]; exact d3⟩
theorem zm_eR {l : List Nat} {i j k : Nat} (b : zm_E l i j) (a : zm_R l j k) : zm_R l i k := by
  obtain ⟨d, d1, d2, d3⟩ := a
  exact ⟨d, d1, fun e he => (b e (by omega)).trans (d2 e he), by rw [b d d1]; exact d3⟩
theorem zm_Ri {l : List Nat} {i : Nat} : ¬ zm_R l i i := fun ⟨d, _, _, d3⟩ => absurd d3 (Nat.lt_irrefl _)
theorem zm_RE {l : List Nat} {i j : Nat} (a : zm_R l i j) : ¬ zm_E l i j := by
  obtain ⟨d, d1, d2, d3⟩ := a
  intro h
  have := h d d1
  omega
theorem zm_Es {l : List Nat} {i j : Nat} (a : zm_E l i j) : zm_E l j i := fun e he => (a e he).symm
/-- the gap of two rotations, as the reference finds it; c places are left -/
def zm_ro (l : List Nat) (i j : Nat) : Nat → Int
  | 0 => 0
  | c + 1 => if zm_c l (i + (l.length - (c + 1))) = zm_c l (j + (l.length - (c + 1))) then zm_ro l i j c else (zm_c l (i + (l.length - (c + 1))) : Int) - (zm_c l (j + (l.length - (c + 1))) : Int)
theorem zm_roS (l : List Nat) (i j : Nat) : ∀ c, c ≤ l.length → (∀ e, e < l.length - c → zm_c l (i + e) = zm_c l (j + e)) → (zm_ro l i j c < 0 ∧ zm_R l i j) ∨ (zm_ro l i j c = 0 ∧ zm_E l i j) ∨ (0 < zm_ro l i j c ∧ zm_R l j i) := by
  intro c
  induction c with
  | zero =>
    intro h1 h2
    exact Or.inr (Or.inl ⟨rfl, fun e he => h2 e (by omega)⟩)
  | succ c ih =>
    intro h1 h2
    rw [zm_ro]
    by_cases e0 : zm_c l (i + (l.length - (c + 1))) = zm_c l (j + (l.length - (c + 1)))
    · rw [if_pos e0]
      refine ih (by omega) (fun e he => ?_)
      by_cases e1 : e = l.length - (c + 1)
      · rw [e1]
        exact e0
      · exact h2 e (by omega)
    · rw [if_neg e0]
      by_cases e2 : zm_c l (i + (l.length - (c + 1))) < zm_c l (j + (l.length - (c + 1)))
      · exact Or.inl ⟨by omega, l.length - (c + 1), by omega, h2, e2⟩
      · exact Or.inr (Or.inr ⟨by omega, l.length - (c + 1), by omega, fun e he => (h2 e he).symm, by omega⟩)
theorem zm_roC (l : List Nat) (i j : Nat) : (zm_ro l i j l.length < 0 ∧ zm_R l i j) ∨ (zm_ro l i j l.length = 0 ∧ zm_E l i j) ∨ (0 < zm_ro l i j l.length ∧ zm_R l j i) := zm_roS l i j l.length (Nat.le_refl _) (fun e he => by omega)
theorem zm_ro1 {l : List Nat} {i j : Nat} : zm_ro l i j l.length < 0 ↔ zm_R l i j := by
  rcases zm_roC l i j with h | h | h
  · exact ⟨fun _ => h.2, fun _ => h.1⟩
  · exact ⟨fun x => absurd x (by omega), fun x => absurd h.2 (zm_RE x)⟩
  · exact ⟨fun x => absurd x (by omega), fun x => absurd (zm_Rt x h.2) zm_Ri⟩
theorem zm_ro0 {l : List Nat} {i j : Nat} : zm_ro l i j l.length = 0 ↔ zm_E l i j := by
  rcases zm_roC l i j with h | h | h
  · exact ⟨fun x => absurd x (by omega), fun x => absurd x (zm_RE h.2)⟩
  · exact ⟨fun _ => h.2, fun _ => h.1⟩
  · exact ⟨fun x => absurd x (by omega), fun x => absurd (zm_Es x) (zm_RE h.2)⟩
/-- the least rotation, as the reference finds it: from by on, c are left -/
def zm_lst (l : List Nat) : Nat → Nat → Nat
  | 0, f => f
  | c + 1, f => zm_lst l c (if zm_ro l (l.length - (c + 1)) f l.length < 0 then l.length - (c + 1) else f)
def zm_least (l : List Nat) : Nat := zm_lst l (l.length - 1) 0
/-- x is the least one: no rotation is smaller, none before it is as small -/
def zm_M (l : List Nat) (n x : Nat) : Prop := (∀ j, j < n → ¬ zm_R l j x) ∧ ∀ j, j < x → zm_R l x j
theorem zm_lstM (l : List Nat) : ∀ c f, c < l.length → f < l.length - c → zm_M l (l.length - c) f → zm_lst l c f < l.length ∧ zm_M l l.length (zm_lst l c f) := by
  intro c
  induction c with
  | zero =>
    intro f h1 h2 h3
    exact ⟨h2, h3⟩
  | succ c ih =>
    intro f h1 h2 h3
    rw [zm_lst]
    by_cases e1 : zm_ro l (l.length - (c + 1)) f l.length < 0
    · rw [if_pos e1]
      have r := zm_ro1.mp e1
      refine ih _ (by omega) (by omega) ⟨?_, ?_⟩
      · intro j hj
        by_cases e2 : j = l.length - (c + 1)
        · rw [e2]
          exact zm_Ri
        · intro x
          exact h3.1 j (by omega) (zm_Rt x r)
      · intro j hj
        rcases zm_tri l f j with t | t | t
        · exact zm_Rt r t
        · exact zm_Re r t
        · exact absurd t (h3.1 j hj)
    · rw [if_neg e1]
      refine ih f (by omega) (by omega) ⟨?_, h3.2⟩
      intro j hj
      by_cases e2 : j = l.length - (c + 1)
      · rw [e2]
        exact fun x => e1 (zm_ro1.mpr x)
      · exact h3.1 j (by omega)
theorem zm_leastM {l : List Nat} (h : 0 < l.length) : zm_least l < l.length ∧ zm_M l l.length (zm_least l) := by
  refine zm_lstM l _ 0 (by omega) (by omega) ⟨?_, fun j hj => by omega⟩
  intro j hj
  have : j = 0 := by omega
  rw [this]
  exact zm_Ri
/-- j isn't the least one -/
def zm_O (l : List Nat) (j : Nat) : Prop := ∃ k, k < l.length ∧ (zm_R l k j ∨ (zm_E l k j ∧ k < j))
theorem zm_MO {l : List Nat} {x : Nat} (M : zm_M l l.length x) : ¬ zm_O l x := by
  intro ⟨k, k1, k2⟩
  rcases k2 with k2 | ⟨k2, k3⟩
  · exact M.1 k k1 k2
  · exact zm_RE (M.2 k k3) (zm_Es k2)
/-- two places raced to a difference: those before the greater one are out -/
theorem zm_race {l : List Nat} {a r s : Nat} (hn : 0 < l.length) (hs : s < l.length) (he : ∀ e, e < s → zm_c l (a + e) = zm_c l (r + e)) (hd : zm_c l (r + s) < zm_c l (a + s)) : ∀ e, e ≤ s → zm_O l (a + e) := by
  intro e h1
  refine ⟨(r + e) % l.length, Nat.mod_lt _ hn, Or.inl ⟨s - e, by omega, ?_, ?_⟩⟩
  · intro k hk
    rw [zm_cm, show r + e + k = r + (e + k) by omega, show a + e + k = a + (e + k) by omega]
    exact (he (e + k) (by omega)).symm
  · rw [zm_cm, show r + e + (s - e) = r + s by omega, show a + e + (s - e) = a + s by omega]
    exact hd
theorem zm_ltL {l : List Nat} (hn : 0 < l.length) : ∀ f a r s : Nat, a < r → s ≤ l.length → 3 * l.length + 2 < f + (a + r + s) → (∀ j, j < l.length → j < r → j ≠ a → zm_O l j) → (∀ e, e < s → zm_c l (a + e) = zm_c l (r + e)) → (r ≤ l.length ∨ s = 0) → zw_lt l f a r s = zm_least l := by
  obtain ⟨m1, m2⟩ := zm_leastM hn
  have fin : ∀ a, (∀ j, j < l.length → j ≠ a → zm_O l j) → a = zm_least l := by
    intro a h
    by_cases e : zm_least l = a
    · exact e.symm
    · exact absurd (h _ m1 e) (zm_MO m2)
  intro f
  induction f with
  | zero =>
    intro a r s h1 h2 h3 h4 h5 h6
    rw [zw_lt]
    refine fin a (fun j j1 j2 => h4 j j1 ?_ j2)
    rcases h6 with h6 | h6 <;> omega
  | succ f ih =>
    intro a r s h1 h2 h3 h4 h5 h6
    rw [zw_lt]
    by_cases e0 : r < l.length ∧ s < l.length
    · rw [if_pos e0, zm_car (by omega), zm_car (by omega)]
      by_cases e1 : zm_c l (a + s) = zm_c l (r + s)
      · rw [if_pos e1]
        refine ih a r (s + 1) h1 (by omega) (by omega) h4 ?_ (Or.inl (by omega))
        intro e he
        by_cases e2 : e = s
        · rw [e2]
          exact e1
        · exact h5 e (by omega)
      · rw [if_neg e1]
        by_cases e2 : zm_c l (r + s) < zm_c l (a + s)
        · rw [if_pos e2]
          have race := zm_race hn e0.2 h5 e2
          refine ih _ _ 0 (by omega) (by omega) (by omega) ?_ (fun e he => by omega) (Or.inr rfl)
          intro j j1 j2 j3
          by_cases e3 : a ≤ j ∧ j ≤ a + s
          · have := race (j - a) (by omega)
            rw [show a + (j - a) = j by omega] at this
            exact this
          · exact h4 j j1 (by omega) (by omega)
        · rw [if_neg e2]
          have race := zm_race hn e0.2 (fun e he => (h5 e he).symm) (show zm_c l (a + s) < zm_c l (r + s) by omega)
          refine ih a (r + s + 1) 0 (by omega) (by omega) (by omega) ?_ (fun e he => by omega) (Or.inr rfl)
          intro j j1 j2 j3
          by_cases e3 : r ≤ j
          · have := race (j - r) (by omega)
            rw [show r + (j - r) = j by omega] at this
            exact this
          · exact h4 j j1 (by omega) j3
    · rw [if_neg e0]
      refine fin a (fun j j1 j2 => ?_)
      by_cases e1 : j < r
      · exact h4 j j1 e1 j2
      · have e2 : r < l.length := by omega
        have e3 : s = l.length := by omega
        refine ⟨j - (r - a), by omega, Or.inr ⟨?_, by omega⟩⟩
        intro e he
        have h7 : ∀ x, zm_c l (a + x) = zm_c l (r + x) := by
          intro x
          have := h5 (x % l.length) (by rw [e3]; exact Nat.mod_lt _ hn)
          unfold zm_c at this ⊢
          rw [Nat.add_mod_mod, Nat.add_mod_mod] at this
          exact this
        have h8 := h7 (j - r + e)
        rw [show a + (j - r + e) = j - (r - a) + e by omega, show r + (j - r + e) = j + e by omega] at h8
        exact h8
theorem zm_lT {l : List Nat} (hn : 0 < l.length) : zw_lT l = zm_least l := by
  unfold zw_lT
  by_cases e : l.length = 1
  · have h1 := zm_leastM hn
    rw [e]
    show zw_lt l 4 0 1 0 = _
    rw [zw_lt, if_neg (by omega)]
    omega
  · exact zm_ltL hn (4 * l.length) 0 1 0 (by omega) (by omega) (by omega) (fun j j1 j2 j3 => by omega) (fun e he => by omega) (Or.inr rfl)
end
section
/-! LYNDON WORDS by the scan and by rotations; periods and turns; endings. -/
theorem zm_c0 {l : List Nat} {i : Nat} (h : i < l.length) : zm_c l i = l.getD i 0 := by
  unfold zm_c
  rw [Nat.mod_eq_of_lt h]
/-- one factor: smaller than all its other rotations -/
theorem zm_lyn {l : List Nat} (hn : 0 < l.length) : zw_lE l 0 = l.length ↔ ∀ r, 0 < r → r < l.length → zm_R l 0 r := by
  obtain ⟨p, p1, p2, i, s1, s2, s3, s4⟩ := zm_lE hn
  rw [p1]
  rw [Nat.zero_add] at s1 ⊢
  constructor
  · intro h r r1 r2
    obtain ⟨d, d1, d2, d3⟩ := p2.2.2 r r1 (by omega)
    refine ⟨d, by omega, ?_, ?_⟩
    · intro e he
      rw [zm_c0 (by omega), zm_c0 (by omega)]
      have := d2 e he
      rw [Nat.zero_add, Nat.zero_add] at this
      rw [Nat.zero_add]
      exact this.symm
    · rw [zm_c0 (by omega), zm_c0 (by omega)]
      rw [Nat.zero_add, Nat.zero_add] at d3
      rw [Nat.zero_add]
      exact d3
  · intro h
    by_cases e : p = l.length
    · exact e
    · exfalso
      have pl : p < l.length := by
        have := p2.2.1
        omega
      have pp := p2.1
      have per := zm_per pp s3
      rcases s4 with s4 | ⟨s4, s5⟩
      · -- the period goes to the end
        by_cases m0 : l.length % p = 0
        · -- a rotation equals the word
          have hE : zm_E l 0 p := by
            intro e he
            rw [Nat.zero_add, zm_c0 he]
            have a1 := per e (by omega)
            rw [Nat.zero_add, Nat.zero_add] at a1
            rw [a1]
            unfold zm_c
            have a2 := per ((p + e) % l.length) (by rw [Nat.zero_add, s4]; exact Nat.mod_lt _ hn)
            rw [Nat.zero_add, Nat.zero_add] at a2
            rw [a2]
            congr 1
            rw [Nat.mod_mod_of_dvd _ (Nat.dvd_of_mod_eq_zero m0), Nat.add_mod_left]
          exact zm_RE (h p (by omega) pl) hE
        · -- the rotation that begins with what is left over
          have j1 : l.length % p < p := Nat.mod_lt _ (by omega)
          have hq := Nat.mod_add_div l.length p
          obtain ⟨d, d1, d2, d3⟩ := p2.2.2 (l.length % p) (by omega) j1
          rw [Nat.zero_add] at d2 d3
          have r1 : 0 < l.length - l.length % p := by
            have := Nat.mod_le l.length p
            omega
          have r2 : l.length - l.length % p < l.length := by omega
          have hm : (l.length - l.length % p) % p = 0 := by
            rw [show l.length - l.length % p = p * (l.length / p) by omega]
            exact Nat.mul_mod_right p _
          have hR : zm_R l (l.length - l.length % p) 0 := by
            refine ⟨l.length % p + d, by omega, ?_, ?_⟩
            · intro e he
              rw [Nat.zero_add, zm_c0 (show e < l.length by omega)]
              by_cases e1 : e < l.length % p
              · rw [zm_c0 (by omega)]
                have a1 := per (l.length - l.length % p + e) (by omega)
                rw [Nat.zero_add, Nat.zero_add, Nat.add_mod, hm, Nat.zero_add, Nat.mod_mod, Nat.mod_eq_of_lt (show e < p by omega)] at a1
                exact a1
              · have a1 := d2 (e - l.length % p) (by omega)
                rw [show l.length % p + (e - l.length % p) = e by omega, Nat.zero_add] at a1
                rw [a1]
                unfold zm_c
                rw [show l.length - l.length % p + e = (e - l.length % p) + l.length by omega, Nat.add_mod_right, Nat.mod_eq_of_lt (by omega)]
            · rw [Nat.zero_add, zm_c0 (show l.length % p + d < l.length by omega)]
              unfold zm_c
              rw [show l.length - l.length % p + (l.length % p + d) = d + l.length by omega, Nat.add_mod_right, Nat.mod_eq_of_lt (by omega)]
              rw [Nat.zero_add] at d3
              exact d3
          exact zm_Ri (zm_Rt hR (h _ r1 r2))
      · -- a smaller letter ends the scan
        have hR : zm_R l p 0 := by
          refine ⟨i - p, by omega, ?_, ?_⟩
          · intro e he
            rw [Nat.zero_add, zm_c0 (by omega), zm_c0 (by omega)]
            have := s3 (p + e) (by omega) (by omega)
            rw [Nat.zero_add, show p + e - p = e by omega] at this
            exact this
          · rw [Nat.zero_add, zm_c0 (by omega), zm_c0 (by omega), show p + (i - p) = i by omega]
            exact s5
        exact zm_Ri (zm_Rt hR (h p (by omega) pl))
/-- the period that hasPeriod finds -/
theorem zm_hp {l : List Nat} {p : Nat} : ∀ c, p + c ≤ l.length → (zw_hp l p c = true ↔ ∀ i, l.length - c ≤ i → i < l.length → l.getD i 0 = l.getD (i - p) 0) := by
  intro c
  induction c with
  | zero =>
    intro h
    exact ⟨fun _ i h1 h2 => by omega, fun _ => rfl⟩
  | succ c ih =>
    intro h
    rw [zw_hp]
    by_cases e1 : l.getD (l.length - (c + 1)) 0 = l.getD (l.length - (c + 1) - p) 0
    · rw [if_pos e1, ih (by omega)]
      constructor
      · intro h1 i h2 h3
        by_cases e2 : i = l.length - (c + 1)
        · rw [e2]
          exact e1
        · exact h1 i (by omega) h3
      · intro h1 i h2 h3
        exact h1 i (by omega) h3
    · rw [if_neg e1]
      constructor
      · intro h1
        cases h1
      · intro h1
        exact absurd (h1 _ (Nat.le_refl _) (by omega)) e1
/-- p is a period of the whole -/
def zm_Q (l : List Nat) (p : Nat) : Prop := ∀ i, p ≤ i → i < l.length → l.getD i 0 = l.getD (i - p) 0
theorem zm_hpQ {l : List Nat} {p : Nat} (h : p ≤ l.length) : zw_hp l p (l.length - p) = true ↔ zm_Q l p := by
  rw [zm_hp _ (by omega), show l.length - (l.length - p) = p by omega]
  exact Iff.rfl
theorem zm_pe {l : List Nat} : ∀ c, c + 1 ≤ l.length → (zm_Q l (zw_pe l c) ∧ ∀ r, l.length - c ≤ r → r < zw_pe l c → ¬ zm_Q l r) := by
  intro c
  induction c with
  | zero =>
    intro h
    rw [zw_pe]
    exact ⟨fun i h1 h2 => by omega, fun r h1 h2 => by omega⟩
  | succ c ih =>
    intro h
    rw [zw_pe]
    cases e : zw_hp l (l.length - (c + 1)) (c + 1) with
    | true =>
      rw [if_pos rfl]
      have := (zm_hpQ (l := l) (p := l.length - (c + 1)) (by omega)).mp (by rw [show l.length - (l.length - (c + 1)) = c + 1 by omega]; exact e)
      exact ⟨this, fun r h1 h2 => by omega⟩
    | false =>
      rw [if_neg (by decide)]
      obtain ⟨i1, i2⟩ := ih (by omega)
      refine ⟨i1, ?_⟩
      intro r h1 h2
      by_cases e2 : r = l.length - (c + 1)
      · intro h3
        rw [e2] at h3
        have := (zm_hpQ (l := l) (p := l.length - (c + 1)) (by omega)).mpr h3
        rw [show l.length - (l.length - (c + 1)) = c + 1 by omega, e] at this
        cases this
      · exact i2 r (by omega) h2
theorem zm_perQ {l : List Nat} (h : 0 < l.length) : zm_Q l (zw_per l) ∧ ∀ r, 0 < r → r < zw_per l → ¬ zm_Q l r := by
  unfold zw_per
  obtain ⟨i1, i2⟩ := zm_pe (l := l) (l.length - 1) (by omega)
  exact ⟨i1, fun r h1 h2 => i2 r (by omega) h2⟩
/-- a rotation equal to the word is a period -/
theorem zm_EQ {l : List Nat} {r : Nat} (h : zm_E l r 0) : zm_Q l r := by
  intro i h1 h2
  have := h (i - r) (by omega)
  rw [show r + (i - r) = i by omega, Nat.zero_add, zm_c0 h2, zm_c0 (by omega)] at this
  exact this
/-- a turn that changes nothing, as the law of all places -/
theorem zm_Eall {l : List Nat} {r : Nat} (hn : 0 < l.length) (h : zm_E l r 0) (i : Nat) : zm_c l (i + r) = zm_c l i := by
  have := h (i % l.length) (Nat.mod_lt _ hn)
  rw [Nat.zero_add] at this
  unfold zm_c at this ⊢
  rw [Nat.add_mod_mod, Nat.mod_mod] at this
  rw [Nat.add_comm i r]
  exact this
theorem zm_Emul {l : List Nat} {r : Nat} (hn : 0 < l.length) (h : zm_E l r 0) : ∀ k i, zm_c l (i + r * k) = zm_c l i := by
  intro k
  induction k with
  | zero => intro i; rfl
  | succ k ih =>
    intro i
    rw [Nat.mul_succ, ← Nat.add_assoc, zm_Eall hn h, ih]
/-- the length of the root, as the reference finds it; c are left -/
def zm_rt (l : List Nat) : Nat → Nat
  | 0 => l.length
  | c + 1 => if zm_ro l (l.length - (c + 1)) 0 l.length = 0 then l.length - (c + 1) else zm_rt l c
theorem zm_rtE {l : List Nat} : ∀ c, c + 1 ≤ l.length → ((zm_rt l c < l.length → zm_E l (zm_rt l c) 0) ∧ zm_rt l c ≤ l.length ∧ l.length - c ≤ zm_rt l c ∧ ∀ r, l.length - c ≤ r → r < zm_rt l c → ¬ zm_E l r 0) := by
  intro c
  induction c with
  | zero =>
    intro h
    rw [zm_rt]
    exact ⟨fun x => absurd x (Nat.lt_irrefl _), Nat.le_refl _, by omega, fun r h1 h2 => by omega⟩
  | succ c ih =>
    intro h
    rw [zm_rt]
    by_cases e : zm_ro l (l.length - (c + 1)) 0 l.length = 0
    · rw [if_pos e]
      exact ⟨fun _ => zm_ro0.mp e, by omega, Nat.le_refl _, fun r h1 h2 => by omega⟩
    · rw [if_neg e]
      obtain ⟨i1, i2, i3, i4⟩ := ih (by omega)
      refine ⟨i1, i2, by omega, ?_⟩
      intro r h1 h2
      by_cases e2 : r = l.length - (c + 1)
      · rw [e2]
        exact fun x => e (zm_ro0.mpr x)
      · exact i4 r (by omega) h2
/-- the number of turns, both ways -/
theorem zm_tu {l : List Nat} (hn : 0 < l.length) : zw_tu l = zm_rt l (l.length - 1) := by
  obtain ⟨t1, t2, t3, t4⟩ := zm_rtE (l := l) (l.length - 1) (by omega)
  obtain ⟨q1, q2⟩ := zm_perQ hn
  have q3 := zw_perb l
  have q4 := q3.2 (by omega)
  unfold zw_tu
  by_cases e : l.length % zw_per l = 0
  · rw [if_pos ⟨by omega, e⟩]
    by_cases e1 : zw_per l = l.length
    · rw [e1]
      by_cases e2 : zm_rt l (l.length - 1) < l.length
      · have := zm_EQ (t1 e2)
        exact absurd this (q2 _ (by omega) (by omega))
      · omega
    · have hE : zm_E l (zw_per l) 0 := by
        intro x hx
        rw [Nat.zero_add, zm_c0 hx]
        have per := zm_per (l := l) (s := 0) (p := zw_per l) (i := l.length) (by omega) (fun j j1 j2 => by
          rw [Nat.zero_add] at j2 ⊢
          exact q1 j j1 j2)
        have a1 := per x (by omega)
        rw [Nat.zero_add, Nat.zero_add] at a1
        rw [a1]
        unfold zm_c
        have a2 := per ((zw_per l + x) % l.length) (by rw [Nat.zero_add]; exact Nat.mod_lt _ hn)
        rw [Nat.zero_add, Nat.zero_add] at a2
        rw [a2]
        congr 1
        rw [Nat.mod_mod_of_dvd _ (Nat.dvd_of_mod_eq_zero e), Nat.add_mod_left]
      rcases Nat.lt_trichotomy (zw_per l) (zm_rt l (l.length - 1)) with h | h | h
      · exact absurd hE (t4 _ (by omega) h)
      · exact h
      · have := zm_EQ (t1 (by omega))
        exact absurd this (q2 _ (by omega) h)
  · rw [if_neg (fun x => e x.2)]
    by_cases e2 : zm_rt l (l.length - 1) < l.length
    · exfalso
      have hE := t1 e2
      generalize zm_rt l (l.length - 1) = r at hE t3 t4 e2
      have rd : l.length % r = 0 := by
        by_cases e3 : l.length % r = 0
        · exact e3
        · exfalso
          have m1 := Nat.mod_lt l.length (show 0 < r by omega)
          have m2 := Nat.mod_add_div l.length r
          refine t4 (l.length % r) (by omega) m1 ?_
          intro x hx
          rw [Nat.zero_add, Nat.add_comm, ← zm_Emul hn hE (l.length / r) (x + l.length % r), show x + l.length % r + r * (l.length / r) = x + l.length by omega]
          unfold zm_c
          rw [Nat.add_mod_right]
      have pr : zw_per l ≤ r := by
        by_cases e4 : zw_per l ≤ r
        · exact e4
        · exact absurd (zm_EQ hE) (q2 r (by omega) (by omega))
      have r2 : r + r ≤ l.length := by
        have m2 := Nat.mod_add_div l.length r
        have m3 : l.length / r ≠ 0 ∧ l.length / r ≠ 1 := by
          constructor
          · intro x
            rw [x] at m2
            omega
          · intro x
            rw [x] at m2
            omega
        generalize l.length / r = k at m2 m3
        have m4 : r * 2 ≤ r * k := Nat.mul_le_mul_left r (by omega)
        omega
      have hp : zm_E l (zw_per l) 0 := by
        intro x hx
        rw [Nat.zero_add]
        have m1 := Nat.mod_lt x (show 0 < r by omega)
        have m2 := Nat.mod_add_div x r
        have b1 := zm_Emul hn hE (x / r) (zw_per l + x % r)
        have b2 := zm_Emul hn hE (x / r) (x % r)
        rw [show zw_per l + x % r + r * (x / r) = zw_per l + x by omega] at b1
        rw [show x % r + r * (x / r) = x by omega] at b2
        rw [b1, b2, zm_c0 (by omega), zm_c0 (by omega)]
        have := q1 (zw_per l + x % r) (by omega) (by omega)
        rw [show zw_per l + x % r - zw_per l = x % r by omega] at this
        exact this
      by_cases e5 : zw_per l = r
      · rw [e5] at e
        exact e rd
      · exact t4 (zw_per l) (by omega) (by omega) hp
    · omega
end
section
/-! THE CHANGES OF A WORD, in closed form. -/
theorem zm_gs (l : List Nat) (i v j : Nat) (hi : i < l.length) : (l.set i v).getD j 0 = if j = i then v else l.getD j 0 := by
  by_cases e : j = i
  · subst e
    rw [if_pos rfl, List.getD_eq_getElem?_getD, List.getElem?_set_self hi]
    rfl
  · rw [if_neg e, List.getD_eq_getElem?_getD, List.getElem?_set_ne (fun x => e x.symm), ← List.getD_eq_getElem?_getD]
theorem zm_mi : ∀ (c : Nat) (l : List Nat) (i k : Nat), k ≤ l.length → k ≤ i + c → ∀ j, (zw_mi c l i k).getD j 0 = if i ≤ j ∧ j < k then l.getD (i + k - 1 - j) 0 else l.getD j 0 := by
  intro c
  induction c with
  | zero =>
    intro l i k h1 h2 j
    rw [zw_mi, if_neg (by omega)]
  | succ c ih =>
    intro l i k h1 h2 j
    rw [zw_mi]
    by_cases e : i + 1 < k
    · rw [if_pos e, ih _ (i + 1) (k - 1) (by rw [List.length_set, List.length_set]; omega) (by omega)]
      have hg : ∀ x, ((l.set i (l.getD (k - 1) 0)).set (k - 1) (l.getD i 0)).getD x 0 = if x = k - 1 then l.getD i 0 else if x = i then l.getD (k - 1) 0 else l.getD x 0 := by
        intro x
        rw [zm_gs _ _ _ _ (by rw [List.length_set]; omega), zm_gs _ _ _ _ (by omega)]
      rw [hg, hg]
      by_cases e1 : i + 1 ≤ j ∧ j < k - 1
      · rw [if_pos e1, if_neg (by omega), if_neg (by omega), if_pos (by omega)]
        congr 1
        omega
      · rw [if_neg e1]
        by_cases e2 : j = k - 1
        · rw [if_pos e2, if_pos (by omega)]
          congr 1
          omega
        · rw [if_neg e2]
          by_cases e3 : j = i
          · rw [if_pos e3, if_pos (by omega)]
            congr 1
            omega
          · rw [if_neg e3, if_neg (by omega)]
    · rw [if_neg e]
      by_cases e1 : i ≤ j ∧ j < k
      · rw [if_pos e1]
        congr 1
        omega
      · rw [if_neg e1]
theorem zm_mir {l : List Nat} {a b : Nat} (hb : b ≤ l.length) (j : Nat) : (zw_mir l a b).getD j 0 = if a ≤ j ∧ j < b then l.getD (a + b - 1 - j) 0 else l.getD j 0 := zm_mi (b - a) l a b hb (by omega) j
theorem zm_mirl (l : List Nat) (a b : Nat) : (zw_mir l a b).length = l.length := zw_mil _ _ _ _
/-- a turned word's letters -/
theorem zm_trn {l : List Nat} {c j : Nat} (hc : c ≤ l.length) (hj : j < l.length) : (zw_trn l c).getD j 0 = zm_c l (j + c) := by
  unfold zw_trn
  rw [zm_mir (by rw [zm_mirl, zm_mirl]; exact Nat.le_refl _), if_pos ⟨Nat.zero_le j, hj⟩, zm_mir (by rw [zm_mirl]; exact Nat.le_refl _), zm_mir hc, zm_mir hc]
  unfold zm_c
  by_cases e : c ≤ l.length - 1 - j
  · rw [if_pos (by omega), if_neg (by omega), Nat.mod_eq_of_lt (by omega)]
    congr 1
    omega
  · rw [if_neg (by omega), if_pos (by omega), Nat.mod_eq_sub_mod (by omega), Nat.mod_eq_of_lt (by omega)]
    congr 1
    omega
/-- a reversed word's letters -/
theorem zm_rev {l : List Nat} {j : Nat} (hj : j < l.length) : (zw_mir l 0 l.length).getD j 0 = l.getD (l.length - 1 - j) 0 := by
  rw [zm_mir (Nat.le_refl _), if_pos ⟨Nat.zero_le j, hj⟩]
  congr 1
  omega
theorem zm_ct {a b : Nat} {T : List Nat} (hb : b ≤ T.length) : ∀ (c : Nat) (l : List Nat), l.length = T.length → a + c ≤ b → (∀ j, l.getD j 0 = if j < b - c - a then T.getD (a + j) 0 else T.getD j 0) → ∀ j, (zw_ct a b c l).getD j 0 = if j < b - a then T.getD (a + j) 0 else T.getD j 0 := by
  intro c
  induction c with
  | zero =>
    intro l h1 h2 h3 j
    rw [zw_ct, h3]
    rfl
  | succ c ih =>
    intro l h1 h2 h3 j
    rw [zw_ct]
    refine ih _ (by rw [List.length_set]; exact h1) (by omega) (fun x => ?_) j
    rw [zm_gs _ _ _ _ (by omega), h3, h3]
    by_cases e1 : x = b - (c + 1) - a
    · rw [if_pos e1, if_neg (by omega), if_pos (by omega)]
      congr 1
      omega
    · rw [if_neg e1]
      by_cases e2 : x < b - (c + 1) - a
      · rw [if_pos e2, if_pos (by omega)]
      · rw [if_neg e2, if_neg (by omega)]
/-- two words with the same letters -/
theorem zm_same {l m : List Nat} (h : l.length = m.length) (e : ∀ j, j < l.length → l.getD j 0 = m.getD j 0) : l = m := by
  apply List.ext_getElem h
  intro i h1 h2
  have := e i h1
  rw [List.getD_eq_getElem?_getD, List.getD_eq_getElem?_getD, List.getElem?_eq_getElem h1, List.getElem?_eq_getElem h2] at this
  exact this
/-- the part cut out -/
theorem zm_cut {T : List Nat} {a b : Nat} (hab : a ≤ b) (hb : b ≤ T.length) : (zw_ct a b (b - a) T).take (b - a) = zw_p T a b := by
  refine zm_same ?_ ?_
  · rw [zw_pl _ _ _ hb, List.length_take, zw_ctl]
    omega
  · intro j hj
    rw [List.length_take, zw_ctl] at hj
    rw [zm_pget (show a + j < b by omega) hb, List.getD_eq_getElem?_getD, List.getElem?_take_of_lt (by omega), ← List.getD_eq_getElem?_getD, zm_ct hb (b - a) T rfl (by omega) (fun x => by rw [if_neg (by omega)]), if_pos (by omega)]
theorem zm_xt {T : List Nat} (hT : 0 < T.length) : ∀ (c : Nat) (l : List Nat), T.length ≤ l.length → (∀ j, j < l.length → l.getD j 0 = zm_c T j) → ∀ j, j < l.length + c → (zw_xt T.length c l).getD j 0 = zm_c T j := by
  intro c
  induction c with
  | zero =>
    intro l h1 h2 j hj
    exact h2 j hj
  | succ c ih =>
    intro l h1 h2 j hj
    rw [zw_xt]
    have hl : (l ++ [l.getD (l.length - T.length) 0]).length = l.length + 1 := by rw [List.length_append]; rfl
    refine ih _ (by omega) (fun x hx => ?_) j (by omega)
    rw [hl] at hx
    by_cases e : x = l.length
    · subst e
      rw [List.getD_eq_getElem?_getD, List.getElem?_append_right (Nat.le_refl _), Nat.sub_self]
      show l.getD (l.length - T.length) 0 = _
      rw [h2 _ (by omega)]
      unfold zm_c
      rw [← Nat.mod_eq_sub_mod h1]
    · rw [List.getD_eq_getElem?_getD, List.getElem?_append_left (by omega), ← List.getD_eq_getElem?_getD]
      exact h2 x (by omega)
theorem zm_mem {l : List Nat} {P : Nat → Prop} (h : ∀ j, j < l.length → P (l.getD j 0)) : ∀ v ∈ l, P v := by
  intro v hv
  obtain ⟨i, h1, h2⟩ := List.getElem_of_mem hv
  have := h i h1
  rw [List.getD_eq_getElem?_getD, List.getElem?_eq_getElem h1] at this
  rw [← h2]
  exact this
theorem zm_get {l : List Nat} {P : Nat → Prop} (h : ∀ v ∈ l, P v) {j : Nat} (hj : j < l.length) : P (l.getD j 0) := by
  rw [List.getD_eq_getElem?_getD, List.getElem?_eq_getElem hj]
  exact h _ (List.getElem_mem hj)
theorem zm_cget {l : List Nat} {P : Nat → Prop} (h : ∀ v ∈ l, P v) (hl : 0 < l.length) (j : Nat) : P (zm_c l j) := zm_get h (Nat.mod_lt _ hl)
end
section
/-! THE CLASS'S STATES: twenty cells each: the state, its text, its shelf. -/
def zs_a (q : Nat) : List Value := [.ref (q + 4), .ref (q + 6), .ref (q + 8), .ref (q + 10), .ref (q + 12), .ref (q + 14), .ref (q + 16), .ref (q + 18)]
/-- a state at q: L letters, the text T, the words of the shelf, K of them kept -/
def zs_S (h : zH) (q L : Nat) (T : List Nat) (S : Nat → List Nat) (K : Nat) : Prop := q + 20 < 1000000 ∧ h[q]? = some (3, [.int (Int32.ofInt (L : Int)), .ref (q + 1), .ref (q + 3), .int (Int32.ofInt (K : Int))]) ∧ h[q + 3]? = some (104, zs_a q) ∧ zw_W h (q + 1) 120 T ∧ (∀ i, i < 8 → zw_W h (q + 4 + 2 * i) 40 (S i)) ∧ K ≤ 8 ∧ L ≤ 9
/-- all but the state's cells is as before -/
def zs_F (h h' : zH) (q : Nat) : Prop := h'.length = h.length ∧ ∀ p, (p < q ∨ q + 20 ≤ p) → h'[p]? = h[p]?
theorem zs_Fr (h : zH) (q : Nat) : zs_F h h q := ⟨rfl, fun _ _ => rfl⟩
theorem zs_Ft {h1 h2 h3 : zH} {q : Nat} (a : zs_F h1 h2 q) (b : zs_F h2 h3 q) : zs_F h1 h3 q := ⟨b.1.trans a.1, fun p h4 => (b.2 p h4).trans (a.2 p h4)⟩
theorem zs_Fw {h h' : zH} {q o : Nat} (f : zw_F h h' o) (h1 : q ≤ o) (h2 : o + 1 < q + 20) : zs_F h h' q := ⟨f.1, fun p h3 => f.2 p (by omega) (by omega)⟩
theorem zs_keepW {h h' : zH} {q o n : Nat} {l : List Nat} (H : zw_W h o n l) (f : zs_F h h' q) (d : o + 1 < q ∨ q + 20 ≤ o) : zw_W h' o n l := by
  obtain ⟨a1, a2, ⟨R, a3, a4, a5⟩, a6, a7⟩ := H
  exact ⟨a1, (f.2 o (by omega)).trans a2, ⟨R, (f.2 (o + 1) (by omega)).trans a3, a4, a5⟩, a6, a7⟩
theorem zs_keep {h h' : zH} {p q L K : Nat} {T : List Nat} {S : Nat → List Nat} (H : zs_S h p L T S K) (f : zs_F h h' q) (d : p + 20 ≤ q ∨ q + 20 ≤ p) : zs_S h' p L T S K := by
  obtain ⟨a1, a2, a3, a4, a5, a6⟩ := H
  exact ⟨a1, (f.2 p (by omega)).trans a2, (f.2 (p + 3) (by omega)).trans a3, zs_keepW a4 f (by omega), fun i hi => zs_keepW (a5 i hi) f (by omega), a6⟩
/-- a word elsewhere changed -/
theorem zs_keepo {h h' : zH} {p o L K : Nat} {T : List Nat} {S : Nat → List Nat} (H : zs_S h p L T S K) (f : zw_F h h' o) (d : o + 1 < p ∨ p + 20 ≤ o) : zs_S h' p L T S K := by
  obtain ⟨a1, a2, a3, a4, a5, a6⟩ := H
  refine ⟨a1, (f.2 p (by omega) (by omega)).trans a2, (f.2 (p + 3) (by omega) (by omega)).trans a3, zw_keep a4 f (by unfold zw_d; omega), fun i hi => zw_keep (a5 i hi) f (by unfold zw_d; omega), a6⟩
section ZSS
variable {h h' : zH} {q L K N : Nat} {T : List Nat} {S : Nat → List Nat}
theorem zs_T (H : zs_S h q L T S K) : fT h q 3 = true := zi_T (by have := H.1; omega) H.2.1
theorem zs_L (H : zs_S h q L T S K) : fI h q 3 0 = some (Int32.ofInt (L : Int)) := zh_I (b := 0) (by have := H.1; omega) H.2.1 rfl
theorem zs_K (H : zs_S h q L T S K) : fI h q 3 3 = some (Int32.ofInt (K : Int)) := zh_I (b := 3) (by have := H.1; omega) H.2.1 rfl
theorem zs_t (H : zs_S h q L T S K) : fR h q 3 1 = some (q + 1) := zh_R (b := 1) (by have := H.1; omega) H.2.1 rfl
theorem zs_s (H : zs_S h q L T S K) : fR h q 3 2 = some (q + 3) := zh_R (b := 2) (by have := H.1; omega) H.2.1 rfl
theorem zs_n (H : zs_S h q L T S K) : fN h (q + 3) 104 = some (Int32.ofInt 8) := by
  rw [zi_N (by have := H.1; omega) H.2.2.1]
  rfl
theorem zs_ai (q i : Nat) (hi : i < 8) : (zs_a q)[i]? = some (.ref (q + 4 + 2 * i)) := by
  have h1 : i = 0 ∨ i = 1 ∨ i = 2 ∨ i = 3 ∨ i = 4 ∨ i = 5 ∨ i = 6 ∨ i = 7 := by omega
  rcases h1 with h1 | h1 | h1 | h1 | h1 | h1 | h1 | h1 <;> subst h1 <;> rfl
theorem zh_AR {h : zH} {q t i x : Nat} {vs : List Value} (hq : q < 1000000) (e : h[q]? = some (t, vs)) (e2 : vs[i]? = some (.ref x)) (hi : i < 2147483648) : fAR h q t (Int32.ofInt (i : Int)) = some x := by
  unfold fAR
  rw [decide_eq_false (zh_nat hi).1, cond_false, (zh_nat hi).2]
  exact zh_R hq e e2
theorem zs_i (H : zs_S h q L T S K) {i : Nat} (hi : i < 8) : fAR h (q + 3) 104 (Int32.ofInt (i : Int)) = some (q + 4 + 2 * i) := zh_AR (by have := H.1; omega) H.2.2.1 (zs_ai q i hi) (by omega)
theorem zs_X (H : zs_S h q L T S K) {i : Nat} (hi : i < 8) : fX h (q + 4 + 2 * i) = true := by
  have h1 := H.2.2.2.2.1 i hi
  unfold fX
  rw [zh_hg (by have := h1.1; omega) h1.2.1]
  rfl
/-- a kept word's place -/
theorem zs_at (H : zs_S h q L T S K) (x : Int) (hx : -2147483648 ≤ x ∧ x < 2147483648) : fS_keptAt N q (Int32.ofInt x) h = some (if 0 ≤ x ∧ x < (K : Int) then some (q + 4 + 2 * x.toNat) else none, h) := by
  have hK := H.2.2.2.2.2.1
  unfold fS_keptAt
  rw [zs_T H, cond_true, zqo_lt _ _ hx (by decide), zs_K H, b1_s, zqo_ge _ _ hx (by omega), zs_s H, b1_s, zs_n H, b1_s, zqo_ge _ _ hx (by decide)]
  by_cases e1 : x < 0
  · rw [decide_eq_true e1, cond_true, if_neg (by omega)]
    rfl
  · rw [decide_eq_false e1, cond_false]
    by_cases e2 : (K : Int) ≤ x
    · rw [decide_eq_true e2, cond_true, if_neg (by omega)]
      rfl
    · obtain ⟨y, rfl⟩ : ∃ y : Nat, x = (y : Int) := ⟨x.toNat, by omega⟩
      rw [decide_eq_false e2, cond_false, decide_eq_false (by omega), cond_false, b1_s, zs_i H (by omega), b1_s, if_pos (by omega)]
      rfl
/-- the text changed -/
theorem zs_text (H : zs_S h q L T S K) {T' : List Nat} (W : zw_W h' (q + 1) 120 T') (f : zw_F h h' (q + 1)) : zs_S h' q L T' S K ∧ zs_F h h' q := by
  obtain ⟨a1, a2, a3, a4, a5, a6⟩ := H
  exact ⟨⟨a1, (f.2 q (by omega) (by omega)).trans a2, (f.2 (q + 3) (by omega) (by omega)).trans a3, W, fun i hi => zw_keep (a5 i hi) f (by unfold zw_d; omega), a6⟩, zs_Fw f (by omega) (by omega)⟩
/-- a word of the shelf changed -/
theorem zs_word (H : zs_S h q L T S K) {i : Nat} (hi : i < 8) {l : List Nat} (W : zw_W h' (q + 4 + 2 * i) 40 l) (f : zw_F h h' (q + 4 + 2 * i)) : zs_S h' q L T (fun j => if j = i then l else S j) K ∧ zs_F h h' q := by
  obtain ⟨a1, a2, a3, a4, a5, a6⟩ := H
  refine ⟨⟨a1, (f.2 q (by omega) (by omega)).trans a2, (f.2 (q + 3) (by omega) (by omega)).trans a3, zw_keep a4 f (by unfold zw_d; omega), ?_, a6⟩, zs_Fw f (by omega) (by omega)⟩
  intro j hj
  show zw_W h' (q + 4 + 2 * j) 40 (if j = i then l else S j)
  by_cases e : j = i
  · rw [if_pos e, e]
    exact W
  · rw [if_neg e]
    exact zw_keep (a5 j hj) f (by unfold zw_d; omega)
/-- the state's own numbers changed -/
theorem zs_set (H : zs_S h q L T S K) {L' K' : Nat} (hL : L' ≤ 9) (hK : K' ≤ 8) : zs_S (h.set q (3, [.int (Int32.ofInt (L' : Int)), .ref (q + 1), .ref (q + 3), .int (Int32.ofInt (K' : Int))])) q L' T S K' ∧ zs_F h (h.set q (3, [.int (Int32.ofInt (L' : Int)), .ref (q + 1), .ref (q + 3), .int (Int32.ofInt (K' : Int))])) q := by
  obtain ⟨a1, a2, a3, a4, a5, a6⟩ := H
  have f : ∀ p, p ≠ q → (h.set q (3, [.int (Int32.ofInt (L' : Int)), .ref (q + 1), .ref (q + 3), .int (Int32.ofInt (K' : Int))]))[p]? = h[p]? := fun p hp => zh_set (fun e => hp e.symm)
  have kw : ∀ {o n : Nat} {l : List Nat}, zw_W h o n l → q < o → zw_W (h.set q (3, [.int (Int32.ofInt (L' : Int)), .ref (q + 1), .ref (q + 3), .int (Int32.ofInt (K' : Int))])) o n l := by
    intro o n l W ho
    obtain ⟨b1', b2', ⟨R, b3, b4, b5⟩, b6, b7⟩ := W
    exact ⟨b1', (f o (by omega)).trans b2', ⟨R, (f (o + 1) (by omega)).trans b3, b4, b5⟩, b6, b7⟩
  exact ⟨⟨a1, List.getElem?_set_self (List.getElem?_eq_some_iff.mp a2).1, (f (q + 3) (by omega)).trans a3, kw a4 (by omega), fun i hi => kw (a5 i hi) (by omega), hK, hL⟩, by rw [List.length_set], fun p hp => f p (by omega)⟩
theorem zs_setL (H : zs_S h q L T S K) {L' : Nat} (hL : L' ≤ 9) : ∃ h', fS h q 3 0 (.int (Int32.ofInt (L' : Int))) = some h' ∧ zs_S h' q L' T S K ∧ zs_F h h' q := by
  have h1 := zs_set H hL H.2.2.2.2.2.1
  exact ⟨_, zh_S H.2.1 (Nat.succ_pos 3), h1.1, h1.2⟩
theorem zs_setK (H : zs_S h q L T S K) {K' : Nat} (hK : K' ≤ 8) : ∃ h', fS h q 3 3 (.int (Int32.ofInt (K' : Int))) = some h' ∧ zs_S h' q L T S K' ∧ zs_F h h' q := by
  have h1 := zs_set H H.2.2.2.2.2.2 hK
  exact ⟨_, zh_S H.2.1 (Nat.lt_succ_self 3), h1.1, h1.2⟩
/-- keeps letters of another word -/
theorem zs_keepP (H : zs_S h q L T S K) (hK : K < 8) {o m : Nat} {l : List Nat} (O : zw_W h o m l) (d : ∀ i, i < 8 → zw_d o (q + 4 + 2 * i)) (hN : 1000 ≤ N) (i c : Nat) (h1 : i + c ≤ l.length) (h2 : c ≤ 40) : ∃ h', fS_keep N q o (Int32.ofInt (i : Int)) (Int32.ofInt ((i + c : Nat) : Int)) h = some ((), h') ∧ zs_S h' q L T (fun j => if j = K then (l.drop i).take c else S j) (K + 1) ∧ zs_F h h' q := by
  obtain ⟨h3, e3, W3, F3⟩ := zw_clear (N := N) (H.2.2.2.2.1 K hK)
  have O3 := zw_keep O F3 (d K hK)
  obtain ⟨h4, e4, W4, F4⟩ := zw_addPart (N := N) (d K hK) W3 O3 i c h1 (by rw [List.length_nil]; omega) (by omega)
  rw [List.nil_append] at W4
  obtain ⟨S4, G4⟩ := zs_word H hK W4 (zw_Ft F3 F4)
  obtain ⟨h5, e5, S5, G5⟩ := zs_setK S4 (K' := K + 1) (by omega)
  refine ⟨h5, ?_, S5, zs_Ft G4 G5⟩
  unfold fS_keep
  rw [zs_T H, cond_true, zs_K H, b1_s, zqo_lt _ _ (by omega) (by decide), decide_eq_false (by omega), cond_false, b1_s, zs_s H, b1_s, zs_n H, b1_s, zqo_lt _ _ (by omega) (by decide), decide_eq_true (by omega), cond_true, b1_s, b1_s, zs_i H hK, b1_s, zs_X H hK, cond_true, e3, b2, e4, b2, zs_K S4, b1_s, zh_inc, e5, b1_s]
end ZSS
end
section
/-! THE CLASS'S STATES: copies, letters, the shelf. -/
section ZSC
variable {N : Nat}
theorem zs_copy26 {q p L0 L K : Nat} {T0 T : List Nat} {S : Nat → List Nat} (hN : 1000 ≤ N) (d : q + 20 ≤ p ∨ p + 20 ≤ q) : ∀ (c f : Nat) (h : zH) (S0 : Nat → List Nat) (i : Nat), zs_S h q L0 T0 S0 i → zs_S h p L T S K → i + c = K → c < f → (∀ j, j < i → S0 j = S j) → ∃ h' S', fS_copyFrom_26 N f q p (Int32.ofInt (i : Int)) h = some ((), h') ∧ zs_S h' q L0 T0 S' K ∧ (∀ j, j < K → S' j = S j) ∧ zs_F h h' q := by
  intro c
  induction c with
  | zero =>
    intro f h S0 i H P h1 h2 h3
    obtain ⟨g, rfl⟩ : ∃ g, f = g + 1 := ⟨f - 1, by omega⟩
    have hK := P.2.2.2.2.2.1
    have e : i = K := by omega
    subst e
    refine ⟨h, S0, ?_, H, h3, zs_Fr h q⟩
    rw [fS_copyFrom_26, zs_K P, b1_s, zqo_ge _ _ (by omega) (by omega), decide_eq_true (by omega), cond_true]
  | succ c ih =>
    intro f h S0 i H P h1 h2 h3
    obtain ⟨g, rfl⟩ : ∃ g, f = g + 1 := ⟨f - 1, by omega⟩
    have hK := P.2.2.2.2.2.1
    have W := P.2.2.2.2.1 i (by omega)
    have hl := W.2.2.2.1
    obtain ⟨h4, e4, H4, F4⟩ := zs_keepP (N := N) H (by omega) W (fun j hj => by unfold zw_d; omega) hN 0 (S i).length (by omega) hl
    rw [List.drop_zero, List.take_of_length_le (Nat.le_refl _)] at H4
    rw [Nat.zero_add] at e4
    obtain ⟨h5, S5, e5, H5, G5, F5⟩ := ih g h4 _ (i + 1) H4 (zs_keep P F4 (by omega)) (by omega) (by omega) (fun j hj => by
      show (if j = i then S i else S0 j) = S j
      by_cases e : j = i
      · rw [if_pos e, e]
      · rw [if_neg e]
        exact h3 j (by omega))
    refine ⟨h5, S5, ?_, H5, G5, zs_Ft F4 F5⟩
    rw [fS_copyFrom_26, zs_K P, b1_s, zqo_ge _ _ (by omega) (by omega), decide_eq_false (by omega), cond_false, zs_at P _ (by omega), b2, if_pos (by omega)]
    show cond (fX h (p + 4 + 2 * i)) _ none = _
    rw [zs_X P (by omega), cond_true, show ((i : Nat) : Int).toNat = i by omega, zw_z W, b1_s, show Int32.ofInt 0 = Int32.ofInt ((0 : Nat) : Int) from rfl, e4, b2]
    unfold fS_copyFrom_54
    rw [zh_inc]
    exact e5
/-- a state as another one -/
theorem zs_copy {h : zH} {q p L0 L K0 K : Nat} {T0 T : List Nat} {S0 S : Nat → List Nat} (hN : 1000 ≤ N) (d : q + 20 ≤ p ∨ p + 20 ≤ q) (H : zs_S h q L0 T0 S0 K0) (P : zs_S h p L T S K) : ∃ h' S', fS_copyFrom N q p h = some ((), h') ∧ zs_S h' q L T S' K ∧ (∀ j, j < K → S' j = S j) ∧ zs_F h h' q := by
  have tl := P.2.2.2.1.2.2.2.1
  obtain ⟨h1, e1, H1, F1⟩ := zs_setL H P.2.2.2.2.2.2
  have P1 := zs_keep P F1 (by omega)
  obtain ⟨h2, e2, W2, F2⟩ := zw_copy (N := N) (show zw_d (p + 1) (q + 1) by unfold zw_d; omega) H1.2.2.2.1 P1.2.2.2.1 tl (by omega)
  obtain ⟨H2, G2⟩ := zs_text H1 W2 F2
  have P2 := zs_keep P1 G2 (by omega)
  obtain ⟨h3, e3, H3, F3⟩ := zs_setK H2 (Nat.zero_le 8)
  have P3 := zs_keep P2 F3 (by omega)
  obtain ⟨h4, S4, e4, H4, G4, F4⟩ := zs_copy26 (N := N) hN d K N h3 _ 0 H3 P3 (by omega) (by have := P.2.2.2.2.2.1; omega) (fun j hj => absurd hj (Nat.not_lt_zero j))
  refine ⟨h4, S4, ?_, H4, G4, zs_Ft F1 (zs_Ft G2 (zs_Ft F3 F4))⟩
  unfold fS_copyFrom
  rw [zs_T H, cond_true, zs_L P, b1_s, e1, b1_s, zs_t H1, b1_s, zs_t P1, b1_s, e2, b2]
  show b1 (fS h2 q 3 3 (.int (Int32.ofInt ((0 : Nat) : Int)))) _ = _
  rw [e3, b1_s]
  exact e4
section ZSC1
variable {h : zH} {q L K : Nat} {T : List Nat} {S : Nat → List Nat}
theorem zs_clear (H : zs_S h q L T S K) {L' : Nat} (hL : L' ≤ 9) : ∃ h', fS_clear N q (Int32.ofInt (L' : Int)) h = some ((), h') ∧ zs_S h' q L' [] S 0 ∧ zs_F h h' q := by
  obtain ⟨h1, e1, H1, F1⟩ := zs_setL H hL
  obtain ⟨h2, e2, W2, F2⟩ := zw_clear (N := N) H1.2.2.2.1
  obtain ⟨H2, G2⟩ := zs_text H1 W2 F2
  obtain ⟨h3, e3, H3, F3⟩ := zs_setK H2 (Nat.zero_le 8)
  refine ⟨h3, ?_, H3, zs_Ft F1 (zs_Ft G2 F3)⟩
  unfold fS_clear
  rw [zs_T H, cond_true, e1, b1_s, zs_t H1, b1_s, e2, b2]
  show b1 (fS h2 q 3 3 (.int (Int32.ofInt ((0 : Nat) : Int)))) _ = _
  rw [e3, b1_s]
theorem zs_isLetter (H : zs_S h q L T S K) (x : Int) (hx : -2147483648 ≤ x ∧ x < 2147483648) : fS_isLetter N q (Int32.ofInt x) h = some (cond (decide (97 ≤ x ∧ x < 97 + (L : Int))) (Int32.ofInt 1) (Int32.ofInt 0), h) := by
  have hL := H.2.2.2.2.2.2
  unfold fS_isLetter
  rw [zs_T H, cond_true, zqo_lt _ _ hx (by decide), zs_L H, b1_s, zw_add, zqo_ge _ _ hx (by omega)]
  by_cases e1 : x < 97
  · rw [decide_eq_true e1, cond_true, decide_eq_false (by omega)]
    rfl
  · rw [decide_eq_false e1, cond_false]
    by_cases e2 : 97 + (L : Int) ≤ x
    · rw [decide_eq_true e2, cond_true, decide_eq_false (by omega)]
      rfl
    · rw [decide_eq_false e2, cond_false, decide_eq_true (by omega)]
      rfl
theorem zs_greatest (H : zs_S h q L T S K) : fS_greatestLetter N q h = some (Int32.ofInt ((97 + L : Nat) : Int) - Int32.ofInt 1, h) := by
  unfold fS_greatestLetter
  rw [zs_T H, cond_true, zs_L H, b1_s, zw_add]
  rfl
/-- whether there is a next Lyndon word -/
def zs_hn (L : Nat) (T : List Nat) (m : Int) : Bool := decide ((T.length : Int) ≤ m) && (decide (0 < T.length ∧ zw_lE T 0 = T.length) && !decide (T.getD 0 0 = 97 + L - 1))
theorem zs_hasNext (H : zs_S h q L T S K) (hN : 1000 ≤ N) (hL : 1 ≤ L) (m : Int) (hm : -2147483648 ≤ m ∧ m < 2147483648) : fS_hasNext N q (Int32.ofInt m) h = some (cond (zs_hn L T m) (Int32.ofInt 1) (Int32.ofInt 0), h) := by
  have W := H.2.2.2.1
  have tl := W.2.2.2.1
  have hL9 := H.2.2.2.2.2.2
  unfold fS_hasNext zs_hn
  rw [zs_T H, cond_true, zs_t H, b1_s, zw_z W, b1_s, zqo_gt _ _ (by omega) hm]
  by_cases e1 : (T.length : Int) ≤ m
  · rw [decide_eq_false (by omega), cond_false, b1_s, zw_one W hN, b2, decide_eq_true e1, Bool.true_and]
    by_cases e2 : 0 < T.length ∧ zw_lE T 0 = T.length
    · have g1 := zw_gD W.2.2.2.2.2 0
      rw [decide_eq_true e2, cond_true, show z_cmp .eq (Int32.ofInt 1) (Int32.ofInt 0) = false from rfl, cond_false, zs_t H, b1_s, zw_at W 0 (by decide), b2, zs_greatest H, b2, zw_gi (by omega), show Int.toNat 0 = 0 from rfl, zw_sub, zqo_eq _ _ (by omega) (by omega), Bool.true_and]
      by_cases e3 : T.getD 0 0 = 97 + L - 1
      · rw [decide_eq_true (by omega), cond_true, decide_eq_true e3]
        rfl
      · rw [decide_eq_false (by omega), cond_false, decide_eq_false e3]
        rfl
    · rw [decide_eq_false e2, cond_false, show z_cmp .eq (Int32.ofInt 0) (Int32.ofInt 0) = true from rfl, cond_true, Bool.false_and]
      rfl
  · rw [decide_eq_true (by omega), cond_true, decide_eq_false e1, Bool.false_and]
    rfl
theorem zs_canKeep (H : zs_S h q L T S K) (c : Int) (hc : -2147483648 ≤ c ∧ c < 2147483648) : fS_canKeep N q (Int32.ofInt c) h = some (cond (decide (1 ≤ c ∧ c ≤ 40 ∧ K < 8)) (Int32.ofInt 1) (Int32.ofInt 0), h) := by
  have hK := H.2.2.2.2.2.1
  unfold fS_canKeep
  rw [zs_T H, cond_true, zqo_lt _ _ hc (by decide), zqo_gt _ _ hc (by decide), zs_K H, b1_s, zqo_ge _ _ (by omega) (by decide)]
  by_cases e1 : c < 1
  · rw [decide_eq_true e1, cond_true, decide_eq_false (by omega)]
    rfl
  · rw [decide_eq_false e1, cond_false]
    by_cases e2 : 40 < c
    · rw [decide_eq_true e2, cond_true, decide_eq_false (by omega)]
      rfl
    · rw [decide_eq_false e2, cond_false]
      by_cases e3 : 8 ≤ (K : Int)
      · rw [decide_eq_true e3, cond_true, decide_eq_false (by omega)]
        rfl
      · rw [decide_eq_false e3, cond_false, decide_eq_true (by omega)]
        rfl
/-- whether all letters are among the first M -/
theorem zs_fits (H : zs_S h q L T S K) (hN : 1000 ≤ N) {M : Nat} (hM : M ≤ 100) : fS_fitsLetters N q (Int32.ofInt (M : Int)) h = some (cond (((List.range K).all fun i => (S i).all fun v => decide (v < 97 + M)) && T.all fun v => decide (v < 97 + M)) (Int32.ofInt 1) (Int32.ofInt 0), h) := by
  have hK := H.2.2.2.2.2.1
  have key : ∀ c f i : Nat, c < f → i + c = K → fS_fitsLetters_2 N f q (Int32.ofInt (M : Int)) (Int32.ofInt (i : Int)) h = some (cond (((List.range' i c).all fun j => (S j).all fun v => decide (v < 97 + M)) && T.all fun v => decide (v < 97 + M)) (Int32.ofInt 1) (Int32.ofInt 0), h) := by
    intro c
    induction c with
    | zero =>
      intro f i h1 h2
      obtain ⟨g, rfl⟩ : ∃ g, f = g + 1 := ⟨f - 1, by omega⟩
      rw [fS_fitsLetters_2, zs_K H, b1_s, zqo_ge _ _ (by omega) (by omega), decide_eq_true (by omega), cond_true, zs_t H, b1_s, zw_fits H.2.2.2.1 hN hM, b2, List.range'_zero, List.all_nil, Bool.true_and]
      cases (T.all fun v => decide (v < 97 + M)) <;> rfl
    | succ c ih =>
      intro f i h1 h2
      obtain ⟨g, rfl⟩ : ∃ g, f = g + 1 := ⟨f - 1, by omega⟩
      rw [fS_fitsLetters_2, zs_K H, b1_s, zqo_ge _ _ (by omega) (by omega), decide_eq_false (by omega), cond_false, zs_at H _ (by omega), b2, if_pos (by omega)]
      show cond (fX h (q + 4 + 2 * i)) _ none = _
      rw [zs_X H (by omega), cond_true, show ((i : Nat) : Int).toNat = i by omega, zw_fits (H.2.2.2.2.1 i (by omega)) hN hM, b2, List.range'_succ, List.all_cons]
      cases (S i).all fun v => decide (v < 97 + M) with
      | true =>
        rw [cond_true, show z_cmp .ne (Int32.ofInt 1) (Int32.ofInt 0) = true from rfl, cond_true, Bool.true_and]
        unfold fS_fitsLetters_30
        rw [zh_inc]
        exact ih g (i + 1) (by omega) (by omega)
      | false => rfl
  unfold fS_fitsLetters
  rw [zs_T H, cond_true]
  have e := key K N 0 (by omega) (by omega)
  rw [← List.range_eq_range'] at e
  exact e
end ZSC1
end ZSC
end
section
/-! THE CLASS'S STATES: the shelf emptied, joined. -/
theorem zw_pall (l : List Nat) : zw_p l 0 l.length = l := by
  unfold zw_p
  rw [List.drop_zero, Nat.sub_zero, List.take_of_length_le (Nat.le_refl _)]
theorem zs_bit (m i : Nat) (hm : m < 256) (hi : i < 8) : z_cmp .ne ((Int32.ofInt (m : Int) >>> (Int32.ofInt (i : Int) &&& 31)) &&& Int32.ofInt 1) (Int32.ofInt 0) = m.testBit i := by
  have h := List.all_eq_true.mp (show ((List.range 256).all fun m => (List.range 8).all fun i => z_cmp .ne ((Int32.ofInt ((m : Nat) : Int) >>> (Int32.ofInt ((i : Nat) : Int) &&& 31)) &&& Int32.ofInt 1) (Int32.ofInt 0) == m.testBit i) = true by decide +kernel) m (List.mem_range.mpr hm)
  exact eq_of_beq (List.all_eq_true.mp h i (List.mem_range.mpr hi))
theorem zs_or (m i : Nat) (hm : m < 256) (hi : i < 8) : Int32.ofInt (m : Int) ||| (Int32.ofInt 1 <<< (Int32.ofInt (i : Int) &&& 31)) = Int32.ofInt ((m ||| (1 <<< i) : Nat) : Int) := by
  have h := List.all_eq_true.mp (show ((List.range 256).all fun m => (List.range 8).all fun i => decide (Int32.ofInt ((m : Nat) : Int) ||| (Int32.ofInt 1 <<< (Int32.ofInt ((i : Nat) : Int) &&& 31)) = Int32.ofInt ((m ||| (1 <<< i) : Nat) : Int))) = true by decide +kernel) m (List.mem_range.mpr hm)
  exact of_decide_eq_true (List.all_eq_true.mp h i (List.mem_range.mpr hi))
theorem zs_orb (m i k : Nat) (hm : m < 256) (hi : i < 8) (hk : k < 8) : (m ||| (1 <<< i)) < 256 ∧ (m ||| (1 <<< i)).testBit k = (m.testBit k || decide (k = i)) := by
  have h := List.all_eq_true.mp (show ((List.range 256).all fun m => (List.range 8).all fun i => (List.range 8).all fun k => decide ((m ||| (1 <<< i)) < 256 ∧ (m ||| (1 <<< i)).testBit k = (m.testBit k || decide (k = i)))) = true by decide +kernel) m (List.mem_range.mpr hm)
  exact of_decide_eq_true (List.all_eq_true.mp (List.all_eq_true.mp h i (List.mem_range.mpr hi)) k (List.mem_range.mpr hk))
/-- letters on the shelf: c words from i on, those in m left out -/
def zs_us (S : Nat → List Nat) (m : Nat) : Nat → Nat → Nat
  | 0, _ => 0
  | c + 1, i => (if m.testBit i = true then 0 else (S i).length) + zs_us S m c (i + 1)
theorem zs_us0 (S : Nat → List Nat) (m j : Nat) (hm : m < 256) (hj : j < 8) : ∀ c i, i + c ≤ 8 → j < i → zs_us S (m ||| (1 <<< j)) c i = zs_us S m c i := by
  intro c
  induction c with
  | zero => intro i h1 h2; rfl
  | succ c ih =>
    intro i h1 h2
    rw [zs_us, zs_us, ih (i + 1) (by omega) (by omega), (zs_orb m j i hm hj (by omega)).2, decide_eq_false (show ¬ i = j by omega), Bool.or_false]
theorem zs_us1 (S : Nat → List Nat) (m j : Nat) (hm : m < 256) (hj : m.testBit j = false) : ∀ c i, i + c ≤ 8 → i ≤ j → j < i + c → zs_us S (m ||| (1 <<< j)) c i + (S j).length = zs_us S m c i := by
  intro c
  induction c with
  | zero => intro i h1 h2 h3; omega
  | succ c ih =>
    intro i h1 h2 h3
    rw [zs_us, zs_us, (zs_orb m j i hm (by omega) (by omega)).2]
    by_cases e : i = j
    · subst e
      rw [decide_eq_true rfl, Bool.or_true, if_pos rfl, hj, if_neg (by decide), zs_us0 S m i hm (by omega) c (i + 1) (by omega) (by omega)]
      omega
    · have := ih (i + 1) (by omega) (by omega) (by omega)
      rw [decide_eq_false e, Bool.or_false]
      omega
/-- the first greatest word that isn't in m: c words from i on, g so far -/
def zs_st (S : Nat → List Nat) (i : Nat) : Option Nat → Option Nat
  | none => some i
  | some j => if zw_cmp (S i) (S j) = 1 then some i else some j
def zs_g (S : Nat → List Nat) (m : Nat) : Nat → Nat → Option Nat → Option Nat
  | 0, _, g => g
  | c + 1, i, g => zs_g S m c (i + 1) (if m.testBit i = true then g else zs_st S i g)
theorem zs_gb (S : Nat → List Nat) (m : Nat) : ∀ c i g, (∀ j, g = some j → j < i ∧ m.testBit j = false) → ∀ j, zs_g S m c i g = some j → j < i + c ∧ m.testBit j = false := by
  intro c
  induction c with
  | zero =>
    intro i g h j hj
    exact h j hj
  | succ c ih =>
    intro i g h j hj
    rw [zs_g] at hj
    have := ih (i + 1) _ (fun k hk => by
      cases hb : m.testBit i with
      | true =>
        rw [hb, if_pos rfl] at hk
        have := h k hk
        exact ⟨by omega, this.2⟩
      | false =>
        rw [hb, if_neg (by decide)] at hk
        cases g with
        | none =>
          cases hk
          exact ⟨by omega, hb⟩
        | some x =>
          rw [zs_st] at hk
          split at hk
          · cases hk
            exact ⟨by omega, hb⟩
          · have h7 := h _ rfl
            cases hk
            exact ⟨by omega, h7.2⟩) j hj
    exact ⟨by omega, this.2⟩
def zs_gi : Option Nat → Int
  | none => -1
  | some j => (j : Int)
def zs_gr (q : Nat) : Option Nat → Option Nat
  | none => none
  | some j => some (q + 4 + 2 * j)
/-- joined: c words more -/
def zs_jn (S : Nat → List Nat) (K : Nat) : Nat → Nat → List Nat → List Nat
  | 0, _, t => t
  | c + 1, m, t => match zs_g S m K 0 none with
    | none => zs_jn S K c m t
    | some j => zs_jn S K c (m ||| (1 <<< j)) (t ++ S j)
section ZSH
variable {N q L K : Nat} {T : List Nat}
theorem zs_take2 {S : Nat → List Nat} (hN : 1000 ≤ N) {k : Nat} : ∀ (c f i : Nat) (h : zH) (S0 : Nat → List Nat), zs_S h q L T S0 K → i + c + 1 = K → c < f → k ≤ i → (∀ j, j < 8 → S0 j = if k ≤ j ∧ j < i then S (j + 1) else S j) → ∃ h' S', fS_takeFromShelf_2 N f q (Int32.ofInt (k : Int)) (Int32.ofInt (i : Int)) h = some ((), h') ∧ zs_S h' q L T S' (K - 1) ∧ (∀ j, j < K - 1 → S' j = if k ≤ j then S (j + 1) else S j) ∧ zs_F h h' q := by
  intro c
  induction c with
  | zero =>
    intro f i h S0 H h1 h2 h3 h4
    obtain ⟨g, rfl⟩ : ∃ g, f = g + 1 := ⟨f - 1, by omega⟩
    have hK := H.2.2.2.2.2.1
    obtain ⟨h5, e5, H5, F5⟩ := zs_setK H (K' := K - 1) (by omega)
    refine ⟨h5, S0, ?_, H5, ?_, F5⟩
    · rw [fS_takeFromShelf_2, zs_K H, b1_s, zw_sub, zqo_ge _ _ (by omega) (by omega), decide_eq_true (by omega), cond_true, zqo_lt _ _ (by omega) (by decide), decide_eq_false (by omega), cond_false, b1_s, zqo_ge _ _ (by omega) (by omega), decide_eq_false (by omega), cond_false, b1_s, zw_sub, show (K : Int) - 1 = ((K - 1 : Nat) : Int) by omega, e5, b1_s]
    · intro j hj
      rw [h4 j (by omega)]
      by_cases e : k ≤ j
      · rw [if_pos ⟨e, by omega⟩, if_pos e]
      · rw [if_neg (fun x => e x.1), if_neg e]
  | succ c ih =>
    intro f i h S0 H h1 h2 h3 h4
    obtain ⟨g, rfl⟩ : ∃ g, f = g + 1 := ⟨f - 1, by omega⟩
    have hK := H.2.2.2.2.2.1
    have Wi := H.2.2.2.2.1 i (by omega)
    have Wj := H.2.2.2.2.1 (i + 1) (by omega)
    have hl := Wj.2.2.2.1
    obtain ⟨h5, e5, W5, F5⟩ := zw_copy (N := N) (show zw_d (q + 4 + 2 * (i + 1)) (q + 4 + 2 * i) by unfold zw_d; omega) Wi Wj hl (by omega)
    obtain ⟨H6, F6⟩ := zs_word H (show i < 8 by omega) W5 F5
    obtain ⟨h7, S7, e7, H7, r7, F7⟩ := ih g (i + 1) h5 _ H6 (by omega) (by omega) (by omega) (fun j hj => by
      show (if j = i then S0 (i + 1) else S0 j) = _
      by_cases e : j = i
      · subst e
        rw [if_pos rfl, if_pos (by omega), h4 (j + 1) (by omega), if_neg (by omega)]
      · rw [if_neg e, h4 j hj]
        by_cases e2 : k ≤ j ∧ j < i
        · rw [if_pos e2, if_pos (by omega)]
        · rw [if_neg e2, if_neg (by omega)])
    refine ⟨h7, S7, ?_, H7, r7, zs_Ft F6 F7⟩
    rw [fS_takeFromShelf_2, zs_K H, b1_s, zw_sub, zqo_ge _ _ (by omega) (by omega), decide_eq_false (by omega), cond_false, zs_at H _ (by omega), b2, if_pos (by omega)]
    show b2 (fS_keptAt N q (Int32.ofInt (i : Int) + Int32.ofInt 1) h) _ = _
    rw [zh_inc, zs_at H _ (by omega), b2, if_pos (by omega)]
    show cond (fX h (q + 4 + 2 * i)) (cond (fX h (q + 4 + 2 * (i + 1))) (b2 (fW_copyFrom N (q + 4 + 2 * i) (q + 4 + 2 * (i + 1)) h) _) none) none = _
    rw [zs_X H (by omega), cond_true, zs_X H (by omega), cond_true, e5, b2]
    unfold fS_takeFromShelf_42
    rw [zh_inc]
    exact e7
theorem zs_take {h : zH} {S : Nat → List Nat} (hN : 1000 ≤ N) (H : zs_S h q L T S K) {k : Nat} (hk : k < K) : ∃ h' S', fS_takeFromShelf N q (Int32.ofInt (k : Int)) h = some ((), h') ∧ zs_S h' q L T S' (K - 1) ∧ (∀ j, j < K - 1 → S' j = if k ≤ j then S (j + 1) else S j) ∧ zs_F h h' q := by
  have hK := H.2.2.2.2.2.1
  obtain ⟨h', S', e, H', r, F⟩ := zs_take2 (N := N) (S := S) hN (K - 1 - k) N k h S H (by omega) (by omega) (Nat.le_refl k) (fun j hj => by rw [if_neg (by omega)])
  refine ⟨h', S', ?_, H', r, F⟩
  unfold fS_takeFromShelf
  rw [zs_T H, cond_true]
  exact e
theorem zs_join4 {h : zH} {S : Nat → List Nat} (H : zs_S h q L T S K) : ∀ c f i s : Nat, i + c = K → c < f → s + 40 * c ≤ 1000 → fS_canJoin_4 N f q (Int32.ofInt (s : Int)) (Int32.ofInt (i : Int)) h = some (cond (decide (0 < K ∧ s + zs_us S 0 c i ≤ 120)) (Int32.ofInt 1) (Int32.ofInt 0), h) := by
  have hK := H.2.2.2.2.2.1
  intro c
  induction c with
  | zero =>
    intro f i s h1 h2 h3
    obtain ⟨g, rfl⟩ : ∃ g, f = g + 1 := ⟨f - 1, by omega⟩
    rw [fS_canJoin_4, zs_K H, b1_s, zqo_ge _ _ (by omega) (by omega), decide_eq_true (by omega), cond_true, b1_s, zqo_le _ _ (by omega) (by decide), zqo_gt _ _ (by omega) (by decide), zs_us]
    by_cases e1 : K = 0
    · rw [decide_eq_true (by omega), cond_true, decide_eq_false (by omega)]
      rfl
    · rw [decide_eq_false (by omega), cond_false]
      by_cases e2 : s ≤ 120
      · rw [decide_eq_false (by omega), cond_false, decide_eq_true (by omega)]
        rfl
      · rw [decide_eq_true (by omega), cond_true, decide_eq_false (by omega)]
        rfl
  | succ c ih =>
    intro f i s h1 h2 h3
    obtain ⟨g, rfl⟩ : ∃ g, f = g + 1 := ⟨f - 1, by omega⟩
    have Wi := H.2.2.2.2.1 i (by omega)
    have hl := Wi.2.2.2.1
    rw [fS_canJoin_4, zs_K H, b1_s, zqo_ge _ _ (by omega) (by omega), decide_eq_false (by omega), cond_false, zs_at H _ (by omega), b2, if_pos (by omega)]
    show cond (fX h (q + 4 + 2 * i)) (b1 (fI h (q + 4 + 2 * i) 4 1) _) none = _
    rw [zs_X H (by omega), cond_true, zw_z Wi, b1_s]
    unfold fS_canJoin_31
    rw [zw_add, zh_inc, show (s : Int) + ((S i).length : Int) = ((s + (S i).length : Nat) : Int) by omega, ih g (i + 1) (s + (S i).length) (by omega) (by omega) (by omega), zs_us, if_neg (by rw [Nat.zero_testBit]; decide), ← Nat.add_assoc]
theorem zs_canJoin {h : zH} {S : Nat → List Nat} (hN : 1000 ≤ N) (H : zs_S h q L T S K) : fS_canJoin N q h = some (cond (decide (0 < K ∧ zs_us S 0 K 0 ≤ 120)) (Int32.ofInt 1) (Int32.ofInt 0), h) := by
  have hK := H.2.2.2.2.2.1
  have e := zs_join4 (N := N) H K N 0 0 (by omega) (by omega) (by omega)
  unfold fS_canJoin
  rw [zs_T H, cond_true]
  rw [Nat.zero_add] at e
  exact e
theorem zs_great7 {h : zH} {S : Nat → List Nat} (hN : 1000 ≤ N) (H : zs_S h q L T S K) {m : Nat} (hm : m < 256) : ∀ (c f i : Nat) (g : Option Nat), i + c = K → c < f → (∀ j, g = some j → j < i) → fS_greatestOfShelf_7 N f q (Int32.ofInt (m : Int)) (Int32.ofInt (zs_gi g)) (zs_gr q g) (Int32.ofInt (i : Int)) h = some (Int32.ofInt (zs_gi (zs_g S m c i g)), h) := by
  have hK := H.2.2.2.2.2.1
  intro c
  induction c with
  | zero =>
    intro f i g h1 h2 h3
    obtain ⟨y, rfl⟩ : ∃ y, f = y + 1 := ⟨f - 1, by omega⟩
    rw [fS_greatestOfShelf_7, zs_K H, b1_s, zqo_ge _ _ (by omega) (by omega), decide_eq_true (by omega), cond_true]
    rfl
  | succ c ih =>
    intro f i g h1 h2 h3
    obtain ⟨y, rfl⟩ : ∃ y, f = y + 1 := ⟨f - 1, by omega⟩
    have go : ∀ g' : Option Nat, (∀ j, g' = some j → j < i + 1) → fS_greatestOfShelf_72 N (fS_greatestOfShelf_7 N y) q (Int32.ofInt (m : Int)) (Int32.ofInt (zs_gi g')) (zs_gr q g') (Int32.ofInt (i : Int)) h = some (Int32.ofInt (zs_gi (zs_g S m c (i + 1) g')), h) := by
      intro g' hg
      have := ih y (i + 1) g' (by omega) (by omega) hg
      unfold fS_greatestOfShelf_72
      cases g' with
      | none =>
        show fS_greatestOfShelf_7 N y q _ _ none (Int32.ofInt (i : Int) + Int32.ofInt 1) h = _
        rw [zh_inc]
        exact this
      | some x =>
        show fS_greatestOfShelf_7 N y q _ _ (some (q + 4 + 2 * x)) (Int32.ofInt (i : Int) + Int32.ofInt 1) h = _
        rw [zh_inc]
        exact this
    rw [fS_greatestOfShelf_7, zs_K H, b1_s, zqo_ge _ _ (by omega) (by omega), decide_eq_false (by omega), cond_false, zs_bit m i hm (by omega), zs_g]
    cases hb : m.testBit i with
    | true =>
      rw [cond_true, if_pos rfl]
      unfold fS_greatestOfShelf_35
      exact go g (fun j hj => by have := h3 j hj; omega)
    | false =>
      rw [cond_false, if_neg (by decide), zs_at H _ (by omega), b2, if_pos (by omega)]
      show fS_greatestOfShelf_35 N (fS_greatestOfShelf_7 N y) q (Int32.ofInt (m : Int)) (Int32.ofInt (zs_gi g)) (zs_gr q g) (Int32.ofInt (i : Int)) (some (q + 4 + 2 * i)) h = _
      unfold fS_greatestOfShelf_35
      show cond (fX h (q + 4 + 2 * i)) _ none = _
      rw [zs_X H (by omega), cond_true]
      cases g with
      | none =>
        show fS_greatestOfShelf_66 N (fS_greatestOfShelf_7 N y) q (Int32.ofInt (m : Int)) (Int32.ofInt (i : Int)) (some (q + 4 + 2 * i)) h = _
        exact go (some i) (fun j hj => by cases hj; omega)
      | some x =>
        have hx := h3 x rfl
        have Wi := H.2.2.2.2.1 i (by omega)
        have Wx := H.2.2.2.2.1 x (by omega)
        have ho := zw_order (N := N) Wi Wx hN (a := 0) (b := (S i).length) (c := 0) (d := (S x).length) (Nat.le_refl _) (Nat.le_refl _) (Nat.zero_le _) (Nat.zero_le _)
        rw [zw_pall, zw_pall] at ho
        have hb := zw_cmpb (S i) (S x)
        show cond (fX h (q + 4 + 2 * x)) _ none = _
        rw [zs_X H (by omega), cond_true, zw_z Wi, b1_s, zw_z Wx, b1_s, show Int32.ofInt 0 = Int32.ofInt ((0 : Nat) : Int) from rfl, ho, b2, zqo_le _ _ (by omega) (by omega)]
        by_cases e : zw_cmp (S i) (S x) = 1
        · rw [decide_eq_false (by omega), cond_false]
          show fS_greatestOfShelf_66 N (fS_greatestOfShelf_7 N y) q (Int32.ofInt (m : Int)) (Int32.ofInt (i : Int)) (some (q + 4 + 2 * i)) h = some (Int32.ofInt (zs_gi (zs_g S m c (i + 1) (if zw_cmp (S i) (S x) = 1 then some i else some x))), h)
          rw [if_pos e]
          exact go (some i) (fun j hj => by cases hj; omega)
        · rw [decide_eq_true (by omega), cond_true]
          show fS_greatestOfShelf_72 N (fS_greatestOfShelf_7 N y) q (Int32.ofInt (m : Int)) (Int32.ofInt (x : Int)) (some (q + 4 + 2 * x)) (Int32.ofInt (i : Int)) h = some (Int32.ofInt (zs_gi (zs_g S m c (i + 1) (if zw_cmp (S i) (S x) = 1 then some i else some x))), h)
          rw [if_neg e]
          exact go (some x) (fun j hj => by cases hj; omega)
theorem zs_great {h : zH} {S : Nat → List Nat} (hN : 1000 ≤ N) (H : zs_S h q L T S K) {m : Nat} (hm : m < 256) : fS_greatestOfShelf N q (Int32.ofInt (m : Int)) h = some (Int32.ofInt (zs_gi (zs_g S m K 0 none)), h) := by
  have hK := H.2.2.2.2.2.1
  unfold fS_greatestOfShelf
  rw [zs_T H, cond_true]
  exact zs_great7 (N := N) hN H hm K N 0 none (by omega) (by omega) (fun j hj => by cases hj)
theorem zs_join11 {S : Nat → List Nat} (hN : 1000 ≤ N) : ∀ (c f i m : Nat) (h : zH) (t : List Nat), zs_S h q L t S K → i + c = K → c < f → m < 256 → t.length + zs_us S m K 0 ≤ 120 → ∃ h', fS_joinShelf_11 N f q (Int32.ofInt (m : Int)) (Int32.ofInt (i : Int)) h = some ((), h') ∧ zs_S h' q L (zs_jn S K c m t) S K ∧ zs_F h h' q := by
  intro c
  induction c with
  | zero =>
    intro f i m h t H h1 h2 h3 h4
    obtain ⟨y, rfl⟩ : ∃ y, f = y + 1 := ⟨f - 1, by omega⟩
    have hK := H.2.2.2.2.2.1
    refine ⟨h, ?_, H, zs_Fr h q⟩
    rw [fS_joinShelf_11, zs_K H, b1_s, zqo_ge _ _ (by omega) (by omega), decide_eq_true (by omega), cond_true]
  | succ c ih =>
    intro f i m h t H h1 h2 h3 h4
    obtain ⟨y, rfl⟩ : ∃ y, f = y + 1 := ⟨f - 1, by omega⟩
    have hK := H.2.2.2.2.2.1
    rw [fS_joinShelf_11, zs_K H, b1_s, zqo_ge _ _ (by omega) (by omega), decide_eq_false (by omega), cond_false, zs_great hN H h3, b2, zs_jn]
    cases hg : zs_g S m K 0 none with
    | none =>
      obtain ⟨h7, e7, H7, F7⟩ := ih y (i + 1) m h t H (by omega) (by omega) h3 h4
      refine ⟨h7, ?_, H7, F7⟩
      rw [show zs_gi none = -1 from rfl, zs_at H _ (by decide), b2, if_neg (by omega)]
      show fS_joinShelf_58 N (fS_joinShelf_11 N y) q (Int32.ofInt (m : Int)) (Int32.ofInt (i : Int)) h = _
      unfold fS_joinShelf_58
      rw [zh_inc]
      exact e7
    | some j =>
      obtain ⟨j1, j2⟩ := zs_gb S m K 0 none (fun k hk => by cases hk) j hg
      rw [Nat.zero_add] at j1
      have Wj := H.2.2.2.2.1 j (by omega)
      have us := zs_us1 S m j h3 j2 K 0 (by omega) (Nat.zero_le j) (by omega)
      obtain ⟨h5, e5, W5, F5⟩ := zw_addPart (N := N) (show zw_d (q + 4 + 2 * j) (q + 1) by unfold zw_d; omega) H.2.2.2.1 Wj 0 (S j).length (by omega) (by omega) (by have := Wj.2.2.2.1; omega)
      rw [List.drop_zero, List.take_of_length_le (Nat.le_refl _)] at W5
      rw [Nat.zero_add] at e5
      obtain ⟨H6, F6⟩ := zs_text H W5 F5
      obtain ⟨h7, e7, H7, F7⟩ := ih y (i + 1) (m ||| (1 <<< j)) h5 _ H6 (by omega) (by omega) (zs_orb m j 0 h3 (by omega) (by omega)).1 (by rw [List.length_append]; omega)
      refine ⟨h7, ?_, H7, zs_Ft F6 F7⟩
      rw [show zs_gi (some j) = (j : Int) from rfl, zs_at H _ (by omega), b2, if_pos (by omega), show ((j : Nat) : Int).toNat = j by omega]
      show cond (fX h (q + 4 + 2 * j)) _ none = _
      rw [zs_X H (by omega), cond_true, zs_t H, b1_s, zw_z Wj, b1_s, show Int32.ofInt 0 = Int32.ofInt ((0 : Nat) : Int) from rfl, e5, b2]
      unfold fS_joinShelf_58
      rw [zs_or m j h3 (by omega), zh_inc]
      exact e7
theorem zs_join {h : zH} {S : Nat → List Nat} (hN : 1000 ≤ N) (H : zs_S h q L T S K) (hs : zs_us S 0 K 0 ≤ 120) : ∃ h', fS_joinShelf N q h = some ((), h') ∧ zs_S h' q L (zs_jn S K K 0 []) S K ∧ zs_F h h' q := by
  have hK := H.2.2.2.2.2.1
  obtain ⟨h1, e1, W1, F1⟩ := zw_clear (N := N) H.2.2.2.1
  obtain ⟨H2, F2⟩ := zs_text H W1 F1
  obtain ⟨h3, e3, H3, F3⟩ := zs_join11 (N := N) hN K N 0 0 h1 [] H2 (by omega) (by omega) (by decide) (by rw [List.length_nil]; omega)
  refine ⟨h3, ?_, H3, zs_Ft F2 F3⟩
  unfold fS_joinShelf
  rw [zs_T H, cond_true, zs_t H, b1_s, e1, b2]
  exact e3
end ZSH
end
