/-! THE STRINGS and the commands' words. -/
/-- a string's bytes -/
def yS (q : Nat) (b : List Nat) : Prop := ∀ (N : Nat) (h : zH), fJ_length N q h = some (Int32.ofInt (b.length : Int), h) ∧ ∀ i, i < b.length → fJ_charAt N q (Int32.ofInt (i : Int)) h = some (Int32.ofInt (b.getD i 0 : Int), h)
def yt_words : List (List Nat) := [[116, 101, 120, 116], [97, 112, 112, 101, 110, 100], [100, 114, 111, 112], [112, 97, 114, 116], [114, 111, 116, 97, 116, 101], [114, 101, 118, 101, 114, 115, 101], [108, 101, 97, 115, 116], [110, 101, 120, 116], [107, 101, 101, 112], [114, 101, 109, 111, 118, 101], [106, 111, 105, 110], [114, 101, 112, 101, 97, 116]]
def yt_letters : List Nat := [108, 101, 116, 116, 101, 114, 115]
def yt_ix (w : List Nat) : List (List Nat) → Nat → Nat
  | [], k => k
  | u :: l, k => if w = u then k else yt_ix w l (k + 1)
/-- a command's number, 12 if there is none -/
def yt_cmd (w : List Nat) : Nat := yt_ix w yt_words 0
theorem yt_ixb (w : List Nat) : ∀ l k, k ≤ yt_ix w l k ∧ yt_ix w l k ≤ k + l.length := by
  intro l
  induction l with
  | nil => intro k; exact ⟨Nat.le_refl k, Nat.le_refl k⟩
  | cons u l ih =>
    intro k
    rw [yt_ix, List.length_cons]
    split
    · omega
    · have := ih (k + 1)
      omega
theorem yt_cmdb (w : List Nat) : yt_cmd w ≤ 12 := (yt_ixb w yt_words 0).2
theorem yS_21 : yS 1000021 [116, 101, 120, 116] := by
  intro N h
  refine ⟨rfl, fun i hi => ?_⟩
  change i < 4 at hi
  have c : i = 0 ∨ i = 1 ∨ i = 2 ∨ i = 3 := by omega
  rcases c with e | e | e | e <;> subst e <;> rfl
theorem yS_23 : yS 1000023 [97, 112, 112, 101, 110, 100] := by
  intro N h
  refine ⟨rfl, fun i hi => ?_⟩
  change i < 6 at hi
  have c : i = 0 ∨ i = 1 ∨ i = 2 ∨ i = 3 ∨ i = 4 ∨ i = 5 := by omega
  rcases c with e | e | e | e | e | e <;> subst e <;> rfl
theorem yS_25 : yS 1000025 [100, 114, 111, 112] := by
  intro N h
  refine ⟨rfl, fun i hi => ?_⟩
  change i < 4 at hi
  have c : i = 0 ∨ i = 1 ∨ i = 2 ∨ i = 3 := by omega
  rcases c with e | e | e | e <;> subst e <;> rfl
theorem yS_27 : yS 1000027 [112, 97, 114, 116] := by
  intro N h
  refine ⟨rfl, fun i hi => ?_⟩
  change i < 4 at hi
  have c : i = 0 ∨ i = 1 ∨ i = 2 ∨ i = 3 := by omega
  rcases c with e | e | e | e <;> subst e <;> rfl
theorem yS_29 : yS 1000029 [114, 111, 116, 97, 116, 101] := by
  intro N h
  refine ⟨rfl, fun i hi => ?_⟩
  change i < 6 at hi
  have c : i = 0 ∨ i = 1 ∨ i = 2 ∨ i = 3 ∨ i = 4 ∨ i = 5 := by omega
  rcases c with e | e | e | e | e | e <;> subst e <;> rfl
theorem yS_31 : yS 1000031 [114, 101, 118, 101, 114, 115, 101] := by
  intro N h
  refine ⟨rfl, fun i hi => ?_⟩
  change i < 7 at hi
  have c : i = 0 ∨ i = 1 ∨ i = 2 ∨ i = 3 ∨ i = 4 ∨ i = 5 ∨ i = 6 := by omega
  rcases c with e | e | e | e | e | e | e <;> subst e <;> rfl
theorem yS_33 : yS 1000033 [108, 101, 97, 115, 116] := by
  intro N h
  refine ⟨rfl, fun i hi => ?_⟩
  change i < 5 at hi
  have c : i = 0 ∨ i = 1 ∨ i = 2 ∨ i = 3 ∨ i = 4 := by omega
  rcases c with e | e | e | e | e <;> subst e <;> rfl
theorem yS_35 : yS 1000035 [110, 101, 120, 116] := by
  intro N h
  refine ⟨rfl, fun i hi => ?_⟩
  change i < 4 at hi
  have c : i = 0 ∨ i = 1 ∨ i = 2 ∨ i = 3 := by omega
  rcases c with e | e | e | e <;> subst e <;> rfl
theorem yS_37 : yS 1000037 [107, 101, 101, 112] := by
  intro N h
  refine ⟨rfl, fun i hi => ?_⟩
  change i < 4 at hi
  have c : i = 0 ∨ i = 1 ∨ i = 2 ∨ i = 3 := by omega
  rcases c with e | e | e | e <;> subst e <;> rfl
theorem yS_39 : yS 1000039 [114, 101, 109, 111, 118, 101] := by
  intro N h
  refine ⟨rfl, fun i hi => ?_⟩
  change i < 6 at hi
  have c : i = 0 ∨ i = 1 ∨ i = 2 ∨ i = 3 ∨ i = 4 ∨ i = 5 := by omega
  rcases c with e | e | e | e | e | e <;> subst e <;> rfl
theorem yS_41 : yS 1000041 [106, 111, 105, 110] := by
  intro N h
  refine ⟨rfl, fun i hi => ?_⟩
  change i < 4 at hi
  have c : i = 0 ∨ i = 1 ∨ i = 2 ∨ i = 3 := by omega
  rcases c with e | e | e | e <;> subst e <;> rfl
theorem yS_43 : yS 1000043 [114, 101, 112, 101, 97, 116] := by
  intro N h
  refine ⟨rfl, fun i hi => ?_⟩
  change i < 6 at hi
  have c : i = 0 ∨ i = 1 ∨ i = 2 ∨ i = 3 ∨ i = 4 ∨ i = 5 := by omega
  rcases c with e | e | e | e | e | e <;> subst e <;> rfl
theorem yS_45 : yS 1000045 [108, 101, 116, 116, 101, 114, 115] := by
  intro N h
  refine ⟨rfl, fun i hi => ?_⟩
  change i < 7 at hi
  have c : i = 0 ∨ i = 1 ∨ i = 2 ∨ i = 3 ∨ i = 4 ∨ i = 5 ∨ i = 6 := by omega
  rcases c with e | e | e | e | e | e | e <;> subst e <;> rfl
theorem yS_49 : yS 1000049 [116, 101, 120, 116] := by
  intro N h
  refine ⟨rfl, fun i hi => ?_⟩
  change i < 4 at hi
  have c : i = 0 ∨ i = 1 ∨ i = 2 ∨ i = 3 := by omega
  rcases c with e | e | e | e <;> subst e <;> rfl
theorem yS_51 : yS 1000051 [97, 112, 112, 101, 110, 100] := by
  intro N h
  refine ⟨rfl, fun i hi => ?_⟩
  change i < 6 at hi
  have c : i = 0 ∨ i = 1 ∨ i = 2 ∨ i = 3 ∨ i = 4 ∨ i = 5 := by omega
  rcases c with e | e | e | e | e | e <;> subst e <;> rfl
theorem yS_53 : yS 1000053 [100, 114, 111, 112] := by
  intro N h
  refine ⟨rfl, fun i hi => ?_⟩
  change i < 4 at hi
  have c : i = 0 ∨ i = 1 ∨ i = 2 ∨ i = 3 := by omega
  rcases c with e | e | e | e <;> subst e <;> rfl
theorem yS_55 : yS 1000055 [112, 97, 114, 116] := by
  intro N h
  refine ⟨rfl, fun i hi => ?_⟩
  change i < 4 at hi
  have c : i = 0 ∨ i = 1 ∨ i = 2 ∨ i = 3 := by omega
  rcases c with e | e | e | e <;> subst e <;> rfl
theorem yS_57 : yS 1000057 [114, 111, 116, 97, 116, 101] := by
  intro N h
  refine ⟨rfl, fun i hi => ?_⟩
  change i < 6 at hi
  have c : i = 0 ∨ i = 1 ∨ i = 2 ∨ i = 3 ∨ i = 4 ∨ i = 5 := by omega
  rcases c with e | e | e | e | e | e <;> subst e <;> rfl
theorem yS_59 : yS 1000059 [114, 101, 118, 101, 114, 115, 101] := by
  intro N h
  refine ⟨rfl, fun i hi => ?_⟩
  change i < 7 at hi
  have c : i = 0 ∨ i = 1 ∨ i = 2 ∨ i = 3 ∨ i = 4 ∨ i = 5 ∨ i = 6 := by omega
  rcases c with e | e | e | e | e | e | e <;> subst e <;> rfl
theorem yS_61 : yS 1000061 [108, 101, 97, 115, 116] := by
  intro N h
  refine ⟨rfl, fun i hi => ?_⟩
  change i < 5 at hi
  have c : i = 0 ∨ i = 1 ∨ i = 2 ∨ i = 3 ∨ i = 4 := by omega
  rcases c with e | e | e | e | e <;> subst e <;> rfl
theorem yS_63 : yS 1000063 [110, 101, 120, 116] := by
  intro N h
  refine ⟨rfl, fun i hi => ?_⟩
  change i < 4 at hi
  have c : i = 0 ∨ i = 1 ∨ i = 2 ∨ i = 3 := by omega
  rcases c with e | e | e | e <;> subst e <;> rfl
theorem yS_65 : yS 1000065 [107, 101, 101, 112] := by
  intro N h
  refine ⟨rfl, fun i hi => ?_⟩
  change i < 4 at hi
  have c : i = 0 ∨ i = 1 ∨ i = 2 ∨ i = 3 := by omega
  rcases c with e | e | e | e <;> subst e <;> rfl
theorem yS_67 : yS 1000067 [114, 101, 109, 111, 118, 101] := by
  intro N h
  refine ⟨rfl, fun i hi => ?_⟩
  change i < 6 at hi
  have c : i = 0 ∨ i = 1 ∨ i = 2 ∨ i = 3 ∨ i = 4 ∨ i = 5 := by omega
  rcases c with e | e | e | e | e | e <;> subst e <;> rfl
theorem yS_69 : yS 1000069 [106, 111, 105, 110] := by
  intro N h
  refine ⟨rfl, fun i hi => ?_⟩
  change i < 4 at hi
  have c : i = 0 ∨ i = 1 ∨ i = 2 ∨ i = 3 := by omega
  rcases c with e | e | e | e <;> subst e <;> rfl
theorem yS_71 : yS 1000071 [114, 101, 112, 101, 97, 116] := by
  intro N h
  refine ⟨rfl, fun i hi => ?_⟩
  change i < 6 at hi
  have c : i = 0 ∨ i = 1 ∨ i = 2 ∨ i = 3 ∨ i = 4 ∨ i = 5 := by omega
  rcases c with e | e | e | e | e | e <;> subst e <;> rfl
theorem yS_73 : yS 1000073 [108, 101, 116, 116, 101, 114, 115] := by
  intro N h
  refine ⟨rfl, fun i hi => ?_⟩
  change i < 7 at hi
  have c : i = 0 ∨ i = 1 ∨ i = 2 ∨ i = 3 ∨ i = 4 ∨ i = 5 ∨ i = 6 := by omega
  rcases c with e | e | e | e | e | e | e <;> subst e <;> rfl
theorem yS_cls (i : Nat) (hi : i < 12) : yS (1000021 + 2 * i) (yt_words.getD i []) := by
  have c : i = 0 ∨ i = 1 ∨ i = 2 ∨ i = 3 ∨ i = 4 ∨ i = 5 ∨ i = 6 ∨ i = 7 ∨ i = 8 ∨ i = 9 ∨ i = 10 ∨ i = 11 := by omega
  rcases c with e | e | e | e | e | e | e | e | e | e | e | e <;> subst e
  · exact yS_21
  · exact yS_23
  · exact yS_25
  · exact yS_27
  · exact yS_29
  · exact yS_31
  · exact yS_33
  · exact yS_35
  · exact yS_37
  · exact yS_39
  · exact yS_41
  · exact yS_43
theorem yS_ref (i : Nat) (hi : i < 12) : yS (1000049 + 2 * i) (yt_words.getD i []) := by
  have c : i = 0 ∨ i = 1 ∨ i = 2 ∨ i = 3 ∨ i = 4 ∨ i = 5 ∨ i = 6 ∨ i = 7 ∨ i = 8 ∨ i = 9 ∨ i = 10 ∨ i = 11 := by omega
  rcases c with e | e | e | e | e | e | e | e | e | e | e | e <;> subst e
  · exact yS_49
  · exact yS_51
  · exact yS_53
  · exact yS_55
  · exact yS_57
  · exact yS_59
  · exact yS_61
  · exact yS_63
  · exact yS_65
  · exact yS_67
  · exact yS_69
  · exact yS_71
theorem yt_wl (i : Nat) (hi : i < 12) : (yt_words.getD i []).length ≤ 7 ∧ ∀ v ∈ yt_words.getD i [], v < 256 := by
  have h := List.all_eq_true.mp (show ((List.range 12).all fun i => decide ((yt_words.getD i []).length ≤ 7) && (yt_words.getD i []).all fun v => decide (v < 256)) = true by decide) i (List.mem_range.mpr hi)
  rw [Bool.and_eq_true, List.all_eq_true] at h
  exact ⟨of_decide_eq_true h.1, fun v hv => of_decide_eq_true (h.2 v hv)⟩
section YCG
variable {N : Nat} {h : zH} {q n : Nat} {s : List Nat}
/-- a word's bytes against a string's, from i on -/
theorem yS_15 (W : zw_W h q n s) {l3 : Nat} {b : List Nat} (hS : yS l3 b) (hb : b.length ≤ 20 ∧ ∀ v ∈ b, v < 256) {x y : Nat} (hy : y ≤ s.length) (hl : y - x = b.length) (hxy : x ≤ y) : ∀ c f i, i + c = b.length → c < f → (∀ j, j < i → s.getD (x + j) 0 = b.getD j 0) → fW_equalsString_15 N f q (Int32.ofInt (x : Int)) l3 (Int32.ofInt (i : Int)) h = some (cond (decide (zw_p s x y = b)) (Int32.ofInt 1) (Int32.ofInt 0), h) := by
  have l6 := W.2.2.2.1
  have n6 := W.2.2.2.2.1
  obtain ⟨s1, s2⟩ := hS N h
  have pl := zw_pl s x y hy
  intro c
  induction c with
  | zero =>
    intro f i h1 h2 h3
    obtain ⟨g, rfl⟩ : ∃ g, f = g + 1 := ⟨f - 1, by omega⟩
    have e : zw_p s x y = b := zm_same (by omega) (fun j hj => by
      rw [pl] at hj
      rw [zw_pd hj]
      exact h3 j (by omega))
    rw [fW_equalsString_15, s1, b2, zqo_ge _ _ (by omega) (by omega), decide_eq_true (by omega), cond_true, decide_eq_true e, cond_true]
  | succ c ih =>
    intro f i h1 h2 h3
    obtain ⟨g, rfl⟩ : ∃ g, f = g + 1 := ⟨f - 1, by omega⟩
    have g1 := zw_gD W.2.2.2.2.2 (x + i)
    have g2 := zw_gD hb.2 i
    rw [fW_equalsString_15, s1, b2, zqo_ge _ _ (by omega) (by omega), decide_eq_false (by omega), cond_false, zw_add, zw_at W _ (by omega), b2, zw_gi (by omega), show ((x : Int) + (i : Int)).toNat = x + i by omega, s2 i (by omega), b2, zqo_eq _ _ (by omega) (by omega)]
    by_cases e : s.getD (x + i) 0 = b.getD i 0
    · rw [decide_eq_true (by omega), cond_true, zh_inc]
      refine ih g (i + 1) (by omega) (by omega) (fun j hj => ?_)
      by_cases e2 : j = i
      · rw [e2]
        exact e
      · exact h3 j (by omega)
    · have e3 : ¬ zw_p s x y = b := fun z => e (by
        rw [← z, zw_pd (by omega)])
      rw [decide_eq_false (by omega), cond_false, decide_eq_false e3, cond_false]
theorem yS_eq (W : zw_W h q n s) (hN : 1000 ≤ N) {l3 : Nat} {b : List Nat} (hS : yS l3 b) (hb : b.length ≤ 20 ∧ ∀ v ∈ b, v < 256) {x y : Nat} (hxy : x ≤ y) (hy : y ≤ s.length) : fW_equalsString N q (Int32.ofInt (x : Int)) (Int32.ofInt (y : Int)) l3 h = some (cond (decide (zw_p s x y = b)) (Int32.ofInt 1) (Int32.ofInt 0), h) := by
  have l6 := W.2.2.2.1
  have n6 := W.2.2.2.2.1
  have pl := zw_pl s x y hy
  unfold fW_equalsString
  rw [zw_T W, cond_true, (hS N h).1, b2, zw_sub, zqo_eq _ _ (by omega) (by omega)]
  by_cases e : y - x = b.length
  · rw [decide_eq_true (by omega), cond_true]
    exact yS_15 W hS hb hy e hxy b.length N 0 (by omega) (by omega) (fun j hj => absurd hj (Nat.not_lt_zero j))
  · have e3 : ¬ zw_p s x y = b := fun z => e (by rw [← z, pl])
    rw [decide_eq_false (by omega), cond_false, decide_eq_false e3, cond_false]
/-- the command's cells -/
theorem yD_cells (i : Nat) (hi : i < 12) (h : zH) : fAR h 1000012 106 (Int32.ofInt (i : Int)) = some (1000000 + i) ∧ fX h (1000000 + i) = true ∧ fR h (1000000 + i) 51 0 = some (1000021 + 2 * i) := by
  have c : i = 0 ∨ i = 1 ∨ i = 2 ∨ i = 3 ∨ i = 4 ∨ i = 5 ∨ i = 6 ∨ i = 7 ∨ i = 8 ∨ i = 9 ∨ i = 10 ∨ i = 11 := by omega
  rcases c with e | e | e | e | e | e | e | e | e | e | e | e <;> subst e <;> exact ⟨rfl, rfl, rfl⟩
theorem yt_drop {i : Nat} (hi : i < 12) : yt_words.drop i = yt_words.getD i [] :: yt_words.drop (i + 1) := by
  rw [List.drop_eq_getElem_cons (show i < yt_words.length from hi), List.getD_eq_getElem?_getD, List.getElem?_eq_getElem (show i < yt_words.length from hi)]
  rfl
theorem yD_11 (W : zw_W h q n s) (hN : 1000 ≤ N) {x y : Nat} (hxy : x ≤ y) (hy : y ≤ s.length) : ∀ c f i : Nat, i + c = 12 → c < f → fD_find_11 N f q (Int32.ofInt (x : Int)) (Int32.ofInt (y : Int)) 1000012 (Int32.ofInt 12) (Int32.ofInt (i : Int)) h = some (if yt_ix (zw_p s x y) (yt_words.drop i) i < 12 then some (1000000 + yt_ix (zw_p s x y) (yt_words.drop i) i) else none, h) := by
  intro c
  induction c with
  | zero =>
    intro f i h1 h2
    obtain ⟨g, rfl⟩ : ∃ g, f = g + 1 := ⟨f - 1, by omega⟩
    have : i = 12 := by omega
    subst this
    rw [fD_find_11, zqo_ge _ _ (by omega) (by decide), decide_eq_true (by omega), cond_true]
    rfl
  | succ c ih =>
    intro f i h1 h2
    obtain ⟨g, rfl⟩ : ∃ g, f = g + 1 := ⟨f - 1, by omega⟩
    obtain ⟨d1, d2, d3⟩ := yD_cells i (by omega) h
    have w := yt_wl i (by omega)
    rw [fD_find_11, zqo_ge _ _ (by omega) (by decide), decide_eq_false (by omega), cond_false, d1, b1_s, d2, cond_true, d3, b1_s, yS_eq W hN (yS_cls i (by omega)) ⟨by omega, w.2⟩ hxy hy, b2, yt_drop (show i < 12 by omega), yt_ix]
    by_cases e : zw_p s x y = yt_words.getD i []
    · rw [decide_eq_true e, cond_true, show z_cmp .eq (Int32.ofInt 1) (Int32.ofInt 0) = false from rfl, cond_false, if_pos e, if_pos (by omega)]
    · rw [decide_eq_false e, cond_false, show z_cmp .eq (Int32.ofInt 0) (Int32.ofInt 0) = true from rfl, cond_true, if_neg e, fD_find_46, zh_inc]
      exact ih g (i + 1) (by omega) (by omega)
theorem yD_find (W : zw_W h q n s) (hN : 1000 ≤ N) {x y : Nat} (hxy : x ≤ y) (hy : y ≤ s.length) : fD_find N q (Int32.ofInt (x : Int)) (Int32.ofInt (y : Int)) h = some (if yt_cmd (zw_p s x y) < 12 then some (1000000 + yt_cmd (zw_p s x y)) else none, h) := by
  unfold fD_find
  rw [show fN h 1000012 106 = some (Int32.ofInt 12) from rfl, b1_s]
  exact yD_11 W hN hxy hy 12 N 0 rfl (by omega)
end YCG
