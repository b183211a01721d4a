/-! THE REFERENCE AS IT IS SEEN. -/
/-- a row of numbers holds a state -/
def zy_is (g : Nat → Int) (A : zA) : Prop := g 0 = (A.1 : Int) ∧ g 1 = (A.2.1.length : Int) ∧ (∀ i, i < A.2.1.length → g (3 + i) = (A.2.1.getD i 0 : Int) - 97) ∧ g 2 = (A.2.2.length : Int) ∧ ∀ k, k < A.2.2.length → g (123 + k) = ((A.2.2.getD k []).length : Int) ∧ ∀ i, i < (A.2.2.getD k []).length → g (131 + 40 * k + i) = ((A.2.2.getD k []).getD i 0 : Int) - 97
/-- what the reference's numbers and arrays say -/
def zyR (fl : Nat → Int) (a : Nat → Nat → Int) (now : zA) (hist : List zA) (snap : zA) (sv : Int) (inp : List Nat) (rep : zvP) (t : Int) : Prop := zy_is (a 233) now ∧ fl 4 = (hist.length : Int) ∧ (∀ (i : Nat) (A : zA), hist[i]? = some A → zy_is (fun j => a 235 (451 * i + j)) A) ∧ fl 5 = sv ∧ (sv = 1 → zy_is (a 236) snap) ∧ (fl 10 = (inp.length : Int) ∧ ∀ i, i < inp.length → a 237 i = (inp.getD i 0 : Int)) ∧ ((fl 16 = (rep.1.length : Int) ∧ fl 12 = rep.2.1 ∧ fl 13 = rep.2.2) ∧ ∀ i, i < rep.1.length → a 241 i = (rep.1.getD i 0 : Int)) ∧ fl 17 = t
def zy (h : zH) (now : zA) (hist : List zA) (snap : zA) (sv : Int) (inp : List Nat) (rep : zvP) (t : Int) : Prop := ∃ fl a, zr h fl a ∧ zyR fl a now hist snap sv inp rep t
/-- the same, and what was before is laid by -/
def zyp (h : zH) (bef now : zA) (hist : List zA) (snap : zA) (sv : Int) (inp : List Nat) (rep : zvP) (t : Int) : Prop := ∃ fl a, zr h fl a ∧ zyR fl a now hist snap sv inp rep t ∧ zy_is (a 234) bef
theorem zy_isC {g g' : Nat → Int} {A : zA} (ok : zv_ok A) (h : zy_is g A) (e : ∀ j, j < 451 → g' j = g j) : zy_is g' A := by
  obtain ⟨h1, h2, h3, h4, h5⟩ := h
  have o2 := ok.2.1
  have o4 := ok.2.2.2.1
  refine ⟨(e 0 (by decide)).trans h1, (e 1 (by decide)).trans h2, fun i hi => (e _ (by omega)).trans (h3 i hi), (e 2 (by decide)).trans h4, fun k hk => ?_⟩
  have hw : A.2.2.getD k [] ∈ A.2.2 := by
    rw [List.getD_eq_getElem?_getD, List.getElem?_eq_getElem hk]
    exact List.getElem_mem hk
  have o5 := (ok.2.2.2.2 _ hw).2.1
  exact ⟨(e _ (by omega)).trans (h5 k hk).1, fun i hi => (e _ (by omega)).trans ((h5 k hk).2 i hi)⟩
theorem zr_frame {h h' : zH} {fl : Nat → Int} {a : Nat → Nat → Int} (H : zr h fl a) (f : ∀ p, 232 ≤ p → p ≤ 242 → h'[p]? = h[p]?) : zr h' fl a := by
  refine ⟨(f 232 (by decide) (by decide)).trans H.1, fun p h1 h2 => ?_⟩
  obtain ⟨R, r1, r2⟩ := H.2 p h1 h2
  exact ⟨R, (f p (by omega) h2).trans r1, r2⟩
/-- the class's cells have changed -/
theorem zy_frame {h h' : zH} {now snap : zA} {hist : List zA} {sv t : Int} {inp : List Nat} {rep : zvP} (Y : zy h now hist snap sv inp rep t) (f : zc_F h h') : zy h' now hist snap sv inp rep t := by
  obtain ⟨fl, a, H, r⟩ := Y
  exact ⟨fl, a, zr_frame H (fun p h1 h2 => f.2 p h1), r⟩
theorem zw_frame {h h' : zH} {q n : Nat} {l : List Nat} (H : zw_W h q n l) (f : h'[q]? = h[q]?) (f2 : h'[q + 1]? = h[q + 1]?) : zw_W h' q n l := by
  obtain ⟨a1, a2, ⟨R, a3, a4⟩, a5⟩ := H
  exact ⟨a1, f.trans a2, ⟨R, f2.trans a3, a4⟩, a5⟩
/-- the reference's cells have changed -/
theorem zv_frame {h h' : zH} {now snap : zA} {hist : List zA} {sv : Int} {inp : List Nat} {rep : zvP} (V : zv h now hist snap sv inp rep) (f : ∀ p, p < 232 → h'[p]? = h[p]?) : zv h' now hist snap sv inp rep := by
  obtain ⟨sL, sT, sS, sK, wd, nu, hs, ⟨c1, c2, c3, c4, c5, c6, c7, c8, c9⟩, v⟩ := V
  refine ⟨sL, sT, sS, sK, wd, nu, hs, ⟨(f _ (by decide)).trans c1, (f _ (by decide)).trans c2, (f _ (by decide)).trans c3, (f _ (by decide)).trans c4, (f _ (by decide)).trans c5, (f _ (by decide)).trans c6, ?_, ?_, c9⟩, v⟩
  · intro q hq
    have b := zc_Qb hq
    obtain ⟨a1, a2, a3, a4, a5, a6⟩ := c7 q hq
    exact ⟨a1, (f q (by omega)).trans a2, (f (q + 3) (by omega)).trans a3, zw_frame a4 (f _ (by omega)) (f _ (by omega)), fun i hi => zw_frame (a5 i hi) (f _ (by omega)) (f _ (by omega)), a6⟩
  · intro o n ho
    have b : o = 204 ∨ o = 228 ∨ o = 230 := by rcases ho with ⟨ho, _⟩ | ⟨ho, _⟩ | ⟨ho, _⟩ <;> omega
    exact zw_frame (c8 o n ho) (f _ (by omega)) (f _ (by omega))
theorem zh_mul (a i c : Nat) : Int32.ofInt (a : Int) * Int32.ofInt (c : Int) + Int32.ofInt (i : Int) = Int32.ofInt ((a * c + i : Nat) : Int) := by
  rw [← Int32.ofInt_mul, ← Int32.ofInt_add]
  congr 1
section ZRV
variable {N : Nat}
theorem zr_rem54 {r : Int32} {c0 : Nat} (hc : c0 < 8) {fl : Nat → Int} (h4 : fl 4 = (c0 : Int)) : ∀ (c f i : Nat) (h : zH) (a : Nat → Nat → Int), zr h fl a → i + c = 451 → c < f → (∀ j, j < i → a 235 (451 * c0 + j) = a 234 j) → ∃ h' a', fM_remember_54 N f 232 r (Int32.ofInt (i : Int)) h = some (r, h') ∧ zr h' (zr_u fl 4 ((c0 : Int) + 1)) a' ∧ zr_F h h' ∧ (∀ p j, (p ≠ 235 ∨ j < 451 * c0 ∨ 451 * c0 + 451 ≤ j) → a' p j = a p j) ∧ ∀ j, j < 451 → a' 235 (451 * c0 + j) = a 234 j := by
  intro c
  induction c with
  | zero =>
    intro f i h a H h1 h2 h3
    obtain ⟨g, rfl⟩ : ∃ g, f = g + 1 := ⟨f - 1, by omega⟩
    obtain ⟨h5, e5, H5, F5⟩ := zr_s H 4 rfl ((c0 : Int) + 1)
    refine ⟨h5, a, ?_, H5, F5, fun _ _ _ => rfl, fun j hj => h3 j (by omega)⟩
    rw [fM_remember_54, zqo_ge _ _ (by omega) (by decide), decide_eq_true (by omega), cond_true, zr_i H 4 rfl, b1_s, h4, zw_add, e5, b1_s]
  | succ c ih =>
    intro f i h a H h1 h2 h3
    obtain ⟨g, rfl⟩ : ∃ g, f = g + 1 := ⟨f - 1, by omega⟩
    obtain ⟨h5, e5, H5, F5⟩ := zr_p H 235 (451 * c0 + i) (by decide) (by decide) (by show 451 * c0 + i < 3608; omega) (a 234 i)
    obtain ⟨h6, a6, e6, H6, F6, p6, r6⟩ := ih g (i + 1) h5 _ H5 (by omega) (by omega) (fun j hj => by
      by_cases e : j = i
      · subst e
        rw [zr_vs]
        rfl
      · rw [zr_vn a _ (Or.inr (by omega))]
        exact h3 j (by omega))
    refine ⟨h6, a6, ?_, H6, zr_Ft F5 F6, fun p j hp => (p6 p j hp).trans (zr_vn a _ (by omega)), r6⟩
    have g1 := zr_g H 234 i (by decide) (by decide) (by show i < 451; omega)
    rw [fM_remember_54, zqo_ge _ _ (by omega) (by decide), decide_eq_false (by omega), cond_false, zr_r2 H, b1_s, zr_i H 4 rfl, b1_s, h4, zr_r1 H, b1_s]
    show b1 (fAI h 234 (zr_t 234) (Int32.ofInt (i : Int))) _ = _
    rw [g1, b1_s, show Int32.ofInt 451 * Int32.ofInt (c0 : Int) + Int32.ofInt (i : Int) = Int32.ofInt ((451 * c0 + i : Nat) : Int) from zh_mul 451 i c0]
    show b1 (fAS h 235 (zr_t 235) (Int32.ofInt ((451 * c0 + i : Nat) : Int)) (.int (Int32.ofInt (a 234 i)))) _ = _
    rw [e5, b1_s, zh_inc]
    exact e6
theorem zr_rem13 {r : Int32} (hN : 4000 ≤ N) {fl : Nat → Int} (h4 : fl 4 = 8) {a0 : Nat → Nat → Int} : ∀ (c f k : Nat) (h : zH) (a : Nat → Nat → Int), zr h fl a → k + c = 3608 → 451 ≤ k → c < f → (∀ j, j < 3608 → a 235 j = if j + 451 < k then a0 235 (j + 451) else a0 235 j) → (∀ p j, p ≠ 235 → a p j = a0 p j) → ∃ h' a', fM_remember_13 N f 232 r (Int32.ofInt (k : Int)) h = some (r, h') ∧ zr h' (zr_u fl 4 8) a' ∧ zr_F h h' ∧ (∀ p j, p ≠ 235 → a' p j = a0 p j) ∧ (∀ j, j < 3157 → a' 235 j = a0 235 (j + 451)) ∧ ∀ j, j < 451 → a' 235 (3157 + j) = a0 234 j := by
  intro c
  induction c with
  | zero =>
    intro f k h a H h1 h2 h3 h5 h6
    obtain ⟨g, rfl⟩ : ∃ g, f = g + 1 := ⟨f - 1, by omega⟩
    obtain ⟨h7, e7, H7, F7⟩ := zr_s H 4 rfl 7
    obtain ⟨h8, a8, e8, H8, F8, p8, r8⟩ := zr_rem54 (N := N) (r := r) (c0 := 7) (by omega) (fl := zr_u fl 4 7) rfl 451 N 0 h7 a H7 (by omega) (by omega) (fun j hj => absurd hj (Nat.not_lt_zero j))
    have eu : zr_u (zr_u fl 4 7) 4 (((7 : Nat) : Int) + 1) = zr_u fl 4 8 := by
      funext x
      unfold zr_u
      by_cases e : x = 4
      · rw [if_pos e, if_pos e]
        rfl
      · rw [if_neg e, if_neg e, if_neg e]
    rw [eu] at H8
    refine ⟨h8, a8, ?_, H8, zr_Ft F7 F8, fun p j hp => (p8 p j (Or.inl hp)).trans (h6 p j hp), fun j hj => ?_, fun j hj => ?_⟩
    · rw [fM_remember_13, zqo_ge _ _ (by omega) (by decide), decide_eq_true (by omega), cond_true, zr_i H 4 rfl, b1_s, h4, zw_sub, show (8 : Int) - 1 = 7 by decide, e7, b1_s]
      exact e8
    · rw [p8 235 j (by omega), h5 j (by omega), if_pos (by omega)]
    · have := r8 j hj
      rw [show 451 * 7 + j = 3157 + j by omega] at this
      rw [this, h6 234 j (by decide)]
  | succ c ih =>
    intro f k h a H h1 h2 h3 h5 h6
    obtain ⟨g, rfl⟩ : ∃ g, f = g + 1 := ⟨f - 1, by omega⟩
    have g1 := zr_g H 235 k (by decide) (by decide) (by show k < 3608; omega)
    obtain ⟨h7, e7, H7, F7⟩ := zr_p H 235 (k - 451) (by decide) (by decide) (by show k - 451 < 3608; omega) (a 235 k)
    obtain ⟨h8, a8, e8, H8, F8, p8, q8, r8⟩ := ih g (k + 1) h7 _ H7 (by omega) (by omega) (by omega) (fun j hj => by
      by_cases e : j = k - 451
      · rw [e, zr_vs, if_pos (by omega), h5 k (by omega), if_neg (by omega), show k - 451 + 451 = k by omega]
      · rw [zr_vn a _ (Or.inr e), h5 j hj]
        by_cases e2 : j + 451 < k
        · rw [if_pos e2, if_pos (by omega)]
        · rw [if_neg e2, if_neg (by omega)]) (fun p j hp => (zr_vn a _ (Or.inl hp)).trans (h6 p j hp))
    refine ⟨h8, a8, ?_, H8, zr_Ft F7 F8, p8, q8, r8⟩
    rw [fM_remember_13, zqo_ge _ _ (by omega) (by decide), decide_eq_false (by omega), cond_false, zr_r2 H, b1_s, b1_s]
    show b1 (fAI h 235 (zr_t 235) (Int32.ofInt (k : Int))) _ = _
    rw [g1, b1_s, zw_sub, show (k : Int) - 451 = ((k - 451 : Nat) : Int) by omega]
    show b1 (fAS h 235 (zr_t 235) (Int32.ofInt ((k - 451 : Nat) : Int)) (.int (Int32.ofInt (a 235 k)))) _ = _
    rw [e7, b1_s, zh_inc]
    exact e8
end ZRV
