/-! THE REFERENCE'S CHANGES, as they are seen. -/
theorem zy_isT {g g' : Nat → Int} {A : zA} {T : List Nat} (h : zy_is g A) (h1 : g' 1 = (T.length : Int)) (h2 : ∀ i, i < T.length → g' (3 + i) = (T.getD i 0 : Int) - 97) (e : ∀ j, j ≠ 1 → (j < 3 ∨ 123 ≤ j) → g' j = g j) : zy_is g' (A.1, T, A.2.2) := by
  obtain ⟨a1, a2, a3, a4, a5⟩ := h
  exact ⟨(e 0 (by decide) (by decide)).trans a1, h1, h2, (e 2 (by decide) (by decide)).trans a4, fun k hk => ⟨(e _ (by omega) (by omega)).trans (a5 k hk).1, fun i hi => (e _ (by omega) (by omega)).trans ((a5 k hk).2 i hi)⟩⟩
section ZYC
variable {N : Nat} {h : zH} {fl fl' : Nat → Int} {a a' : Nat → Nat → Int} {bef now snap : zA} {hist : List zA} {sv t : Int} {inp : List Nat} {rep : zvP}
theorem zyR_a (R : zyR fl a now hist snap sv inp rep t) (f : ∀ k, k = 4 ∨ k = 5 ∨ k = 10 ∨ k = 12 ∨ k = 13 ∨ k = 16 ∨ k = 17 → fl' k = fl k) (g : ∀ p i, p = 235 ∨ p = 236 ∨ p = 237 ∨ p = 241 → a' p i = a p i) {now' : zA} (n : zy_is (a' 233) now') : zyR fl' a' now' hist snap sv inp rep t := by
  obtain ⟨r1, r2, r3, r4, r5, r6, r7, r8⟩ := R
  have g5 : a' 235 = a 235 := funext fun i => g 235 i (by decide)
  have g6 : a' 236 = a 236 := funext fun i => g 236 i (by decide)
  have g7 : a' 237 = a 237 := funext fun i => g 237 i (by decide)
  have g8 : a' 241 = a 241 := funext fun i => g 241 i (by decide)
  refine ⟨n, (f 4 (by decide)).trans r2, ?_, (f 5 (by decide)).trans r4, ?_, ⟨(f 10 (by decide)).trans r6.1, ?_⟩, ⟨⟨(f 16 (by decide)).trans r7.1.1, (f 12 (by decide)).trans r7.1.2.1, (f 13 (by decide)).trans r7.1.2.2⟩, ?_⟩, (f 17 (by decide)).trans r8⟩
  · rw [g5]
    exact r3
  · rw [g6]
    exact r5
  · rw [g7]
    exact r6.2
  · rw [g8]
    exact r7.2
theorem zyR_Q (R : zyR fl a now hist snap sv inp rep t) (q : zr_Q fl a fl' a') : zyR fl' a' now hist snap sv inp rep t := by
  refine zyR_a R (fun k hk => q.1 k (by omega)) (fun p i hp => q.2 p i (by omega) (by omega)) ?_
  rw [show a' 233 = a 233 from funext fun i => q.2 233 i (by decide) (by decide)]
  exact R.1
theorem zyR_t (R : zyR fl a now hist snap sv inp rep t) (x : Int) : zyR (zr_u fl 17 x) a now hist snap sv inp rep x := ⟨R.1, R.2.1, R.2.2.1, R.2.2.2.1, R.2.2.2.2.1, R.2.2.2.2.2.1, R.2.2.2.2.2.2.1, rfl⟩
theorem zyR_tx (R : zyR fl a now hist snap sv inp rep t) : zr_tx a now.2.1 := ⟨R.1.2.1, R.1.2.2.1⟩
theorem zy_throw (Y : zy h now hist snap sv inp rep t) (x : Int) : ∃ h', fS h 232 5 17 (.int (Int32.ofInt x)) = some h' ∧ zy h' now hist snap sv inp rep x ∧ zr_F h h' := by
  obtain ⟨fl, a, H, R⟩ := Y
  obtain ⟨h1, e1, H1, F1⟩ := zr_s H 17 rfl x
  exact ⟨h1, e1, ⟨_, _, H1, zyR_t R x⟩, F1⟩
theorem zy_begins (hN : 1000 ≤ N) (Y : zy h now hist snap sv inp rep t) (ok : zv_ok now) : ∃ h', fM_begins N 232 h = some ((), h') ∧ zyp h' now now hist snap sv inp rep t ∧ zr_F h h' := by
  obtain ⟨fl, a, H, R⟩ := Y
  obtain ⟨h1, a1, e1, H1, F1, p1, q1⟩ := zr_begins hN H
  have r1 := zy_isC ok R.1 (g' := a1 233) (fun j _ => p1 233 j (by decide))
  exact ⟨h1, e1, ⟨fl, a1, H1, zyR_a R (fun _ _ => rfl) (fun p i hp => p1 p i (by omega)) r1, zy_isC ok R.1 q1⟩, F1⟩
theorem zyR_h {hist' : List zA} (R : zyR fl a now hist snap sv inp rep t) (f : ∀ k, k ≠ 4 → fl' k = fl k) (g : ∀ p i, p ≠ 235 → a' p i = a p i) (f4 : fl' 4 = (hist'.length : Int)) (rows : ∀ (i : Nat) (A : zA), hist'[i]? = some A → zy_is (fun j => a' 235 (451 * i + j)) A) : zyR fl' a' now hist' snap sv inp rep t := by
  obtain ⟨r1, r2, r3, r4, r5, r6, r7, r8⟩ := R
  have g3 : a' 233 = a 233 := funext fun i => g 233 i (by decide)
  have g6 : a' 236 = a 236 := funext fun i => g 236 i (by decide)
  have g7 : a' 237 = a 237 := funext fun i => g 237 i (by decide)
  have g8 : a' 241 = a 241 := funext fun i => g 241 i (by decide)
  refine ⟨?_, f4, rows, (f 5 (by decide)).trans r4, ?_, ⟨(f 10 (by decide)).trans r6.1, ?_⟩, ⟨⟨(f 16 (by decide)).trans r7.1.1, (f 12 (by decide)).trans r7.1.2.1, (f 13 (by decide)).trans r7.1.2.2⟩, ?_⟩, (f 17 (by decide)).trans r8⟩
  · rw [g3]
    exact r1
  · rw [g6]
    exact r5
  · rw [g7]
    exact r6.2
  · rw [g8]
    exact r7.2
theorem zy_remember (hN : 4000 ≤ N) (Y : zyp h bef now hist snap sv inp rep t) (okb : zv_ok bef) (okh : ∀ (i : Nat) (A : zA), hist[i]? = some A → zv_ok A) (h8 : hist.length ≤ 8) (r : Int32) : ∃ h', fM_remember N 232 r h = some (r, h') ∧ zy h' now (zv_push hist bef) snap sv inp rep t ∧ zr_F h h' := by
  obtain ⟨fl, a, H, R, B⟩ := Y
  have h4 := R.2.1
  unfold fM_remember
  rw [zr_T H, cond_true, zr_i H 4 rfl, b1_s, h4, zqo_ne _ _ (by omega) (by decide)]
  have pl := zv_pushl (A := bef) h8
  by_cases e : hist.length = 8
  · rw [decide_eq_true (by omega)]
    rw [e] at h4 pl
    obtain ⟨h1, a1, e1, H1, F1, p1, q1, s1⟩ := zr_rem13 (N := N) (r := r) hN h4 3157 N 451 h a H (by omega) (by omega) (by omega) (fun j hj => by
      by_cases e2 : j + 451 < 451
      · omega
      · rw [if_neg e2]) (fun _ _ _ => rfl)
    refine ⟨h1, e1, ⟨_, _, H1, zyR_h R (fun k hk => if_neg hk) p1 (by rw [pl]; rfl) ?_⟩, F1⟩
    intro i A hA
    unfold zv_push at hA
    rw [if_pos e] at hA
    have hl : hist.tail.length = 7 := by rw [List.length_tail, e]
    by_cases ei : i < 7
    · rw [List.getElem?_append_left (by omega), List.getElem?_tail] at hA
      refine zy_isC (okh _ _ hA) (R.2.2.1 _ _ hA) (fun j hj => ?_)
      show a1 235 (451 * i + j) = _
      rw [q1 _ (by omega), show 451 * i + j + 451 = 451 * (i + 1) + j by omega]
    · by_cases e7 : i = 7
      · subst e7
        rw [List.getElem?_append_right (by omega), hl] at hA
        have hA : some bef = some A := hA
        rw [← Option.some.inj hA]
        exact zy_isC okb B (fun j hj => s1 j hj)
      · rw [List.getElem?_eq_none (by rw [List.length_append, hl]; show 7 + 1 ≤ i; omega)] at hA
        exact absurd hA (by simp)
  · rw [decide_eq_false (by omega)]
    obtain ⟨h1, a1, e1, H1, F1, p1, q1⟩ := zr_rem54 (N := N) (r := r) (c0 := hist.length) (by omega) h4 451 N 0 h a H (by omega) (by omega) (fun j hj => absurd hj (Nat.not_lt_zero j))
    refine ⟨h1, e1, ⟨_, _, H1, zyR_h R (fun k hk => if_neg hk) (fun p i hp => p1 p i (Or.inl hp)) ?_ ?_⟩, F1⟩
    · rw [pl, show min hist.length 7 + 1 = hist.length + 1 by omega]
      rfl
    intro i A hA
    unfold zv_push at hA
    rw [if_neg e] at hA
    by_cases ei : i < hist.length
    · rw [List.getElem?_append_left ei] at hA
      refine zy_isC (okh _ _ hA) (R.2.2.1 _ _ hA) (fun j hj => ?_)
      exact p1 235 _ (Or.inr (Or.inl (by omega)))
    · by_cases e7 : i = hist.length
      · subst e7
        rw [List.getElem?_append_right (by omega), Nat.sub_self] at hA
        have hA : some bef = some A := hA
        rw [← Option.some.inj hA]
        exact zy_isC okb B (fun j hj => q1 j hj)
      · rw [List.getElem?_eq_none (by rw [List.length_append]; show hist.length + 1 ≤ i; omega)] at hA
        exact absurd hA (by simp)
/-- the row becomes the text -/
theorem zy_takes (hN : 1000 ≤ N) (H : zr h fl a) (R : zyR fl a now hist snap sv inp rep t) (B : zy_is (a 234) bef) {T : List Nat} (r : zr_rw fl a T) (hL : T.length ≤ 120) (hv : ∀ v ∈ T, v < 256) : ∃ h', (∃ h1, fM_takes N 232 h = some (Int32.ofInt (T.length : Int), h1) ∧ fM_factors N 232 h1 = some (Int32.ofInt ((zw_fs T).length : Int), h')) ∧ zyp h' bef (now.1, T, now.2.2) hist snap sv inp rep t ∧ zr_F h h' := by
  obtain ⟨h1, a1, e1, H1, F1, p1, t1⟩ := zr_takes hN H r hL
  obtain ⟨h2, f2, a2, e2, H2, F2, Q2, _, _⟩ := zr_factors hN H1 t1 ⟨by omega, hv⟩ hL
  have n1 : zy_is (a1 233) (now.1, T, now.2.2) := zy_isT R.1 t1.1 t1.2 (fun j h3 h4 => p1 233 j (Or.inr ⟨h3, h4⟩))
  have R1 := zyR_a (fl' := fl) (a' := a1) (now' := (now.1, T, now.2.2)) R (fun _ _ => rfl) (fun p i hp => p1 p i (Or.inl (by omega))) n1
  refine ⟨h2, ⟨h1, e1, e2⟩, ⟨f2, a2, H2, zyR_Q R1 Q2, ?_⟩, zr_Ft F1 F2⟩
  rw [show a2 234 = a 234 from funext fun i => (Q2.2 234 i (by decide) (by decide)).trans (p1 234 i (Or.inl (by decide)))]
  exact B
theorem zy_appends (hN : 1000 ≤ N) (Y : zyp h bef now hist snap sv inp rep t) (ok : zv_ok now) (hL : now.2.1.length < 120) (v : Nat) (hv : v < 256) : ∃ h', fM_appends N 232 (Int32.ofInt ((v : Int) - 97)) h = some (Int32.ofInt ((zw_fs (now.2.1 ++ [v])).length : Int), h') ∧ zyp h' bef (now.1, now.2.1 ++ [v], now.2.2) hist snap sv inp rep t ∧ zr_F h h' := by
  obtain ⟨fl, a, H, R, B⟩ := Y
  obtain ⟨h1, f1, a1, e1, H1, F1, Q1, r1⟩ := zr_loads hN H (zyR_tx R) (by omega)
  obtain ⟨h2, f2, a2, e2, H2, F2, Q2, r2⟩ := zr_adds (N := N) H1 r1 (by omega) v
  have Q := zr_Qt Q1 Q2
  have hl : (now.2.1 ++ [v]).length = now.2.1.length + 1 := List.length_append
  have o1 := ok.1.2
  obtain ⟨h3, ⟨h4, e4, e5⟩, Y3, F3⟩ := zy_takes hN H2 (zyR_Q R Q) (by rw [show a2 234 = a 234 from funext fun i => Q.2 234 i (by decide) (by decide)]; exact B) r2 (by omega) (fun u hu => by
    rw [List.mem_append, List.mem_singleton] at hu
    rcases hu with hu | hu
    · have := ok.2.2.1 u hu
      omega
    · omega)
  refine ⟨h3, ?_, Y3, zr_Ft F1 (zr_Ft F2 F3)⟩
  unfold fM_appends
  rw [zr_T H, cond_true, e1, b2, e2, b2, e4, b2, e5]
  rfl
end ZYC
