/-! THE REFERENCE'S removeKept AND setLetters. -/
theorem zy_isE {g g' : Nat → Int} {A : zA} {x : Nat} (ok : zv_ok A) (h : zy_is g A) (hx : x < A.2.2.length) (h2 : g' 2 = ((A.2.2.length - 1 : Nat) : Int)) (e : ∀ j, ((j ≠ 2 ∧ j < 123 + x) ∨ (131 ≤ j ∧ j < 131 + 40 * x)) → g' j = g j) (r : ∀ k, x ≤ k → k < A.2.2.length - 1 → g' (123 + k) = g (123 + (k + 1)) ∧ ∀ m, m < 40 → g' (131 + 40 * k + m) = g (131 + 40 * (k + 1) + m)) : zy_is g' (A.1, A.2.1, A.2.2.eraseIdx x) := by
  obtain ⟨a1, a2, a3, a4, a5⟩ := h
  have o2 := ok.2.1
  have hl : (A.2.2.eraseIdx x).length = A.2.2.length - 1 := by rw [List.length_eraseIdx, if_pos hx]
  refine ⟨(e 0 (by omega)).trans a1, (e 1 (by omega)).trans a2, fun i (hi : i < A.2.1.length) => (e _ (by omega)).trans (a3 i hi), by rw [h2, hl], fun k hk => ?_⟩
  have hk : k < A.2.2.length - 1 := hl ▸ hk
  show g' (123 + k) = (((A.2.2.eraseIdx x).getD k []).length : Int) ∧ ∀ i, i < ((A.2.2.eraseIdx x).getD k []).length → g' (131 + 40 * k + i) = (((A.2.2.eraseIdx x).getD k []).getD i 0 : Int) - 97
  by_cases ek : k < x
  · have ew : (A.2.2.eraseIdx x).getD k [] = A.2.2.getD k [] := by
      rw [List.getD_eq_getElem?_getD, List.getElem?_eraseIdx, if_pos ek, ← List.getD_eq_getElem?_getD]
    rw [ew]
    have hw : A.2.2.getD k [] ∈ A.2.2 := by
      rw [List.getD_eq_getElem?_getD, List.getElem?_eq_getElem (by omega)]
      exact List.getElem_mem _
    have o5 := (ok.2.2.2.2 _ hw).2.1
    have b5 := a5 k (by omega)
    exact ⟨(e _ (by omega)).trans b5.1, fun i hi => (e _ (by omega)).trans (b5.2 i hi)⟩
  · have ew : (A.2.2.eraseIdx x).getD k [] = A.2.2.getD (k + 1) [] := by
      rw [List.getD_eq_getElem?_getD, List.getElem?_eraseIdx, if_neg ek, ← List.getD_eq_getElem?_getD]
    rw [ew]
    have hw : A.2.2.getD (k + 1) [] ∈ A.2.2 := by
      rw [List.getD_eq_getElem?_getD, List.getElem?_eq_getElem (by omega)]
      exact List.getElem_mem _
    have o5 := (ok.2.2.2.2 _ hw).2.1
    have b5 := a5 (k + 1) (by omega)
    have r5 := r k (by omega) hk
    exact ⟨r5.1.trans b5.1, fun i hi => (r5.2 i (by omega)).trans (b5.2 i hi)⟩
section ZYK
variable {N : Nat} {h : zH} {fl fl' : Nat → Int} {a a' : Nat → Nat → Int} {bef now snap : zA} {hist : List zA} {sv t : Int} {inp : List Nat} {rep : zvP} {T : List Nat}
theorem zn_removeKept (Y : zy h now hist snap sv inp rep t) (o : zo now hist snap) (hN : 4000 ≤ N) (x : Int) (hx : -2147483648 ≤ x ∧ x < 2147483648) : (¬ (0 ≤ x ∧ x < (now.2.2.length : Int)) ∧ ∃ h', fM_removeKept N 232 (Int32.ofInt x) h = some (Int32.ofInt 0, h') ∧ zy h' now hist snap sv inp rep 1 ∧ zr_F h h') ∨ ((0 ≤ x ∧ x < (now.2.2.length : Int)) ∧ ∃ h', fM_removeKept N 232 (Int32.ofInt x) h = some (Int32.ofInt ((now.2.2.length - 1 : Nat) : Int), h') ∧ zy h' (now.1, now.2.1, now.2.2.eraseIdx x.toNat) (zv_push hist now) snap sv inp rep 0 ∧ zr_F h h') := by
  obtain ⟨ok, okh, h8, oks⟩ := o
  have o4 := ok.2.2.2.1
  obtain ⟨fl0, a0, H0, R0⟩ := id Y
  unfold fM_removeKept
  rw [zr_T H0, cond_true, zr_isShelved H0 R0 ok x hx, b2]
  by_cases e : 0 ≤ x ∧ x < (now.2.2.length : Int)
  · rw [decide_eq_true e, cond_true]
    refine Or.inr ⟨e, ?_⟩
    obtain ⟨v, rfl⟩ : ∃ v : Nat, x = (v : Int) := ⟨x.toNat, by omega⟩
    obtain ⟨h1, e1, Y1, F1⟩ := zy_one0 (N := N) Y
    obtain ⟨h2, e2, ⟨fl, a, H, R, B⟩, F2⟩ := zy_begins (N := N) (by omega) Y1 ok
    obtain ⟨h3, a3, e3, H3, F3, c3, p3, q3⟩ := zr_rem2 (N := N) (by omega) (K := now.2.2.length - 1) (x := v) (by omega) (by omega) (a0 := a) (by rw [R.1.2.2.2.1]; congr 1; omega) (now.2.2.length - 1 - v) N v h2 a H (by omega) (Nat.le_refl _) (by omega) (fun _ _ _ => rfl) (fun k k1 k2 => absurd k2 (by omega))
    have n3 : zy_is (a3 233) (now.1, now.2.1, now.2.2.eraseIdx v) := zy_isE ok R.1 (by omega) c3 (fun j hj => p3 233 j (Or.inr hj)) q3
    have Y3 : zyp h3 now (now.1, now.2.1, now.2.2.eraseIdx v) hist snap sv inp rep 0 := by
      refine ⟨fl, a3, H3, zyR_a R (fun _ _ => rfl) (fun p i hp => p3 p i (Or.inl (by omega))) n3, ?_⟩
      rw [show a3 234 = a 234 from funext fun i => p3 234 i (Or.inl (by decide))]
      exact B
    obtain ⟨h4, e4, Y4, F4⟩ := zy_remember (N := N) hN Y3 ok okh h8 (Int32.ofInt ((now.2.2.length - 1 : Nat) : Int))
    refine ⟨h4, ?_, Y4, zr_Ft F1 (zr_Ft F2 (zr_Ft F3 F4))⟩
    show fM_removeKept_14 N 232 (Int32.ofInt (v : Int)) (Int32.ofInt 0) 232 h = _
    unfold fM_removeKept_14
    rw [e1, b2]
    show b2 (fM_begins N 232 h1) _ = _
    rw [e2, b2]
    unfold fM_removes
    rw [zr_T H, cond_true, e3, b2, e4]
    rfl
  · rw [decide_eq_false e, cond_false]
    refine Or.inl ⟨e, ?_⟩
    obtain ⟨h1, e1, Y1, F1⟩ := zy_one1 (N := N) Y
    refine ⟨h1, ?_, Y1, F1⟩
    show fM_removeKept_14 N 232 (Int32.ofInt x) (Int32.ofInt 1) 232 h = _
    unfold fM_removeKept_14
    rw [e1]
    rfl
theorem zj_max (x y : Int) (hx : -2147483648 ≤ x ∧ x < 2147483648) (hy : -2147483648 ≤ y ∧ y < 2147483648) : (if Int32.ofInt x < Int32.ofInt y then Int32.ofInt y else Int32.ofInt x) = Int32.ofInt (max x y) := by
  by_cases e : x < y
  · rw [if_pos (by rw [Int32.lt_iff_toInt_lt, zqo_i x hx, zqo_i y hy]; exact e), Int.max_eq_right (by omega)]
  · rw [if_neg (by rw [Int32.lt_iff_toInt_lt, zqo_i x hx, zqo_i y hy]; exact e), Int.max_eq_left (by omega)]
theorem zr_have4 (H : zr h fl a) (R : zyR fl a now hist snap sv inp rep t) (ok : zv_ok now) {M : Nat} (hM : M ≤ 9) : ∀ (c f i m : Nat), i + c = now.2.1.length → c < f → m ≤ 300 → ∃ m' : Nat, fM_canHave_4 N f 232 (Int32.ofInt (M : Int)) (Int32.ofInt (m : Int)) (Int32.ofInt (i : Int)) h = fM_canHave_37 N N 232 (Int32.ofInt (M : Int)) (Int32.ofInt (m' : Int)) (Int32.ofInt 0) h ∧ m' ≤ 300 ∧ (m' ≤ M ↔ m ≤ M ∧ ∀ j, i ≤ j → j < now.2.1.length → now.2.1.getD j 0 < 97 + M) := by
  have g1 : fAI h 233 100 (Int32.ofInt 1) = some (Int32.ofInt (a 233 1)) := zr_w H 1 (by decide)
  have o2 := ok.2.1
  intro c
  induction c with
  | zero =>
    intro f i m h1 h2 h3
    obtain ⟨g, rfl⟩ : ∃ g, f = g + 1 := ⟨f - 1, by omega⟩
    refine ⟨m, ?_, h3, ⟨fun x => ⟨x, fun j j1 j2 => absurd j2 (by omega)⟩, fun x => x.1⟩⟩
    rw [fM_canHave_4, zr_r0 H, b1_s, g1, b1_s, R.1.2.1, zqo_ge _ _ (by omega) (by omega), decide_eq_true (by omega), cond_true]
  | succ c ih =>
    intro f i m h1 h2 h3
    obtain ⟨g, rfl⟩ : ∃ g, f = g + 1 := ⟨f - 1, by omega⟩
    have hv := ok.2.2.1 (now.2.1.getD i 0) (by rw [List.getD_eq_getElem?_getD, List.getElem?_eq_getElem (by omega)]; exact List.getElem_mem _)
    have h9 := ok.1.2
    have g3 : fAI h 233 100 (Int32.ofInt (3 + (i : Int))) = some (Int32.ofInt ((now.2.1.getD i 0 : Int) - 97)) := by
      rw [show 3 + (i : Int) = ((3 + i : Nat) : Int) by omega, zr_w H _ (by omega), R.1.2.2.1 i (by omega)]
    obtain ⟨m', e1, e2, e3⟩ := ih g (i + 1) (max m (now.2.1.getD i 0 - 96)) (by omega) (by omega) (by omega)
    refine ⟨m', ?_, e2, e3.trans ⟨fun x => ⟨by omega, fun j j1 j2 => ?_⟩, fun x => ⟨?_, fun j j1 j2 => x.2 j (by omega) j2⟩⟩⟩
    · rw [← e1, fM_canHave_4, zr_r0 H, b1_s, g1, b1_s, R.1.2.1, zqo_ge _ _ (by omega) (by omega), decide_eq_false (by omega), cond_false, b1_s, zw_add, g3, b1_s, zw_add, zj_max _ _ (by omega) (by omega), zh_inc, show max (m : Int) ((now.2.1.getD i 0 : Int) - 97 + 1) = ((max m (now.2.1.getD i 0 - 96) : Nat) : Int) by omega]
    · by_cases e : j = i
      · rw [e]
        omega
      · exact x.2 j (by omega) j2
    · have := x.2 i (Nat.le_refl _) (by omega)
      omega
theorem zr_have37 (H : zr h fl a) (R : zyR fl a now hist snap sv inp rep t) (ok : zv_ok now) {M : Nat} (hM : M ≤ 9) : ∀ (c f i m : Nat), i + c = 40 * now.2.2.length → c < f → m ≤ 300 → ∃ r : Bool, fM_canHave_37 N f 232 (Int32.ofInt (M : Int)) (Int32.ofInt (m : Int)) (Int32.ofInt (i : Int)) h = some (cond r (Int32.ofInt 1) (Int32.ofInt 0), h) ∧ (r = true ↔ m ≤ M ∧ ∀ j, i ≤ j → j < 40 * now.2.2.length → j % 40 < (now.2.2.getD (j / 40) []).length → (now.2.2.getD (j / 40) []).getD (j % 40) 0 < 97 + M) := by
  have g2 : fAI h 233 100 (Int32.ofInt 2) = some (Int32.ofInt (a 233 2)) := zr_w H 2 (by decide)
  have o4 := ok.2.2.2.1
  have c1 : Int32.ofInt (now.2.2.length : Int) * Int32.ofInt 40 = Int32.ofInt ((40 * now.2.2.length : Nat) : Int) := by
    rw [← Int32.ofInt_mul]
    congr 1
    omega
  intro c
  induction c with
  | zero =>
    intro f i m h1 h2 h3
    obtain ⟨g, rfl⟩ : ∃ g, f = g + 1 := ⟨f - 1, by omega⟩
    rw [fM_canHave_37, zr_r0 H, b1_s, g2, b1_s, R.1.2.2.2.1, c1, zqo_ge _ _ (by omega) (by omega), decide_eq_true (by omega), cond_true, zqo_gt _ _ (by omega) (by omega)]
    by_cases e : m ≤ M
    · refine ⟨true, ?_, ⟨fun _ => ⟨e, fun j j1 j2 => absurd j2 (by omega)⟩, fun _ => rfl⟩⟩
      rw [decide_eq_false (by omega)]
      rfl
    · refine ⟨false, ?_, ⟨fun x => absurd x (by decide), fun x => absurd x.1 e⟩⟩
      rw [decide_eq_true (by omega)]
      rfl
  | succ c ih =>
    intro f i m h1 h2 h3
    obtain ⟨g, rfl⟩ : ∃ g, f = g + 1 := ⟨f - 1, by omega⟩
    have hk : i / 40 < now.2.2.length := by omega
    have hw : now.2.2.getD (i / 40) [] ∈ now.2.2 := by
      rw [List.getD_eq_getElem?_getD, List.getElem?_eq_getElem hk]
      exact List.getElem_mem hk
    have o5 := ok.2.2.2.2 _ hw
    have b5 := R.1.2.2.2.2 _ hk
    have h9 := ok.1.2
    have n40 : Int32.ofInt 40 ≠ Int32.ofInt 0 := zr_nz (n := 40) (by decide) (by decide)
    have d40 : Int32.ofInt (i : Int) / Int32.ofInt 40 = Int32.ofInt ((i / 40 : Nat) : Int) := zw_div i 40 (by omega) (by decide)
    have m40 : Int32.ofInt (i : Int) - Int32.ofInt (i : Int) / Int32.ofInt 40 * Int32.ofInt 40 = Int32.ofInt ((i % 40 : Nat) : Int) := zw_modi i 40 (by omega) (by decide)
    have g3 : fAI h 233 100 (Int32.ofInt (123 + ((i / 40 : Nat) : Int))) = some (Int32.ofInt ((now.2.2.getD (i / 40) []).length : Int)) := by
      rw [show 123 + ((i / 40 : Nat) : Int) = ((123 + i / 40 : Nat) : Int) by omega, zr_w H _ (by omega), b5.1]
    rw [fM_canHave_37, zr_r0 H, b1_s, g2, b1_s, R.1.2.2.2.1, c1, zqo_ge _ _ (by omega) (by omega), decide_eq_false (by omega), cond_false, if_neg n40, b1_s, if_neg n40, m40, d40, zw_add, g3, b1_s, zqo_ge _ _ (by omega) (by omega)]
    by_cases e : i % 40 < (now.2.2.getD (i / 40) []).length
    · have hv := o5.2.2 ((now.2.2.getD (i / 40) []).getD (i % 40) 0) (by rw [List.getD_eq_getElem?_getD (l := now.2.2.getD (i / 40) []), List.getElem?_eq_getElem e]; exact List.getElem_mem e)
      have g4 : fAI h 233 100 (Int32.ofInt (131 + (i : Int))) = some (Int32.ofInt (((now.2.2.getD (i / 40) []).getD (i % 40) 0 : Int) - 97)) := by
        rw [show 131 + (i : Int) = ((131 + 40 * (i / 40) + i % 40 : Nat) : Int) by omega, zr_w H _ (by omega), b5.2 _ e]
      obtain ⟨r, e1, e3⟩ := ih g (i + 1) (max ((now.2.2.getD (i / 40) []).getD (i % 40) 0 - 96) m) (by omega) (by omega) (by omega)
      refine ⟨r, ?_, e3.trans ⟨fun x => ⟨by omega, fun j j1 j2 j3 => ?_⟩, fun x => ⟨?_, fun j j1 j2 => x.2 j (by omega) j2⟩⟩⟩
      · rw [← e1, decide_eq_false (by omega), cond_false, b1_s, zw_add, g4, b1_s]
        unfold fM_canHave_86
        rw [zw_add, zj_max _ _ (by omega) (by omega), zh_inc, show max (m : Int) (((now.2.2.getD (i / 40) []).getD (i % 40) 0 : Int) - 97 + 1) = ((max ((now.2.2.getD (i / 40) []).getD (i % 40) 0 - 96) m : Nat) : Int) by omega]
      · by_cases ej : j = i
        · rw [ej]
          omega
        · exact x.2 j (by omega) j2 j3
      · have := x.2 i (Nat.le_refl _) (by omega) e
        omega
    · obtain ⟨r, e1, e3⟩ := ih g (i + 1) m (by omega) (by omega) h3
      refine ⟨r, ?_, e3.trans ⟨fun x => ⟨x.1, fun j j1 j2 j3 => ?_⟩, fun x => ⟨x.1, fun j j1 j2 => x.2 j (by omega) j2⟩⟩⟩
      · rw [← e1, decide_eq_true (by omega), cond_true]
        unfold fM_canHave_86
        have := zj_max (m : Int) 0 (by omega) (by decide)
        rw [this, zh_inc, Int.max_eq_left (by omega)]
      · by_cases ej : j = i
        · rw [ej] at j3
          exact absurd j3 e
        · exact x.2 j (by omega) j2 j3
theorem zr_canHave (H : zr h fl a) (R : zyR fl a now hist snap sv inp rep t) (ok : zv_ok now) (hN : 4000 ≤ N) {M : Nat} (hM : M ≤ 9) : fM_canHave N 232 (Int32.ofInt (M : Int)) h = some (cond (zv_fit now M) (Int32.ofInt 1) (Int32.ofInt 0), h) := by
  have o2 := ok.2.1
  have o4 := ok.2.2.2.1
  obtain ⟨m, e1, m1, m2⟩ := zr_have4 (N := N) H R ok hM now.2.1.length N 0 0 (Nat.zero_add _) (by omega) (by decide)
  obtain ⟨r, e2, r2⟩ := zr_have37 (N := N) H R ok hM (40 * now.2.2.length) N 0 m (Nat.zero_add _) (by omega) m1
  have er : r = zv_fit now M := by
    rw [Bool.eq_iff_iff, r2, m2]
    unfold zv_fit
    rw [Bool.and_eq_true, List.all_eq_true, List.all_eq_true]
    constructor
    · intro x
      refine ⟨fun w hw => List.all_eq_true.mpr (fun v hv => decide_eq_true ?_), fun v hv => decide_eq_true ?_⟩
      · obtain ⟨k, hk, ek⟩ := List.getElem_of_mem hw
        obtain ⟨i, hi, ei⟩ := List.getElem_of_mem hv
        have o5 := (ok.2.2.2.2 w hw).2.1
        have ew : now.2.2.getD k [] = w := by
          rw [List.getD_eq_getElem?_getD, List.getElem?_eq_getElem hk, ek]
          rfl
        have ev : w.getD i 0 = v := by
          rw [List.getD_eq_getElem?_getD, List.getElem?_eq_getElem hi, ei]
          rfl
        have := x.2 (40 * k + i) (Nat.zero_le _) (by omega)
        rw [show (40 * k + i) / 40 = k by omega, show (40 * k + i) % 40 = i by omega, ew, ev] at this
        exact this hi
      · obtain ⟨i, hi, ei⟩ := List.getElem_of_mem hv
        have := x.1.2 i (Nat.zero_le _) hi
        rw [List.getD_eq_getElem?_getD, List.getElem?_eq_getElem hi, ei] at this
        exact this
    · intro x
      refine ⟨⟨Nat.zero_le _, fun j j1 j2 => ?_⟩, fun j j1 j2 j3 => ?_⟩
      · have := of_decide_eq_true (x.2 (now.2.1.getD j 0) (by rw [List.getD_eq_getElem?_getD, List.getElem?_eq_getElem j2]; exact List.getElem_mem j2))
        exact this
      · have hk : j / 40 < now.2.2.length := by omega
        have hw : now.2.2.getD (j / 40) [] ∈ now.2.2 := by
          rw [List.getD_eq_getElem?_getD, List.getElem?_eq_getElem hk]
          exact List.getElem_mem hk
        exact of_decide_eq_true (List.all_eq_true.mp (x.1 _ hw) _ (by rw [List.getD_eq_getElem?_getD (l := now.2.2.getD (j / 40) []), List.getElem?_eq_getElem j3]; exact List.getElem_mem j3))
  unfold fM_canHave
  rw [zr_T H, cond_true, ← er]
  exact e1.trans e2
end ZYK
