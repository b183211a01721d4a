/-! THE FIRST CALL: bruijnLetter, the class's loop. -/
theorem zb_okS {st : List Int × Nat} (h : zb_ok st = true) : st.1.length = 7 ∧ st.2 ≤ 7 ∧ ∀ i, i < st.2 → ∃ t, st.1[i]? = some t ∧ 97 ≤ t ∧ t ≤ 99 := by
  unfold zb_ok at h
  rw [Bool.and_eq_true, Bool.and_eq_true] at h
  obtain ⟨⟨h1, h2⟩, h3⟩ := h
  have h1 := Nat.eq_of_beq_eq_true h1
  have h2 := Nat.le_of_ble_eq_true h2
  refine ⟨h1, h2, ?_⟩
  intro i hi
  have h4 : i < st.1.length := by omega
  refine ⟨st.1[i], List.getElem?_eq_getElem h4, ?_⟩
  have h5 : st.1[i] ∈ st.1.take st.2 := by
    rw [List.mem_iff_getElem?]
    exact ⟨i, by rw [List.getElem?_take_of_lt hi, List.getElem?_eq_getElem h4]⟩
  exact of_decide_eq_true (List.all_eq_true.mp h3 _ h5)
theorem zb_h0 (st : List Int × Nat) : (zb_H st)[0]? = za_h2[0]? := by unfold zb_H; rw [zh_set (by decide), zh_set (by decide)]
theorem zb_h1 (st : List Int × Nat) : (zb_H st)[1]? = za_h2[1]? := by unfold zb_H; rw [zh_set (by decide), zh_set (by decide)]
theorem zb_h230 (st : List Int × Nat) : (zb_H st)[230]? = some (4, [.ref 231, .int (Int32.ofInt (st.2 : Int))]) := by
  unfold zb_H
  exact List.getElem?_set_self (by rw [List.length_set, zqo_l]; decide)
theorem zb_h231 (st : List Int × Nat) : (zb_H st)[231]? = some (101, st.1.map (fun t => Value.int (Int32.ofInt t)) ++ List.replicate 114 (Value.int (Int32.ofInt 0))) := by
  unfold zb_H
  rw [zh_set (by decide)]
  exact List.getElem?_set_self (by rw [zqo_l]; decide)
theorem zb_v0 : ∃ vs, za_h2[0]? = some (0, vs) ∧ vs[0]? = some (.ref 1) ∧ vs[6]? = some (.ref 230) := ⟨_, rfl, rfl, rfl⟩
theorem zb_v1 : ∃ vs, za_h2[1]? = some (3, vs) ∧ vs[0]? = some (.int (Int32.ofInt 3)) := ⟨_, rfl, rfl⟩
theorem zb_T0 (st : List Int × Nat) : fT (zb_H st) 0 0 = true := by
  obtain ⟨vs, e, _⟩ := zb_v0
  exact zi_T (by decide) ((zb_h0 st).trans e)
theorem zb_tr (st : List Int × Nat) : fR (zb_H st) 0 0 6 = some 230 := by
  obtain ⟨vs, e, _, e2⟩ := zb_v0
  exact zh_R (by decide) ((zb_h0 st).trans e) e2
theorem zb_nw (st : List Int × Nat) : fR (zb_H st) 0 0 0 = some 1 := by
  obtain ⟨vs, e, e2, _⟩ := zb_v0
  exact zh_R (by decide) ((zb_h0 st).trans e) e2
theorem zb_sz (st : List Int × Nat) : fI (zb_H st) 230 4 1 = some (Int32.ofInt (st.2 : Int)) := zh_I (by decide) (zb_h230 st) rfl
theorem zb_gl (st : List Int × Nat) : fS_greatestLetter 3000 1 (zb_H st) = some (Int32.ofInt 99, zb_H st) := by
  obtain ⟨vs, e, e2⟩ := zb_v1
  unfold fS_greatestLetter
  rw [zi_T (by decide) ((zb_h1 st).trans e), cond_true, zh_I (by decide) ((zb_h1 st).trans e) e2]
  rfl
theorem zb_and (t : Int) (h : 97 ≤ t ∧ t ≤ 99) : Int32.ofInt t &&& Int32.ofInt 255 = Int32.ofInt t := by
  have h1 : t = 97 ∨ t = 98 ∨ t = 99 := by omega
  rcases h1 with h1 | h1 | h1 <;> subst h1 <;> rfl
theorem zb_at {st : List Int × Nat} {i : Nat} {t : Int} (hl : st.1.length = 7) (hi : i < st.2) (h7 : st.2 ≤ 7) (e : st.1[i]? = some t) (ht : 97 ≤ t ∧ t ≤ 99) : fW_at 3000 230 (Int32.ofInt (i : Int)) (zb_H st) = some (Int32.ofInt t, zb_H st) := by
  unfold fW_at
  have e1 : (st.1.map (fun t => Value.int (Int32.ofInt t)) ++ List.replicate 114 (Value.int (Int32.ofInt 0)))[i]? = some (.int (Int32.ofInt t)) := by
    rw [List.getElem?_append_left (by rw [List.length_map]; omega), List.getElem?_map, e]
    rfl
  have e2 : (st.1.map (fun t => Value.int (Int32.ofInt t)) ++ List.replicate 114 (Value.int (Int32.ofInt 0))).length = 121 := by
    rw [List.length_append, List.length_map, List.length_replicate, hl]
  rw [zi_T (by decide) (zb_h230 st), cond_true, zj_lt _ 0 (by decide), zqo_i _ (by omega), decide_eq_false (by omega), cond_false, zb_sz, b1, zqo_ge _ _ (by omega) (by omega), decide_eq_false (by omega), cond_false, zh_R (b := 0) (by decide) (zb_h230 st) rfl, b1, zi_N (by decide) (zb_h231 st), e2, b1, show Int32.ofNat 121 = Int32.ofInt 121 from rfl, zqo_ge _ _ (by omega) (by decide), decide_eq_false (by omega), cond_false, b1, zh_AI (by decide) (zb_h231 st) e1 (by omega), b1, zb_and t ht]
  rfl
theorem zb_mod (n s : Nat) (hn : n ≤ 7) (hs : 1 ≤ s ∧ s ≤ 7) : Int32.ofInt (n : Int) - Int32.ofInt (n : Int) / Int32.ofInt (s : Int) * Int32.ofInt (s : Int) = Int32.ofInt ((n % s : Nat) : Int) := by
  have h := List.all_eq_true.mp (show ((List.range 8).all fun n => (List.range 8).all fun s => Nat.beq s 0 || decide (Int32.ofInt ((n : Nat) : Int) - Int32.ofInt ((n : Nat) : Int) / Int32.ofInt ((s : Nat) : Int) * Int32.ofInt ((s : Nat) : Int) = Int32.ofInt ((n % s : Nat) : Int))) = true by decide +kernel) n (List.mem_range.mpr (by omega))
  have h2 := List.all_eq_true.mp h s (List.mem_range.mpr (by omega))
  rw [Bool.or_eq_true] at h2
  rcases h2 with h2 | h2
  · have := Nat.eq_of_beq_eq_true h2
    omega
  · exact of_decide_eq_true h2
/-- the letters of the row, out of the list -/
def zb_B (n : Nat) : List (List Int × Nat) → List Int
  | [] => []
  | a :: r => (if n % a.2 = 0 ∧ 1 ≤ a.2 then a.1.take a.2 else []) ++ zb_B n r
theorem zb_loop {n : Nat} (hn : 1 ≤ n ∧ n ≤ 7) : ∀ (l : List (List Int × Nat)) (a : List Int × Nat), zb_chain n (a :: l) = true → (l.getLastD a).2 = 0 → ∀ (f i p y : Nat), l.length < f → i + l.length ≤ 1000 → p + (zb_B n (a :: l)).length ≤ 100000 → y < 2147483648 → p ≤ y →
    (∀ t, (zb_B n (a :: l))[y - p]? = some t → ∃ st, fB_findRowLetter_9 3000 f 0 (Int32.ofInt (n : Int)) (Int32.ofInt (y : Int)) (Int32.ofInt (p : Int)) (Int32.ofInt (i : Int)) (zb_H a) = some (Int32.ofInt t, zb_H st)) ∧
    ((zb_B n (a :: l))[y - p]? = none → ∃ st, fB_findRowLetter_9 3000 f 0 (Int32.ofInt (n : Int)) (Int32.ofInt (y : Int)) (Int32.ofInt (p : Int)) (Int32.ofInt (i : Int)) (zb_H a) = some (Int32.ofInt (-1), zb_H st)) := by
  intro l
  induction l with
  | nil =>
    intro a hc h0 f i p y hf hi hp hy hpy
    have h0 : a.2 = 0 := h0
    obtain ⟨m, rfl⟩ : ∃ m, f = m + 1 := ⟨f - 1, by omega⟩
    have e : zb_B n [a] = [] := by
      unfold zb_B zb_B
      rw [if_neg (by omega)]
      rfl
    constructor
    · intro t ht
      rw [e] at ht
      cases ht
    · intro _
      refine ⟨a, ?_⟩
      rw [fB_findRowLetter_9, zb_tr, b1, zb_sz, b1, h0]
      cases z_cmp .ge (Int32.ofInt (i : Int)) (Int32.ofInt (n : Int) * Int32.ofInt 4096) <;> rfl
  | cons b r ih =>
    intro a hc h0 f i p y hf hi hp hy hpy
    obtain ⟨m, rfl⟩ : ∃ m, f = m + 1 := ⟨f - 1, by omega⟩
    rw [zb_chain, Bool.and_eq_true, Bool.and_eq_true, Bool.and_eq_true] at hc
    obtain ⟨c1, c2, c3, c4⟩ := hc
    have c2 := Nat.le_of_ble_eq_true c2
    have c3 := of_decide_eq_true c3
    obtain ⟨o1, o2, o3⟩ := zb_okS c1
    rw [List.length_cons] at hf hi
    have hlast : (r.getLastD b).2 = 0 := by
      rw [List.getLastD_cons] at h0
      exact h0
    have n0 : z_cmp .ge (Int32.ofInt (i : Int)) (Int32.ofInt (n : Int) * Int32.ofInt 4096) = false := by
      rw [← Int32.ofInt_mul, zqo_ge _ _ (by omega) (by omega)]
      exact decide_eq_false (by omega)
    have n1 : z_cmp .le (Int32.ofInt (a.2 : Int)) (Int32.ofInt 0) = false := by
      rw [zqo_le _ _ (by omega) (by decide)]
      exact decide_eq_false (by omega)
    have n2 : ¬ (Int32.ofInt (a.2 : Int) = Int32.ofInt 0) := by
      intro h
      have h := congrArg Int32.toInt h
      rw [zqo_i _ (by omega), zqo_i _ (by omega)] at h
      omega
    have step : ∀ p2 : Int32, fB_findRowLetter_75 3000 (fB_findRowLetter_9 3000 m) 0 (Int32.ofInt (n : Int)) (Int32.ofInt (y : Int)) p2 (Int32.ofInt (i : Int)) (zb_H a) = fB_findRowLetter_9 3000 m 0 (Int32.ofInt (n : Int)) (Int32.ofInt (y : Int)) p2 (Int32.ofInt ((i + 1 : Nat) : Int)) (zb_H b) := by
      intro p2
      unfold fB_findRowLetter_75
      rw [zb_tr, b1, zb_nw, b1, zb_gl, b2, c3, b2, zh_inc]
    rw [fB_findRowLetter_9, n0, cond_false, zb_tr, b1, zb_sz, b1, n1, cond_false]
    have hmod := Nat.mod_le n a.2
    simp only [b1_s, zb_sz]
    rw [if_neg n2, zb_mod n a.2 hn.2 ⟨c2, o2⟩, zqo_ne _ _ (by omega) (by decide)]
    by_cases hd : n % a.2 = 0
    · have eB : zb_B n (a :: b :: r) = a.1.take a.2 ++ zb_B n (b :: r) := by
        rw [zb_B, if_pos ⟨hd, c2⟩]
      have tl : (a.1.take a.2).length = a.2 := by rw [List.length_take]; omega
      rw [decide_eq_true (by omega), Bool.not_true, cond_false, ← Int32.ofInt_add, zqo_ge _ _ (by omega) (by rw [eB, List.length_append] at hp; omega)]
      by_cases hy2 : (p : Int) + (a.2 : Int) ≤ (y : Int)
      · rw [decide_eq_true hy2, cond_true, step, show (p : Int) + (a.2 : Int) = ((p + a.2 : Nat) : Int) by omega]
        have hih := ih b c4 hlast m (i + 1) (p + a.2) y (by omega) (by omega) (by rw [eB, List.length_append] at hp; omega) hy (by omega)
        rw [show (zb_B n (a :: b :: r))[y - p]? = (zb_B n (b :: r))[y - (p + a.2)]? by
          rw [eB, List.getElem?_append_right (by omega), tl]
          congr 1
          omega]
        exact hih
      · rw [decide_eq_false hy2, cond_false]
        obtain ⟨t, t1, t2⟩ := o3 (y - p) (by omega)
        have e3 : (zb_B n (a :: b :: r))[y - p]? = some t := by
          rw [eB, List.getElem?_append_left (by omega), List.getElem?_take_of_lt (by omega)]
          exact t1
        rw [e3]
        constructor
        · intro t' ht'
          cases ht'
          refine ⟨a, ?_⟩
          rw [← Int32.ofInt_sub, show (y : Int) - (p : Int) = ((y - p : Nat) : Int) by omega, zb_at o1 (by omega) o2 t1 t2]
          rfl
        · intro h
          cases h
    · have eB : zb_B n (a :: b :: r) = zb_B n (b :: r) := by
        rw [zb_B, if_neg (fun h => hd h.1)]
        rfl
      rw [decide_eq_false (by omega), Bool.not_false, cond_true, step, eB]
      exact ih b c4 hlast m (i + 1) p y (by omega) (by omega) (by rw [eB] at hp; exact hp) hy hpy
