/-! THE REFERENCE'S QUESTIONS, five. -/
theorem zw_cmp0 : ∀ l m : List Nat, zw_cmp l m = 0 ↔ l = m := by
  intro l
  induction l with
  | nil =>
    intro m
    cases m with
    | nil => exact ⟨fun _ => rfl, fun _ => rfl⟩
    | cons b m => exact ⟨fun h => absurd h (by rw [zw_cmp]; decide), fun h => by cases h⟩
  | cons x l ih =>
    intro m
    cases m with
    | nil => exact ⟨fun h => absurd h (by rw [zw_cmp]; decide), fun h => by cases h⟩
    | cons b m =>
      rw [zw_cmp]
      by_cases e : x = b
      · rw [if_pos e, ih m, e]
        exact ⟨fun h => by rw [h], fun h => (List.cons.inj h).2⟩
      · rw [if_neg e]
        refine ⟨fun h => ?_, fun h => absurd (List.cons.inj h).1 e⟩
        split at h <;> exact absurd h (by decide)
theorem zm_fk {T : List Nat} : (∀ k, k < (zw_fs T).length → (k + 1 < (zw_fs T).length → ((zw_fs T).getD (k + 1) (0, 0)).1 = ((zw_fs T).getD k (0, 0)).2) ∧ (k + 1 = (zw_fs T).length → ((zw_fs T).getD k (0, 0)).2 = T.length)) ∧ (0 < T.length → 0 < (zw_fs T).length ∧ ((zw_fs T).getD 0 (0, 0)).1 = 0) := by
  have hf := zm_fs T
  obtain ⟨i1, i2, _⟩ := zm_itc (l := T) T.length 0 (Nat.zero_le _) (by omega)
  rw [← hf] at i1 i2
  exact ⟨fun k hk => ⟨(i1 k hk).2.2.1, (i1 k hk).2.2.2⟩, i2⟩
section ZYU
variable {N : Nat} {h : zH} {fl fl' : Nat → Int} {a a' : Nat → Nat → Int} {bef now snap : zA} {hist : List zA} {sv t : Int} {inp : List Nat} {rep : zvP} {T : List Nat}
theorem zr_factorOf12 (H : zr h fl a) (S : zr_fs a T) (hT : T.length ≤ 120) (x : Int) (hx : -2147483648 ≤ x ∧ x < 2147483648) : ∀ (c f i : Nat), i + c = (zw_fs T).length → c < f → (0 ≤ x → x < (T.length : Int) → i < (zw_fs T).length ∧ (((zw_fs T).getD i (0, 0)).1 : Int) ≤ x) → fM_factorOf_12 N f 232 (Int32.ofInt x) (Int32.ofInt ((zw_fs T).length : Int)) (Int32.ofInt (i : Int)) h = some (Int32.ofInt (if x < 0 ∨ (T.length : Int) ≤ x then -1 else (i : Int) + (zw_lead x.toNat ((zw_fs T).drop i) : Int) - 1), h) := by
  have fl := zm_fsl T
  intro c
  induction c with
  | zero =>
    intro f i h1 h2 h3
    obtain ⟨y, rfl⟩ : ∃ y, f = y + 1 := ⟨f - 1, by omega⟩
    rw [fM_factorOf_12, zqo_ge _ _ (by omega) (by omega), decide_eq_true (by omega), cond_true, if_pos (by
      by_cases q1 : x < 0
      · exact Or.inl q1
      · by_cases q2 : (T.length : Int) ≤ x
        · exact Or.inr q2
        · have := (h3 (by omega) (by omega)).1
          omega)]
  | succ c ih =>
    intro f i h1 h2 h3
    obtain ⟨y, rfl⟩ : ∃ y, f = y + 1 := ⟨f - 1, by omega⟩
    have hi : i < (zw_fs T).length := by omega
    obtain ⟨s1, s2, s3, s4⟩ := zr_fk2 S hi
    obtain ⟨u1, u2⟩ := (zm_fk (T := T)).1 i hi
    have ei : (zw_fs T)[i] = (zw_fs T).getD i (0, 0) := by
      rw [List.getD_eq_getElem?_getD, List.getElem?_eq_getElem hi]
      rfl
    have gi : fAI h 240 100 (Int32.ofInt ((i : Int) + 1)) = some (Int32.ofInt (a 240 (i + 1))) := zr_st H (i + 1) (by omega)
    rw [fM_factorOf_12, zqo_ge _ _ (by omega) (by omega), decide_eq_false (by omega), cond_false, zr_r9 H, b1_s, zr_st H i (by omega), b1_s, b1_s, zw_add, gi, b1_s, s1, s2, zw_sub, zr_in N x _ _ hx (by omega) (by omega), b2]
    by_cases e : (((zw_fs T).getD i (0, 0)).1 : Int) ≤ x ∧ x ≤ (((zw_fs T).getD i (0, 0)).2 : Int) - 1
    · rw [decide_eq_true e, if_neg (by omega)]
      have el : zw_lead x.toNat ((zw_fs T).drop i) = 1 := by
        rw [List.drop_eq_getElem_cons hi, zw_lead, ei, if_pos (by omega)]
        by_cases e2 : i + 1 < (zw_fs T).length
        · have ej : (zw_fs T)[i + 1] = (zw_fs T).getD (i + 1) (0, 0) := by
            rw [List.getD_eq_getElem?_getD, List.getElem?_eq_getElem e2]
            rfl
          have := u1 e2
          rw [List.drop_eq_getElem_cons e2, zw_lead, ej, if_neg (by omega)]
        · rw [List.drop_eq_nil_of_le (by omega)]
          rfl
      rw [el]
      show some (Int32.ofInt (i : Int), h) = _
      rw [show (i : Int) + ((1 : Nat) : Int) - 1 = (i : Int) by omega]
    · rw [decide_eq_false e]
      show fM_factorOf_12 N y 232 (Int32.ofInt x) (Int32.ofInt ((zw_fs T).length : Int)) (Int32.ofInt ((i + 1 : Nat) : Int)) h = _
      have h4 : 0 ≤ x → x < (T.length : Int) → i + 1 < (zw_fs T).length ∧ (((zw_fs T).getD (i + 1) (0, 0)).1 : Int) ≤ x := by
        intro q1 q2
        have q3 := (h3 q1 q2).2
        by_cases e2 : i + 1 < (zw_fs T).length
        · have := u1 e2
          exact ⟨e2, by omega⟩
        · have := u2 (by omega)
          omega
      rw [ih y (i + 1) (by omega) (by omega) h4]
      by_cases q : x < 0 ∨ (T.length : Int) ≤ x
      · rw [if_pos q, if_pos q]
      · rw [if_neg q, if_neg q, List.drop_eq_getElem_cons hi, zw_lead, ei, if_pos (by have := (h3 (by omega) (by omega)).2; omega)]
        congr 3
        omega
theorem zn_factorOf (Y : zy h now hist snap sv inp rep t) (ok : zv_ok now) (hN : 4000 ≤ N) (x : Int) (hx : -2147483648 ≤ x ∧ x < 2147483648) : ∃ h', fM_factorOf N 232 (Int32.ofInt x) h = some (Int32.ofInt (zw_wF now.2.1 x), h') ∧ zy h' now hist snap sv inp rep 0 ∧ zr_F h h' := by
  have o2 := ok.2.1
  have fb := zm_fsl now.2.1
  obtain ⟨h1, e1, Y1, F1⟩ := zy_throw Y 0
  obtain ⟨h2, e2, ⟨fl, a, H, R, S⟩, Y2, F2⟩ := zy_factors (N := N) (by omega) Y1 ok
  obtain ⟨fl0, a0, H0, R0⟩ := Y
  refine ⟨h2, ?_, Y2, zr_Ft F1 F2⟩
  have q := zr_factorOf12 (N := N) H S o2 x hx (zw_fs now.2.1).length N 0 (Nat.zero_add _) (by omega) (fun q1 q2 => by
    have := (zm_fk (T := now.2.1)).2 (by omega)
    exact ⟨this.1, by omega⟩)
  rw [List.drop_zero] at q
  unfold fM_factorOf zw_wF
  rw [zr_T H0, cond_true, e1, b1_s, e2, b2]
  refine q.trans ?_
  rw [show ((0 : Nat) : Int) + (zw_lead x.toNat (zw_fs now.2.1) : Int) - 1 = (zw_lead x.toNat (zw_fs now.2.1) : Int) - 1 by omega]
theorem zr_alike (hN : 1000 ≤ N) (H : zr h fl a) (tx : zr_tx a T) (hT : T.length ≤ 120) (hv : ∀ v ∈ T, v < 256) (S : zr_fs a T) {k i : Nat} (hk : k < (zw_fs T).length) (hi : i < (zw_fs T).length) : fM_areAlike N 232 (Int32.ofInt (k : Int)) (Int32.ofInt (i : Int)) h = some (cond (decide (zw_cmp (zw_p T ((zw_fs T).getD i (0, 0)).1 ((zw_fs T).getD i (0, 0)).2) (zw_p T ((zw_fs T).getD k (0, 0)).1 ((zw_fs T).getD k (0, 0)).2) = 0)) (Int32.ofInt 1) (Int32.ofInt 0), h) := by
  have fl := zm_fsl T
  obtain ⟨s1, s2, s3, s4⟩ := zr_fk2 S hi
  obtain ⟨t1, t2, t3, t4⟩ := zr_fk2 S hk
  have gi : fAI h 240 100 (Int32.ofInt ((i : Int) + 1)) = some (Int32.ofInt (a 240 (i + 1))) := zr_st H (i + 1) (by omega)
  have gk : fAI h 240 100 (Int32.ofInt ((k : Int) + 1)) = some (Int32.ofInt (a 240 (k + 1))) := zr_st H (k + 1) (by omega)
  obtain ⟨q, q1, q2, q3, q4⟩ := zr_cmpT (N := N) hN H tx hT hv (x := ((zw_fs T).getD k (0, 0)).1) (y := ((zw_fs T).getD k (0, 0)).2) (z := ((zw_fs T).getD i (0, 0)).1) (w := ((zw_fs T).getD i (0, 0)).2) (by omega) t4 (by omega) s4
  have q5 : q = 0 ↔ zw_cmp (zw_p T ((zw_fs T).getD i (0, 0)).1 ((zw_fs T).getD i (0, 0)).2) (zw_p T ((zw_fs T).getD k (0, 0)).1 ((zw_fs T).getD k (0, 0)).2) = 0 := by
    rw [q4, zw_cmp0, zw_cmp0]
    exact ⟨fun x => x.symm, fun x => x.symm⟩
  unfold fM_areAlike
  rw [zr_T H, cond_true, zr_r9 H, b1_s, zr_st H k (by omega), b1_s, b1_s, zw_add, gk, b1_s, b1_s, zr_st H k (by omega), b1_s, b1_s, zr_st H i (by omega), b1_s, b1_s, zw_add, gi, b1_s, b1_s, zr_st H i (by omega), b1_s, s1, s2, t1, t2, zw_add, zw_sub, zw_add, zw_sub, q1, b2, zqo_ne _ _ (by omega) (by decide)]
  by_cases e : q = 0
  · rw [decide_eq_true e, decide_eq_true (q5.mp e)]
    rfl
  · rw [decide_eq_false e, decide_eq_false (fun x => e (q5.mpr x))]
    rfl
theorem zr_power5 (hN : 1000 ≤ N) (H : zr h fl a) (tx : zr_tx a T) (hT : T.length ≤ 120) (hv : ∀ v ∈ T, v < 256) (S : zr_fs a T) {k : Nat} (hk : k < (zw_fs T).length) : ∀ (c f i s : Nat), i + c = (zw_fs T).length → c < f → fM_powerOf_5 N f 232 (Int32.ofInt (k : Int)) (Int32.ofInt ((zw_fs T).length : Int)) (Int32.ofInt (s : Int)) (Int32.ofInt (i : Int)) h = some (Int32.ofInt ((s + zw_like T ((zw_fs T).getD k (0, 0)).1 ((zw_fs T).getD k (0, 0)).2 ((zw_fs T).drop i) : Nat) : Int), h) := by
  have fl := zm_fsl T
  intro c
  induction c with
  | zero =>
    intro f i s h1 h2
    obtain ⟨y, rfl⟩ : ∃ y, f = y + 1 := ⟨f - 1, by omega⟩
    rw [fM_powerOf_5, zqo_ge _ _ (by omega) (by omega), decide_eq_true (by omega), cond_true, List.drop_eq_nil_of_le (by omega)]
    rfl
  | succ c ih =>
    intro f i s h1 h2
    obtain ⟨y, rfl⟩ : ∃ y, f = y + 1 := ⟨f - 1, by omega⟩
    have hi : i < (zw_fs T).length := by omega
    have ei : (zw_fs T)[i] = (zw_fs T).getD i (0, 0) := by
      rw [List.getD_eq_getElem?_getD, List.getElem?_eq_getElem hi]
      rfl
    rw [fM_powerOf_5, zqo_ge _ _ (by omega) (by omega), decide_eq_false (by omega), cond_false, zr_alike hN H tx hT hv S hk hi, b2, List.drop_eq_getElem_cons hi, zw_like, ei]
    unfold fM_powerOf_27
    by_cases e : zw_cmp (zw_p T ((zw_fs T).getD i (0, 0)).1 ((zw_fs T).getD i (0, 0)).2) (zw_p T ((zw_fs T).getD k (0, 0)).1 ((zw_fs T).getD k (0, 0)).2) = 0
    · rw [decide_eq_true e, if_pos e]
      show fM_powerOf_5 N y 232 (Int32.ofInt (k : Int)) (Int32.ofInt ((zw_fs T).length : Int)) (Int32.ofInt (s : Int) + Int32.ofInt 1) (Int32.ofInt (i : Int) + Int32.ofInt 1) h = _
      rw [zh_inc, zh_inc, ih y (i + 1) (s + 1) (by omega) (by omega), Nat.add_assoc]
    · rw [decide_eq_false e, if_neg e]
      show fM_powerOf_5 N y 232 (Int32.ofInt (k : Int)) (Int32.ofInt ((zw_fs T).length : Int)) (Int32.ofInt (s : Int) + Int32.ofInt 0) (Int32.ofInt (i : Int) + Int32.ofInt 1) h = _
      rw [zw_add, Int.add_zero, zh_inc, ih y (i + 1) s (by omega) (by omega), Nat.zero_add]
theorem zn_factorPower (Y : zy h now hist snap sv inp rep t) (ok : zv_ok now) (hN : 4000 ≤ N) (x : Int) (hx : -2147483648 ≤ x ∧ x < 2147483648) : (zw_bF now.2.1 x = -1 ∧ ∃ h', fM_factorPower N 232 (Int32.ofInt x) h = some (Int32.ofInt 0, h') ∧ zy h' now hist snap sv inp rep 1 ∧ zr_F h h') ∨ (zw_bF now.2.1 x ≠ -1 ∧ ∃ h', fM_factorPower N 232 (Int32.ofInt x) h = some (Int32.ofInt ((zw_like now.2.1 (zw_bF now.2.1 x).toNat (zw_lE now.2.1 (zw_bF now.2.1 x).toNat) (zw_fs now.2.1) : Nat) : Int), h') ∧ zy h' now hist snap sv inp rep 0 ∧ zr_F h h') := by
  have o2 := ok.2.1
  have o5 := zm_fsl now.2.1
  obtain ⟨h1, e1, ⟨fl, a, H, R, S⟩, Y1, F1⟩ := zy_factors (N := N) (by omega) Y ok
  obtain ⟨fl0, a0, H0, R0⟩ := id Y
  unfold fM_factorPower
  rw [zr_T H0, cond_true, e1, b2, zw_sub, zr_in N x 0 _ hx (by decide) (by omega), b2]
  by_cases e : 0 ≤ x ∧ x ≤ ((zw_fs now.2.1).length : Int) - 1
  · obtain ⟨k, rfl⟩ : ∃ v : Nat, x = (v : Int) := ⟨x.toNat, by omega⟩
    have hk : k < (zw_fs now.2.1).length := by omega
    obtain ⟨b, b1', b2', b3, b4, b5, b6⟩ := zr_fk S hk
    obtain ⟨s1, s2, s3, s4⟩ := zr_fk2 S hk
    have w1 : ((zw_fs now.2.1).getD k (0, 0)).1 = b := by omega
    have w2 : ((zw_fs now.2.1).getD k (0, 0)).2 = zw_lE now.2.1 b := by omega
    obtain ⟨h2, e2, H2, F2⟩ := zr_s H 17 rfl 0
    have q := zr_power5 (N := N) (by omega) H2 (zyR_tx R) o2 (zv_256 ok) S hk (zw_fs now.2.1).length N 0 0 (Nat.zero_add _) (by omega)
    rw [List.drop_zero, Nat.zero_add, w1, w2] at q
    refine Or.inr ⟨by omega, h2, ?_, ⟨_, a, H2, zyR_t R 0⟩, zr_Ft F1 F2⟩
    rw [decide_eq_true e, cond_true, b1', show ((b : Int)).toNat = b from rfl]
    show fM_factorPower_22 N 232 (Int32.ofInt (k : Int)) (Int32.ofInt ((zw_fs now.2.1).length : Int)) (Int32.ofInt 0) 232 h1 = _
    unfold fM_factorPower_22 fM_throwsOne
    rw [zr_T H, cond_true]
    show b2 (b1 (fS h1 232 5 17 (.int (Int32.ofInt 0))) _) _ = _
    rw [e2]
    show b2 (fM_powerOf N 232 (Int32.ofInt (k : Int)) (Int32.ofInt ((zw_fs now.2.1).length : Int)) h2) _ = _
    unfold fM_powerOf
    rw [zr_T H2, cond_true]
    have q : fM_powerOf_5 N N 232 (Int32.ofInt (k : Int)) (Int32.ofInt ((zw_fs now.2.1).length : Int)) (Int32.ofInt 0) (Int32.ofInt 0) h2 = _ := q
    rw [q]
    rfl
  · obtain ⟨h2, e2, Y2, F2⟩ := zy_one1 (N := N) Y1
    refine Or.inl ⟨zw_bFn e, h2, ?_, Y2, zr_Ft F1 F2⟩
    rw [decide_eq_false e, cond_false]
    show fM_factorPower_22 N 232 (Int32.ofInt x) (Int32.ofInt ((zw_fs now.2.1).length : Int)) (Int32.ofInt 1) 232 h1 = _
    unfold fM_factorPower_22
    rw [e2]
    rfl
end ZYU
