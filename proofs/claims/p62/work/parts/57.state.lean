/-! THE CLASS'S STATES: copies, letters, the shelf. -/
section ZSC
variable {N : Nat}
theorem zs_copy26 {q p L0 L K : Nat} {T0 T : List Nat} {S : Nat → List Nat} (hN : 1000 ≤ N) (d : q + 20 ≤ p ∨ p + 20 ≤ q) : ∀ (c f : Nat) (h : zH) (S0 : Nat → List Nat) (i : Nat), zs_S h q L0 T0 S0 i → zs_S h p L T S K → i + c = K → c < f → (∀ j, j < i → S0 j = S j) → ∃ h' S', fS_copyFrom_26 N f q p (Int32.ofInt (i : Int)) h = some ((), h') ∧ zs_S h' q L0 T0 S' K ∧ (∀ j, j < K → S' j = S j) ∧ zs_F h h' q := by
  intro c
  induction c with
  | zero =>
    intro f h S0 i H P h1 h2 h3
    obtain ⟨g, rfl⟩ : ∃ g, f = g + 1 := ⟨f - 1, by omega⟩
    have hK := P.2.2.2.2.2.1
    have e : i = K := by omega
    subst e
    refine ⟨h, S0, ?_, H, h3, zs_Fr h q⟩
    rw [fS_copyFrom_26, zs_K P, b1_s, zqo_ge _ _ (by omega) (by omega), decide_eq_true (by omega), cond_true]
  | succ c ih =>
    intro f h S0 i H P h1 h2 h3
    obtain ⟨g, rfl⟩ : ∃ g, f = g + 1 := ⟨f - 1, by omega⟩
    have hK := P.2.2.2.2.2.1
    have W := P.2.2.2.2.1 i (by omega)
    have hl := W.2.2.2.1
    obtain ⟨h4, e4, H4, F4⟩ := zs_keepP (N := N) H (by omega) W (fun j hj => by unfold zw_d; omega) hN 0 (S i).length (by omega) hl
    rw [List.drop_zero, List.take_of_length_le (Nat.le_refl _)] at H4
    rw [Nat.zero_add] at e4
    obtain ⟨h5, S5, e5, H5, G5, F5⟩ := ih g h4 _ (i + 1) H4 (zs_keep P F4 (by omega)) (by omega) (by omega) (fun j hj => by
      show (if j = i then S i else S0 j) = S j
      by_cases e : j = i
      · rw [if_pos e, e]
      · rw [if_neg e]
        exact h3 j (by omega))
    refine ⟨h5, S5, ?_, H5, G5, zs_Ft F4 F5⟩
    rw [fS_copyFrom_26, zs_K P, b1_s, zqo_ge _ _ (by omega) (by omega), decide_eq_false (by omega), cond_false, zs_at P _ (by omega), b2, if_pos (by omega)]
    show cond (fX h (p + 4 + 2 * i)) _ none = _
    rw [zs_X P (by omega), cond_true, show ((i : Nat) : Int).toNat = i by omega, zw_z W, b1_s, show Int32.ofInt 0 = Int32.ofInt ((0 : Nat) : Int) from rfl, e4, b2]
    unfold fS_copyFrom_54
    rw [zh_inc]
    exact e5
/-- a state as another one -/
theorem zs_copy {h : zH} {q p L0 L K0 K : Nat} {T0 T : List Nat} {S0 S : Nat → List Nat} (hN : 1000 ≤ N) (d : q + 20 ≤ p ∨ p + 20 ≤ q) (H : zs_S h q L0 T0 S0 K0) (P : zs_S h p L T S K) : ∃ h' S', fS_copyFrom N q p h = some ((), h') ∧ zs_S h' q L T S' K ∧ (∀ j, j < K → S' j = S j) ∧ zs_F h h' q := by
  have tl := P.2.2.2.1.2.2.2.1
  obtain ⟨h1, e1, H1, F1⟩ := zs_setL H P.2.2.2.2.2.2
  have P1 := zs_keep P F1 (by omega)
  obtain ⟨h2, e2, W2, F2⟩ := zw_copy (N := N) (show zw_d (p + 1) (q + 1) by unfold zw_d; omega) H1.2.2.2.1 P1.2.2.2.1 tl (by omega)
  obtain ⟨H2, G2⟩ := zs_text H1 W2 F2
  have P2 := zs_keep P1 G2 (by omega)
  obtain ⟨h3, e3, H3, F3⟩ := zs_setK H2 (Nat.zero_le 8)
  have P3 := zs_keep P2 F3 (by omega)
  obtain ⟨h4, S4, e4, H4, G4, F4⟩ := zs_copy26 (N := N) hN d K N h3 _ 0 H3 P3 (by omega) (by have := P.2.2.2.2.2.1; omega) (fun j hj => absurd hj (Nat.not_lt_zero j))
  refine ⟨h4, S4, ?_, H4, G4, zs_Ft F1 (zs_Ft G2 (zs_Ft F3 F4))⟩
  unfold fS_copyFrom
  rw [zs_T H, cond_true, zs_L P, b1_s, e1, b1_s, zs_t H1, b1_s, zs_t P1, b1_s, e2, b2]
  show b1 (fS h2 q 3 3 (.int (Int32.ofInt ((0 : Nat) : Int)))) _ = _
  rw [e3, b1_s]
  exact e4
section ZSC1
variable {h : zH} {q L K : Nat} {T : List Nat} {S : Nat → List Nat}
theorem zs_clear (H : zs_S h q L T S K) {L' : Nat} (hL : L' ≤ 9) : ∃ h', fS_clear N q (Int32.ofInt (L' : Int)) h = some ((), h') ∧ zs_S h' q L' [] S 0 ∧ zs_F h h' q := by
  obtain ⟨h1, e1, H1, F1⟩ := zs_setL H hL
  obtain ⟨h2, e2, W2, F2⟩ := zw_clear (N := N) H1.2.2.2.1
  obtain ⟨H2, G2⟩ := zs_text H1 W2 F2
  obtain ⟨h3, e3, H3, F3⟩ := zs_setK H2 (Nat.zero_le 8)
  refine ⟨h3, ?_, H3, zs_Ft F1 (zs_Ft G2 F3)⟩
  unfold fS_clear
  rw [zs_T H, cond_true, e1, b1_s, zs_t H1, b1_s, e2, b2]
  show b1 (fS h2 q 3 3 (.int (Int32.ofInt ((0 : Nat) : Int)))) _ = _
  rw [e3, b1_s]
theorem zs_isLetter (H : zs_S h q L T S K) (x : Int) (hx : -2147483648 ≤ x ∧ x < 2147483648) : fS_isLetter N q (Int32.ofInt x) h = some (cond (decide (97 ≤ x ∧ x < 97 + (L : Int))) (Int32.ofInt 1) (Int32.ofInt 0), h) := by
  have hL := H.2.2.2.2.2.2
  unfold fS_isLetter
  rw [zs_T H, cond_true, zqo_lt _ _ hx (by decide), zs_L H, b1_s, zw_add, zqo_ge _ _ hx (by omega)]
  by_cases e1 : x < 97
  · rw [decide_eq_true e1, cond_true, decide_eq_false (by omega)]
    rfl
  · rw [decide_eq_false e1, cond_false]
    by_cases e2 : 97 + (L : Int) ≤ x
    · rw [decide_eq_true e2, cond_true, decide_eq_false (by omega)]
      rfl
    · rw [decide_eq_false e2, cond_false, decide_eq_true (by omega)]
      rfl
theorem zs_greatest (H : zs_S h q L T S K) : fS_greatestLetter N q h = some (Int32.ofInt ((97 + L : Nat) : Int) - Int32.ofInt 1, h) := by
  unfold fS_greatestLetter
  rw [zs_T H, cond_true, zs_L H, b1_s, zw_add]
  rfl
/-- whether there is a next Lyndon word -/
def zs_hn (L : Nat) (T : List Nat) (m : Int) : Bool := decide ((T.length : Int) ≤ m) && (decide (0 < T.length ∧ zw_lE T 0 = T.length) && !decide (T.getD 0 0 = 97 + L - 1))
theorem zs_hasNext (H : zs_S h q L T S K) (hN : 1000 ≤ N) (hL : 1 ≤ L) (m : Int) (hm : -2147483648 ≤ m ∧ m < 2147483648) : fS_hasNext N q (Int32.ofInt m) h = some (cond (zs_hn L T m) (Int32.ofInt 1) (Int32.ofInt 0), h) := by
  have W := H.2.2.2.1
  have tl := W.2.2.2.1
  have hL9 := H.2.2.2.2.2.2
  unfold fS_hasNext zs_hn
  rw [zs_T H, cond_true, zs_t H, b1_s, zw_z W, b1_s, zqo_gt _ _ (by omega) hm]
  by_cases e1 : (T.length : Int) ≤ m
  · rw [decide_eq_false (by omega), cond_false, b1_s, zw_one W hN, b2, decide_eq_true e1, Bool.true_and]
    by_cases e2 : 0 < T.length ∧ zw_lE T 0 = T.length
    · have g1 := zw_gD W.2.2.2.2.2 0
      rw [decide_eq_true e2, cond_true, show z_cmp .eq (Int32.ofInt 1) (Int32.ofInt 0) = false from rfl, cond_false, zs_t H, b1_s, zw_at W 0 (by decide), b2, zs_greatest H, b2, zw_gi (by omega), show Int.toNat 0 = 0 from rfl, zw_sub, zqo_eq _ _ (by omega) (by omega), Bool.true_and]
      by_cases e3 : T.getD 0 0 = 97 + L - 1
      · rw [decide_eq_true (by omega), cond_true, decide_eq_true e3]
        rfl
      · rw [decide_eq_false (by omega), cond_false, decide_eq_false e3]
        rfl
    · rw [decide_eq_false e2, cond_false, show z_cmp .eq (Int32.ofInt 0) (Int32.ofInt 0) = true from rfl, cond_true, Bool.false_and]
      rfl
  · rw [decide_eq_true (by omega), cond_true, decide_eq_false e1, Bool.false_and]
    rfl
theorem zs_canKeep (H : zs_S h q L T S K) (c : Int) (hc : -2147483648 ≤ c ∧ c < 2147483648) : fS_canKeep N q (Int32.ofInt c) h = some (cond (decide (1 ≤ c ∧ c ≤ 40 ∧ K < 8)) (Int32.ofInt 1) (Int32.ofInt 0), h) := by
  have hK := H.2.2.2.2.2.1
  unfold fS_canKeep
  rw [zs_T H, cond_true, zqo_lt _ _ hc (by decide), zqo_gt _ _ hc (by decide), zs_K H, b1_s, zqo_ge _ _ (by omega) (by decide)]
  by_cases e1 : c < 1
  · rw [decide_eq_true e1, cond_true, decide_eq_false (by omega)]
    rfl
  · rw [decide_eq_false e1, cond_false]
    by_cases e2 : 40 < c
    · rw [decide_eq_true e2, cond_true, decide_eq_false (by omega)]
      rfl
    · rw [decide_eq_false e2, cond_false]
      by_cases e3 : 8 ≤ (K : Int)
      · rw [decide_eq_true e3, cond_true, decide_eq_false (by omega)]
        rfl
      · rw [decide_eq_false e3, cond_false, decide_eq_true (by omega)]
        rfl
/-- whether all letters are among the first M -/
theorem zs_fits (H : zs_S h q L T S K) (hN : 1000 ≤ N) {M : Nat} (hM : M ≤ 100) : fS_fitsLetters N q (Int32.ofInt (M : Int)) h = some (cond (((List.range K).all fun i => (S i).all fun v => decide (v < 97 + M)) && T.all fun v => decide (v < 97 + M)) (Int32.ofInt 1) (Int32.ofInt 0), h) := by
  have hK := H.2.2.2.2.2.1
  have key : ∀ c f i : Nat, c < f → i + c = K → fS_fitsLetters_2 N f q (Int32.ofInt (M : Int)) (Int32.ofInt (i : Int)) h = some (cond (((List.range' i c).all fun j => (S j).all fun v => decide (v < 97 + M)) && T.all fun v => decide (v < 97 + M)) (Int32.ofInt 1) (Int32.ofInt 0), h) := by
    intro c
    induction c with
    | zero =>
      intro f i h1 h2
      obtain ⟨g, rfl⟩ : ∃ g, f = g + 1 := ⟨f - 1, by omega⟩
      rw [fS_fitsLetters_2, zs_K H, b1_s, zqo_ge _ _ (by omega) (by omega), decide_eq_true (by omega), cond_true, zs_t H, b1_s, zw_fits H.2.2.2.1 hN hM, b2, List.range'_zero, List.all_nil, Bool.true_and]
      cases (T.all fun v => decide (v < 97 + M)) <;> rfl
    | succ c ih =>
      intro f i h1 h2
      obtain ⟨g, rfl⟩ : ∃ g, f = g + 1 := ⟨f - 1, by omega⟩
      rw [fS_fitsLetters_2, zs_K H, b1_s, zqo_ge _ _ (by omega) (by omega), decide_eq_false (by omega), cond_false, zs_at H _ (by omega), b2, if_pos (by omega)]
      show cond (fX h (q + 4 + 2 * i)) _ none = _
      rw [zs_X H (by omega), cond_true, show ((i : Nat) : Int).toNat = i by omega, zw_fits (H.2.2.2.2.1 i (by omega)) hN hM, b2, List.range'_succ, List.all_cons]
      cases (S i).all fun v => decide (v < 97 + M) with
      | true =>
        rw [cond_true, show z_cmp .ne (Int32.ofInt 1) (Int32.ofInt 0) = true from rfl, cond_true, Bool.true_and]
        unfold fS_fitsLetters_30
        rw [zh_inc]
        exact ih g (i + 1) (by omega) (by omega)
      | false => rfl
  unfold fS_fitsLetters
  rw [zs_T H, cond_true]
  have e := key K N 0 (by omega) (by omega)
  rw [← List.range_eq_range'] at e
  exact e
end ZSC1
end ZSC
