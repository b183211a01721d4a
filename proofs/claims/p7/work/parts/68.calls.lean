/-! THE CLASS'S readText. -/
/-- how many letters the input begins with -/
def zv_pl (L : Nat) : List Nat → Nat
  | [] => 0
  | v :: l => if 97 ≤ v ∧ v < 97 + L then zv_pl L l + 1 else 0
theorem zv_pll (L : Nat) : ∀ l : List Nat, zv_pl L l ≤ l.length := by
  intro l
  induction l with
  | nil => exact Nat.le_refl 0
  | cons v l ih =>
    rw [zv_pl, List.length_cons]
    split <;> omega
theorem zv_plL (L : Nat) : ∀ l : List Nat, ∀ v ∈ l.take (zv_pl L l), 97 ≤ v ∧ v < 97 + L := by
  intro l
  induction l with
  | nil => intro v h; cases h
  | cons u l ih =>
    intro v h
    rw [zv_pl] at h
    split at h
    · next e =>
      rw [List.take_succ_cons] at h
      rcases List.mem_cons.mp h with h | h
      · rw [h]
        exact e
      · exact ih v h
    · cases h
section ZVJ
variable {N : Nat} {h : zH} {now snap : zA} {hist : List zA} {sv : Int} {inp : List Nat} {rep : zvP}
theorem zv_isLetter (V : zv h now hist snap sv inp rep) (x : Int) (hx : -2147483648 ≤ x ∧ x < 2147483648) : fS_isLetter N 1 (Int32.ofInt x) h = some (cond (decide (97 ≤ x ∧ x < 97 + (now.1 : Int))) (Int32.ofInt 1) (Int32.ofInt 0), h) := by
  obtain ⟨ok, S, H, _⟩ := zv_open V
  exact zs_isLetter H x hx
theorem zk_read12 (V : zv h now hist snap sv inp rep) : ∀ c f i : Nat, c < f → i + c = inp.length → fB_readText_12 N f 0 204 (Int32.ofInt (i : Int)) (Int32.ofInt (i : Int)) h = fB_readText_45 N 0 204 (Int32.ofInt ((i + zv_pl now.1 (inp.drop i) : Nat) : Int)) h := by
  obtain ⟨W, cl⟩ := zv_inp V
  have hl := W.2.2.2.1
  have h256 := W.2.2.2.2.2
  have ok := (zv_open V).1
  intro c
  induction c with
  | zero =>
    intro f i h1 h2
    obtain ⟨g, rfl⟩ : ∃ g, f = g + 1 := ⟨f - 1, by omega⟩
    rw [fB_readText_12, zw_z W, b1_s, zqo_ge _ _ (by omega) (by omega), decide_eq_true (by omega), cond_true, List.drop_of_length_le (by omega)]
    rfl
  | succ c ih =>
    intro f i h1 h2
    obtain ⟨g, rfl⟩ : ∃ g, f = g + 1 := ⟨f - 1, by omega⟩
    have g1 := zw_gD h256 i
    have hd : inp.drop i = inp.getD i 0 :: inp.drop (i + 1) := by
      rw [List.drop_eq_getElem_cons (show i < inp.length by omega), List.getD_eq_getElem?_getD, List.getElem?_eq_getElem (show i < inp.length by omega)]
      rfl
    rw [fB_readText_12, zw_z W, b1_s, zqo_ge _ _ (by omega) (by omega), decide_eq_false (by omega), cond_false, zv_r00 V, b1_s, zw_at W _ (by omega), b2, zw_gi (by omega), show ((i : Nat) : Int).toNat = i by omega, zv_isLetter V _ (by omega), b2, hd, zv_pl]
    by_cases e : 97 ≤ inp.getD i 0 ∧ inp.getD i 0 < 97 + now.1
    · rw [decide_eq_true (by omega), cond_true, show z_cmp .eq (Int32.ofInt 1) (Int32.ofInt 0) = false from rfl, cond_false, if_pos e, zh_inc, ih g (i + 1) (by omega) (by omega)]
      congr 3
      omega
    · rw [decide_eq_false (by omega), cond_false, show z_cmp .eq (Int32.ofInt 0) (Int32.ofInt 0) = true from rfl, cond_true, if_neg e, Nat.add_zero]
theorem zk_readText (V : zv h now hist snap sv inp rep) (hN : 3000 ≤ N) : (120 < zv_pl now.1 inp ∧ fB_readText N 0 h = some (.inr 1, h)) ∨ (zv_pl now.1 inp ≤ 120 ∧ ∃ h', fB_readText N 0 h = some (.inl (Int32.ofInt (zv_pl now.1 inp : Int)), h') ∧ zv h' (now.1, inp.take (zv_pl now.1 inp), now.2.2) (zv_push hist now) snap sv [] rep ∧ zc_F h h') := by
  obtain ⟨W, cl⟩ := zv_inp V
  have hl := W.2.2.2.1
  have pl := zv_pll now.1 inp
  have e0 := zk_read12 (N := N) V inp.length N 0 (by omega) (by omega)
  rw [List.drop_zero, Nat.zero_add] at e0
  unfold fB_readText
  rw [zv_T0 V, cond_true, zv_r04 V, b1_s, zv_r20 V, b1_s, show Int32.ofInt 0 = Int32.ofInt ((0 : Nat) : Int) from rfl, e0]
  unfold fB_readText_45
  rw [zqo_le _ _ (by omega) (by decide)]
  by_cases e : zv_pl now.1 inp ≤ 120
  · refine Or.inr ⟨e, ?_⟩
    obtain ⟨h1, e1, V1, F1⟩ := zv_remember (N := N) V (by omega)
    obtain ⟨h2, e2, W2, F2⟩ := zw_clear (N := N) (zv_txt V1)
    obtain ⟨V2, G2⟩ := zv_text V1 W2 F2 (fun v hv => by cases hv)
    obtain ⟨I2, _⟩ := zv_inp V2
    obtain ⟨h3, e3, W3, F3⟩ := zw_addPart (N := N) (show zw_d 204 (1 + 1) by unfold zw_d; omega) W2 I2 0 (zv_pl now.1 inp) (by omega) (by rw [List.length_nil]; omega) (by omega)
    rw [List.drop_zero, List.nil_append] at W3
    rw [Nat.zero_add] at e3
    obtain ⟨V3, G3⟩ := zv_text V2 W3 F3 (zv_plL now.1 inp)
    obtain ⟨I3, cl3⟩ := zv_inp V3
    obtain ⟨h4, e4, W4, F4⟩ := zw_clear (N := N) I3
    obtain ⟨V4, G4⟩ := cl3 h4 _ W4 F4
    have z4 := zw_z (zv_txt V4)
    have lt : (inp.take (zv_pl now.1 inp)).length = zv_pl now.1 inp := by rw [List.length_take]; omega
    refine ⟨h4, ?_, V4, zc_Ft F1 (zc_Ft G2 (zc_Ft G3 G4))⟩
    rw [decide_eq_true (by omega), cond_true, zv_r01 V, b1_s, zv_r00 V, b1_s, e1, b2, zv_r00 V1, b1_s, zv_t V1, b1_s, e2, b2, zv_r00 V2, b1_s, zv_t V2, b1_s, show Int32.ofInt 0 = Int32.ofInt ((0 : Nat) : Int) from rfl, e3, b2, e4, b2, zv_r00 V4, b1_s, zv_t V4, b1_s, z4, b1_s]
    show some (Sum.inl (Int32.ofInt ((inp.take (zv_pl now.1 inp)).length : Int)), h4) = _
    rw [lt]
  · refine Or.inl ⟨by omega, ?_⟩
    rw [decide_eq_false (by omega), cond_false]
end ZVJ
