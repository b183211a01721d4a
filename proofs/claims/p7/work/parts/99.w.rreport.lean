/-! THE REPORT BY THE REFERENCE. -/
section YJA
variable {N : Nat} {h : zH} {now snap : zA} {hist : List zA} {sv t : Int} {inp : List Nat} {rep : zvP} {p : Int × Int}
/-- the reference with its factors' starts laid by -/
def yj (h : zH) (now : zA) (hist : List zA) (snap : zA) (sv : Int) (inp : List Nat) (rep : zvP) (t : Int) : Prop := ∃ fl a, zr h fl a ∧ zyR fl a now hist snap sv inp rep t ∧ zr_fs a now.2.1
theorem yj_ch : ∀ v : Nat, v < 256 → vp_nar .char ((Int32.ofInt (v : Int)).toUInt32 % 65536).toInt32 = Int32.ofInt (v : Int) := by decide +kernel
theorem yj_put (l : List Nat) (v : Nat) {i : Nat} (hi : i < l.length) : (l ++ [v]).getD i 0 = l.getD i 0 := by
  rw [List.getD_eq_getElem?_getD, List.getElem?_append_left hi, List.getD_eq_getElem?_getD]
theorem yj_putl (l : List Nat) (v : Nat) : (l ++ [v]).getD l.length 0 = v := by
  rw [List.getD_eq_getElem?_getD, List.getElem?_append_right (Nat.le_refl _), Nat.sub_self]
  rfl
/-- one byte written -/
theorem yj_write {l : List Nat} (Y : yj h now hist snap sv inp (l, p) t) (v : Nat) (hv : v < 256) (hl : l.length < 400) : ∃ h', fM_write N 232 (Int32.ofInt (v : Int)) h = some ((), h') ∧ yj h' now hist snap sv inp (l ++ [v], p) t ∧ zr_F h h' := by
  obtain ⟨fl, a, H, R, S⟩ := Y
  obtain ⟨r1, r2, r3, r4, r5, r6, ⟨⟨r7, r8⟩, r9⟩, r10⟩ := R
  have r7 : fl 16 = (l.length : Int) := r7
  have r9 : ∀ i, i < l.length → a 241 i = (l.getD i 0 : Int) := r9
  obtain ⟨h3, e3, H3, F3⟩ := zr_p H 241 l.length (by decide) (by decide) (by show l.length < 400; omega) (v : Int)
  obtain ⟨h5, e5, H5, F5⟩ := zr_s H3 16 rfl ((l.length : Int) + 1)
  have ea : ∀ q, q ≠ 241 → zr_v a 241 l.length (v : Int) q = a q := fun q hq => funext fun j => zr_vn a _ (Or.inl hq)
  refine ⟨h5, ?_, ⟨_, _, H5, ⟨?_, r2, ?_, r4, ?_, ⟨r6.1, ?_⟩, ⟨⟨?_, r8⟩, ?_⟩, r10⟩, ?_⟩, zr_Ft F3 F5⟩
  · unfold fM_write
    rw [zr_T H, cond_true, zr_r15 H, b1_s, zr_i H 16 rfl, b1_s, r7, yj_ch v hv]
    show b1 (fAS h 241 (zr_t 241) (Int32.ofInt (l.length : Int)) (.int (Int32.ofInt (v : Int)))) _ = _
    rw [e3, b1_s, zr_i H3 16 rfl, b1_s, r7, zw_add, e5, b1_s]
  · rw [ea 233 (by decide)]
    exact r1
  · intro i A hi
    rw [ea 235 (by decide)]
    exact r3 i A hi
  · rw [ea 236 (by decide)]
    exact r5
  · rw [ea 237 (by decide)]
    exact r6.2
  · show (l.length : Int) + 1 = ((l ++ [v]).length : Int)
    rw [List.length_append]
    rfl
  · intro i hi
    have hi : i < l.length + 1 := by
      have : i < (l ++ [v]).length := hi
      rw [List.length_append] at this
      exact this
    show zr_v a 241 l.length (v : Int) 241 i = ((l ++ [v]).getD i 0 : Int)
    by_cases e : i = l.length
    · rw [e, zr_vs, yj_putl]
    · rw [zr_vn a _ (Or.inr e), yj_put l v (by omega)]
      exact r9 i (by omega)
  · unfold zr_fs
    rw [ea 240 (by decide)]
    exact S
/-- a number's digits by the reference -/
def yj_d : Nat → Nat → List Nat
  | 0, p => [48 + p % 10]
  | R + 1, p => if p ≤ 9 then [48 + p % 10] else yj_d R (p / 10) ++ [48 + p % 10]
theorem yj_dd : ∀ p, p < 1000 → yj_d 7 p = yu_d p := by decide +kernel
theorem yj_num (R : Nat) : ∀ (m : Nat) (h : zH) (l : List Nat), yj h now hist snap sv inp (l, p) t → m ≤ 999 → m < 10 ^ (R + 1) → l.length + R < 400 → ∃ h', fM_writeNumber N (R + 1) 232 (Int32.ofInt (m : Int)) h = some ((), h') ∧ yj h' now hist snap sv inp (l ++ yj_d R m, p) t ∧ zr_F h h' ∧ (yj_d R m).length ≤ R + 1 := by
  have n10 : ¬ Int32.ofInt 10 = Int32.ofInt 0 := by decide
  have s14 : ∀ (rc : Nat → Int32 → zH → Option (Unit × zH)) (m : Nat) (h : zH) (l : List Nat), yj h now hist snap sv inp (l, p) t → m ≤ 999 → l.length < 400 → ∃ h', fM_writeNumber_14 N rc 232 (Int32.ofInt (m : Int)) h = some ((), h') ∧ yj h' now hist snap sv inp (l ++ [48 + m % 10], p) t ∧ zr_F h h' := by
    intro rc m h l Y hm hl
    have m3 := Nat.mod_lt m (show 10 > 0 by decide)
    obtain ⟨h1, e1, Y1, F1⟩ := yj_write (N := N) Y (48 + m % 10) (by omega) hl
    refine ⟨h1, ?_, Y1, F1⟩
    unfold fM_writeNumber_14
    rw [if_neg n10, yu_dig m hm, e1, b2]
  induction R with
  | zero =>
    intro m h l Y h1 h2 h3
    have h2 : m < 10 := h2
    obtain ⟨fl, a, H, _⟩ := id Y
    obtain ⟨h4, e4, Y4, F4⟩ := s14 (fM_writeNumber N 0) m h l Y h1 (by omega)
    refine ⟨h4, ?_, Y4, F4, Nat.le_refl 1⟩
    rw [fM_writeNumber]
    unfold fM_writeNumber_B
    rw [zr_T H, cond_true, zqo_le _ _ (by omega) (by decide), decide_eq_true (by omega), cond_true]
    exact e4
  | succ R ih =>
    intro m h l Y h1 h2 h3
    obtain ⟨fl, a, H, _⟩ := id Y
    rw [fM_writeNumber]
    unfold fM_writeNumber_B
    rw [zr_T H, cond_true, zqo_le _ _ (by omega) (by decide)]
    by_cases e : m ≤ 9
    · obtain ⟨h4, e4, Y4, F4⟩ := s14 (fM_writeNumber N (R + 1)) m h l Y h1 (by omega)
      have ed : yj_d (R + 1) m = [48 + m % 10] := if_pos e
      rw [decide_eq_true (by omega), cond_true, ed]
      exact ⟨h4, e4, Y4, F4, Nat.le_add_left 1 _⟩
    · have d1 : Int32.ofInt (m : Int) / Int32.ofInt 10 = Int32.ofInt ((m / 10 : Nat) : Int) := yu_div m h1 10 (by decide)
      obtain ⟨h3', e3, Y3, F3, L3⟩ := ih (m / 10) h l Y (by omega) (by
        rw [Nat.pow_succ] at h2
        exact Nat.div_lt_of_lt_mul (by rw [Nat.mul_comm]; exact h2)) (by omega)
      have ed : yj_d (R + 1) m = yj_d R (m / 10) ++ [48 + m % 10] := if_neg e
      obtain ⟨h4, e4, Y4, F4⟩ := s14 (fM_writeNumber N (R + 1)) m h3' _ Y3 h1 (by rw [List.length_append]; omega)
      rw [List.append_assoc, ← ed] at Y4
      refine ⟨h4, ?_, Y4, zr_Ft F3 F4, by rw [ed, List.length_append]; exact Nat.add_le_add_right L3 1⟩
      rw [decide_eq_false (by omega), cond_false, if_neg n10, d1, e3, b2]
      exact e4
theorem yj_number {l : List Nat} (Y : yj h now hist snap sv inp (l, p) t) (m : Nat) (hm : m ≤ 999) (hl : l.length + 7 < 400) : ∃ h', fM_writeNumber N 8 232 (Int32.ofInt (m : Int)) h = some ((), h') ∧ yj h' now hist snap sv inp (l ++ yu_d m, p) t ∧ zr_F h h' := by
  obtain ⟨h1, e1, Y1, F1, _⟩ := yj_num (N := N) 7 m h l Y hm (Nat.lt_of_le_of_lt hm (by decide)) hl
  rw [yj_dd m (by omega)] at Y1
  exact ⟨h1, e1, Y1, F1⟩
/-- a factor's starts -/
theorem yj_st {rep : zvP} (Y : yj h now hist snap sv inp rep t) {i : Nat} (hi : i < yu_m now.2.1) : fT h 232 5 = true ∧ fR h 232 5 9 = some 240 ∧ (now.2.1.length ≤ 120 → fAI h 240 100 (Int32.ofInt (i : Int)) = some (Int32.ofInt (yu_s now.2.1 i : Int)) ∧ fAI h 240 100 (Int32.ofInt (i : Int) + Int32.ofInt 1) = some (Int32.ofInt (yu_s now.2.1 (i + 1) : Int))) := by
  obtain ⟨fl, a, H, R, S⟩ := Y
  obtain ⟨_, _, f3, f4⟩ := yu_f hi
  obtain ⟨s1, s2, _, _⟩ := zr_fk2 S (show i < (zw_fs now.2.1).length from hi)
  have mle := yu_mle now.2.1
  refine ⟨zr_T H, zr_r9 H, fun hl => ⟨?_, ?_⟩⟩
  · rw [zr_st H i (by omega), s1, f3]
  · rw [zh_inc, zr_st H (i + 1) (by omega), s2, f4]
theorem yj_let {rep : zvP} (Y : yj h now hist snap sv inp rep t) {j : Nat} (hl : now.2.1.length ≤ 120) (hj : j < now.2.1.length) : fR h 232 5 0 = some 233 ∧ fAI h 233 100 (Int32.ofInt 3 + Int32.ofInt (j : Int)) = some (Int32.ofInt ((now.2.1.getD j 0 : Int) - 97)) := by
  obtain ⟨fl, a, H, R, S⟩ := Y
  refine ⟨zr_r0 H, ?_⟩
  have g := zr_w H (3 + j) (by omega)
  rw [(zyR_tx R).2 j hj] at g
  rw [zw_add]
  exact g
/-- a factor's letters, then how often -/
theorem yj_f17 (hT : now.2.1.length ≤ 120) (hv : ∀ v ∈ now.2.1, v < 256) {i : Nat} (hi : i < yu_m now.2.1) (w : Nat) (hw : w ≤ 999) : ∀ (c f j : Nat) (h : zH) (l : List Nat), yj h now hist snap sv inp (l, p) t → j + c = yu_s now.2.1 (i + 1) → c < f → l.length + c + 9 ≤ 400 → ∃ h', fM_writeFactor_17 N f 232 (Int32.ofInt (i : Int)) (Int32.ofInt (w : Int)) (Int32.ofInt (j : Int)) h = some ((), h') ∧ yj h' now hist snap sv inp (l ++ (zw_p now.2.1 j (yu_s now.2.1 (i + 1)) ++ (if 1 < w then 94 :: yu_d w else [])), p) t ∧ zr_F h h' := by
  have lt := yu_lt hi
  intro c
  induction c with
  | zero =>
    intro f j h l Y h1 h2 h3
    obtain ⟨g, rfl⟩ : ∃ g, f = g + 1 := ⟨f - 1, by omega⟩
    obtain ⟨y1, y2, y3⟩ := yj_st Y hi
    rw [fM_writeFactor_17, y2, b1_s, (y3 hT).2, b1_s, zqo_ge _ _ (by omega) (by omega), decide_eq_true (by omega), cond_true, zqo_le _ _ (by omega) (by decide), zw_p0 (by omega), List.nil_append]
    by_cases e : 1 < w
    · obtain ⟨h4, e4, Y4, F4⟩ := yj_write (N := N) Y 94 (by decide) (by omega)
      have e4 : fM_write N 232 (Int32.ofInt 94) h = some ((), h4) := e4
      obtain ⟨h5, e5, Y5, F5⟩ := yj_number (N := N) Y4 w hw (by rw [List.length_append]; show l.length + 1 + 7 < 400; omega)
      rw [List.append_assoc] at Y5
      rw [if_pos e, decide_eq_false (by omega), cond_false, e4, b2, e5, b2]
      exact ⟨h5, rfl, Y5, zr_Ft F4 F5⟩
    · rw [if_neg e, decide_eq_true (by omega), cond_true, List.append_nil]
      exact ⟨h, rfl, Y, zr_Fr h⟩
  | succ c ih =>
    intro f j h l Y h1 h2 h3
    obtain ⟨g, rfl⟩ : ∃ g, f = g + 1 := ⟨f - 1, by omega⟩
    obtain ⟨y1, y2, y3⟩ := yj_st Y hi
    obtain ⟨z1, z2⟩ := yj_let Y (j := j) hT (by omega)
    have hb : now.2.1.getD j 0 < 256 := hv _ (by
      rw [List.getD_eq_getElem?_getD, List.getElem?_eq_getElem (show j < now.2.1.length by omega)]
      exact List.getElem_mem _)
    obtain ⟨h4, e4, Y4, F4⟩ := yj_write (N := N) Y (now.2.1.getD j 0) hb (by omega)
    obtain ⟨h5, e5, Y5, F5⟩ := ih g (j + 1) h4 _ Y4 (by omega) (by omega) (by rw [List.length_append]; show l.length + 1 + c + 9 ≤ 400; omega)
    rw [List.append_assoc] at Y5
    refine ⟨h5, ?_, ?_, zr_Ft F4 F5⟩
    · rw [fM_writeFactor_17, y2, b1_s, (y3 hT).2, b1_s, zqo_ge _ _ (by omega) (by omega), decide_eq_false (by omega), cond_false, z1, b1_s, z2, b1_s, zw_add, show (97 : Int) + ((now.2.1.getD j 0 : Int) - 97) = (now.2.1.getD j 0 : Int) by omega, e4, b2, zh_inc]
      exact e5
    · rw [zw_pc (show j < yu_s now.2.1 (i + 1) by omega) lt.2]
      exact Y5
/-- a group written -/
theorem yj_fac (hN : 1000 ≤ N) (hT : now.2.1.length ≤ 120) (hv : ∀ v ∈ now.2.1, v < 256) {i : Nat} (hi : i < yu_m now.2.1) (hc : yu_c now.2.1 i ≤ 999) {l : List Nat} (Y : yj h now hist snap sv inp (l, p) t) (hl : l.length ≤ 240) : ∃ h', fM_writeFactor N 232 (Int32.ofInt (i : Int)) (Int32.ofInt (yu_c now.2.1 i : Int)) h = some ((), h') ∧ yj h' now hist snap sv inp (l ++ yu_g now.2.1 i, p) t ∧ zr_F h h' := by
  have lt := yu_lt hi
  have mle := yu_mle now.2.1
  have s10 : ∀ (h : zH) (l : List Nat), yj h now hist snap sv inp (l, p) t → l.length ≤ 241 → ∃ h', fM_writeFactor_10 N 232 (Int32.ofInt (i : Int)) (Int32.ofInt (yu_c now.2.1 i : Int)) h = some ((), h') ∧ yj h' now hist snap sv inp (l ++ (yu_w now.2.1 i ++ (if 1 < yu_c now.2.1 i then 94 :: yu_d (yu_c now.2.1 i) else [])), p) t ∧ zr_F h h' := by
    intro h l Y hl
    obtain ⟨y1, y2, y3⟩ := yj_st Y hi
    obtain ⟨h1, e1, Y1, F1⟩ := yj_f17 (N := N) hT hv hi (yu_c now.2.1 i) hc (yu_s now.2.1 (i + 1) - yu_s now.2.1 i) N (yu_s now.2.1 i) h l Y (by omega) (by omega) (by omega)
    refine ⟨h1, ?_, Y1, F1⟩
    unfold fM_writeFactor_10
    rw [y2, b1_s, (y3 hT).1, b1_s]
    exact e1
  unfold fM_writeFactor yu_g
  rw [(yj_st Y hi).1, cond_true, zqo_le _ _ (by omega) (by decide)]
  by_cases e : 0 < i
  · obtain ⟨h1, e1, Y1, F1⟩ := yj_write (N := N) Y 124 (by decide) (by omega)
    have e1 : fM_write N 232 (Int32.ofInt 124) h = some ((), h1) := e1
    obtain ⟨h2, e2, Y2, F2⟩ := s10 h1 _ Y1 (by rw [List.length_append]; show l.length + 1 ≤ 241; omega)
    rw [List.append_assoc] at Y2
    rw [if_pos e, decide_eq_false (by omega), cond_false, e1, b2]
    exact ⟨h2, e2, Y2, zr_Ft F1 F2⟩
  · obtain ⟨h2, e2, Y2, F2⟩ := s10 h l Y (by omega)
    rw [if_neg e, decide_eq_true (by omega), cond_true, List.nil_append]
    exact ⟨h2, e2, Y2, F2⟩
/-- all groups, from a factor on -/
theorem yj_17 (hN : 1000 ≤ N) (hT : now.2.1.length ≤ 120) (hv : ∀ v ∈ now.2.1, v < 256) : ∀ (d f i i' c : Nat) (h : zH) (l : List Nat), yj h now hist snap sv inp (l, p) t → i + d = yu_m now.2.1 → i ≤ i' → i' ≤ yu_m now.2.1 → (i' = yu_m now.2.1 ∨ yu_1 now.2.1 i') → (∀ k, i ≤ k → k < i' → 1 ≤ k ∧ yu_w now.2.1 k = yu_w now.2.1 (k - 1)) → yu_m now.2.1 ≤ i' + c → d < f → l.length ≤ 2 * yu_s now.2.1 i' → ∃ h', fM_writeFactors_17 N f 232 (Int32.ofInt (yu_m now.2.1 : Int)) (Int32.ofInt (i : Int)) h = some (Int32.ofInt ((l ++ yu_r now.2.1 c i').length : Int), h') ∧ yj h' now hist snap sv inp (l ++ yu_r now.2.1 c i', p) t ∧ zr_F h h' := by
  have mle := yu_mle now.2.1
  intro d
  induction d with
  | zero =>
    intro f i i' c h l Y h1 h2 h3 h4 h5 h6 h7 h8
    obtain ⟨g, rfl⟩ : ∃ g, f = g + 1 := ⟨f - 1, by omega⟩
    obtain ⟨fl, a, H, R, S⟩ := id Y
    have e16 : fl 16 = (l.length : Int) := R.2.2.2.2.2.2.1.1.1
    have er : yu_r now.2.1 c i' = [] := by
      cases c with
      | zero => rfl
      | succ c => exact if_neg (by omega)
    rw [er, List.append_nil]
    refine ⟨h, ?_, Y, zr_Fr h⟩
    rw [fM_writeFactors_17, zqo_ge _ _ (by omega) (by omega), decide_eq_true (by omega), cond_true, zr_i H 16 rfl, b1_s, e16]
  | succ d ih =>
    intro f i i' c h l Y h1 h2 h3 h4 h5 h6 h7 h8
    obtain ⟨g, rfl⟩ : ∃ g, f = g + 1 := ⟨f - 1, by omega⟩
    obtain ⟨fl, a, H, R, S⟩ := id Y
    have al : ∀ k, 1 ≤ k → k < yu_m now.2.1 → fM_areAlike N 232 (Int32.ofInt (k : Int)) (Int32.ofInt (k : Int) - Int32.ofInt 1) h = some (cond (decide (yu_w now.2.1 (k - 1) = yu_w now.2.1 k)) (Int32.ofInt 1) (Int32.ofInt 0), h) := by
      intro k k1 k2
      have q := zr_alike hN H (zyR_tx R) hT hv S (k := k) (i := k - 1) k2 (show k - 1 < yu_m now.2.1 by omega)
      rw [(yu_f k2).2.2.1, (yu_f k2).2.2.2, (yu_f (show k - 1 < yu_m now.2.1 by omega)).2.2.1, (yu_f (show k - 1 < yu_m now.2.1 by omega)).2.2.2] at q
      rw [zw_sub, show (k : Int) - 1 = ((k - 1 : Nat) : Int) by omega, q]
      show some (cond (decide (zw_cmp (yu_w now.2.1 (k - 1)) (yu_w now.2.1 k) = 0)) _ _, h) = _
      rw [decide_eq_decide.mpr (zw_cmp0 (yu_w now.2.1 (k - 1)) (yu_w now.2.1 k))]
    rcases Nat.lt_or_ge i i' with x | x
    · obtain ⟨h9, e9, Y9, F9⟩ := ih g (i + 1) i' c h l Y (by omega) (by omega) h3 h4 (fun k k1 k2 => h5 k (by omega) k2) h6 (by omega) h8
      refine ⟨h9, ?_, Y9, F9⟩
      obtain ⟨k1, k2⟩ := h5 i (Nat.le_refl i) x
      rw [fM_writeFactors_17, zqo_ge _ _ (by omega) (by omega), decide_eq_false (by omega), cond_false, zqo_eq _ _ (by omega) (by decide), decide_eq_false (by omega), cond_false, al i k1 (by omega), b2, decide_eq_true k2.symm]
      show fM_writeFactors_17 N g 232 (Int32.ofInt (yu_m now.2.1 : Int)) (Int32.ofInt (i : Int) + Int32.ofInt 1) h = _
      rw [zh_inc]
      exact e9
    · have ei : i' = i := by omega
      subst ei
      have y1 : yu_1 now.2.1 i' := h4.resolve_left (by omega)
      obtain ⟨q1, q2, q3, q4, q5⟩ := yu_grp y1
      have gl := yu_gl y1 hT
      have s1 := yu_is now.2.1 i' (by omega)
      have s2 := yu_is now.2.1 (i' + yu_c now.2.1 i') (by omega)
      have s3 : yu_s now.2.1 i' ≤ yu_s now.2.1 (i' + yu_c now.2.1 i') := by
        rw [q5]
        exact Nat.le_add_right _ _
      have pw : fM_powerOf N 232 (Int32.ofInt (i' : Int)) (Int32.ofInt (yu_m now.2.1 : Int)) h = some (Int32.ofInt (yu_c now.2.1 i' : Int), h) := by
        have q := zr_power5 (N := N) hN H (zyR_tx R) hT hv S (show i' < (zw_fs now.2.1).length from y1.1) (zw_fs now.2.1).length N 0 0 (Nat.zero_add _) (by show yu_m now.2.1 < N; omega)
        rw [List.drop_zero, Nat.zero_add, (yu_f y1.1).2.2.1, (yu_f y1.1).2.2.2] at q
        unfold fM_powerOf
        rw [zr_T H, cond_true]
        exact q
      have cl : yu_c now.2.1 i' ≤ 120 := by omega
      obtain ⟨h8', e8, Y8, F8⟩ := yj_fac (N := N) hN hT hv y1.1 (by omega) Y (by omega)
      obtain ⟨c', rfl⟩ : ∃ c', c = c' + 1 := ⟨c - 1, by omega⟩
      have er : yu_r now.2.1 (c' + 1) i' = yu_g now.2.1 i' ++ yu_r now.2.1 c' (i' + yu_c now.2.1 i') := if_pos y1.1
      obtain ⟨h9, e9, Y9, F9⟩ := ih g (i' + 1) (i' + yu_c now.2.1 i') c' h8' _ Y8 (by omega) (by omega) q2 (by
        by_cases z : i' + yu_c now.2.1 i' < yu_m now.2.1
        · exact Or.inr (q4 z)
        · exact Or.inl (by omega)) (fun k k1 k2 => ⟨by omega, by
          have a1 := q3 (k - i') (by omega)
          have a2 := q3 (k - 1 - i') (by omega)
          rw [show i' + (k - i') = k by omega] at a1
          rw [show i' + (k - 1 - i') = k - 1 by omega] at a2
          rw [a1, a2]⟩) (by omega) (by omega) (by rw [List.length_append]; omega)
      rw [List.append_assoc, ← er] at e9 Y9
      have s37 : fM_writeFactors_37 N (fM_writeFactors_17 N g) 232 (Int32.ofInt (yu_m now.2.1 : Int)) (Int32.ofInt (i' : Int)) h = fM_writeFactors_17 N g 232 (Int32.ofInt (yu_m now.2.1 : Int)) (Int32.ofInt ((i' + 1 : Nat) : Int)) h8' := by
        unfold fM_writeFactors_37
        rw [pw, b2, e8, b2]
        show fM_writeFactors_17 N g 232 (Int32.ofInt (yu_m now.2.1 : Int)) (Int32.ofInt (i' : Int) + Int32.ofInt 1) h8' = _
        rw [zh_inc]
      refine ⟨h9, ?_, Y9, zr_Ft F8 F9⟩
      rw [fM_writeFactors_17, zqo_ge _ _ (by omega) (by omega), decide_eq_false (by omega), cond_false, zqo_eq _ _ (by omega) (by decide)]
      by_cases e0 : i' = 0
      · rw [decide_eq_true (by omega), cond_true, s37]
        exact e9
      · have ne : yu_w now.2.1 (i' - 1) ≠ yu_w now.2.1 i' := y1.2.resolve_left e0
        rw [decide_eq_false (by omega), cond_false, al i' (by omega) y1.1, b2, decide_eq_false ne]
        show fM_writeFactors_37 N (fM_writeFactors_17 N g) 232 (Int32.ofInt (yu_m now.2.1 : Int)) (Int32.ofInt (i' : Int)) h = _
        rw [s37]
        exact e9
theorem zn_writeFactors (Y : zy h now hist snap sv inp rep t) (ok : zv_ok now) (hN : 4000 ≤ N) : ∃ h', fM_writeFactors N 232 h = some (Int32.ofInt ((yu_rep now.2.1).length : Int), h') ∧ zy h' now hist snap sv inp (yu_rep now.2.1, rep.2) 0 ∧ zr_F h h' := by
  have o2 := ok.2.1
  obtain ⟨fl, a, H, R⟩ := Y
  obtain ⟨h1, e1, H1, F1⟩ := zr_s H 17 rfl 0
  obtain ⟨h2, e2, H2, F2⟩ := zr_s H1 16 rfl 0
  have Y2 : zy h2 now hist snap sv inp ([], rep.2) 0 := ⟨_, _, H2, R.1, R.2.1, R.2.2.1, R.2.2.2.1, R.2.2.2.2.1, R.2.2.2.2.2.1, ⟨⟨rfl, R.2.2.2.2.2.2.1.1.2⟩, fun i hi => absurd hi (Nat.not_lt_zero i)⟩, rfl⟩
  obtain ⟨h3, e3, Y3, _, F3⟩ := zy_factors (N := N) (by omega) Y2 ok
  have mle := yu_mle now.2.1
  obtain ⟨h4, e4, ⟨fl4, a4, H4, R4, _⟩, F4⟩ := yj_17 (N := N) (by omega) o2 (zv_256 ok) (yu_m now.2.1) N 0 0 (yu_m now.2.1) h3 [] Y3 (Nat.zero_add _) (Nat.le_refl 0) (Nat.zero_le _) (by
    by_cases x : yu_m now.2.1 = 0
    · exact Or.inl x.symm
    · exact Or.inr ⟨by omega, Or.inl rfl⟩) (fun k k1 k2 => absurd k2 (Nat.not_lt_zero k)) (by omega) (by omega) (Nat.zero_le _)
  refine ⟨h4, ?_, ⟨fl4, a4, H4, R4⟩, zr_Ft F1 (zr_Ft F2 (zr_Ft F3 F4))⟩
  unfold fM_writeFactors
  rw [zr_T H, cond_true, e1, b1_s, e2, b1_s, e3, b2]
  exact e4
theorem yu_replen {T : List Nat} (hT : T.length ≤ 120) : (yu_rep T).length ≤ 240 := by
  have mle := yu_mle T
  have g : ∀ (c i : Nat), (i = yu_m T ∨ yu_1 T i) → (yu_r T c i).length ≤ 2 * (T.length - yu_s T i) := by
    intro c
    induction c with
    | zero => intro i _; exact Nat.zero_le _
    | succ c ih =>
      intro i hi
      by_cases e : i < yu_m T
      · have y1 : yu_1 T i := hi.resolve_left (by omega)
        obtain ⟨q1, q2, q3, q4, q5⟩ := yu_grp y1
        have gl := yu_gl y1 hT
        have s2 := yu_is T (i + yu_c T i) q2
        have s3 : yu_s T i ≤ yu_s T (i + yu_c T i) := by
          rw [q5]
          exact Nat.le_add_right _ _
        have er : yu_r T (c + 1) i = yu_g T i ++ yu_r T c (i + yu_c T i) := if_pos e
        have r := ih (i + yu_c T i) (by
          by_cases z : i + yu_c T i < yu_m T
          · exact Or.inr (q4 z)
          · exact Or.inl (by omega))
        rw [er, List.length_append]
        omega
      · have er : yu_r T (c + 1) i = [] := if_neg e
        rw [er]
        exact Nat.zero_le _
  have := g (yu_m T) 0 (by
    by_cases x : yu_m T = 0
    · exact Or.inl x.symm
    · exact Or.inr ⟨by omega, Or.inl rfl⟩)
  unfold yu_rep
  omega
end YJA
