/-! THE REFERENCE'S TURNS, PARTS AND MIRRORS. -/
section ZYE
variable {N : Nat} {h : zH} {fl fl' : Nat → Int} {a a' : Nat → Nat → Int} {bef now snap : zA} {hist : List zA} {sv t : Int} {inp : List Nat} {rep : zvP} {T : List Nat}
theorem zv_256 (ok : zv_ok now) : ∀ v ∈ now.2.1, v < 256 := fun v hv => by
  have := ok.2.2.1 v hv
  have := ok.1.2
  omega
theorem zw_trn256 {c : Nat} (hT : ∀ v ∈ T, v < 256) (hc : c ≤ T.length) : ∀ v ∈ zw_trn T c, v < 256 := by
  intro v hv
  obtain ⟨i, hi, e⟩ := List.getElem_of_mem hv
  rw [zw_trnl] at hi
  have := zm_trn hc hi
  rw [List.getD_eq_getElem?_getD, List.getElem?_eq_getElem (by rw [zw_trnl]; exact hi)] at this
  have e2 : v = zm_c T (i + c) := e.symm.trans this
  rw [e2]
  exact zm_clt hT _
theorem zy_turns (hN : 1000 ≤ N) (Y : zyp h bef now hist snap sv inp rep t) (ok : zv_ok now) (x : Nat) (hx : x ≤ now.2.1.length) : ∃ h', fM_turns N 232 (Int32.ofInt (x : Int)) h = some (Int32.ofInt ((zw_fs (zw_trn now.2.1 x)).length : Int), h') ∧ zyp h' bef (now.1, zw_trn now.2.1 x, now.2.2) hist snap sv inp rep t ∧ zr_F h h' := by
  obtain ⟨fl, a, H, R, B⟩ := Y
  have o2 := ok.2.1
  have g1 : fAI h 233 100 (Int32.ofInt 1) = some (Int32.ofInt (a 233 1)) := zr_w H 1 (by decide)
  have tx := zyR_tx R
  have hl := zw_trnl now.2.1 x
  unfold fM_turns
  rw [zr_T H, cond_true, zr_r0 H, b1_s, g1, b1_s, tx.1, zqo_le _ _ (by omega) (by decide)]
  by_cases e : now.2.1.length = 0
  · rw [decide_eq_true (by omega), cond_true]
    have e1 : now.2.1 = [] := List.eq_nil_of_length_eq_zero e
    have e2 : zw_trn now.2.1 x = now.2.1 := by
      rw [List.eq_nil_of_length_eq_zero (hl.trans e), e1]
    obtain ⟨h2, f2, a2, e3, H2, F2, Q2, _, _⟩ := zr_factors hN H tx ⟨by omega, zv_256 ok⟩ o2
    rw [e2]
    refine ⟨h2, ?_, ⟨f2, a2, H2, zyR_Q R Q2, ?_⟩, F2⟩
    · unfold fM_turns_19
      rw [e3]
      rfl
    · rw [show a2 234 = a 234 from funext fun i => Q2.2 234 i (by decide) (by decide)]
      exact B
  · rw [decide_eq_false (by omega), cond_false]
    obtain ⟨h1, f1, a1, e1, H1, F1, Q1, r1⟩ := zr_rotated hN H tx o2 hx
    obtain ⟨h3, ⟨h4, e4, e5⟩, Y3, F3⟩ := zy_takes hN H1 (zyR_Q R Q1) (by rw [show a1 234 = a 234 from funext fun i => Q1.2 234 i (by decide) (by decide)]; exact B) r1 (by omega) (zw_trn256 (zv_256 ok) hx)
    refine ⟨h3, ?_, Y3, zr_Ft F1 F3⟩
    rw [e1, b2, e4, b2]
    unfold fM_turns_19
    rw [e5]
    rfl
theorem zy_turnsToLeast (hN : 1000 ≤ N) (Y : zyp h bef now hist snap sv inp rep t) (ok : zv_ok now) (hn : 0 < now.2.1.length) : ∃ h', fM_turnsToLeast N 232 h = some (Int32.ofInt ((zm_least now.2.1 : Nat) : Int), h') ∧ zyp h' bef (now.1, zw_trn now.2.1 (zm_least now.2.1), now.2.2) hist snap sv inp rep t ∧ zr_F h h' := by
  have hl : zm_least now.2.1 < now.2.1.length := (zm_leastM hn).1
  obtain ⟨h1, e1, Y1, F1⟩ := zy_turns hN Y ok (zm_least now.2.1) (by omega)
  refine ⟨h1, ?_, Y1, F1⟩
  obtain ⟨fl, a, H, R, B⟩ := Y
  unfold fM_turnsToLeast
  rw [zr_T H, cond_true, zr_least hN H (zyR_tx R) ok.2.1 (zv_256 ok) hn, b2, e1]
  rfl
theorem zr_parts9 (tx0 : zr_tx a T) (hT : T.length ≤ 120) {x y : Nat} (hxy : x ≤ y) (hy : y ≤ T.length) {fl : Nat → Int} (h14 : fl 14 = ((y - x : Nat) : Int)) : ∀ (c f i : Nat) (h : zH) (a1 : Nat → Nat → Int), zr h fl a1 → (∀ p j, p ≠ 239 → a1 p j = a p j) → i + c = y → x ≤ i → c < f → (∀ j, j < i - x → a1 239 j = (T.getD (x + j) 0 : Int) - 97) → ∃ h1 a2, zr h1 fl a2 ∧ zr_F h h1 ∧ (∀ p j, p ≠ 239 → a2 p j = a p j) ∧ (∀ j, j < y - x → a2 239 j = (T.getD (x + j) 0 : Int) - 97) ∧ ∀ v h2, fM_takes N 232 h1 = some (v, h2) → fM_parts_9 N f 232 (Int32.ofInt (x : Int)) (Int32.ofInt (y : Int)) (Int32.ofInt (i : Int)) h = some (v, h2) := by
  intro c
  induction c with
  | zero =>
    intro f i h a1 H h1 h2 h6 h3 h4
    obtain ⟨g, rfl⟩ : ∃ g, f = g + 1 := ⟨f - 1, by omega⟩
    refine ⟨h, a1, H, zr_Fr h, h1, fun j hj => h4 j (by omega), fun v h2 e2 => ?_⟩
    rw [fM_parts_9, zqo_ge _ _ (by omega) (by omega), decide_eq_true (by omega), cond_true, e2]
    rfl
  | succ c ih =>
    intro f i h a1 H h1 h2 h6 h3 h4
    obtain ⟨g, rfl⟩ : ∃ g, f = g + 1 := ⟨f - 1, by omega⟩
    have k1 : fAI h 233 100 (Int32.ofInt (3 + (i : Int))) = some (Int32.ofInt ((T.getD i 0 : Int) - 97)) := by
      rw [show 3 + (i : Int) = ((3 + i : Nat) : Int) by omega, zr_w H _ (by omega), h1 233 _ (by decide), tx0.2 _ (by omega)]
    obtain ⟨h5, e5, H5, F5⟩ := zr_p H 239 (i - x) (by decide) (by decide) (by show i - x < 130; omega) ((T.getD i 0 : Int) - 97)
    obtain ⟨h7, a7, H7, F7, p7, r7, d7⟩ := ih g (i + 1) h5 _ H5 (fun p j hp => (zr_vn a1 _ (Or.inl hp)).trans (h1 p j hp)) (by omega) (by omega) (by omega) (fun j hj => by
      by_cases e : j = i - x
      · rw [e, zr_vs, show x + (i - x) = i by omega]
      · rw [zr_vn a1 _ (Or.inr e)]
        exact h4 j (by omega))
    refine ⟨h7, a7, H7, zr_Ft F5 F7, p7, r7, fun v h2 e2 => ?_⟩
    rw [fM_parts_9, zqo_ge _ _ (by omega) (by omega), decide_eq_false (by omega), cond_false, zr_r8 H, b1_s, zr_r0 H, b1_s, zw_add, k1, b1_s, zw_sub, show (i : Int) - (x : Int) = ((i - x : Nat) : Int) by omega]
    show b1 (fAS h 239 (zr_t 239) (Int32.ofInt ((i - x : Nat) : Int)) (.int (Int32.ofInt ((T.getD i 0 : Int) - 97)))) _ = _
    rw [e5, b1_s, zh_inc]
    exact d7 v h2 e2
theorem zw_pd {l : List Nat} {x y i : Nat} (hi : i < y - x) : (zw_p l x y).getD i 0 = l.getD (x + i) 0 := by
  unfold zw_p
  rw [List.getD_eq_getElem?_getD, List.getElem?_take_of_lt hi, List.getElem?_drop, ← List.getD_eq_getElem?_getD]
theorem zy_parts (hN : 1000 ≤ N) (Y : zyp h bef now hist snap sv inp rep t) (ok : zv_ok now) (x y : Nat) (hxy : x ≤ y) (hy : y ≤ now.2.1.length) : ∃ h', fM_parts N 232 (Int32.ofInt (x : Int)) (Int32.ofInt (y : Int)) h = some (Int32.ofInt ((zw_p now.2.1 x y).length : Int), h') ∧ zyp h' bef (now.1, zw_p now.2.1 x y, now.2.2) hist snap sv inp rep t ∧ zr_F h h' := by
  obtain ⟨fl, a, H, R, B⟩ := Y
  have o2 := ok.2.1
  have tx := zyR_tx R
  have hl := zw_pl now.2.1 x y hy
  obtain ⟨h1, e1, H1, F1⟩ := zr_s H 14 rfl ((y - x : Nat) : Int)
  obtain ⟨h2, a2, H2, F2, p2, r2, d2⟩ := zr_parts9 (N := N) tx o2 hxy hy (fl := zr_u fl 14 ((y - x : Nat) : Int)) rfl (y - x) N x h1 a H1 (fun _ _ _ => rfl) (by omega) (Nat.le_refl _) (by omega) (fun j hj => absurd hj (by omega))
  have Q : zr_Q fl a (zr_u fl 14 ((y - x : Nat) : Int)) a2 := ⟨fun k hk => if_neg hk, fun p i h3 h4 => p2 p i h3⟩
  obtain ⟨h3, a3, e3, H3, F3, p3, t3⟩ := zr_takes hN H2 (T := zw_p now.2.1 x y) ⟨by rw [hl]; rfl, fun i hi => by
    rw [hl] at hi
    rw [r2 i hi, zw_pd hi]⟩ (by omega)
  have R2 := zyR_Q R Q
  have n1 : zy_is (a3 233) (now.1, zw_p now.2.1 x y, now.2.2) := zy_isT R2.1 t3.1 t3.2 (fun j h3 h4 => p3 233 j (Or.inr ⟨h3, h4⟩))
  have R1 := zyR_a (a' := a3) (now' := (now.1, zw_p now.2.1 x y, now.2.2)) R2 (fun _ _ => rfl) (fun p i hp => p3 p i (Or.inl (by omega))) n1
  refine ⟨h3, ?_, ⟨_, a3, H3, R1, ?_⟩, zr_Ft F1 (zr_Ft F2 F3)⟩
  · unfold fM_parts
    rw [zr_T H, cond_true, zw_sub, show (y : Int) - (x : Int) = ((y - x : Nat) : Int) by omega, e1, b1_s]
    exact d2 _ _ e3
  · rw [show a3 234 = a 234 from funext fun i => (p3 234 i (Or.inl (by decide))).trans (p2 234 i (by decide))]
    exact B
theorem zr_mirrors12 (tx0 : zr_tx a T) (hT : T.length ≤ 120) {fl : Nat → Int} (h14 : fl 14 = (T.length : Int)) : ∀ (c f i : Nat) (h : zH) (a1 : Nat → Nat → Int), zr h fl a1 → (∀ p j, p ≠ 239 → a1 p j = a p j) → i + c = T.length → c < f → (∀ j, j < i → a1 239 j = (T.getD (T.length - 1 - j) 0 : Int) - 97) → ∃ h1 a2, zr h1 fl a2 ∧ zr_F h h1 ∧ (∀ p j, p ≠ 239 → a2 p j = a p j) ∧ (∀ j, j < T.length → a2 239 j = (T.getD (T.length - 1 - j) 0 : Int) - 97) ∧ ∀ u v h2 h3, fM_takes N 232 h1 = some (u, h2) → fM_factors N 232 h2 = some (v, h3) → fM_mirrors_12 N f 232 (Int32.ofInt (i : Int)) h = some (v, h3) := by
  intro c
  induction c with
  | zero =>
    intro f i h a1 H h1 h2 h3 h4
    obtain ⟨g, rfl⟩ : ∃ g, f = g + 1 := ⟨f - 1, by omega⟩
    refine ⟨h, a1, H, zr_Fr h, h1, fun j hj => h4 j (by omega), fun u v h2 h3 e2 e3 => ?_⟩
    rw [fM_mirrors_12, zr_i H 14 rfl, b1_s, h14, zqo_ge _ _ (by omega) (by omega), decide_eq_true (by omega), cond_true, e2, b2, e3]
    rfl
  | succ c ih =>
    intro f i h a1 H h1 h2 h3 h4
    obtain ⟨g, rfl⟩ : ∃ g, f = g + 1 := ⟨f - 1, by omega⟩
    have k1 : fAI h 233 100 (Int32.ofInt (3 + (T.length : Int) - 1 - (i : Int))) = some (Int32.ofInt ((T.getD (T.length - 1 - i) 0 : Int) - 97)) := by
      rw [show 3 + (T.length : Int) - 1 - (i : Int) = ((3 + (T.length - 1 - i) : Nat) : Int) by omega, zr_w H _ (by omega), h1 233 _ (by decide), tx0.2 _ (by omega)]
    obtain ⟨h5, e5, H5, F5⟩ := zr_p H 239 i (by decide) (by decide) (by show i < 130; omega) ((T.getD (T.length - 1 - i) 0 : Int) - 97)
    obtain ⟨h7, a7, H7, F7, p7, r7, d7⟩ := ih g (i + 1) h5 _ H5 (fun p j hp => (zr_vn a1 _ (Or.inl hp)).trans (h1 p j hp)) (by omega) (by omega) (fun j hj => by
      by_cases e : j = i
      · rw [e, zr_vs]
      · rw [zr_vn a1 _ (Or.inr e)]
        exact h4 j (by omega))
    refine ⟨h7, a7, H7, zr_Ft F5 F7, p7, r7, fun u v h2 h3 e2 e3 => ?_⟩
    rw [fM_mirrors_12, zr_i H 14 rfl, b1_s, h14, zqo_ge _ _ (by omega) (by omega), decide_eq_false (by omega), cond_false, zr_r8 H, b1_s, zr_r0 H, b1_s, b1_s, zw_add, zw_sub, zw_sub, k1, b1_s]
    show b1 (fAS h 239 (zr_t 239) (Int32.ofInt (i : Int)) (.int (Int32.ofInt ((T.getD (T.length - 1 - i) 0 : Int) - 97)))) _ = _
    rw [e5, b1_s, zh_inc]
    exact d7 u v h2 h3 e2 e3
theorem zy_mirrors (hN : 1000 ≤ N) (Y : zyp h bef now hist snap sv inp rep t) (ok : zv_ok now) : ∃ h', fM_mirrors N 232 h = some (Int32.ofInt ((zw_fs (zw_mir now.2.1 0 now.2.1.length)).length : Int), h') ∧ zyp h' bef (now.1, zw_mir now.2.1 0 now.2.1.length, now.2.2) hist snap sv inp rep t ∧ zr_F h h' := by
  obtain ⟨fl, a, H, R, B⟩ := Y
  have o2 := ok.2.1
  have tx := zyR_tx R
  have g1 : fAI h 233 100 (Int32.ofInt 1) = some (Int32.ofInt (a 233 1)) := zr_w H 1 (by decide)
  have hl := zm_mirl now.2.1 0 now.2.1.length
  obtain ⟨h1, e1, H1, F1⟩ := zr_s H 14 rfl (now.2.1.length : Int)
  obtain ⟨h2, a2, H2, F2, p2, r2, d2⟩ := zr_mirrors12 (N := N) tx o2 (fl := zr_u fl 14 (now.2.1.length : Int)) rfl now.2.1.length N 0 h1 a H1 (fun _ _ _ => rfl) (by omega) (by omega) (fun j hj => absurd hj (Nat.not_lt_zero j))
  have Q : zr_Q fl a (zr_u fl 14 (now.2.1.length : Int)) a2 := ⟨fun k hk => if_neg hk, fun p i h3 h4 => p2 p i h3⟩
  obtain ⟨h3, ⟨h4, e4, e5⟩, Y3, F3⟩ := zy_takes hN H2 (zyR_Q R Q) (by rw [show a2 234 = a 234 from funext fun i => Q.2 234 i (by decide) (by decide)]; exact B) (T := zw_mir now.2.1 0 now.2.1.length) ⟨by rw [hl]; rfl, fun i hi => by
    rw [hl] at hi
    rw [r2 i hi, zm_rev hi]⟩ (by omega) (fun v hv => by
      obtain ⟨i, hi, e⟩ := List.getElem_of_mem hv
      rw [hl] at hi
      have := zm_rev hi
      rw [List.getD_eq_getElem?_getD, List.getElem?_eq_getElem (by rw [hl]; exact hi)] at this
      have e2 : v = now.2.1.getD (now.2.1.length - 1 - i) 0 := e.symm.trans this
      rw [List.getD_eq_getElem?_getD, List.getElem?_eq_getElem (by omega)] at e2
      rw [e2]
      exact zv_256 ok _ (List.getElem_mem _))
  refine ⟨h3, ?_, Y3, zr_Ft F1 (zr_Ft F2 F3)⟩
  unfold fM_mirrors
  rw [zr_T H, cond_true, zr_r0 H, b1_s, g1, b1_s, tx.1, e1, b1_s]
  exact d2 _ _ _ _ e4 e5
end ZYE
