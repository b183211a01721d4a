/-! p62: A LETTER MORE, and taken back. -/
section YAA2
variable {N q : Nat} {A snap : zA} {sv : Int} {inp : List Nat} {rep : zvP}
/-- where the factors began before -/
def yB (T : List Nat) (l : List Int) : Prop := l.length = (zw_fs T).length + 1 ∧ ∀ k, k < (zw_fs T).length → l.getD k 0 = (((zw_fs T).getD k (0, 0)).1 : Int)
theorem ya_261 {h : zH} {hist H : List zA} {A' : zA} (V : zv h A' hist snap sv inp rep) (eH : hist = H ++ [A]) (hN : 3000 ≤ N) : ∃ h', fL_isAppended_261 N 0 (Int32.ofInt (((zw_fs A.2.1).length : Nat) : Int)) (Int32.ofInt (A.2.1.length : Int)) (Int32.ofInt 1) h = some (Int32.ofInt 1, h') ∧ zv h' A H snap sv inp rep ∧ zc_F h h' := by
  rcases zk_undo (N := N) V hN with ⟨z, -⟩ | ⟨A1, r, e1, h', e2, V', F⟩
  · rw [eH] at z
    exact absurd z (by simp)
  · rw [eH] at e1
    obtain ⟨r1, r2⟩ := List.append_inj' e1 rfl
    cases r2
    subst r1
    have o2 := (zv_open V').1.2.1
    have lm : (zw_fs A.2.1).length ≤ A.2.1.length := zw_itl _ _ _ _
    refine ⟨h', ?_, V', F⟩
    unfold fL_isAppended_261
    rw [e2, b2_s]
    show b2 (fB_length N 0 h') _ = _
    rw [zV_length V', b2_s, zqo_ne _ _ (by omega) (by omega), decide_eq_true rfl, Bool.not_true, cond_false, zV_factorCount V' hN, b2_s, zqo_ne _ _ (by omega) (by omega), decide_eq_true rfl, Bool.not_true, cond_false]
    rfl
theorem ya_95 {h : zH} {hist H : List zA} {x : Nat} (V : zv h (A.1, A.2.1 ++ [x], A.2.2) hist snap sv inp rep) (eH : hist = H ++ [A]) (hA : A.2.1.length ≤ 120) (hN : 3000 ≤ N) {l : List Int} (R : yR h q l) (B : yB A.2.1 l) : ∀ c f k : Nat, k + c = (zw_fs (A.2.1 ++ [x])).length → c < f → ∃ h', fL_isAppended_95 N f 0 (Int32.ofInt (((zw_fs A.2.1).length : Nat) : Int)) (Int32.ofInt (A.2.1.length : Int)) q (Int32.ofInt (((zw_fs (A.2.1 ++ [x])).length : Nat) : Int)) (Int32.ofInt 1) (Int32.ofInt 1) (Int32.ofInt (k : Int)) h = some (Int32.ofInt 1, h') ∧ zv h' A H snap sv inp rep ∧ zc_F h h' := by
  have o2 := (zv_open V).1.2.1
  have o2 : (A.2.1 ++ [x]).length ≤ 120 := o2
  have lm : (zw_fs A.2.1).length ≤ A.2.1.length := zw_itl _ _ _ _
  have lm2 : (zw_fs (A.2.1 ++ [x])).length ≤ (A.2.1 ++ [x]).length := zw_itl _ _ _ _
  obtain ⟨F1, F2, F3⟩ := zm_F (A.2.1 ++ [x])
  intro c
  induction c with
  | zero =>
    intro f k h1 h2
    obtain ⟨f, rfl⟩ : ∃ f', f = f' + 1 := ⟨f - 1, by omega⟩
    rw [fL_isAppended_95, zqo_ge _ _ (by omega) (by omega), decide_eq_true (by omega), cond_true]
    exact ya_261 V eH hN
  | succ c ih =>
    intro f k h1 h2
    obtain ⟨f, rfl⟩ : ∃ f', f = f' + 1 := ⟨f - 1, by omega⟩
    rw [fL_isAppended_95, zqo_ge _ _ (by omega) (by omega), decide_eq_false (by omega), cond_false, zqo_ge _ _ (by omega) (by omega)]
    by_cases e1 : (zw_fs A.2.1).length ≤ k
    · rw [decide_eq_true (by omega), cond_true]
      exact ya_261 V eH hN
    · have hk : k < (zw_fs (A.2.1 ++ [x])).length := by omega
      have g1 := (F1 k hk).1
      have gb := zw_lEb g1
      have hstart : ∀ j, j < (zw_fs (A.2.1 ++ [x])).length → j < (zw_fs A.2.1).length → fAI h q 100 (Int32.ofInt (j : Int)) = some (Int32.ofInt (((zw_fs (A.2.1 ++ [x])).getD j (0, 0)).1 : Int)) := fun j j1 j2 => by
        rw [yR_get R (by rw [B.1]; omega), B.2 j j2, zm_fsB A.2.1 x j j1 j2]
      have e248 : ∃ h', fL_isAppended_248 N (fL_isAppended_95 N f) 0 (Int32.ofInt (((zw_fs A.2.1).length : Nat) : Int)) (Int32.ofInt (A.2.1.length : Int)) q (Int32.ofInt (((zw_fs (A.2.1 ++ [x])).length : Nat) : Int)) (Int32.ofInt 1) (Int32.ofInt (k : Int)) h = some (Int32.ofInt 1, h') ∧ zv h' A H snap sv inp rep ∧ zc_F h h' := by
        unfold fL_isAppended_248 fL_isAppended_253
        rw [zw_add, show (k : Int) + 1 = ((k + 1 : Nat) : Int) by omega]
        exact ih f (k + 1) (by omega) (by omega)
      have e194 : ∃ h', fL_isAppended_194 N (fL_isAppended_95 N f) 0 (Int32.ofInt (((zw_fs A.2.1).length : Nat) : Int)) (Int32.ofInt (A.2.1.length : Int)) q (Int32.ofInt (((zw_fs (A.2.1 ++ [x])).length : Nat) : Int)) (Int32.ofInt 1) (Int32.ofInt 1) (Int32.ofInt (k : Int)) h = some (Int32.ofInt 1, h') ∧ zv h' A H snap sv inp rep ∧ zc_F h h' := by
        unfold fL_isAppended_194
        have fk := zV_factorStart V hN (k := k) hk (by omega)
        have fk : fB_factorStart N 0 (Int32.ofInt (k : Int)) h = some (.inl (Int32.ofInt (((zw_fs (A.2.1 ++ [x])).getD k (0, 0)).1 : Int)), h) := fk
        show ∃ h', cond false _ (bN (fB_factorStart N 0 (Int32.ofInt (k : Int)) h) _) = _ ∧ _
        rw [cond_false, fk, bN_s, hstart k hk (by omega), b1_s, zqo_ne _ _ (by omega) (by omega), decide_eq_true rfl, Bool.not_true, cond_false, zw_add, show (k : Int) + 1 = ((k + 1 : Nat) : Int) by omega, zqo_ge _ _ (by omega) (by omega), zqo_ge _ _ (by omega) (by omega)]
        by_cases e2 : (zw_fs (A.2.1 ++ [x])).length ≤ k + 1
        · rw [decide_eq_true (by omega), cond_true]
          exact e248
        · rw [decide_eq_false (by omega), cond_false]
          by_cases e3 : (zw_fs A.2.1).length ≤ k + 1
          · rw [decide_eq_true (by omega), cond_true]
            exact e248
          · have g2 := (F1 (k + 1) (by omega)).1
            have fk2 := zV_factorStart V hN (k := k + 1) (show k + 1 < (zw_fs (A.2.1 ++ [x])).length by omega) (by omega)
            have fk2 : fB_factorStart N 0 (Int32.ofInt ((k + 1 : Nat) : Int)) h = some (.inl (Int32.ofInt (((zw_fs (A.2.1 ++ [x])).getD (k + 1) (0, 0)).1 : Int)), h) := fk2
            rw [decide_eq_false (by omega), cond_false, fk2, bN_s, hstart (k + 1) (by omega) (by omega), b1_s, zqo_ne _ _ (by omega) (by omega), decide_eq_true rfl, Bool.not_true, cond_false]
            exact e248
      have e130 : ∀ b : Int32, ∃ h', fL_isAppended_130 N (fL_isAppended_95 N f) 0 (Int32.ofInt (((zw_fs A.2.1).length : Nat) : Int)) (Int32.ofInt (A.2.1.length : Int)) q (Int32.ofInt (((zw_fs (A.2.1 ++ [x])).length : Nat) : Int)) (Int32.ofInt 1) (Int32.ofInt 1) (Int32.ofInt (k : Int)) b h = some (Int32.ofInt 1, h') ∧ zv h' A H snap sv inp rep ∧ zc_F h h' := by
        intro b
        unfold fL_isAppended_130
        exact e194
      have fk := zV_factorStart V hN (k := k) hk (by omega)
      have fk : fB_factorStart N 0 (Int32.ofInt (k : Int)) h = some (.inl (Int32.ofInt (((zw_fs (A.2.1 ++ [x])).getD k (0, 0)).1 : Int)), h) := fk
      have fl := zV_factorLength V hN (k := k) hk (by omega)
      have fl : fB_factorLength N 0 (Int32.ofInt (k : Int)) h = some (.inl (Int32.ofInt ((zw_lE (A.2.1 ++ [x]) ((zw_fs (A.2.1 ++ [x])).getD k (0, 0)).1 : Int) - (((zw_fs (A.2.1 ++ [x])).getD k (0, 0)).1 : Int))), h) := fl
      rw [decide_eq_false (by omega), cond_false, fk, bN_s, fl, bN_s]
      cases z_cmp .gt (Int32.ofInt (((zw_fs (A.2.1 ++ [x])).getD k (0, 0)).1 : Int) + Int32.ofInt ((zw_lE (A.2.1 ++ [x]) ((zw_fs (A.2.1 ++ [x])).getD k (0, 0)).1 : Int) - (((zw_fs (A.2.1 ++ [x])).getD k (0, 0)).1 : Int))) (Int32.ofInt (A.2.1.length : Int)) with
      | true => exact e130 (Int32.ofInt 0)
      | false => exact e130 (Int32.ofInt 1)
theorem ya_31 (hN : 3000 ≤ N) {w : Nat} (hw : 97 ≤ w ∧ w < 97 + A.1) (hA : A.2.1.length < 120) : ∀ (c f k : Nat) (h : zH) (hist : List zA) (l : List Int), zv h A hist snap sv inp rep → yR h q l → l.length = (zw_fs A.2.1).length + 1 → (∀ i, i < k → l.getD i 0 = (((zw_fs A.2.1).getD i (0, 0)).1 : Int)) → k + c = (zw_fs A.2.1).length → c < f → h.length < 800000 → q < h.length → ∃ h' hist', fL_isAppended_31 N f 0 (Int32.ofInt (w : Int)) (Int32.ofInt (((zw_fs A.2.1).length : Nat) : Int)) (Int32.ofInt (A.2.1.length : Int)) q (Int32.ofInt (k : Int)) h = some (Int32.ofInt 1, h') ∧ zv h' A hist' snap sv inp rep ∧ h'.length ≤ h.length + 1 ∧ h.length ≤ h'.length ∧ ∀ p, 232 ≤ p → p < q → h'[p]? = h[p]? := by
  have lm : (zw_fs A.2.1).length ≤ A.2.1.length := zw_itl _ _ _ _
  obtain ⟨F1, F2, F3⟩ := zm_F A.2.1
  intro c
  induction c with
  | zero =>
    intro f k h hist l V R hl hs h1 h2 hh hq
    obtain ⟨f, rfl⟩ : ∃ f', f = f' + 1 := ⟨f - 1, by omega⟩
    have o1 := (zv_open V).1.1
    have hxA : 97 ≤ (w : Int) ∧ (w : Int) < 97 + (A.1 : Int) := by omega
    rw [fL_isAppended_31, zqo_ge _ _ (by omega) (by omega), decide_eq_true (by omega), cond_true]
    obtain ⟨g1, e1, V1, G1⟩ := zV_ifAppended V hN (w : Int) hxA
    rcases zk_appendLetter (N := N) V1 hN (w : Int) (by omega) with ⟨z, -⟩ | ⟨-, z, -⟩ | ⟨-, -, g2, e2, V2, G2⟩
    · exact absurd hxA z
    · omega
    · rw [Int.toNat_natCast] at e1 e2 V2
      have o2 : (A.2.1 ++ [w]).length ≤ 120 := (zv_open V2).1.2.1
      have lm2 : (zw_fs (A.2.1 ++ [w])).length ≤ (A.2.1 ++ [w]).length := zw_itl _ _ _ _
      have L2 : g2.length = h.length := G2.1.trans G1.1
      obtain ⟨g3, e3, V3, G3⟩ := yh_holds (N := N) V2 hN (by omega)
      have R3 : yR g3 q l := yG_R G3 (yR_keep (yR_keep R G1) G2)
      obtain ⟨H, hH⟩ : ∃ H, zv_push hist A = H ++ [A] := ⟨_, rfl⟩
      obtain ⟨h', e4, V4, G4⟩ := ya_95 (N := N) V3 hH (by omega) hN R3 ⟨hl, fun i hi => hs i (by omega)⟩ (zw_fs (A.2.1 ++ [w])).length N 0 (by omega) (by omega)
      refine ⟨h', H, ?_, V4, ?_, ?_, fun p p1 p2 => ?_⟩
      · rw [e1, bN_s, e2, bN_s, zqo_ne _ _ (by omega) (by omega), decide_eq_true rfl, Bool.not_true, cond_false, e3, b2_s]
        exact e4
      · have := G3.1
        rw [G4.1]
        omega
      · have := G3.2.1
        rw [G4.1]
        omega
      · rw [G4.2 p p1, G3.2.2 p p1 (by omega), G2.2 p p1, G1.2 p p1]
  | succ c ih =>
    intro f k h hist l V R hl hs h1 h2 hh hq
    obtain ⟨f, rfl⟩ : ∃ f', f = f' + 1 := ⟨f - 1, by omega⟩
    obtain ⟨g, e1, R1, L1, G1⟩ := yR_set R (show k < l.length by omega) (((zw_fs A.2.1).getD k (0, 0)).1 : Int)
    obtain ⟨h', hist', e2, V2, L2, L3, G2⟩ := ih f (k + 1) g hist _ (zv_frame V (fun p hp => G1 p (by have := R.1; omega))) R1 (by rw [List.length_set]; exact hl) (fun i hi => by
      by_cases e : i = k
      · subst e
        rw [List.getD_eq_getElem?_getD, List.getElem?_set_self (by omega)]
        rfl
      · rw [List.getD_eq_getElem?_getD, List.getElem?_set_ne (by omega), ← List.getD_eq_getElem?_getD]
        exact hs i (by omega)) (by omega) (by omega) (by omega) (by omega)
    refine ⟨h', hist', ?_, V2, by omega, by omega, fun p p1 p2 => by rw [G2 p p1 p2, G1 p (by omega)]⟩
    rw [fL_isAppended_31, zqo_ge _ _ (by omega) (by omega), decide_eq_false (by omega), cond_false, zV_factorStart V hN (k := k) (by omega) (by omega), bN_s, e1, b1_s, zw_add, show (k : Int) + 1 = ((k + 1 : Nat) : Int) by omega]
    exact e2
theorem ya_app {h : zH} {hist : List zA} (V : zv h A hist snap sv inp rep) (hN : 3000 ≤ N) {w : Nat} (hw : 97 ≤ w ∧ w < 97 + A.1) (hh : h.length < 700000) : ∃ h' hist', fL_isAppended N 0 (Int32.ofInt (w : Int)) h = some (Int32.ofInt 1, h') ∧ zv h' A hist' snap sv inp rep ∧ yG h h' 2 := by
  have o2 := (zv_open V).1.2.1
  have lm : (zw_fs A.2.1).length ≤ A.2.1.length := zw_itl _ _ _ _
  unfold fL_isAppended
  rw [zV_length V, b2_s]
  show ∃ h' hist', cond (z_cmp .ne (Int32.ofInt (A.2.1.length : Int)) (Int32.ofInt 120)) _ _ = _ ∧ _
  rw [zqo_ne _ _ (by omega) (by omega)]
  by_cases e1 : A.2.1.length = 120
  · rw [decide_eq_true (by omega), Bool.not_true, cond_false]
    exact ⟨h, hist, rfl, V, by omega, Nat.le_refl _, fun _ _ _ => rfl⟩
  · have h232 := zV_len V
    rw [decide_eq_false (by omega), Bool.not_false, cond_true, zV_factorCount V hN, b2_s, zV_length V, b2_s, zw_add, show (((zw_fs A.2.1).length : Nat) : Int) + 1 = (((zw_fs A.2.1).length + 1 : Nat) : Int) by omega]
    obtain ⟨g, e2, R, L, G⟩ := yR_new (h := h) (n := (zw_fs A.2.1).length + 1) (by omega) ⟨h232, by omega⟩
    obtain ⟨h', hist', e3, V2, L2, L3, G2⟩ := ya_31 (N := N) (q := h.length) hN hw (by omega) (zw_fs A.2.1).length N 0 g hist _ (zv_frame V (fun p hp => G p (by omega))) R List.length_replicate (fun i hi => absurd hi (Nat.not_lt_zero i)) (by omega) (by omega) (by omega) (by omega)
    rw [e2, b1_s]
    exact ⟨h', hist', e3, V2, by omega, by omega, fun p p1 p2 => by rw [G2 p p1 p2, G p p2]⟩
end YAA2
