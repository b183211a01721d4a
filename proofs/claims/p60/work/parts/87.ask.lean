section
/-! THE REFERENCE'S QUESTIONS. -/
section ZYQ
variable {N : Nat} {h : zH} {fl fl' : Nat → Int} {a a' : Nat → Nat → Int} {bef now snap : zA} {hist : List zA} {sv t : Int} {inp : List Nat} {rep : zvP} {T : List Nat}
theorem zy_told (Y : zy h now hist snap sv inp rep t) (k : Nat) (hk : k < 451) : ∃ h', (∃ g, fM_told N 232 (Int32.ofInt (k : Int)) h = some (Int32.ofInt g, h') ∧ ∃ fl a, zr h' fl a ∧ zyR fl a now hist snap sv inp rep 0 ∧ g = a 233 k) ∧ zr_F h h' := by
  obtain ⟨h1, e1, ⟨fl, a, H, R⟩, F1⟩ := zy_throw Y 0
  obtain ⟨fl0, a0, H0, R0⟩ := Y
  refine ⟨h1, ⟨a 233 k, ?_, fl, a, H, R, rfl⟩, F1⟩
  unfold fM_told
  rw [zr_T H0, cond_true, e1, b1_s, zr_r0 H, b1_s, zr_w H k hk, b1_s]
theorem zn_letters (Y : zy h now hist snap sv inp rep t) : ∃ h', fM_letters N 232 h = some (Int32.ofInt (now.1 : Int), h') ∧ zy h' now hist snap sv inp rep 0 ∧ zr_F h h' := by
  obtain ⟨h1, ⟨g, e1, fl, a, H, R, eg⟩, F1⟩ := zy_told (N := N) Y 0 (by decide)
  obtain ⟨fl0, a0, H0, R0⟩ := Y
  refine ⟨h1, ?_, ⟨fl, a, H, R⟩, F1⟩
  have e1 : fM_told N 232 (Int32.ofInt 0) h = _ := e1
  unfold fM_letters
  rw [zr_T H0, cond_true, e1, b2, eg, R.1.1]
theorem zn_length (Y : zy h now hist snap sv inp rep t) : ∃ h', fM_length N 232 h = some (Int32.ofInt (now.2.1.length : Int), h') ∧ zy h' now hist snap sv inp rep 0 ∧ zr_F h h' := by
  obtain ⟨h1, ⟨g, e1, fl, a, H, R, eg⟩, F1⟩ := zy_told (N := N) Y 1 (by decide)
  obtain ⟨fl0, a0, H0, R0⟩ := Y
  refine ⟨h1, ?_, ⟨fl, a, H, R⟩, F1⟩
  have e1 : fM_told N 232 (Int32.ofInt 1) h = _ := e1
  unfold fM_length
  rw [zr_T H0, cond_true, e1, b2, eg, R.1.2.1]
theorem zn_keptCount (Y : zy h now hist snap sv inp rep t) : ∃ h', fM_keptCount N 232 h = some (Int32.ofInt (now.2.2.length : Int), h') ∧ zy h' now hist snap sv inp rep 0 ∧ zr_F h h' := by
  obtain ⟨h1, ⟨g, e1, fl, a, H, R, eg⟩, F1⟩ := zy_told (N := N) Y 2 (by decide)
  obtain ⟨fl0, a0, H0, R0⟩ := Y
  refine ⟨h1, ?_, ⟨fl, a, H, R⟩, F1⟩
  have e1 : fM_told N 232 (Int32.ofInt 2) h = _ := e1
  unfold fM_keptCount
  rw [zr_T H0, cond_true, e1, b2, eg, R.1.2.2.2.1]
theorem zn_letterAt (Y : zy h now hist snap sv inp rep t) (ok : zv_ok now) (x : Int) (hx : -2147483648 ≤ x ∧ x < 2147483648) : ∃ h', fM_letterAt N 232 (Int32.ofInt x) h = some (Int32.ofInt (zw_g now.2.1 x), h') ∧ zy h' now hist snap sv inp rep 0 ∧ zr_F h h' := by
  obtain ⟨h1, e1, ⟨fl, a, H, R⟩, F1⟩ := zy_throw Y 0
  obtain ⟨fl0, a0, H0, R0⟩ := Y
  have o2 := ok.2.1
  have g1 : fAI h1 233 100 (Int32.ofInt 1) = some (Int32.ofInt (a 233 1)) := zr_w H 1 (by decide)
  refine ⟨h1, ?_, ⟨fl, a, H, R⟩, F1⟩
  unfold fM_letterAt zw_g
  rw [zr_T H0, cond_true, e1, b1_s, zr_r0 H, b1_s, g1, b1_s, R.1.2.1, zw_sub, zr_in N x 0 _ hx (by decide) (by omega), b2]
  by_cases e : 0 ≤ x ∧ x < (now.2.1.length : Int)
  · obtain ⟨v, rfl⟩ : ∃ v : Nat, x = (v : Int) := ⟨x.toNat, by omega⟩
    have g2 : fAI h1 233 100 (Int32.ofInt (3 + (v : Int))) = some (Int32.ofInt ((now.2.1.getD v 0 : Int) - 97)) := by
      rw [show 3 + (v : Int) = ((3 + v : Nat) : Int) by omega, zr_w H _ (by omega), R.1.2.2.1 v (by omega)]
    rw [decide_eq_true (by omega : 0 ≤ (v : Int) ∧ (v : Int) ≤ (now.2.1.length : Int) - 1), if_pos e]
    show b1 (fR h1 232 5 0) _ = _
    rw [zr_r0 H, b1_s, zw_add, g2, b1_s, zw_add, show 97 + ((now.2.1.getD v 0 : Int) - 97) = (now.2.1.getD v 0 : Int) by omega]
    rfl
  · rw [decide_eq_false (by omega : ¬ (0 ≤ x ∧ x ≤ (now.2.1.length : Int) - 1)), if_neg e]
    rfl
theorem zn_factorCount (Y : zy h now hist snap sv inp rep t) (ok : zv_ok now) (hN : 4000 ≤ N) : ∃ h', fM_factorCount N 232 h = some (Int32.ofInt (((zw_fs now.2.1).length : Nat) : Int), h') ∧ zy h' now hist snap sv inp rep 0 ∧ zr_F h h' := by
  obtain ⟨h1, e1, Y1, F1⟩ := zy_throw Y 0
  obtain ⟨h2, e2, _, Y2, F2⟩ := zy_factors (N := N) (by omega) Y1 ok
  obtain ⟨fl0, a0, H0, R0⟩ := Y
  refine ⟨h2, ?_, Y2, zr_Ft F1 F2⟩
  unfold fM_factorCount
  rw [zr_T H0, cond_true, e1, b1_s, e2]
  rfl
/-- a factor is asked for -/
theorem zy_throwsFactor (Y : zy h now hist snap sv inp rep t) (ok : zv_ok now) (hN : 4000 ≤ N) (x : Int) (hx : -2147483648 ≤ x ∧ x < 2147483648) : (zw_bF now.2.1 x = -1 ∧ ∃ h', fM_throwsFactor N 232 (Int32.ofInt x) h = some (Int32.ofInt 1, h') ∧ zy h' now hist snap sv inp rep 1 ∧ zr_F h h') ∨ ∃ k b : Nat, x = (k : Int) ∧ k < (zw_fs now.2.1).length ∧ zw_bF now.2.1 x = (b : Int) ∧ ∃ h' fl a, fM_throwsFactor N 232 (Int32.ofInt x) h = some (Int32.ofInt 0, h') ∧ zr h' fl a ∧ zyR fl a now hist snap sv inp rep 0 ∧ a 240 k = (b : Int) ∧ a 240 (k + 1) = (zw_lE now.2.1 b : Int) ∧ zr_F h h' := by
  have o2 := ok.2.1
  have o5 := zm_fsl now.2.1
  obtain ⟨h1, e1, ⟨fl, a, H, R, S⟩, Y1, F1⟩ := zy_factors (N := N) (by omega) Y ok
  obtain ⟨fl0, a0, H0, R0⟩ := id Y
  unfold fM_throwsFactor
  rw [zr_T H0, cond_true, e1, b2, zw_sub, zr_in N x 0 _ hx (by decide) (by omega), b2]
  by_cases e : 0 ≤ x ∧ x ≤ ((zw_fs now.2.1).length : Int) - 1
  · obtain ⟨k, rfl⟩ : ∃ v : Nat, x = (v : Int) := ⟨x.toNat, by omega⟩
    have hk : k < (zw_fs now.2.1).length := by omega
    obtain ⟨b, b1', b2', b3, b4, b5, b6⟩ := zr_fk S hk
    obtain ⟨h2, e2, H2, F2⟩ := zr_s H 17 rfl 0
    refine Or.inr ⟨k, b, rfl, hk, b1', h2, _, a, ?_, H2, zyR_t R 0, b3, b4, zr_Ft F1 F2⟩
    rw [decide_eq_true e, cond_true]
    show b2 (fM_throwsOne N 232 (Int32.ofInt 0) h1) _ = _
    unfold fM_throwsOne
    rw [zr_T H, cond_true]
    show b2 (b1 (fS h1 232 5 17 (.int (Int32.ofInt 0))) _) _ = _
    rw [e2]
    rfl
  · obtain ⟨h2, e2, Y2, F2⟩ := zy_one1 (N := N) Y1
    refine Or.inl ⟨zw_bFn e, h2, ?_, Y2, zr_Ft F1 F2⟩
    rw [decide_eq_false e, cond_false]
    show b2 (fM_throwsOne N 232 (Int32.ofInt 1) h1) _ = _
    rw [e2]
    rfl
theorem zn_factorStart (Y : zy h now hist snap sv inp rep t) (ok : zv_ok now) (hN : 4000 ≤ N) (x : Int) (hx : -2147483648 ≤ x ∧ x < 2147483648) : (zw_bF now.2.1 x = -1 ∧ ∃ h', fM_factorStart N 232 (Int32.ofInt x) h = some (Int32.ofInt 0, h') ∧ zy h' now hist snap sv inp rep 1 ∧ zr_F h h') ∨ (zw_bF now.2.1 x ≠ -1 ∧ ∃ h', fM_factorStart N 232 (Int32.ofInt x) h = some (Int32.ofInt (zw_bF now.2.1 x), h') ∧ zy h' now hist snap sv inp rep 0 ∧ zr_F h h') := by
  have o2 := ok.2.1
  have o5 := zm_fsl now.2.1
  have HT : fT h 232 5 = true := by
    obtain ⟨fl, a, H, _⟩ := Y
    exact zr_T H
  unfold fM_factorStart
  rw [HT, cond_true]
  rcases zy_throwsFactor Y ok hN x hx with ⟨e, h1, e1, Y1, F1⟩ | ⟨k, b, ek, hk, eb, h1, fl, a, e1, H, R, a1, a2, F1⟩
  · refine Or.inl ⟨e, h1, ?_, Y1, F1⟩
    rw [e1]
    rfl
  · refine Or.inr ⟨by omega, h1, ?_, ⟨fl, a, H, R⟩, F1⟩
    rw [e1, b2]
    show b1 (fR h1 232 5 9) _ = _
    rw [zr_r9 H, b1_s, ek, zr_st H k (by omega), b1_s, a1, ← eb, ek]
    rfl
theorem zn_factorLength (Y : zy h now hist snap sv inp rep t) (ok : zv_ok now) (hN : 4000 ≤ N) (x : Int) (hx : -2147483648 ≤ x ∧ x < 2147483648) : (zw_bF now.2.1 x = -1 ∧ ∃ h', fM_factorLength N 232 (Int32.ofInt x) h = some (Int32.ofInt 0, h') ∧ zy h' now hist snap sv inp rep 1 ∧ zr_F h h') ∨ (zw_bF now.2.1 x ≠ -1 ∧ ∃ h', fM_factorLength N 232 (Int32.ofInt x) h = some (Int32.ofInt ((zw_lE now.2.1 (zw_bF now.2.1 x).toNat : Int) - zw_bF now.2.1 x), h') ∧ zy h' now hist snap sv inp rep 0 ∧ zr_F h h') := by
  have o2 := ok.2.1
  have o5 := zm_fsl now.2.1
  have HT : fT h 232 5 = true := by
    obtain ⟨fl, a, H, _⟩ := Y
    exact zr_T H
  unfold fM_factorLength
  rw [HT, cond_true]
  rcases zy_throwsFactor Y ok hN x hx with ⟨e, h1, e1, Y1, F1⟩ | ⟨k, b, ek, hk, eb, h1, fl, a, e1, H, R, a1, a2, F1⟩
  · refine Or.inl ⟨e, h1, ?_, Y1, F1⟩
    rw [e1]
    rfl
  · refine Or.inr ⟨by omega, h1, ?_, ⟨fl, a, H, R⟩, F1⟩
    have g3 : fAI h1 240 100 (Int32.ofInt ((k : Int) + 1)) = some (Int32.ofInt (a 240 (k + 1))) := zr_st H (k + 1) (by omega)
    rw [e1, b2]
    show b1 (fR h1 232 5 9) _ = _
    rw [zr_r9 H, b1_s, eb, ek, zw_add, g3, b1_s, b1_s, zr_st H k (by omega), b1_s, a1, a2, zw_sub]
    rfl
theorem zy_why (Y : zy h now hist snap sv inp rep t) (ok : zv_ok now) (hN : 4000 ≤ N) : ∃ h', fM_why N 232 h = some (Int32.ofInt (zc_why now.2.1), h') ∧ zy h' now hist snap sv inp rep t ∧ zr_F h h' := by
  obtain ⟨fl, a, H, R⟩ := Y
  obtain ⟨h1, f1, a1, e1, H1, F1, Q1, _⟩ := zr_why (N := N) (by omega) H (zyR_tx R) ok.2.1 (zv_256 ok)
  exact ⟨h1, e1, ⟨f1, a1, H1, zyR_Q R Q1⟩, F1⟩
theorem zn_whyNotLyndon (Y : zy h now hist snap sv inp rep t) (ok : zv_ok now) (hN : 4000 ≤ N) : ∃ h', fM_whyNotLyndon N 232 h = some (Int32.ofInt (zc_why now.2.1), h') ∧ zy h' now hist snap sv inp rep 0 ∧ zr_F h h' := by
  obtain ⟨h1, e1, Y1, F1⟩ := zy_throw Y 0
  obtain ⟨h2, e2, Y2, F2⟩ := zy_why Y1 ok hN
  obtain ⟨fl0, a0, H0, R0⟩ := Y
  refine ⟨h2, ?_, Y2, zr_Ft F1 F2⟩
  unfold fM_whyNotLyndon
  rw [zr_T H0, cond_true, e1, b1_s, e2]
  rfl
theorem zn_isLyndon (Y : zy h now hist snap sv inp rep t) (ok : zv_ok now) (hN : 4000 ≤ N) : ∃ h', fM_isLyndon N 232 h = some (cond (decide (0 < now.2.1.length ∧ zw_lE now.2.1 0 = now.2.1.length)) (Int32.ofInt 1) (Int32.ofInt 0), h') ∧ zy h' now hist snap sv inp rep 0 ∧ zr_F h h' := by
  obtain ⟨h1, e1, Y1, F1⟩ := zy_throw Y 0
  obtain ⟨h2, e2, Y2, F2⟩ := zy_why Y1 ok hN
  obtain ⟨fl0, a0, H0, R0⟩ := Y
  have wb : zc_why now.2.1 = 0 ∨ zc_why now.2.1 = 1 ∨ zc_why now.2.1 = 2 ∨ zc_why now.2.1 = 3 := by
    unfold zc_why
    repeat' split
    all_goals omega
  refine ⟨h2, ?_, Y2, zr_Ft F1 F2⟩
  unfold fM_isLyndon
  rw [zr_T H0, cond_true, e1, b1_s, e2, b2, zqo_ne _ _ (by omega) (by decide)]
  by_cases e : zc_why now.2.1 = 0
  · rw [decide_eq_true e, decide_eq_true (zm_why0.mp e)]
    rfl
  · rw [decide_eq_false e, decide_eq_false (fun x => e (zm_why0.mpr x))]
    rfl
theorem zn_undoCount (Y : zy h now hist snap sv inp rep t) : ∃ h', fM_undoCount N 232 h = some (Int32.ofInt (hist.length : Int), h') ∧ zy h' now hist snap sv inp rep 0 ∧ zr_F h h' := by
  obtain ⟨h1, e1, ⟨fl, a, H, R⟩, F1⟩ := zy_throw Y 0
  obtain ⟨fl0, a0, H0, R0⟩ := Y
  refine ⟨h1, ?_, ⟨fl, a, H, R⟩, F1⟩
  unfold fM_undoCount
  rw [zr_T H0, cond_true, e1, b1_s, zr_i H 4 rfl, b1_s, R.2.1]
theorem zn_scriptErrorKind (Y : zy h now hist snap sv inp rep t) : ∃ h', fM_scriptErrorKind N 232 h = some (Int32.ofInt rep.2.1, h') ∧ zy h' now hist snap sv inp rep 0 ∧ zr_F h h' := by
  obtain ⟨h1, e1, ⟨fl, a, H, R⟩, F1⟩ := zy_throw Y 0
  obtain ⟨fl0, a0, H0, R0⟩ := Y
  refine ⟨h1, ?_, ⟨fl, a, H, R⟩, F1⟩
  unfold fM_scriptErrorKind
  rw [zr_T H0, cond_true, e1, b1_s, zr_i H 12 rfl, b1_s, R.2.2.2.2.2.2.1.1.2.1]
theorem zn_scriptErrorOffset (Y : zy h now hist snap sv inp rep t) : ∃ h', fM_scriptErrorOffset N 232 h = some (Int32.ofInt rep.2.2, h') ∧ zy h' now hist snap sv inp rep 0 ∧ zr_F h h' := by
  obtain ⟨h1, e1, ⟨fl, a, H, R⟩, F1⟩ := zy_throw Y 0
  obtain ⟨fl0, a0, H0, R0⟩ := Y
  refine ⟨h1, ?_, ⟨fl, a, H, R⟩, F1⟩
  unfold fM_scriptErrorOffset
  rw [zr_T H0, cond_true, e1, b1_s, zr_i H 13 rfl, b1_s, R.2.2.2.2.2.2.1.1.2.2]
theorem zn_keptLength (Y : zy h now hist snap sv inp rep t) (ok : zv_ok now) (x : Int) (hx : -2147483648 ≤ x ∧ x < 2147483648) : (¬ (0 ≤ x ∧ x < (now.2.2.length : Int)) ∧ ∃ h', fM_keptLength N 232 (Int32.ofInt x) h = some (Int32.ofInt 0, h') ∧ zy h' now hist snap sv inp rep 1 ∧ zr_F h h') ∨ ((0 ≤ x ∧ x < (now.2.2.length : Int)) ∧ ∃ h', fM_keptLength N 232 (Int32.ofInt x) h = some (Int32.ofInt ((now.2.2.getD x.toNat []).length : Int), h') ∧ zy h' now hist snap sv inp rep 0 ∧ zr_F h h') := by
  have o4 := ok.2.2.2.1
  obtain ⟨fl0, a0, H0, R0⟩ := id Y
  unfold fM_keptLength
  rw [zr_T H0, cond_true, zr_isShelved H0 R0 ok x hx, b2]
  by_cases e : 0 ≤ x ∧ x < (now.2.2.length : Int)
  · rw [decide_eq_true e, cond_true]
    obtain ⟨v, rfl⟩ : ∃ v : Nat, x = (v : Int) := ⟨x.toNat, by omega⟩
    obtain ⟨h1, e1, ⟨fl, a, H, R⟩, F1⟩ := zy_one0 (N := N) Y
    refine Or.inr ⟨e, h1, ?_, ⟨fl, a, H, R⟩, F1⟩
    have g1 : fAI h1 233 100 (Int32.ofInt (123 + (v : Int))) = some (Int32.ofInt ((now.2.2.getD v []).length : Int)) := by
      rw [show 123 + (v : Int) = ((123 + v : Nat) : Int) by omega, zr_w H _ (by omega), (R.1.2.2.2.2 v (by omega)).1]
    show fM_keptLength_14 N 232 (Int32.ofInt (v : Int)) (Int32.ofInt 0) 232 h = _
    unfold fM_keptLength_14
    rw [e1, b2]
    show b1 (fR h1 232 5 0) _ = _
    rw [zr_r0 H, b1_s, zw_add, g1]
    rfl
  · rw [decide_eq_false e, cond_false]
    obtain ⟨h1, e1, Y1, F1⟩ := zy_one1 (N := N) Y
    refine Or.inl ⟨e, h1, ?_, Y1, F1⟩
    show fM_keptLength_14 N 232 (Int32.ofInt x) (Int32.ofInt 1) 232 h = _
    unfold fM_keptLength_14
    rw [e1]
    rfl
theorem zn_greatestKept (Y : zy h now hist snap sv inp rep t) (ok : zv_ok now) (hN : 4000 ≤ N) : ∃ h', fM_greatestKept N 232 h = some (Int32.ofInt (zs_gi (zs_g (fun j => now.2.2.getD j []) 0 now.2.2.length 0 none)), h') ∧ zy h' now hist snap sv inp rep 0 ∧ zr_F h h' := by
  have o4 := ok.2.2.2.1
  obtain ⟨h1, e1, ⟨fl, a, H, R⟩, F1⟩ := zy_throw Y 0
  obtain ⟨fl0, a0, H0, R0⟩ := Y
  refine ⟨h1, ?_, ⟨fl, a, H, R⟩, F1⟩
  have e := zr_great4 (N := N) (by omega) H R ok (m := 0) (by decide) now.2.2.length N 0 none (Nat.zero_add _) (by omega) (fun j hj => by cases hj)
  have e : fM_greatestBeside_4 N N 232 (Int32.ofInt 0) (Int32.ofInt (-1)) (Int32.ofInt 0) h1 = _ := e
  unfold fM_greatestKept fM_greatestBeside
  rw [zr_T H0, cond_true, e1, b1_s, zr_T H, cond_true, e]
  rfl
theorem zn_reportByte (Y : zy h now hist snap sv inp rep t) (hr : rep.1.length ≤ 400) (x : Int) (hx : -2147483648 ≤ x ∧ x < 2147483648) : ∃ h', fM_reportByte N 232 (Int32.ofInt x) h = some (Int32.ofInt (zw_g rep.1 x), h') ∧ zy h' now hist snap sv inp rep 0 ∧ zr_F h h' := by
  obtain ⟨h1, e1, ⟨fl, a, H, R⟩, F1⟩ := zy_throw Y 0
  obtain ⟨fl0, a0, H0, R0⟩ := Y
  refine ⟨h1, ?_, ⟨fl, a, H, R⟩, F1⟩
  unfold fM_reportByte zw_g
  rw [zr_T H0, cond_true, e1, b1_s, zr_i H 16 rfl, b1_s, R.2.2.2.2.2.2.1.1.1, zw_sub, zr_in N x 0 _ hx (by decide) (by omega), b2]
  by_cases e : 0 ≤ x ∧ x < (rep.1.length : Int)
  · obtain ⟨v, rfl⟩ : ∃ v : Nat, x = (v : Int) := ⟨x.toNat, by omega⟩
    have g2 : fAI h1 241 102 (Int32.ofInt (v : Int)) = some (Int32.ofInt (rep.1.getD v 0 : Int)) := by
      rw [← R.2.2.2.2.2.2.1.2 v (by omega)]
      exact zr_g H 241 v (by decide) (by decide) (by show v < 400; omega)
    rw [decide_eq_true (by omega : 0 ≤ (v : Int) ∧ (v : Int) ≤ (rep.1.length : Int) - 1), if_pos e]
    show b1 (fR h1 232 5 15) _ = _
    rw [zr_r15 H, b1_s, g2]
    rfl
  · rw [decide_eq_false (by omega : ¬ (0 ≤ x ∧ x ≤ (rep.1.length : Int) - 1)), if_neg e]
    rfl
end ZYQ
end
section
/-! THE REFERENCE'S QUESTIONS, two. -/
section ZYR
variable {N : Nat} {h : zH} {fl fl' : Nat → Int} {a a' : Nat → Nat → Int} {bef now snap : zA} {hist : List zA} {sv t : Int} {inp : List Nat} {rep : zvP} {T : List Nat}
theorem zr_period14 (H : zr h fl a) (tx : zr_tx a T) (hT : T.length ≤ 120) (hv : ∀ v ∈ T, v < 256) {p : Nat} (hp : 1 ≤ p ∧ p ≤ T.length) {k2 : Nat → Int32 → zH → Option (Int32 × zH)} : ∀ (c f i : Nat), i + p + c = T.length → c < f → ∃ b : Bool, fM_period_14 N f k2 232 (Int32.ofInt (p : Int)) (Int32.ofInt (i : Int)) h = cond b (some (Int32.ofInt (p : Int), h)) (k2 232 (Int32.ofInt ((p + 1 : Nat) : Int)) h) ∧ (b = true ↔ ∀ j, i ≤ j → j + p < T.length → T.getD j 0 = T.getD (j + p) 0) := by
  have g1 : fAI h 233 100 (Int32.ofInt 1) = some (Int32.ofInt (a 233 1)) := zr_w H 1 (by decide)
  intro c
  induction c with
  | zero =>
    intro f i h1 h2
    obtain ⟨g, rfl⟩ : ∃ g, f = g + 1 := ⟨f - 1, by omega⟩
    refine ⟨true, ?_, ⟨fun _ j j1 j2 => absurd j2 (by omega), fun _ => rfl⟩⟩
    rw [fM_period_14, zr_r0 H, b1_s, g1, b1_s, tx.1, zw_add, zqo_ge _ _ (by omega) (by omega), decide_eq_true (by omega), cond_true]
    unfold fM_period_53
    rw [zr_r0 H, b1_s, g1, b1_s, tx.1, zw_add, zqo_ne _ _ (by omega) (by omega), decide_eq_true (by omega)]
    rfl
  | succ c ih =>
    intro f i h1 h2
    obtain ⟨g, rfl⟩ : ∃ g, f = g + 1 := ⟨f - 1, by omega⟩
    have x1 := zd_lt hv i
    have x2 := zd_lt hv (i + p)
    have g2 : fAI h 233 100 (Int32.ofInt (3 + (i : Int))) = some (Int32.ofInt ((T.getD i 0 : Int) - 97)) := by
      rw [show 3 + (i : Int) = ((3 + i : Nat) : Int) by omega, zr_w H _ (by omega), tx.2 i (by omega)]
    have g3 : fAI h 233 100 (Int32.ofInt (3 + (i : Int) + (p : Int))) = some (Int32.ofInt ((T.getD (i + p) 0 : Int) - 97)) := by
      rw [show 3 + (i : Int) + (p : Int) = ((3 + (i + p) : Nat) : Int) by omega, zr_w H _ (by omega), tx.2 _ (by omega)]
    rw [fM_period_14, zr_r0 H, b1_s, g1, b1_s, tx.1, zw_add, zqo_ge _ _ (by omega) (by omega), decide_eq_false (by omega), cond_false, b1_s, zw_add, g2, b1_s, b1_s, zw_add, g3, b1_s, zqo_ne _ _ (by omega) (by omega)]
    by_cases e : T.getD i 0 = T.getD (i + p) 0
    · obtain ⟨b, e1, e2⟩ := ih g (i + 1) (by omega) (by omega)
      refine ⟨b, ?_, e2.trans ⟨fun x j j1 j2 => ?_, fun x j j1 j2 => x j (by omega) j2⟩⟩
      · rw [decide_eq_true (by omega), Bool.not_true, cond_false, zh_inc]
        exact e1
      · by_cases ej : j = i
        · rw [ej]
          exact e
        · exact x j (by omega) j2
    · refine ⟨false, ?_, ⟨fun x => absurd x (by decide), fun x => absurd (x i (Nat.le_refl _) (by omega)) e⟩⟩
      rw [decide_eq_false (by omega), Bool.not_false, cond_true]
      unfold fM_period_53
      rw [zr_r0 H, b1_s, g1, b1_s, tx.1, zw_add, zqo_ne _ _ (by omega) (by omega), decide_eq_false (by omega), zh_inc]
      rfl
theorem zr_period2 (H : zr h fl a) (tx : zr_tx a T) (hT : T.length ≤ 120) (hv : ∀ v ∈ T, v < 256) (hN : 1000 ≤ N) : ∀ (c f p : Nat), p + c = T.length → 1 ≤ p → c < f → (∀ r, 0 < r → r < p → ¬ zm_Q T r) → fM_period_2 N f 232 (Int32.ofInt (p : Int)) h = some (Int32.ofInt ((zw_per T : Nat) : Int), h) := by
  have g1 : fAI h 233 100 (Int32.ofInt 1) = some (Int32.ofInt (a 233 1)) := zr_w H 1 (by decide)
  intro c
  induction c with
  | zero =>
    intro f p h1 h2 h3 h4
    obtain ⟨g, rfl⟩ : ∃ g, f = g + 1 := ⟨f - 1, by omega⟩
    obtain ⟨b, e1, e2⟩ := zr_period14 (N := N) H tx hT hv (p := p) (by omega) (k2 := fM_period_2 N g) (T.length - p) N 0 (by omega) (by omega)
    have e1 : fM_period_14 N N (fM_period_2 N g) 232 (Int32.ofInt (p : Int)) (Int32.ofInt 0) h = _ := e1
    obtain ⟨q1, q2⟩ := zm_perQ (l := T) (by omega)
    have q3 := zw_perb T
    have hb : b = true := e2.mpr (fun j j1 j2 => absurd j2 (by omega))
    have ep : zw_per T = p := by
      by_cases x : zw_per T < p
      · exact absurd q1 (h4 _ (by omega) x)
      · omega
    rw [fM_period_2, zr_r0 H, b1_s, g1, b1_s, tx.1, zqo_gt _ _ (by omega) (by omega), decide_eq_false (by omega), cond_false, e1, hb, cond_true, ep]
  | succ c ih =>
    intro f p h1 h2 h3 h4
    obtain ⟨g, rfl⟩ : ∃ g, f = g + 1 := ⟨f - 1, by omega⟩
    obtain ⟨b, e1, e2⟩ := zr_period14 (N := N) H tx hT hv (p := p) (by omega) (k2 := fM_period_2 N g) (T.length - p) N 0 (by omega) (by omega)
    have e1 : fM_period_14 N N (fM_period_2 N g) 232 (Int32.ofInt (p : Int)) (Int32.ofInt 0) h = _ := e1
    obtain ⟨q1, q2⟩ := zm_perQ (l := T) (by omega)
    have q3 := zw_perb T
    have hq : b = true ↔ zm_Q T p := by
      rw [← zm_hpQ (by omega)]
      rw [zm_hpQ (by omega)]
      unfold zm_Q
      rw [e2]
      constructor
      · intro x j j1 j2
        have := x (j - p) (Nat.zero_le _) (by omega)
        rw [show j - p + p = j by omega] at this
        exact this.symm
      · intro x j j1 j2
        have := x (j + p) (by omega) j2
        rw [show j + p - p = j by omega] at this
        exact this.symm
    rw [fM_period_2, zr_r0 H, b1_s, g1, b1_s, tx.1, zqo_gt _ _ (by omega) (by omega), decide_eq_false (by omega), cond_false, e1]
    cases b with
    | true =>
      have q := hq.mp rfl
      have ep : zw_per T = p := by
        by_cases x : zw_per T < p
        · exact absurd q1 (h4 _ (by omega) x)
        · by_cases y : p < zw_per T
          · exact absurd q (q2 p (by omega) y)
          · omega
      rw [cond_true, ep]
    | false =>
      rw [cond_false]
      exact ih g (p + 1) (by omega) (by omega) (by omega) (fun r r1 r2 => by
        by_cases er : r = p
        · rw [er]
          exact fun x => absurd (hq.mpr x) (by decide)
        · exact h4 r r1 (by omega))
theorem zr_period (H : zr h fl a) (tx : zr_tx a T) (hT : T.length ≤ 120) (hv : ∀ v ∈ T, v < 256) (hN : 1000 ≤ N) : fM_period N 232 h = some (Int32.ofInt ((zw_per T : Nat) : Int), h) := by
  unfold fM_period
  rw [zr_T H, cond_true]
  by_cases e : T.length = 0
  · obtain ⟨g, rfl⟩ : ∃ g, N = g + 1 := ⟨N - 1, by omega⟩
    have g1 : fAI h 233 100 (Int32.ofInt 1) = some (Int32.ofInt (a 233 1)) := zr_w H 1 (by decide)
    rw [fM_period_2, zr_r0 H, b1_s, g1, b1_s, tx.1, zqo_gt _ _ (by decide) (by omega), decide_eq_true (by omega), cond_true, List.eq_nil_of_length_eq_zero e]
    rfl
  · exact zr_period2 H tx hT hv hN (T.length - 1) N 1 (by omega) (Nat.le_refl 1) (by omega) (fun r r1 r2 => absurd r1 (by omega))
theorem zn_smallestPeriod (Y : zy h now hist snap sv inp rep t) (ok : zv_ok now) (hN : 4000 ≤ N) : ∃ h', fM_smallestPeriod N 232 h = some (Int32.ofInt ((zw_per now.2.1 : Nat) : Int), h') ∧ zy h' now hist snap sv inp rep 0 ∧ zr_F h h' := by
  obtain ⟨h1, e1, ⟨fl, a, H, R⟩, F1⟩ := zy_throw Y 0
  obtain ⟨fl0, a0, H0, R0⟩ := Y
  refine ⟨h1, ?_, ⟨fl, a, H, R⟩, F1⟩
  unfold fM_smallestPeriod
  rw [zr_T H0, cond_true, e1, b1_s, zr_period H (zyR_tx R) ok.2.1 (zv_256 ok) (by omega)]
  rfl
theorem zn_longestBorder (Y : zy h now hist snap sv inp rep t) (ok : zv_ok now) (hN : 4000 ≤ N) : ∃ h', fM_longestBorder N 232 h = some (Int32.ofInt ((now.2.1.length : Int) - (zw_per now.2.1 : Int)), h') ∧ zy h' now hist snap sv inp rep 0 ∧ zr_F h h' := by
  obtain ⟨h1, e1, ⟨fl, a, H, R⟩, F1⟩ := zy_throw Y 0
  obtain ⟨fl0, a0, H0, R0⟩ := Y
  have g1 : fAI h1 233 100 (Int32.ofInt 1) = some (Int32.ofInt (a 233 1)) := zr_w H 1 (by decide)
  refine ⟨h1, ?_, ⟨fl, a, H, R⟩, F1⟩
  unfold fM_longestBorder
  rw [zr_T H0, cond_true, e1, b1_s, zr_r0 H, b1_s, g1, b1_s, zr_period H (zyR_tx R) ok.2.1 (zv_256 ok) (by omega), b2, R.1.2.1, zw_sub]
theorem zn_leastRotation (Y : zy h now hist snap sv inp rep t) (ok : zv_ok now) (hN : 4000 ≤ N) : ∃ h', fM_leastRotation N 232 h = some (Int32.ofInt ((zw_lT now.2.1 : Nat) : Int), h') ∧ zy h' now hist snap sv inp rep 0 ∧ zr_F h h' := by
  obtain ⟨h1, e1, ⟨fl, a, H, R⟩, F1⟩ := zy_throw Y 0
  obtain ⟨fl0, a0, H0, R0⟩ := Y
  refine ⟨h1, ?_, ⟨fl, a, H, R⟩, F1⟩
  unfold fM_leastRotation
  rw [zr_T H0, cond_true, e1, b1_s]
  by_cases e : now.2.1.length = 0
  · obtain ⟨g, rfl⟩ : ∃ g, N = g + 1 := ⟨N - 1, by omega⟩
    have g1 : fAI h1 233 100 (Int32.ofInt 1) = some (Int32.ofInt (a 233 1)) := zr_w H 1 (by decide)
    unfold fM_least
    rw [zr_T H, cond_true, fM_least_4, zr_r0 H, b1_s, g1, b1_s, R.1.2.1, zqo_ge _ _ (by decide) (by omega), decide_eq_true (by omega), cond_true, List.eq_nil_of_length_eq_zero e]
    rfl
  · rw [zr_least (by omega) H (zyR_tx R) ok.2.1 (zv_256 ok) (by omega), zm_lT (by omega)]
    rfl
theorem zn_isNecklace (Y : zy h now hist snap sv inp rep t) (ok : zv_ok now) (hN : 4000 ≤ N) : ∃ h', fM_isNecklace N 232 h = some (cond (decide (0 < now.2.1.length ∧ zw_lT now.2.1 = 0)) (Int32.ofInt 1) (Int32.ofInt 0), h') ∧ zy h' now hist snap sv inp rep 0 ∧ zr_F h h' := by
  obtain ⟨h1, e1, ⟨fl, a, H, R⟩, F1⟩ := zy_throw Y 0
  obtain ⟨fl0, a0, H0, R0⟩ := Y
  have o2 := ok.2.1
  obtain ⟨h2, f2, a2, e2, H2, F2, Q2, r2⟩ := zr_loads (N := N) (by omega) H (zyR_tx R) ok.2.1
  refine ⟨h2, ?_, ⟨f2, a2, H2, zyR_Q R Q2⟩, zr_Ft F1 F2⟩
  unfold fM_isNecklace
  rw [zr_T H0, cond_true, e1, b1_s, e2, b2]
  unfold fM_isLeastRow
  rw [zr_T H2, cond_true]
  by_cases e : now.2.1.length = 0
  · obtain ⟨g, rfl⟩ : ∃ g, N = g + 1 := ⟨N - 1, by omega⟩
    rw [fM_isLeastRow_2, zr_i H2 14 rfl, b1_s, r2.1, zqo_ge _ _ (by decide) (by omega), decide_eq_true (by omega), cond_true, b1_s, zqo_le _ _ (by omega) (by decide), decide_eq_true (by omega), decide_eq_false (by omega)]
    rfl
  · obtain ⟨q, q1, q2⟩ := zr_lea2 (N := N) (by omega) H2 r2 ok.2.1 (zv_256 ok) (by omega) (now.2.1.length - 1) N 1 (by omega) (by omega)
    have q1 : fM_isLeastRow_2 N N 232 (Int32.ofInt 1) h2 = _ := q1
    rw [q1, b2]
    cases q with
    | false =>
      rw [decide_eq_false (fun x : 0 < now.2.1.length ∧ zw_lT now.2.1 = 0 => absurd (q2.mpr ((zm_leE x.1).mp x.2)) (by decide))]
      rfl
    | true =>
      rw [decide_eq_true (show 0 < now.2.1.length ∧ zw_lT now.2.1 = 0 from ⟨by omega, (zm_leE (by omega)).mpr (q2.mp rfl)⟩)]
      rfl
end ZYR
end
section
/-! THE REFERENCE'S QUESTIONS, three. -/
section ZYS
variable {N : Nat} {h : zH} {fl fl' : Nat → Int} {a a' : Nat → Nat → Int} {bef now snap : zA} {hist : List zA} {sv t : Int} {inp : List Nat} {rep : zvP} {T : List Nat}
theorem zr_root2 (hN : 1000 ≤ N) (H : zr h fl a) (r : zr_rw fl a T) (hT : T.length ≤ 120) (hv : ∀ v ∈ T, v < 256) : ∀ (c f i : Nat), i + c = T.length → c < f → fM_rootLength_2 N f 232 (Int32.ofInt (i : Int)) h = some (Int32.ofInt ((zm_rt T c : Nat) : Int), h) := by
  intro c
  induction c with
  | zero =>
    intro f i h1 h2
    obtain ⟨g, rfl⟩ : ∃ g, f = g + 1 := ⟨f - 1, by omega⟩
    rw [fM_rootLength_2, zr_i H 14 rfl, b1_s, r.1, zqo_ge _ _ (by omega) (by omega), decide_eq_true (by omega), cond_true]
    rfl
  | succ c ih =>
    intro f i h1 h2
    obtain ⟨g, rfl⟩ : ∃ g, f = g + 1 := ⟨f - 1, by omega⟩
    have b := zm_rob hv i 0 T.length
    rw [fM_rootLength_2, zr_i H 14 rfl, b1_s, r.1, zqo_ge _ _ (by omega) (by omega), decide_eq_false (by omega), cond_false, zr_turned hN H r hT hv (by omega), b2, zqo_ne _ _ (by omega) (by decide), zm_rt, show T.length - (c + 1) = i by omega]
    by_cases e : zm_ro T i 0 T.length = 0
    · rw [decide_eq_true e, if_pos e]
      rfl
    · rw [decide_eq_false e, if_neg e, zh_inc]
      exact ih g (i + 1) (by omega) (by omega)
theorem zn_rotationCount (Y : zy h now hist snap sv inp rep t) (ok : zv_ok now) (hN : 4000 ≤ N) : ∃ h', fM_rotationCount N 232 h = some (Int32.ofInt ((zw_tu now.2.1 : Nat) : Int), h') ∧ zy h' now hist snap sv inp rep 0 ∧ zr_F h h' := by
  obtain ⟨h1, e1, ⟨fl, a, H, R⟩, F1⟩ := zy_throw Y 0
  obtain ⟨fl0, a0, H0, R0⟩ := Y
  have o2 := ok.2.1
  obtain ⟨h2, f2, a2, e2, H2, F2, Q2, r2⟩ := zr_loads (N := N) (by omega) H (zyR_tx R) o2
  refine ⟨h2, ?_, ⟨f2, a2, H2, zyR_Q R Q2⟩, zr_Ft F1 F2⟩
  unfold fM_rotationCount
  rw [zr_T H0, cond_true, e1, b1_s, e2, b2]
  unfold fM_rootLength
  rw [zr_T H2, cond_true]
  by_cases e : now.2.1.length = 0
  · obtain ⟨g, rfl⟩ : ∃ g, N = g + 1 := ⟨N - 1, by omega⟩
    rw [fM_rootLength_2, zr_i H2 14 rfl, b1_s, r2.1, zqo_ge _ _ (by decide) (by omega), decide_eq_true (by omega), cond_true, b1_s, List.eq_nil_of_length_eq_zero e]
    rfl
  · have q := zr_root2 (N := N) (by omega) H2 r2 o2 (zv_256 ok) (now.2.1.length - 1) N 1 (by omega) (by omega)
    have q : fM_rootLength_2 N N 232 (Int32.ofInt 1) h2 = _ := q
    rw [q, zm_tu (by omega)]
    rfl
theorem zn_keptLetter (Y : zy h now hist snap sv inp rep t) (ok : zv_ok now) (x y : Int) (hx : -2147483648 ≤ x ∧ x < 2147483648) (hy : -2147483648 ≤ y ∧ y < 2147483648) : (¬ (0 ≤ x ∧ x < (now.2.2.length : Int)) ∧ ∃ h', fM_keptLetter N 232 (Int32.ofInt x) (Int32.ofInt y) h = some (Int32.ofInt 0, h') ∧ zy h' now hist snap sv inp rep 1 ∧ zr_F h h') ∨ ((0 ≤ x ∧ x < (now.2.2.length : Int)) ∧ ∃ h', fM_keptLetter N 232 (Int32.ofInt x) (Int32.ofInt y) h = some (Int32.ofInt (zw_g (now.2.2.getD x.toNat []) y), h') ∧ zy h' now hist snap sv inp rep 0 ∧ zr_F h h') := by
  have o4 := ok.2.2.2.1
  obtain ⟨fl0, a0, H0, R0⟩ := id Y
  unfold fM_keptLetter
  rw [zr_T H0, cond_true, zr_isShelved H0 R0 ok x hx, b2]
  by_cases e : 0 ≤ x ∧ x < (now.2.2.length : Int)
  · rw [decide_eq_true e, cond_true]
    obtain ⟨v, rfl⟩ : ∃ v : Nat, x = (v : Int) := ⟨x.toNat, by omega⟩
    obtain ⟨h1, e1, ⟨fl, a, H, R⟩, F1⟩ := zy_one0 (N := N) Y
    refine Or.inr ⟨e, h1, ?_, ⟨fl, a, H, R⟩, F1⟩
    have hv : v < now.2.2.length := by omega
    have wv := ok.2.2.2.2 _ (zv_kmem hv)
    have bv := R.1.2.2.2.2 v hv
    have g1 : fAI h1 233 100 (Int32.ofInt (123 + (v : Int))) = some (Int32.ofInt ((now.2.2.getD v []).length : Int)) := by
      rw [show 123 + (v : Int) = ((123 + v : Nat) : Int) by omega, zr_w H _ (by omega), bv.1]
    show fM_keptLetter_14 N 232 (Int32.ofInt (v : Int)) (Int32.ofInt y) (Int32.ofInt 0) 232 h = some (Int32.ofInt (zw_g (now.2.2.getD v []) y), h1)
    unfold fM_keptLetter_14 zw_g
    rw [e1, b2]
    show b1 (fR h1 232 5 0) _ = _
    rw [zr_r0 H, b1_s, zw_add, g1, b1_s, zw_sub, zr_in N y 0 _ hy (by decide) (by omega), b2]
    by_cases e2 : 0 ≤ y ∧ y < ((now.2.2.getD v []).length : Int)
    · obtain ⟨j, rfl⟩ : ∃ v : Nat, y = (v : Int) := ⟨y.toNat, by omega⟩
      have g2 : fAI h1 233 100 (Int32.ofInt (((131 + 40 * v : Nat) : Int) + (j : Int))) = some (Int32.ofInt (((now.2.2.getD v []).getD j 0 : Int) - 97)) := by
        rw [show ((131 + 40 * v : Nat) : Int) + (j : Int) = ((131 + 40 * v + j : Nat) : Int) by omega, zr_w H _ (by omega), bv.2 j (by omega)]
      rw [decide_eq_true (by omega : 0 ≤ (j : Int) ∧ (j : Int) ≤ ((now.2.2.getD v []).length : Int) - 1), if_pos e2]
      show b1 (fR h1 232 5 0) _ = _
      have c1 : Int32.ofInt 131 + Int32.ofInt 40 * Int32.ofInt (v : Int) = Int32.ofInt ((131 + 40 * v : Nat) : Int) := by
        rw [← Int32.ofInt_mul, ← Int32.ofInt_add]
        rfl
      rw [zr_r0 H, b1_s, c1, zw_add, g2, b1_s, zw_add, show 97 + (((now.2.2.getD v []).getD j 0 : Int) - 97) = ((now.2.2.getD v []).getD j 0 : Int) by omega]
      rfl
    · rw [decide_eq_false (by omega : ¬ (0 ≤ y ∧ y ≤ ((now.2.2.getD v []).length : Int) - 1)), if_neg e2]
      rfl
  · rw [decide_eq_false e, cond_false]
    obtain ⟨h1, e1, Y1, F1⟩ := zy_one1 (N := N) Y
    refine Or.inl ⟨e, h1, ?_, Y1, F1⟩
    show fM_keptLetter_14 N 232 (Int32.ofInt x) (Int32.ofInt y) (Int32.ofInt 1) 232 h = _
    unfold fM_keptLetter_14
    rw [e1]
    rfl
theorem zr_fall7 (hN : 1000 ≤ N) (H : zr h fl a) (R : zyR fl a now hist snap sv inp rep t) (ok : zv_ok now) : ∀ (c f i : Nat), i + c = now.2.2.length → 1 ≤ i → c < f → fM_isShelfFalling_7 N f 232 (Int32.ofInt (i : Int)) h = some (cond (zc_fall (fun j => now.2.2.getD j []) now.2.2.length c) (Int32.ofInt 1) (Int32.ofInt 0), h) := by
  have o4 := ok.2.2.2.1
  have g2 : fAI h 233 100 (Int32.ofInt 2) = some (Int32.ofInt (a 233 2)) := zr_w H 2 (by decide)
  intro c
  induction c with
  | zero =>
    intro f i h1 h2 h3
    obtain ⟨g, rfl⟩ : ∃ g, f = g + 1 := ⟨f - 1, by omega⟩
    rw [fM_isShelfFalling_7, zr_r0 H, b1_s, g2, b1_s, R.1.2.2.2.1, zqo_ge _ _ (by omega) (by omega), decide_eq_true (by omega), cond_true]
    rfl
  | succ c ih =>
    intro f i h1 h2 h3
    obtain ⟨g, rfl⟩ : ∃ g, f = g + 1 := ⟨f - 1, by omega⟩
    obtain ⟨z, z1, z2, z3, z4⟩ := zr_shelved (N := N) hN H R ok (j := i) (k := i - 1) (by omega) (by omega)
    rw [fM_isShelfFalling_7, zr_r0 H, b1_s, g2, b1_s, R.1.2.2.2.1, zqo_ge _ _ (by omega) (by omega), decide_eq_false (by omega), cond_false, zw_sub, show (i : Int) - 1 = ((i - 1 : Nat) : Int) by omega, z1, b2, zqo_le _ _ (by omega) (by decide), zc_fall, show now.2.2.length - (c + 1) = i by omega]
    rcases zw_cmpb (now.2.2.getD i []) (now.2.2.getD (i - 1) []) with w | w | w
    · have := z3.mpr w
      rw [decide_eq_true (by omega), cond_true, if_neg (by rw [w]; decide), zh_inc]
      exact ih g (i + 1) (by omega) (by omega) (by omega)
    · have := z4.mpr w
      rw [decide_eq_true (by omega), cond_true, if_neg (by rw [w]; decide), zh_inc]
      exact ih g (i + 1) (by omega) (by omega) (by omega)
    · have n1 : ¬ z < 0 := fun y => by rw [z3.mp y] at w; exact absurd w (by decide)
      have n2 : ¬ z = 0 := fun y => by rw [z4.mp y] at w; exact absurd w (by decide)
      rw [decide_eq_false (by omega), cond_false, if_pos w]
      rfl
theorem zn_isShelfFalling (Y : zy h now hist snap sv inp rep t) (ok : zv_ok now) (hN : 4000 ≤ N) : ∃ h', fM_isShelfFalling N 232 h = some (cond (zc_fall (fun j => now.2.2.getD j []) now.2.2.length (now.2.2.length - 1)) (Int32.ofInt 1) (Int32.ofInt 0), h') ∧ zy h' now hist snap sv inp rep 0 ∧ zr_F h h' := by
  obtain ⟨h1, e1, ⟨fl, a, H, R⟩, F1⟩ := zy_throw Y 0
  obtain ⟨fl0, a0, H0, R0⟩ := Y
  have o4 := ok.2.2.2.1
  refine ⟨h1, ?_, ⟨fl, a, H, R⟩, F1⟩
  unfold fM_isShelfFalling
  rw [zr_T H0, cond_true, e1, b1_s]
  by_cases e : now.2.2.length = 0
  · obtain ⟨g, rfl⟩ : ∃ g, N = g + 1 := ⟨N - 1, by omega⟩
    have g2 : fAI h1 233 100 (Int32.ofInt 2) = some (Int32.ofInt (a 233 2)) := zr_w H 2 (by decide)
    rw [fM_isShelfFalling_7, zr_r0 H, b1_s, g2, b1_s, R.1.2.2.2.1, zqo_ge _ _ (by decide) (by omega), decide_eq_true (by omega), cond_true, e]
    rfl
  · exact zr_fall7 (by omega) H R ok (now.2.2.length - 1) N 1 (by omega) (Nat.le_refl 1) (by omega)
theorem zn_factorsIfAppended (Y : zy h now hist snap sv inp rep t) (ok : zv_ok now) (hN : 4000 ≤ N) (x : Int) (hx : -2147483648 ≤ x ∧ x < 2147483648) : ((97 ≤ x ∧ x < 97 + (now.1 : Int)) ∧ ∃ h', fM_factorsIfAppended N 232 (Int32.ofInt x) h = some (Int32.ofInt (((zw_fs (now.2.1 ++ [x.toNat])).length : Nat) : Int), h') ∧ zy h' now hist snap sv inp rep 0 ∧ zr_F h h') ∨ (¬ (97 ≤ x ∧ x < 97 + (now.1 : Int)) ∧ ∃ h', fM_factorsIfAppended N 232 (Int32.ofInt x) h = some (Int32.ofInt 0, h') ∧ zy h' now hist snap sv inp rep 1 ∧ zr_F h h') := by
  have o1 := ok.1
  have o2 := ok.2.1
  obtain ⟨fl0, a0, H0, R0⟩ := id Y
  unfold fM_factorsIfAppended
  rw [zr_T H0, cond_true, zr_isLetter H0 R0.1.1 o1.2 x hx, b2]
  by_cases e : 97 ≤ x ∧ x < 97 + (now.1 : Int)
  · rw [decide_eq_true e, cond_true]
    obtain ⟨v, rfl⟩ : ∃ v : Nat, x = (v : Int) := ⟨x.toNat, by omega⟩
    obtain ⟨h1, e1, ⟨fl, a, H, R⟩, F1⟩ := zy_one0 (N := N) Y
    obtain ⟨h2, f2, a2, e2, H2, F2, Q2, r2⟩ := zr_loads (N := N) (by omega) H (zyR_tx R) o2
    obtain ⟨h3, f3, a3, e3, H3, F3, Q3, r3⟩ := zr_adds (N := N) H2 r2 (by omega) v
    have hl : (now.2.1 ++ [v]).length = now.2.1.length + 1 := List.length_append
    obtain ⟨h4, a4, e4, H4, F4, p4, _⟩ := zr_cuts (N := N) (by omega) H3 r3 ⟨by omega, fun u hu => by
      rw [List.mem_append, List.mem_singleton] at hu
      rcases hu with hu | hu
      · exact zv_256 ok u hu
      · omega⟩
    have Q : zr_Q fl a f3 a4 := ⟨fun k hk => (zr_Qt Q2 Q3).1 k hk, fun p i h5 h6 => (p4 p i h6).trans ((zr_Qt Q2 Q3).2 p i h5 h6)⟩
    refine Or.inl ⟨e, h4, ?_, ⟨f3, a4, H4, zyR_Q R Q⟩, zr_Ft F1 (zr_Ft F2 (zr_Ft F3 F4))⟩
    show fM_factorsIfAppended_14 N 232 (Int32.ofInt (v : Int)) (Int32.ofInt 0) 232 h = _
    unfold fM_factorsIfAppended_14
    rw [e1, b2]
    show b2 (fM_loads N 232 h1) _ = _
    rw [e2, b2, zw_sub, e3, b2, e4]
    rfl
  · rw [decide_eq_false e, cond_false]
    obtain ⟨h1, e1, Y1, F1⟩ := zy_one1 (N := N) Y
    refine Or.inr ⟨e, h1, ?_, Y1, F1⟩
    show fM_factorsIfAppended_14 N 232 (Int32.ofInt x) (Int32.ofInt 1) 232 h = _
    unfold fM_factorsIfAppended_14
    rw [e1]
    rfl
theorem zn_factorsIfRotated (Y : zy h now hist snap sv inp rep t) (ok : zv_ok now) (hN : 4000 ≤ N) (x : Int) (hx : -2147483648 ≤ x ∧ x < 2147483648) : ((0 ≤ x ∧ x ≤ (now.2.1.length : Int)) ∧ ∃ h', fM_factorsIfRotated N 232 (Int32.ofInt x) h = some (Int32.ofInt (((zw_fs (zw_trn now.2.1 x.toNat)).length : Nat) : Int), h') ∧ zy h' now hist snap sv inp rep 0 ∧ zr_F h h') ∨ (¬ (0 ≤ x ∧ x ≤ (now.2.1.length : Int)) ∧ ∃ h', fM_factorsIfRotated N 232 (Int32.ofInt x) h = some (Int32.ofInt 0, h') ∧ zy h' now hist snap sv inp rep 1 ∧ zr_F h h') := by
  have o2 := ok.2.1
  obtain ⟨fl0, a0, H0, R0⟩ := id Y
  have g0 : fAI h 233 100 (Int32.ofInt 1) = some (Int32.ofInt (a0 233 1)) := zr_w H0 1 (by decide)
  unfold fM_factorsIfRotated
  rw [zr_T H0, cond_true, zr_r0 H0, b1_s, g0, b1_s, R0.1.2.1, zr_in01 N x (by omega) hx, b2]
  by_cases e : 0 ≤ x ∧ x ≤ (now.2.1.length : Int)
  · rw [decide_eq_true e, cond_true]
    obtain ⟨v, rfl⟩ : ∃ v : Nat, x = (v : Int) := ⟨x.toNat, by omega⟩
    obtain ⟨h1, e1, ⟨fl, a, H, R⟩, F1⟩ := zy_one0 (N := N) Y
    have g1 : fAI h1 233 100 (Int32.ofInt 1) = some (Int32.ofInt (a 233 1)) := zr_w H 1 (by decide)
    have hl := zw_trnl now.2.1 v
    by_cases en : now.2.1.length = 0
    · refine Or.inl ⟨e, h1, ?_, ⟨fl, a, H, R⟩, F1⟩
      show fM_factorsIfRotated_20 N 232 (Int32.ofInt (v : Int)) (Int32.ofInt 0) 232 h = some (Int32.ofInt (((zw_fs (zw_trn now.2.1 v)).length : Nat) : Int), h1)
      unfold fM_factorsIfRotated_20
      rw [e1, b2]
      show b1 (fR h1 232 5 0) _ = _
      rw [zr_r0 H, b1_s, g1, b1_s, R.1.2.1, zqo_ne _ _ (by omega) (by decide), decide_eq_true (by omega), List.eq_nil_of_length_eq_zero (hl.trans en)]
      rfl
    · obtain ⟨h2, f2, a2, e2, H2, F2, Q2, r2⟩ := zr_rotated (N := N) (by omega) H (zyR_tx R) o2 (x := v) (by omega)
      obtain ⟨h3, a3, e3, H3, F3, p3, _⟩ := zr_cuts (N := N) (by omega) H2 r2 ⟨by omega, zw_trn256 (zv_256 ok) (by omega)⟩
      have Q : zr_Q fl a f2 a3 := ⟨Q2.1, fun p i h5 h6 => (p3 p i h6).trans (Q2.2 p i h5 h6)⟩
      refine Or.inl ⟨e, h3, ?_, ⟨f2, a3, H3, zyR_Q R Q⟩, zr_Ft F1 (zr_Ft F2 F3)⟩
      show fM_factorsIfRotated_20 N 232 (Int32.ofInt (v : Int)) (Int32.ofInt 0) 232 h = some (Int32.ofInt (((zw_fs (zw_trn now.2.1 v)).length : Nat) : Int), h3)
      unfold fM_factorsIfRotated_20
      rw [e1, b2]
      show b1 (fR h1 232 5 0) _ = _
      rw [zr_r0 H, b1_s, g1, b1_s, R.1.2.1, zqo_ne _ _ (by omega) (by decide), decide_eq_false (by omega), Bool.not_false, cond_true, e2, b2, e3]
      rfl
  · rw [decide_eq_false e, cond_false]
    obtain ⟨h1, e1, Y1, F1⟩ := zy_one1 (N := N) Y
    refine Or.inr ⟨e, h1, ?_, Y1, F1⟩
    show fM_factorsIfRotated_20 N 232 (Int32.ofInt x) (Int32.ofInt 1) 232 h = _
    unfold fM_factorsIfRotated_20
    rw [e1]
    rfl
end ZYS
end
section
/-! THE REFERENCE'S QUESTIONS, four. -/
/-- a factor by its place -/
theorem zr_fk2 {a : Nat → Nat → Int} {T : List Nat} (f : zr_fs a T) {k : Nat} (hk : k < (zw_fs T).length) : a 240 k = (((zw_fs T).getD k (0, 0)).1 : Int) ∧ a 240 (k + 1) = (((zw_fs T).getD k (0, 0)).2 : Int) ∧ ((zw_fs T).getD k (0, 0)).1 < ((zw_fs T).getD k (0, 0)).2 ∧ ((zw_fs T).getD k (0, 0)).2 ≤ T.length := by
  have hf := zm_fs T
  obtain ⟨i1, _, _⟩ := zm_itc (l := T) T.length 0 (Nat.zero_le _) (by omega)
  rw [← hf] at i1
  obtain ⟨j1, j2, j3, j4⟩ := i1 k hk
  have b := zw_lEb (l := T) (s := ((zw_fs T).getD k (0, 0)).1) j2
  refine ⟨f.1 k hk, ?_, by omega, by omega⟩
  by_cases e : k + 1 < (zw_fs T).length
  · rw [f.1 _ e, j3 e]
  · have e : k + 1 = (zw_fs T).length := by omega
    rw [e, f.2, j4 e]
section ZYT
variable {N : Nat} {h : zH} {fl fl' : Nat → Int} {a a' : Nat → Nat → Int} {bef now snap : zA} {hist : List zA} {sv t : Int} {inp : List Nat} {rep : zvP} {T : List Nat}
/-- two parts of the text -/
theorem zr_cmpT (hN : 1000 ≤ N) (H : zr h fl a) (tx : zr_tx a T) (hT : T.length ≤ 120) (hv : ∀ v ∈ T, v < 256) {x y z w : Nat} (hx : x ≤ y) (hy : y ≤ T.length) (hz : z ≤ w) (hw : w ≤ T.length) : ∃ q : Int, fM_compares N 232 (Int32.ofInt (3 + (x : Int))) (Int32.ofInt ((y : Int) - (x : Int))) (Int32.ofInt (3 + (z : Int))) (Int32.ofInt ((w : Int) - (z : Int))) h = some (Int32.ofInt q, h) ∧ (-1000 ≤ q ∧ q ≤ 1000) ∧ (q < 0 ↔ zw_cmp (zw_p T x y) (zw_p T z w) = -1) ∧ (q = 0 ↔ zw_cmp (zw_p T x y) (zw_p T z w) = 0) := by
  have l1 := zw_pl T x y hy
  have l2 := zw_pl T z w hw
  have d1 : ∀ i, (zw_p T x y).getD i 0 < 256 := zd_lt (fun v h => hv v (List.mem_of_mem_drop (List.mem_of_mem_take h)))
  have d2 : ∀ i, (zw_p T z w).getD i 0 < 256 := zd_lt (fun v h => hv v (List.mem_of_mem_drop (List.mem_of_mem_take h)))
  obtain ⟨q, q1, q2, q3⟩ := zr_compares3 (N := N) H (u := zw_p T x y) (v := zw_p T z w) (p := 3 + x) (q := 3 + z) (by omega) (by omega) (by omega) (by omega) d1 d2 (fun i hi => by rw [zw_pd (by omega), show 3 + x + i = 3 + (x + i) by omega, tx.2 _ (by omega)]) (fun i hi => by rw [zw_pd (by omega), show 3 + z + i = 3 + (z + i) by omega, tx.2 _ (by omega)]) (zw_p T x y).length N 0 (Nat.zero_add _) (Nat.zero_le _) (by omega)
  rw [zw_pall, zw_pall] at q3
  refine ⟨q, ?_, q2, q3⟩
  unfold fM_compares
  rw [zr_T H, cond_true, show 3 + (x : Int) = ((3 + x : Nat) : Int) by omega, show 3 + (z : Int) = ((3 + z : Nat) : Int) by omega, show (y : Int) - (x : Int) = ((zw_p T x y).length : Int) by omega, show (w : Int) - (z : Int) = ((zw_p T z w).length : Int) by omega]
  exact q1
theorem zr_isPart (H : zr h fl a) (tx : zr_tx a T) (hT : T.length ≤ 120) (x y : Int) (hx : -2147483648 ≤ x ∧ x < 2147483648) (hy : -2147483648 ≤ y ∧ y < 2147483648) : fM_isPart N 232 (Int32.ofInt x) (Int32.ofInt y) h = some (cond (zc_part T x y) (Int32.ofInt 1) (Int32.ofInt 0), h) := by
  have g1 : fAI h 233 100 (Int32.ofInt 1) = some (Int32.ofInt (a 233 1)) := zr_w H 1 (by decide)
  unfold fM_isPart zc_part
  rw [zr_T H, cond_true, zqo_lt _ _ hx (by decide), zqo_lt _ _ hy hx]
  by_cases e1 : x < 0
  · rw [decide_eq_true e1, cond_true, decide_eq_false (by omega)]
    rfl
  rw [decide_eq_false e1, cond_false]
  by_cases e2 : y < x
  · rw [decide_eq_true e2, cond_true, decide_eq_false (by omega)]
    rfl
  rw [decide_eq_false e2, cond_false, zr_r0 H, b1_s, g1, b1_s, tx.1, zqo_gt _ _ hy (by omega)]
  by_cases e3 : (T.length : Int) < y
  · rw [decide_eq_true e3, cond_true, decide_eq_false (by omega)]
    rfl
  · rw [decide_eq_false e3, cond_false, decide_eq_true (by omega)]
    rfl
theorem zn_compareParts (Y : zy h now hist snap sv inp rep t) (ok : zv_ok now) (hN : 4000 ≤ N) (x y z w : Int) (hx : -2147483648 ≤ x ∧ x < 2147483648) (hy : -2147483648 ≤ y ∧ y < 2147483648) (hz : -2147483648 ≤ z ∧ z < 2147483648) (hw : -2147483648 ≤ w ∧ w < 2147483648) : ((zc_part now.2.1 x y && zc_part now.2.1 z w) = false ∧ ∃ h', fM_compareParts N 232 (Int32.ofInt x) (Int32.ofInt y) (Int32.ofInt z) (Int32.ofInt w) h = some (Int32.ofInt 0, h') ∧ zy h' now hist snap sv inp rep 1 ∧ zr_F h h') ∨ ((zc_part now.2.1 x y && zc_part now.2.1 z w) = true ∧ ∃ h', fM_compareParts N 232 (Int32.ofInt x) (Int32.ofInt y) (Int32.ofInt z) (Int32.ofInt w) h = some (Int32.ofInt (zw_cmp (zw_p now.2.1 x.toNat y.toNat) (zw_p now.2.1 z.toNat w.toNat)), h') ∧ zy h' now hist snap sv inp rep 0 ∧ zr_F h h') := by
  have o2 := ok.2.1
  obtain ⟨fl0, a0, H0, R0⟩ := id Y
  have k : ∃ h', fM_compareParts_20 N 232 (Int32.ofInt x) (Int32.ofInt y) (Int32.ofInt z) (Int32.ofInt w) 232 h = some (Int32.ofInt 0, h') ∧ zy h' now hist snap sv inp rep 1 ∧ zr_F h h' := by
    obtain ⟨h1, e1, Y1, F1⟩ := zy_one1 (N := N) Y
    refine ⟨h1, ?_, Y1, F1⟩
    unfold fM_compareParts_20 fM_compareParts_25
    rw [e1]
    rfl
  unfold fM_compareParts
  rw [zr_T H0, cond_true, zr_isPart H0 (zyR_tx R0) o2 x y hx hy, b2]
  cases c1 : zc_part now.2.1 x y with
  | false => exact Or.inl ⟨rfl, k⟩
  | true =>
    show (_ ∧ ∃ h', b2 (fM_isPart N 232 (Int32.ofInt z) (Int32.ofInt w) h) _ = _ ∧ _) ∨ (_ ∧ ∃ h', b2 (fM_isPart N 232 (Int32.ofInt z) (Int32.ofInt w) h) _ = _ ∧ _)
    rw [zr_isPart H0 (zyR_tx R0) o2 z w hz hw, b2]
    cases c2 : zc_part now.2.1 z w with
    | false => exact Or.inl ⟨rfl, k⟩
    | true =>
      refine Or.inr ⟨rfl, ?_⟩
      have d1 := of_decide_eq_true c1
      have d2 := of_decide_eq_true c2
      obtain ⟨x, rfl⟩ : ∃ v : Nat, x = (v : Int) := ⟨x.toNat, by omega⟩
      obtain ⟨y, rfl⟩ : ∃ v : Nat, y = (v : Int) := ⟨y.toNat, by omega⟩
      obtain ⟨z, rfl⟩ : ∃ v : Nat, z = (v : Int) := ⟨z.toNat, by omega⟩
      obtain ⟨w, rfl⟩ : ∃ v : Nat, w = (v : Int) := ⟨w.toNat, by omega⟩
      obtain ⟨h1, e1, ⟨fl, a, H, R⟩, F1⟩ := zy_one0 (N := N) Y
      obtain ⟨q, q1, q2, q3, q4⟩ := zr_cmpT (N := N) (by omega) H (zyR_tx R) o2 (zv_256 ok) (x := x) (y := y) (z := z) (w := w) (by omega) (by omega) (by omega) (by omega)
      refine ⟨h1, ?_, ⟨fl, a, H, R⟩, F1⟩
      show fM_compareParts_25 N 232 (Int32.ofInt (x : Int)) (Int32.ofInt (y : Int)) (Int32.ofInt (z : Int)) (Int32.ofInt (w : Int)) (Int32.ofInt 0) 232 h = some (Int32.ofInt (zw_cmp (zw_p now.2.1 x y) (zw_p now.2.1 z w)), h1)
      unfold fM_compareParts_25
      rw [e1, b2]
      show b2 (fM_compares N 232 _ _ _ _ h1) _ = _
      rw [zw_add, zw_sub, zw_add, zw_sub, q1, b2, zqo_ge _ _ (by omega) (by decide), zqo_le _ _ (by omega) (by decide)]
      rcases zw_cmpb (zw_p now.2.1 x y) (zw_p now.2.1 z w) with v | v | v
      · have := q3.mpr v
        rw [decide_eq_false (by omega), v]
        rfl
      · have := q4.mpr v
        rw [decide_eq_true (by omega : (0 : Int) ≤ q), decide_eq_true (by omega : q ≤ 0), v]
        rfl
      · have n1 : ¬ q < 0 := fun y => by rw [q3.mp y] at v; exact absurd v (by decide)
        have n2 : ¬ q = 0 := fun y => by rw [q4.mp y] at v; exact absurd v (by decide)
        rw [decide_eq_true (by omega : (0 : Int) ≤ q), decide_eq_false (by omega : ¬ q ≤ 0), v]
        rfl
theorem zr_long14 (hN : 1000 ≤ N) (H : zr h fl a) (S : zr_fs a T) (hT : T.length ≤ 120) : ∀ (c f i : Nat) (g : Int) (m : Nat), i + c = (zw_fs T).length → c < f → ((g = -1 ∧ m = 0) ∨ ∃ j : Nat, g = (j : Int) ∧ j < i ∧ m = ((zw_fs T).getD j (0, 0)).2 - ((zw_fs T).getD j (0, 0)).1) → fM_longestFactor_14 N f 232 (Int32.ofInt ((zw_fs T).length : Int)) (Int32.ofInt g) (Int32.ofInt (i : Int)) h = some (Int32.ofInt (zw_long ((zw_fs T).drop i) i g m), h) := by
  have fl := zm_fsl T
  intro c
  induction c with
  | zero =>
    intro f i g m h1 h2 h3
    obtain ⟨y, rfl⟩ : ∃ y, f = y + 1 := ⟨f - 1, by omega⟩
    rw [fM_longestFactor_14, zqo_ge _ _ (by omega) (by omega), decide_eq_true (by omega), cond_true, List.drop_eq_nil_of_le (by omega)]
    rfl
  | succ c ih =>
    intro f i g m h1 h2 h3
    obtain ⟨y, rfl⟩ : ∃ y, f = y + 1 := ⟨f - 1, by omega⟩
    have hi : i < (zw_fs T).length := by omega
    obtain ⟨s1, s2, s3, s4⟩ := zr_fk2 S hi
    have ei : (zw_fs T)[i] = (zw_fs T).getD i (0, 0) := by
      rw [List.getD_eq_getElem?_getD, List.getElem?_eq_getElem hi]
      rfl
    have gi : fAI h 240 100 (Int32.ofInt ((i : Int) + 1)) = some (Int32.ofInt (a 240 (i + 1))) := zr_st H (i + 1) (by omega)
    rw [fM_longestFactor_14, zqo_ge _ _ (by omega) (by omega), decide_eq_false (by omega), cond_false, List.drop_eq_getElem_cons hi, zw_long, ei]
    unfold fM_longestFactor_57 fM_longestFactor_59
    rcases h3 with ⟨rfl, rfl⟩ | ⟨j, rfl, hj, rfl⟩
    · rw [zqo_eq _ _ (by decide) (by decide), decide_eq_true rfl, cond_true, if_pos (by omega), zh_inc]
      exact ih y (i + 1) (i : Int) _ (by omega) (by omega) (Or.inr ⟨i, rfl, by omega, rfl⟩)
    · obtain ⟨t1, t2, t3, t4⟩ := zr_fk2 S (show j < (zw_fs T).length by omega)
      have gj : fAI h 240 100 (Int32.ofInt ((j : Int) + 1)) = some (Int32.ofInt (a 240 (j + 1))) := zr_st H (j + 1) (by omega)
      rw [zqo_eq _ _ (by omega) (by decide), decide_eq_false (by omega), cond_false, zr_r9 H, b1_s, zw_add, gi, b1_s, b1_s, zr_st H i (by omega), b1_s, b1_s, zw_add, gj, b1_s, b1_s, zr_st H j (by omega), b1_s, s1, s2, t1, t2, zw_sub, zw_sub, zqo_le _ _ (by omega) (by omega)]
      by_cases e : ((zw_fs T).getD j (0, 0)).2 - ((zw_fs T).getD j (0, 0)).1 < ((zw_fs T).getD i (0, 0)).2 - ((zw_fs T).getD i (0, 0)).1
      · rw [decide_eq_false (by omega), cond_false, if_pos e]
        exact ih y (i + 1) (i : Int) _ (by omega) (by omega) (Or.inr ⟨i, rfl, by omega, rfl⟩)
      · rw [decide_eq_true (by omega), cond_true, if_neg e]
        exact ih y (i + 1) (j : Int) _ (by omega) (by omega) (Or.inr ⟨j, rfl, by omega, rfl⟩)
theorem zn_longestFactor (Y : zy h now hist snap sv inp rep t) (ok : zv_ok now) (hN : 4000 ≤ N) : ∃ h', fM_longestFactor N 232 h = some (Int32.ofInt (zw_long (zw_fs now.2.1) 0 (-1) 0), h') ∧ zy h' now hist snap sv inp rep 0 ∧ zr_F h h' := by
  have o2 := ok.2.1
  have fb := zm_fsl now.2.1
  obtain ⟨h1, e1, Y1, F1⟩ := zy_throw Y 0
  obtain ⟨h2, e2, ⟨fl, a, H, R, S⟩, Y2, F2⟩ := zy_factors (N := N) (by omega) Y1 ok
  obtain ⟨fl0, a0, H0, R0⟩ := Y
  refine ⟨h2, ?_, Y2, zr_Ft F1 F2⟩
  have q := zr_long14 (N := N) (by omega) H S o2 (zw_fs now.2.1).length N 0 (-1) 0 (Nat.zero_add _) (by omega) (Or.inl ⟨rfl, rfl⟩)
  rw [List.drop_zero] at q
  unfold fM_longestFactor
  rw [zr_T H0, cond_true, e1, b1_s, e2, b2]
  exact q
end ZYT
end
section
/-! THE REFERENCE'S QUESTIONS, five. -/
theorem zw_cmp0 : ∀ l m : List Nat, zw_cmp l m = 0 ↔ l = m := by
  intro l
  induction l with
  | nil =>
    intro m
    cases m with
    | nil => exact ⟨fun _ => rfl, fun _ => rfl⟩
    | cons b m => exact ⟨fun h => absurd h (by rw [zw_cmp]; decide), fun h => by cases h⟩
  | cons x l ih =>
    intro m
    cases m with
    | nil => exact ⟨fun h => absurd h (by rw [zw_cmp]; decide), fun h => by cases h⟩
    | cons b m =>
      rw [zw_cmp]
      by_cases e : x = b
      · rw [if_pos e, ih m, e]
        exact ⟨fun h => by rw [h], fun h => (List.cons.inj h).2⟩
      · rw [if_neg e]
        refine ⟨fun h => ?_, fun h => absurd (List.cons.inj h).1 e⟩
        split at h <;> exact absurd h (by decide)
theorem zm_fk {T : List Nat} : (∀ k, k < (zw_fs T).length → (k + 1 < (zw_fs T).length → ((zw_fs T).getD (k + 1) (0, 0)).1 = ((zw_fs T).getD k (0, 0)).2) ∧ (k + 1 = (zw_fs T).length → ((zw_fs T).getD k (0, 0)).2 = T.length)) ∧ (0 < T.length → 0 < (zw_fs T).length ∧ ((zw_fs T).getD 0 (0, 0)).1 = 0) := by
  have hf := zm_fs T
  obtain ⟨i1, i2, _⟩ := zm_itc (l := T) T.length 0 (Nat.zero_le _) (by omega)
  rw [← hf] at i1 i2
  exact ⟨fun k hk => ⟨(i1 k hk).2.2.1, (i1 k hk).2.2.2⟩, i2⟩
section ZYU
variable {N : Nat} {h : zH} {fl fl' : Nat → Int} {a a' : Nat → Nat → Int} {bef now snap : zA} {hist : List zA} {sv t : Int} {inp : List Nat} {rep : zvP} {T : List Nat}
theorem zr_factorOf12 (H : zr h fl a) (S : zr_fs a T) (hT : T.length ≤ 120) (x : Int) (hx : -2147483648 ≤ x ∧ x < 2147483648) : ∀ (c f i : Nat), i + c = (zw_fs T).length → c < f → (0 ≤ x → x < (T.length : Int) → i < (zw_fs T).length ∧ (((zw_fs T).getD i (0, 0)).1 : Int) ≤ x) → fM_factorOf_12 N f 232 (Int32.ofInt x) (Int32.ofInt ((zw_fs T).length : Int)) (Int32.ofInt (i : Int)) h = some (Int32.ofInt (if x < 0 ∨ (T.length : Int) ≤ x then -1 else (i : Int) + (zw_lead x.toNat ((zw_fs T).drop i) : Int) - 1), h) := by
  have fl := zm_fsl T
  intro c
  induction c with
  | zero =>
    intro f i h1 h2 h3
    obtain ⟨y, rfl⟩ : ∃ y, f = y + 1 := ⟨f - 1, by omega⟩
    rw [fM_factorOf_12, zqo_ge _ _ (by omega) (by omega), decide_eq_true (by omega), cond_true, if_pos (by
      by_cases q1 : x < 0
      · exact Or.inl q1
      · by_cases q2 : (T.length : Int) ≤ x
        · exact Or.inr q2
        · have := (h3 (by omega) (by omega)).1
          omega)]
  | succ c ih =>
    intro f i h1 h2 h3
    obtain ⟨y, rfl⟩ : ∃ y, f = y + 1 := ⟨f - 1, by omega⟩
    have hi : i < (zw_fs T).length := by omega
    obtain ⟨s1, s2, s3, s4⟩ := zr_fk2 S hi
    obtain ⟨u1, u2⟩ := (zm_fk (T := T)).1 i hi
    have ei : (zw_fs T)[i] = (zw_fs T).getD i (0, 0) := by
      rw [List.getD_eq_getElem?_getD, List.getElem?_eq_getElem hi]
      rfl
    have gi : fAI h 240 100 (Int32.ofInt ((i : Int) + 1)) = some (Int32.ofInt (a 240 (i + 1))) := zr_st H (i + 1) (by omega)
    rw [fM_factorOf_12, zqo_ge _ _ (by omega) (by omega), decide_eq_false (by omega), cond_false, zr_r9 H, b1_s, zr_st H i (by omega), b1_s, b1_s, zw_add, gi, b1_s, s1, s2, zw_sub, zr_in N x _ _ hx (by omega) (by omega), b2]
    by_cases e : (((zw_fs T).getD i (0, 0)).1 : Int) ≤ x ∧ x ≤ (((zw_fs T).getD i (0, 0)).2 : Int) - 1
    · rw [decide_eq_true e, if_neg (by omega)]
      have el : zw_lead x.toNat ((zw_fs T).drop i) = 1 := by
        rw [List.drop_eq_getElem_cons hi, zw_lead, ei, if_pos (by omega)]
        by_cases e2 : i + 1 < (zw_fs T).length
        · have ej : (zw_fs T)[i + 1] = (zw_fs T).getD (i + 1) (0, 0) := by
            rw [List.getD_eq_getElem?_getD, List.getElem?_eq_getElem e2]
            rfl
          have := u1 e2
          rw [List.drop_eq_getElem_cons e2, zw_lead, ej, if_neg (by omega)]
        · rw [List.drop_eq_nil_of_le (by omega)]
          rfl
      rw [el]
      show some (Int32.ofInt (i : Int), h) = _
      rw [show (i : Int) + ((1 : Nat) : Int) - 1 = (i : Int) by omega]
    · rw [decide_eq_false e]
      show fM_factorOf_12 N y 232 (Int32.ofInt x) (Int32.ofInt ((zw_fs T).length : Int)) (Int32.ofInt ((i + 1 : Nat) : Int)) h = _
      have h4 : 0 ≤ x → x < (T.length : Int) → i + 1 < (zw_fs T).length ∧ (((zw_fs T).getD (i + 1) (0, 0)).1 : Int) ≤ x := by
        intro q1 q2
        have q3 := (h3 q1 q2).2
        by_cases e2 : i + 1 < (zw_fs T).length
        · have := u1 e2
          exact ⟨e2, by omega⟩
        · have := u2 (by omega)
          omega
      rw [ih y (i + 1) (by omega) (by omega) h4]
      by_cases q : x < 0 ∨ (T.length : Int) ≤ x
      · rw [if_pos q, if_pos q]
      · rw [if_neg q, if_neg q, List.drop_eq_getElem_cons hi, zw_lead, ei, if_pos (by have := (h3 (by omega) (by omega)).2; omega)]
        congr 3
        omega
theorem zn_factorOf (Y : zy h now hist snap sv inp rep t) (ok : zv_ok now) (hN : 4000 ≤ N) (x : Int) (hx : -2147483648 ≤ x ∧ x < 2147483648) : ∃ h', fM_factorOf N 232 (Int32.ofInt x) h = some (Int32.ofInt (zw_wF now.2.1 x), h') ∧ zy h' now hist snap sv inp rep 0 ∧ zr_F h h' := by
  have o2 := ok.2.1
  have fb := zm_fsl now.2.1
  obtain ⟨h1, e1, Y1, F1⟩ := zy_throw Y 0
  obtain ⟨h2, e2, ⟨fl, a, H, R, S⟩, Y2, F2⟩ := zy_factors (N := N) (by omega) Y1 ok
  obtain ⟨fl0, a0, H0, R0⟩ := Y
  refine ⟨h2, ?_, Y2, zr_Ft F1 F2⟩
  have q := zr_factorOf12 (N := N) H S o2 x hx (zw_fs now.2.1).length N 0 (Nat.zero_add _) (by omega) (fun q1 q2 => by
    have := (zm_fk (T := now.2.1)).2 (by omega)
    exact ⟨this.1, by omega⟩)
  rw [List.drop_zero] at q
  unfold fM_factorOf zw_wF
  rw [zr_T H0, cond_true, e1, b1_s, e2, b2]
  refine q.trans ?_
  rw [show ((0 : Nat) : Int) + (zw_lead x.toNat (zw_fs now.2.1) : Int) - 1 = (zw_lead x.toNat (zw_fs now.2.1) : Int) - 1 by omega]
theorem zr_alike (hN : 1000 ≤ N) (H : zr h fl a) (tx : zr_tx a T) (hT : T.length ≤ 120) (hv : ∀ v ∈ T, v < 256) (S : zr_fs a T) {k i : Nat} (hk : k < (zw_fs T).length) (hi : i < (zw_fs T).length) : fM_areAlike N 232 (Int32.ofInt (k : Int)) (Int32.ofInt (i : Int)) h = some (cond (decide (zw_cmp (zw_p T ((zw_fs T).getD i (0, 0)).1 ((zw_fs T).getD i (0, 0)).2) (zw_p T ((zw_fs T).getD k (0, 0)).1 ((zw_fs T).getD k (0, 0)).2) = 0)) (Int32.ofInt 1) (Int32.ofInt 0), h) := by
  have fl := zm_fsl T
  obtain ⟨s1, s2, s3, s4⟩ := zr_fk2 S hi
  obtain ⟨t1, t2, t3, t4⟩ := zr_fk2 S hk
  have gi : fAI h 240 100 (Int32.ofInt ((i : Int) + 1)) = some (Int32.ofInt (a 240 (i + 1))) := zr_st H (i + 1) (by omega)
  have gk : fAI h 240 100 (Int32.ofInt ((k : Int) + 1)) = some (Int32.ofInt (a 240 (k + 1))) := zr_st H (k + 1) (by omega)
  obtain ⟨q, q1, q2, q3, q4⟩ := zr_cmpT (N := N) hN H tx hT hv (x := ((zw_fs T).getD k (0, 0)).1) (y := ((zw_fs T).getD k (0, 0)).2) (z := ((zw_fs T).getD i (0, 0)).1) (w := ((zw_fs T).getD i (0, 0)).2) (by omega) t4 (by omega) s4
  have q5 : q = 0 ↔ zw_cmp (zw_p T ((zw_fs T).getD i (0, 0)).1 ((zw_fs T).getD i (0, 0)).2) (zw_p T ((zw_fs T).getD k (0, 0)).1 ((zw_fs T).getD k (0, 0)).2) = 0 := by
    rw [q4, zw_cmp0, zw_cmp0]
    exact ⟨fun x => x.symm, fun x => x.symm⟩
  unfold fM_areAlike
  rw [zr_T H, cond_true, zr_r9 H, b1_s, zr_st H k (by omega), b1_s, b1_s, zw_add, gk, b1_s, b1_s, zr_st H k (by omega), b1_s, b1_s, zr_st H i (by omega), b1_s, b1_s, zw_add, gi, b1_s, b1_s, zr_st H i (by omega), b1_s, s1, s2, t1, t2, zw_add, zw_sub, zw_add, zw_sub, q1, b2, zqo_ne _ _ (by omega) (by decide)]
  by_cases e : q = 0
  · rw [decide_eq_true e, decide_eq_true (q5.mp e)]
    rfl
  · rw [decide_eq_false e, decide_eq_false (fun x => e (q5.mpr x))]
    rfl
theorem zr_power5 (hN : 1000 ≤ N) (H : zr h fl a) (tx : zr_tx a T) (hT : T.length ≤ 120) (hv : ∀ v ∈ T, v < 256) (S : zr_fs a T) {k : Nat} (hk : k < (zw_fs T).length) : ∀ (c f i s : Nat), i + c = (zw_fs T).length → c < f → fM_powerOf_5 N f 232 (Int32.ofInt (k : Int)) (Int32.ofInt ((zw_fs T).length : Int)) (Int32.ofInt (s : Int)) (Int32.ofInt (i : Int)) h = some (Int32.ofInt ((s + zw_like T ((zw_fs T).getD k (0, 0)).1 ((zw_fs T).getD k (0, 0)).2 ((zw_fs T).drop i) : Nat) : Int), h) := by
  have fl := zm_fsl T
  intro c
  induction c with
  | zero =>
    intro f i s h1 h2
    obtain ⟨y, rfl⟩ : ∃ y, f = y + 1 := ⟨f - 1, by omega⟩
    rw [fM_powerOf_5, zqo_ge _ _ (by omega) (by omega), decide_eq_true (by omega), cond_true, List.drop_eq_nil_of_le (by omega)]
    rfl
  | succ c ih =>
    intro f i s h1 h2
    obtain ⟨y, rfl⟩ : ∃ y, f = y + 1 := ⟨f - 1, by omega⟩
    have hi : i < (zw_fs T).length := by omega
    have ei : (zw_fs T)[i] = (zw_fs T).getD i (0, 0) := by
      rw [List.getD_eq_getElem?_getD, List.getElem?_eq_getElem hi]
      rfl
    rw [fM_powerOf_5, zqo_ge _ _ (by omega) (by omega), decide_eq_false (by omega), cond_false, zr_alike hN H tx hT hv S hk hi, b2, List.drop_eq_getElem_cons hi, zw_like, ei]
    unfold fM_powerOf_27
    by_cases e : zw_cmp (zw_p T ((zw_fs T).getD i (0, 0)).1 ((zw_fs T).getD i (0, 0)).2) (zw_p T ((zw_fs T).getD k (0, 0)).1 ((zw_fs T).getD k (0, 0)).2) = 0
    · rw [decide_eq_true e, if_pos e]
      show fM_powerOf_5 N y 232 (Int32.ofInt (k : Int)) (Int32.ofInt ((zw_fs T).length : Int)) (Int32.ofInt (s : Int) + Int32.ofInt 1) (Int32.ofInt (i : Int) + Int32.ofInt 1) h = _
      rw [zh_inc, zh_inc, ih y (i + 1) (s + 1) (by omega) (by omega), Nat.add_assoc]
    · rw [decide_eq_false e, if_neg e]
      show fM_powerOf_5 N y 232 (Int32.ofInt (k : Int)) (Int32.ofInt ((zw_fs T).length : Int)) (Int32.ofInt (s : Int) + Int32.ofInt 0) (Int32.ofInt (i : Int) + Int32.ofInt 1) h = _
      rw [zw_add, Int.add_zero, zh_inc, ih y (i + 1) s (by omega) (by omega), Nat.zero_add]
theorem zn_factorPower (Y : zy h now hist snap sv inp rep t) (ok : zv_ok now) (hN : 4000 ≤ N) (x : Int) (hx : -2147483648 ≤ x ∧ x < 2147483648) : (zw_bF now.2.1 x = -1 ∧ ∃ h', fM_factorPower N 232 (Int32.ofInt x) h = some (Int32.ofInt 0, h') ∧ zy h' now hist snap sv inp rep 1 ∧ zr_F h h') ∨ (zw_bF now.2.1 x ≠ -1 ∧ ∃ h', fM_factorPower N 232 (Int32.ofInt x) h = some (Int32.ofInt ((zw_like now.2.1 (zw_bF now.2.1 x).toNat (zw_lE now.2.1 (zw_bF now.2.1 x).toNat) (zw_fs now.2.1) : Nat) : Int), h') ∧ zy h' now hist snap sv inp rep 0 ∧ zr_F h h') := by
  have o2 := ok.2.1
  have o5 := zm_fsl now.2.1
  obtain ⟨h1, e1, ⟨fl, a, H, R, S⟩, Y1, F1⟩ := zy_factors (N := N) (by omega) Y ok
  obtain ⟨fl0, a0, H0, R0⟩ := id Y
  unfold fM_factorPower
  rw [zr_T H0, cond_true, e1, b2, zw_sub, zr_in N x 0 _ hx (by decide) (by omega), b2]
  by_cases e : 0 ≤ x ∧ x ≤ ((zw_fs now.2.1).length : Int) - 1
  · obtain ⟨k, rfl⟩ : ∃ v : Nat, x = (v : Int) := ⟨x.toNat, by omega⟩
    have hk : k < (zw_fs now.2.1).length := by omega
    obtain ⟨b, b1', b2', b3, b4, b5, b6⟩ := zr_fk S hk
    obtain ⟨s1, s2, s3, s4⟩ := zr_fk2 S hk
    have w1 : ((zw_fs now.2.1).getD k (0, 0)).1 = b := by omega
    have w2 : ((zw_fs now.2.1).getD k (0, 0)).2 = zw_lE now.2.1 b := by omega
    obtain ⟨h2, e2, H2, F2⟩ := zr_s H 17 rfl 0
    have q := zr_power5 (N := N) (by omega) H2 (zyR_tx R) o2 (zv_256 ok) S hk (zw_fs now.2.1).length N 0 0 (Nat.zero_add _) (by omega)
    rw [List.drop_zero, Nat.zero_add, w1, w2] at q
    refine Or.inr ⟨by omega, h2, ?_, ⟨_, a, H2, zyR_t R 0⟩, zr_Ft F1 F2⟩
    rw [decide_eq_true e, cond_true, b1', show ((b : Int)).toNat = b from rfl]
    show fM_factorPower_22 N 232 (Int32.ofInt (k : Int)) (Int32.ofInt ((zw_fs now.2.1).length : Int)) (Int32.ofInt 0) 232 h1 = _
    unfold fM_factorPower_22 fM_throwsOne
    rw [zr_T H, cond_true]
    show b2 (b1 (fS h1 232 5 17 (.int (Int32.ofInt 0))) _) _ = _
    rw [e2]
    show b2 (fM_powerOf N 232 (Int32.ofInt (k : Int)) (Int32.ofInt ((zw_fs now.2.1).length : Int)) h2) _ = _
    unfold fM_powerOf
    rw [zr_T H2, cond_true]
    have q : fM_powerOf_5 N N 232 (Int32.ofInt (k : Int)) (Int32.ofInt ((zw_fs now.2.1).length : Int)) (Int32.ofInt 0) (Int32.ofInt 0) h2 = _ := q
    rw [q]
    rfl
  · obtain ⟨h2, e2, Y2, F2⟩ := zy_one1 (N := N) Y1
    refine Or.inl ⟨zw_bFn e, h2, ?_, Y2, zr_Ft F1 F2⟩
    rw [decide_eq_false e, cond_false]
    show fM_factorPower_22 N 232 (Int32.ofInt x) (Int32.ofInt ((zw_fs now.2.1).length : Int)) (Int32.ofInt 1) 232 h1 = _
    unfold fM_factorPower_22
    rw [e2]
    rfl
end ZYU
end
section
/-! THE REFERENCE'S ENDINGS. -/
theorem zw_cmpn : ∀ l m : List Nat, zw_cmp m l = -zw_cmp l m := by
  intro l
  induction l with
  | nil =>
    intro m
    cases m <;> rfl
  | cons x l ih =>
    intro m
    cases m with
    | nil => rfl
    | cons b m =>
      rw [zw_cmp, zw_cmp]
      by_cases e : x = b
      · rw [if_pos e, if_pos e.symm, ih m]
      · rw [if_neg e, if_neg (fun y => e y.symm)]
        by_cases e2 : x < b
        · rw [if_pos e2, if_neg (by omega)]
          rfl
        · rw [if_neg e2, if_pos (by omega)]
theorem zw_cmpl : ∀ l m k : List Nat, zw_cmp l m = -1 → zw_cmp m k = -1 → zw_cmp l k = -1 := by
  intro l
  induction l with
  | nil =>
    intro m k h1 h2
    cases m with
    | nil => exact absurd h1 (by decide)
    | cons b m =>
      cases k with
      | nil => exact absurd h2 (by rw [zw_cmp]; decide)
      | cons c k => rfl
  | cons x l ih =>
    intro m k h1 h2
    cases m with
    | nil => exact absurd h1 (by rw [zw_cmp]; decide)
    | cons b m =>
      cases k with
      | nil => exact absurd h2 (by rw [zw_cmp]; decide)
      | cons c k =>
        rw [zw_cmp] at h1 h2 ⊢
        by_cases e1 : x = b
        · rw [if_pos e1] at h1
          by_cases e2 : b = c
          · rw [if_pos e2] at h2
            rw [if_pos (e1.trans e2)]
            exact ih m k h1 h2
          · rw [if_neg e2] at h2
            by_cases e3 : b < c
            · rw [if_neg (by omega), if_pos (by omega)]
            · rw [if_neg e3] at h2
              exact absurd h2 (by decide)
        · rw [if_neg e1] at h1
          by_cases e3 : x < b
          · by_cases e2 : b = c
            · rw [if_neg (by omega), if_pos (by omega)]
            · rw [if_neg e2] at h2
              by_cases e4 : b < c
              · rw [if_neg (by omega), if_pos (by omega)]
              · rw [if_neg e4] at h2
                exact absurd h2 (by decide)
          · rw [if_neg e3] at h1
            exact absurd h1 (by decide)
theorem zw_cmpt {sg : Int} (hs : sg = -1 ∨ sg = 1) {l m k : List Nat} (h1 : zw_cmp l m = sg) (h2 : zw_cmp m k = sg) : zw_cmp l k = sg := by
  rcases hs with rfl | rfl
  · exact zw_cmpl l m k h1 h2
  · have a := zw_cmpn l m
    have b := zw_cmpn m k
    have := zw_cmpl k m l (by omega) (by omega)
    have c := zw_cmpn l k
    omega
/-- the ending x is the extreme one among those in P -/
def zm_Xt (T : List Nat) (sg : Int) (P : Nat → Prop) (x : Nat) : Prop := ∀ j, P j → j < T.length → j ≠ x → zw_cmp (zw_p T x T.length) (zw_p T j T.length) = sg
theorem zm_pe0 {T : List Nat} {x y : Nat} (hx : x < T.length) (hy : y < T.length) (h : x ≠ y) : zw_cmp (zw_p T x T.length) (zw_p T y T.length) ≠ 0 := by
  intro e
  have := congrArg List.length ((zw_cmp0 _ _).mp e)
  rw [zw_pl _ _ _ (Nat.le_refl _), zw_pl _ _ _ (Nat.le_refl _)] at this
  omega
/-- one ending more -/
theorem zm_Xts {T : List Nat} {sg : Int} (hs : sg = -1 ∨ sg = 1) {P : Nat → Prop} {x c : Nat} (hx : x < T.length) (hc : c < T.length) (hxc : x ≠ c) (h : zm_Xt T sg P x) (hP : P x) : (zw_cmp (zw_p T c T.length) (zw_p T x T.length) = sg → zm_Xt T sg (fun j => j = c ∨ P j) c) ∧ (zw_cmp (zw_p T c T.length) (zw_p T x T.length) ≠ sg → zm_Xt T sg (fun j => j = c ∨ P j) x) := by
  refine ⟨fun e j hj hl hn => ?_, fun e j hj hl hn => ?_⟩
  · rcases hj with hj | hj
    · exact absurd hj hn
    · by_cases ex : j = x
      · rw [ex]
        exact e
      · exact zw_cmpt hs e (h j hj hl ex)
  · rcases hj with hj | hj
    · subst hj
      have n := zw_cmpn (zw_p T j T.length) (zw_p T x T.length)
      have z := zm_pe0 hc hx (fun y => hxc y.symm)
      rcases zw_cmpb (zw_p T j T.length) (zw_p T x T.length) with w | w | w <;> omega
    · exact h j hj hl hn
theorem zm_Xtu {T : List Nat} {sg : Int} (hs : sg = -1 ∨ sg = 1) {x y : Nat} (hx : x < T.length) (hy : y < T.length) (h1 : zm_Xt T sg (fun _ => True) x) (h2 : zm_Xt T sg (fun _ => True) y) : x = y := by
  by_cases e : x = y
  · exact e
  · have a := h1 y trivial hy (fun z => e z.symm)
    have b := h2 x trivial hx e
    have n := zw_cmpn (zw_p T x T.length) (zw_p T y T.length)
    omega
theorem zm_exE {T : List Nat} {sg : Int} (hs : sg = -1 ∨ sg = 1) : ∀ c b, c ≤ b → b < T.length → zm_Xt T sg (fun j => c ≤ j) b → zm_Xt T sg (fun _ => True) (zw_ex T sg c b) := by
  intro c
  induction c with
  | zero =>
    intro b h1 h2 h3 j _ hl hn
    exact h3 j (Nat.zero_le _) hl hn
  | succ c ih =>
    intro b h1 h2 h3
    obtain ⟨s1, s2⟩ := zm_Xts hs h2 (show c < T.length by omega) (by omega) h3 h1
    rw [zw_ex]
    by_cases e : zw_cmp (zw_p T c T.length) (zw_p T b T.length) = sg
    · rw [if_pos e]
      exact ih c (Nat.le_refl _) (by omega) (fun j hj hl hn => s1 e j (Or.inr (by omega)) hl hn)
    · rw [if_neg e]
      exact ih b (by omega) h2 (fun j hj hl hn => s2 e j (by
        by_cases ej : j = c
        · exact Or.inl ej
        · exact Or.inr (by omega)) hl hn)
section ZYV
variable {N : Nat} {h : zH} {fl fl' : Nat → Int} {a a' : Nat → Nat → Int} {bef now snap : zA} {hist : List zA} {sv t : Int} {inp : List Nat} {rep : zvP} {T : List Nat}
theorem zr_suffix4 (hN : 1000 ≤ N) (H : zr h fl a) (tx : zr_tx a T) (hT : T.length ≤ 120) (hv : ∀ v ∈ T, v < 256) {sg : Int} (hs : sg = -1 ∨ sg = 1) : ∀ (c f i x : Nat), i + c = T.length → x < i → c < f → zm_Xt T sg (fun j => j < i) x → ∃ y : Nat, fM_suffix_4 N f 232 (Int32.ofInt sg) (Int32.ofInt (x : Int)) (Int32.ofInt (i : Int)) h = some (Int32.ofInt (y : Int), h) ∧ y < T.length ∧ zm_Xt T sg (fun _ => True) y := by
  have g1 : fAI h 233 100 (Int32.ofInt 1) = some (Int32.ofInt (a 233 1)) := zr_w H 1 (by decide)
  intro c
  induction c with
  | zero =>
    intro f i x h1 h2 h3 h4
    obtain ⟨g, rfl⟩ : ∃ g, f = g + 1 := ⟨f - 1, by omega⟩
    refine ⟨x, ?_, by omega, fun j _ hl hn => h4 j (by omega) hl hn⟩
    rw [fM_suffix_4, zr_r0 H, b1_s, g1, b1_s, tx.1, zqo_ge _ _ (by omega) (by omega), decide_eq_true (by omega), cond_true]
  | succ c ih =>
    intro f i x h1 h2 h3 h4
    obtain ⟨g, rfl⟩ : ∃ g, f = g + 1 := ⟨f - 1, by omega⟩
    obtain ⟨q, q1, q2, q3, q4⟩ := zr_cmpT (N := N) hN H tx hT hv (x := i) (y := T.length) (z := x) (w := T.length) (by omega) (Nat.le_refl _) (by omega) (Nat.le_refl _)
    obtain ⟨s1, s2⟩ := zm_Xts hs (show x < T.length by omega) (show i < T.length by omega) (by omega) h4 h2
    have z := zm_pe0 (show i < T.length by omega) (show x < T.length by omega) (by omega)
    have nz : q ≠ 0 := fun y => z (q4.mp y)
    rw [fM_suffix_4, zr_r0 H, b1_s, g1, b1_s, tx.1, zqo_ge _ _ (by omega) (by omega), decide_eq_false (by omega), cond_false, zqo_eq _ _ (by omega) (by decide), decide_eq_false (by omega), cond_false, b1_s, g1, b1_s, b1_s, g1, b1_s, tx.1, zw_add, zw_sub, zw_add, zw_sub, q1, b2, ← Int32.ofInt_mul, zqo_le _ _ (by rcases hs with e | e <;> rw [e] <;> omega) (by decide)]
    unfold fM_suffix_50 fM_suffix_52
    rw [zh_inc]
    by_cases e : zw_cmp (zw_p T i T.length) (zw_p T x T.length) = sg
    · have sq : ¬ sg * q ≤ 0 := by
        rcases hs with rfl | rfl
        · have := q3.mpr e
          omega
        · have : ¬ q < 0 := fun y => by rw [q3.mp y] at e; exact absurd e (by decide)
          omega
      rw [decide_eq_false sq, cond_false]
      exact ih g (i + 1) i (by omega) (by omega) (by omega) (fun j hj hl hn => s1 e j (Or.inr (by omega)) hl hn)
    · have sq : sg * q ≤ 0 := by
        rcases hs with rfl | rfl
        · have : ¬ q < 0 := fun y => e (q3.mp y)
          omega
        · rcases zw_cmpb (zw_p T i T.length) (zw_p T x T.length) with w | w | w
          · have := q3.mpr w
            omega
          · exact absurd w z
          · exact absurd w e
      rw [decide_eq_true sq, cond_true]
      exact ih g (i + 1) x (by omega) (by omega) (by omega) (fun j hj hl hn => s2 e j (by
        by_cases ej : j = i
        · exact Or.inl ej
        · exact Or.inr (by omega)) hl hn)
theorem zr_suffix (hN : 1000 ≤ N) (H : zr h fl a) (tx : zr_tx a T) (hT : T.length ≤ 120) (hv : ∀ v ∈ T, v < 256) {sg : Int} (hs : sg = -1 ∨ sg = 1) : fM_suffix N 232 (Int32.ofInt sg) h = some (Int32.ofInt (zw_ext T sg), h) := by
  have g1 : fAI h 233 100 (Int32.ofInt 1) = some (Int32.ofInt (a 233 1)) := zr_w H 1 (by decide)
  obtain ⟨g, hg⟩ : ∃ g, N = g + 1 := ⟨N - 1, by omega⟩
  unfold fM_suffix zw_ext
  rw [zr_T H, cond_true]
  have st : fM_suffix_4 N N 232 (Int32.ofInt sg) (Int32.ofInt (-1)) (Int32.ofInt 0) h = fM_suffix_4 N (g + 1) 232 (Int32.ofInt sg) (Int32.ofInt (-1)) (Int32.ofInt 0) h := by rw [← hg]
  rw [st, fM_suffix_4, zr_r0 H, b1_s, g1, b1_s, tx.1, zqo_ge _ _ (by decide) (by omega)]
  by_cases e : T.length = 0
  · rw [decide_eq_true (by omega), cond_true, if_pos e]
  · rw [decide_eq_false (by omega), cond_false, if_neg e, zqo_eq _ _ (by decide) (by decide), decide_eq_true rfl, cond_true]
    unfold fM_suffix_50 fM_suffix_52
    obtain ⟨y, y1, y2, y3⟩ := zr_suffix4 (N := N) hN H tx hT hv hs (T.length - 1) g 1 0 (by omega) (by decide) (by omega) (fun j hj hl hn => absurd hj (by omega))
    have e0 : zm_Xt T sg (fun j => T.length - 1 ≤ j) (T.length - 1) := fun j (hj : T.length - 1 ≤ j) hl hn => absurd (show j = T.length - 1 by omega) hn
    have ex := zm_exE hs (T.length - 1) (T.length - 1) (Nat.le_refl _) (by omega) e0
    have eb := zw_exb T sg (T.length - 1) (T.length - 1) (by omega) (by omega)
    rw [zm_Xtu hs eb y2 ex y3]
    exact y1
theorem zn_leastSuffix (Y : zy h now hist snap sv inp rep t) (ok : zv_ok now) (hN : 4000 ≤ N) : ∃ h', fM_leastSuffix N 232 h = some (Int32.ofInt (zw_ext now.2.1 (-1)), h') ∧ zy h' now hist snap sv inp rep 0 ∧ zr_F h h' := by
  obtain ⟨h1, e1, ⟨fl, a, H, R⟩, F1⟩ := zy_throw Y 0
  obtain ⟨fl0, a0, H0, R0⟩ := Y
  refine ⟨h1, ?_, ⟨fl, a, H, R⟩, F1⟩
  unfold fM_leastSuffix
  rw [zr_T H0, cond_true, e1, b1_s, zr_suffix (by omega) H (zyR_tx R) ok.2.1 (zv_256 ok) (Or.inl rfl)]
  rfl
theorem zn_greatestSuffix (Y : zy h now hist snap sv inp rep t) (ok : zv_ok now) (hN : 4000 ≤ N) : ∃ h', fM_greatestSuffix N 232 h = some (Int32.ofInt (zw_ext now.2.1 1), h') ∧ zy h' now hist snap sv inp rep 0 ∧ zr_F h h' := by
  obtain ⟨h1, e1, ⟨fl, a, H, R⟩, F1⟩ := zy_throw Y 0
  obtain ⟨fl0, a0, H0, R0⟩ := Y
  refine ⟨h1, ?_, ⟨fl, a, H, R⟩, F1⟩
  unfold fM_greatestSuffix
  rw [zr_T H0, cond_true, e1, b1_s, zr_suffix (by omega) H (zyR_tx R) ok.2.1 (zv_256 ok) (Or.inr rfl)]
  rfl
end ZYV
end
section
/-! THE REFERENCE'S isPrenecklace. -/
/-- the ending at q falls below the begin -/
def zm_bad (T : List Nat) (q : Nat) : Prop := ∃ k, q + k < T.length ∧ (∀ e, e < k → T.getD (q + e) 0 = T.getD e 0) ∧ T.getD (q + k) 0 < T.getD k 0
theorem zm_noB {T : List Nat} {p : Nat} (L : zm_L T 0 p) (Q : zm_Q T p) (q : Nat) (hq : 1 ≤ q) : ¬ zm_bad T q := by
  rintro ⟨k, k1, k2, k3⟩
  have hp := L.1
  have P : zm_P T 0 p T.length := fun j j1 j2 => by
    rw [Nat.zero_add] at j2 ⊢
    exact Q j j1 j2
  have per : ∀ x, x < T.length → T.getD x 0 = T.getD (x % p) 0 := fun x hx => by
    have := zm_per hp P x (by omega)
    rw [Nat.zero_add, Nat.zero_add] at this
    exact this
  have hr := Nat.mod_lt q (show 0 < p by omega)
  by_cases e : q % p = 0
  · rw [per (q + k) k1, per k (by omega)] at k3
    rw [Nat.add_mod, e, Nat.zero_add, Nat.mod_mod] at k3
    omega
  · obtain ⟨d, d1, d2, d3⟩ := L.2.2 (q % p) (by omega) hr
    have key : ∀ x, x ≤ d → q + x < T.length → T.getD (q + x) 0 = T.getD (q % p + x) 0 := fun x h1 h2 => by
      rw [per _ h2, Nat.add_mod, Nat.mod_eq_of_lt (show x < p by omega), Nat.mod_eq_of_lt (show q % p + x < p by omega)]
    have d2' : ∀ x, x < d → T.getD (q % p + x) 0 = T.getD x 0 := fun x hx => by
      have := d2 x hx
      simp only [Nat.zero_add] at this
      first | exact this | exact this.symm
    have d3' : T.getD d 0 < T.getD (q % p + d) 0 := by
      have := d3
      simp only [Nat.zero_add] at this
      exact this
    by_cases h1 : k < d
    · have a := key k (by omega) k1
      have b := d2' k h1
      omega
    · by_cases h2 : k = d
      · subst h2
        have a := key k (Nat.le_refl _) k1
        omega
      · have a := key d (Nat.le_refl _) (by omega)
        have b := k2 d (by omega)
        omega
theorem zm_bnP {T : List Nat} (hn : 0 < T.length) : zw_bn T = true ↔ ∀ q, 1 ≤ q → q < T.length → ¬ zm_bad T q := by
  obtain ⟨p, p1, p2, i, s1, s2, s3, s4⟩ := zm_lE hn
  rw [Nat.zero_add] at p1 s1
  have hp := p2.1
  unfold zw_bn
  rw [decide_eq_true hn, Bool.true_and, p1, zm_hpQ (by omega)]
  constructor
  · intro Q q q1 q2
    exact zm_noB p2 Q q q1
  · intro x
    rcases s4 with s4 | ⟨s4, s5⟩
    · intro j j1 j2
      have := s3 j j1 (by omega)
      rw [Nat.zero_add] at this
      exact this
    · refine absurd ⟨i - p, by omega, fun e he => ?_, ?_⟩ (x p hp (by omega))
      · have := s3 (p + e) (by omega) (by omega)
        rw [Nat.zero_add, show p + e - p = e by omega] at this
        exact this
      · rw [show p + (i - p) = i by omega]
        exact s5
section ZYW
variable {N : Nat} {h : zH} {fl fl' : Nat → Int} {a a' : Nat → Nat → Int} {bef now snap : zA} {hist : List zA} {sv t : Int} {inp : List Nat} {rep : zvP} {T : List Nat}
theorem zr_beg45 (H : zr h fl a) (r : zr_rw fl a T) (hT : T.length ≤ 121) (hv : ∀ v ∈ T, v < 256) {p k : Nat} (hp : 1 ≤ p) (hk : p + k ≤ T.length) (he : ∀ e, e < k → T.getD (p + e) 0 = T.getD e 0) (hne : p + k < T.length → T.getD (p + k) 0 ≠ T.getD k 0) {k2 : Nat → Int32 → zH → Option (Int32 × zH)} : ∃ b : Bool, fM_isBeginning_45 N k2 232 (Int32.ofInt (p : Int)) (Int32.ofInt (k : Int)) h = cond b (k2 232 (Int32.ofInt ((p + 1 : Nat) : Int)) h) (some (Int32.ofInt 0, h)) ∧ (b = true ↔ ¬ zm_bad T p) := by
  have x1 := zd_lt hv (p + k)
  have x2 := zd_lt hv k
  unfold fM_isBeginning_45 fM_isBeginning_74
  rw [zr_i H 14 rfl, b1_s, r.1, zw_add, zqo_ge _ _ (by omega) (by omega), zh_inc]
  by_cases e : p + k < T.length
  · have g1 : fAI h 239 100 (Int32.ofInt ((p : Int) + (k : Int))) = some (Int32.ofInt ((T.getD (p + k) 0 : Int) - 97)) := by
      rw [show (p : Int) + (k : Int) = ((p + k : Nat) : Int) by omega, zr_row H _ (by omega), r.2 _ e]
    have g2 : fAI h 239 100 (Int32.ofInt (k : Int)) = some (Int32.ofInt ((T.getD k 0 : Int) - 97)) := by
      rw [zr_row H _ (by omega), r.2 _ (by omega)]
    rw [decide_eq_false (by omega), cond_false, zr_r8 H, b1_s, g1, b1_s, b1_s, g2, b1_s, zqo_ge _ _ (by omega) (by omega)]
    have ne := hne e
    by_cases e2 : T.getD (p + k) 0 < T.getD k 0
    · refine ⟨false, ?_, ⟨fun x => absurd x (by decide), fun x => absurd ⟨k, e, he, e2⟩ x⟩⟩
      rw [decide_eq_false (by omega)]
      try rfl
    · refine ⟨true, ?_, ⟨fun _ => ?_, fun _ => rfl⟩⟩
      · rw [decide_eq_true (by omega)]
        try rfl
      · rintro ⟨j, j1, j2, j3⟩
        by_cases h1 : j < k
        · have := he j h1
          omega
        · by_cases h2 : j = k
          · rw [h2] at j3
            exact e2 j3
          · exact ne (j2 k (by omega))
  · refine ⟨true, ?_, ⟨fun _ => ?_, fun _ => rfl⟩⟩
    · rw [decide_eq_true (by omega)]
      rfl
    · rintro ⟨j, j1, j2, j3⟩
      have := he j (by omega)
      omega
theorem zr_beg12 (H : zr h fl a) (r : zr_rw fl a T) (hT : T.length ≤ 121) (hv : ∀ v ∈ T, v < 256) {p : Nat} (hp : 1 ≤ p) {k2 : Nat → Int32 → zH → Option (Int32 × zH)} : ∀ (c f k : Nat), p + k + c = T.length → c < f → (∀ e, e < k → T.getD (p + e) 0 = T.getD e 0) → ∃ b : Bool, fM_isBeginning_12 N f k2 232 (Int32.ofInt (p : Int)) (Int32.ofInt (k : Int)) h = cond b (k2 232 (Int32.ofInt ((p + 1 : Nat) : Int)) h) (some (Int32.ofInt 0, h)) ∧ (b = true ↔ ¬ zm_bad T p) := by
  intro c
  induction c with
  | zero =>
    intro f k h1 h2 h3
    obtain ⟨g, rfl⟩ : ∃ g, f = g + 1 := ⟨f - 1, by omega⟩
    rw [fM_isBeginning_12, zr_i H 14 rfl, b1_s, r.1, zw_add, zqo_ge _ _ (by omega) (by omega), decide_eq_true (by omega), cond_true]
    exact zr_beg45 H r hT hv hp (by omega) h3 (fun x => absurd x (by omega))
  | succ c ih =>
    intro f k h1 h2 h3
    obtain ⟨g, rfl⟩ : ∃ g, f = g + 1 := ⟨f - 1, by omega⟩
    have x1 := zd_lt hv (p + k)
    have x2 := zd_lt hv k
    have g1 : fAI h 239 100 (Int32.ofInt ((p : Int) + (k : Int))) = some (Int32.ofInt ((T.getD (p + k) 0 : Int) - 97)) := by
      rw [show (p : Int) + (k : Int) = ((p + k : Nat) : Int) by omega, zr_row H _ (by omega), r.2 _ (by omega)]
    have g2 : fAI h 239 100 (Int32.ofInt (k : Int)) = some (Int32.ofInt ((T.getD k 0 : Int) - 97)) := by
      rw [zr_row H _ (by omega), r.2 _ (by omega)]
    rw [fM_isBeginning_12, zr_i H 14 rfl, b1_s, r.1, zw_add, zqo_ge _ _ (by omega) (by omega), decide_eq_false (by omega), cond_false, zr_r8 H, b1_s, g1, b1_s, b1_s, g2, b1_s, zqo_ne _ _ (by omega) (by omega)]
    by_cases e : T.getD (p + k) 0 = T.getD k 0
    · rw [decide_eq_true (by omega), Bool.not_true, cond_false, zh_inc]
      exact ih g (k + 1) (by omega) (by omega) (fun j hj => by
        by_cases ej : j = k
        · rw [ej]
          exact e
        · exact h3 j (by omega))
    · rw [decide_eq_false (by omega), Bool.not_false, cond_true]
      exact zr_beg45 H r hT hv hp (by omega) h3 (fun _ => e)
theorem zr_beg2 (hN : 1000 ≤ N) (H : zr h fl a) (r : zr_rw fl a T) (hT : T.length ≤ 121) (hv : ∀ v ∈ T, v < 256) (hn : 0 < T.length) : ∀ (c f p : Nat), p + c = T.length → 1 ≤ p → c < f → ∃ b : Bool, fM_isBeginning_2 N f 232 (Int32.ofInt (p : Int)) h = some (cond b (Int32.ofInt 1) (Int32.ofInt 0), h) ∧ (b = true ↔ ∀ q, p ≤ q → q < T.length → ¬ zm_bad T q) := by
  intro c
  induction c with
  | zero =>
    intro f p h1 h2 h3
    obtain ⟨g, rfl⟩ : ∃ g, f = g + 1 := ⟨f - 1, by omega⟩
    refine ⟨true, ?_, ⟨fun _ j j1 j2 => absurd j2 (by omega), fun _ => rfl⟩⟩
    rw [fM_isBeginning_2, zr_i H 14 rfl, b1_s, r.1, zqo_ge _ _ (by omega) (by omega), decide_eq_true (by omega), cond_true, b1_s, zqo_le _ _ (by omega) (by decide), decide_eq_false (by omega)]
    rfl
  | succ c ih =>
    intro f p h1 h2 h3
    obtain ⟨g, rfl⟩ : ∃ g, f = g + 1 := ⟨f - 1, by omega⟩
    obtain ⟨b, e1, e2⟩ := zr_beg12 (N := N) H r hT hv h2 (k2 := fM_isBeginning_2 N g) (T.length - p) N 0 (by omega) (by omega) (fun e he => absurd he (Nat.not_lt_zero e))
    have e1 : fM_isBeginning_12 N N (fM_isBeginning_2 N g) 232 (Int32.ofInt (p : Int)) (Int32.ofInt 0) h = _ := e1
    rw [fM_isBeginning_2, zr_i H 14 rfl, b1_s, r.1, zqo_ge _ _ (by omega) (by omega), decide_eq_false (by omega), cond_false, e1]
    cases b with
    | false =>
      refine ⟨false, rfl, ⟨fun x => absurd x (by decide), fun x => absurd (e2.mpr (x p (Nat.le_refl _) (by omega))) (by decide)⟩⟩
    | true =>
      obtain ⟨q, f1, f2⟩ := ih g (p + 1) (by omega) (by omega) (by omega)
      refine ⟨q, by rw [cond_true]; exact f1, f2.trans ⟨fun x j j1 j2 => ?_, fun x j j1 j2 => x j (by omega) j2⟩⟩
      by_cases ej : j = p
      · rw [ej]
        exact e2.mp rfl
      · exact x j (by omega) j2
theorem zr_beginning (hN : 1000 ≤ N) (H : zr h fl a) (r : zr_rw fl a T) (hT : T.length ≤ 121) (hv : ∀ v ∈ T, v < 256) : fM_isBeginning N 232 h = some (cond (zw_bn T) (Int32.ofInt 1) (Int32.ofInt 0), h) := by
  unfold fM_isBeginning
  rw [zr_T H, cond_true]
  by_cases e : T.length = 0
  · obtain ⟨g, hg⟩ : ∃ g, N = g + 1 := ⟨N - 1, by omega⟩
    have st : fM_isBeginning_2 N N 232 (Int32.ofInt 1) h = fM_isBeginning_2 N (g + 1) 232 (Int32.ofInt 1) h := by rw [← hg]
    rw [st, fM_isBeginning_2, zr_i H 14 rfl, b1_s, r.1, zqo_ge _ _ (by decide) (by omega), decide_eq_true (by omega), cond_true, b1_s, zqo_le _ _ (by omega) (by decide), decide_eq_true (by omega), List.eq_nil_of_length_eq_zero e]
    rfl
  · obtain ⟨b, b1', b2'⟩ := zr_beg2 (N := N) hN H r hT hv (by omega) (T.length - 1) N 1 (by omega) (Nat.le_refl 1) (by omega)
    have eb : zw_bn T = b := by
      rw [Bool.eq_iff_iff, zm_bnP (by omega), b2']
    rw [eb]
    exact b1'
theorem zn_isPrenecklace (Y : zy h now hist snap sv inp rep t) (ok : zv_ok now) (hN : 4000 ≤ N) : ∃ h', fM_isPrenecklace N 232 h = some (cond (zw_bn now.2.1) (Int32.ofInt 1) (Int32.ofInt 0), h') ∧ zy h' now hist snap sv inp rep 0 ∧ zr_F h h' := by
  obtain ⟨h1, e1, ⟨fl, a, H, R⟩, F1⟩ := zy_throw Y 0
  obtain ⟨fl0, a0, H0, R0⟩ := Y
  have o2 := ok.2.1
  obtain ⟨h2, f2, a2, e2, H2, F2, Q2, r2⟩ := zr_loads (N := N) (by omega) H (zyR_tx R) o2
  refine ⟨h2, ?_, ⟨f2, a2, H2, zyR_Q R Q2⟩, zr_Ft F1 F2⟩
  unfold fM_isPrenecklace
  rw [zr_T H0, cond_true, e1, b1_s, e2, b2, zr_beginning (by omega) H2 r2 (by omega) (zv_256 ok), b2]
  cases zw_bn now.2.1 <;> rfl
end ZYW
end
section
/-! THE REFERENCE'S keepingLetter. -/
theorem zl_ap {T : List Nat} {v j : Nat} (h : j < T.length) : (T ++ [v]).getD j 0 = T.getD j 0 := by
  rw [List.getD_eq_getElem?_getD, List.getElem?_append_left h, ← List.getD_eq_getElem?_getD]
theorem zl_al {T : List Nat} {v : Nat} : (T ++ [v]).getD T.length 0 = v := by
  rw [List.getD_eq_getElem?_getD, List.getElem?_append_right (Nat.le_refl _), Nat.sub_self]
  rfl
theorem zm_keep {T : List Nat} (b : zw_bn T = true) (v : Nat) : (v < T.getD (T.length - zw_lE T 0) 0 → zw_bn (T ++ [v]) = false) ∧ (v = T.getD (T.length - zw_lE T 0) 0 → zw_bn (T ++ [v]) = true) ∧ 0 < T.length ∧ 1 ≤ zw_lE T 0 ∧ zw_lE T 0 ≤ T.length := by
  have hn : 0 < T.length := by
    unfold zw_bn at b
    rw [Bool.and_eq_true] at b
    exact of_decide_eq_true b.1
  obtain ⟨p, p1, L, _⟩ := zm_lE hn
  rw [Nat.zero_add] at p1
  have hp := L.1
  have hp2 : p ≤ T.length := by
    have := L.2.1
    omega
  have Q : zm_Q T p := by
    unfold zw_bn at b
    rw [decide_eq_true hn, Bool.true_and, p1] at b
    exact (zm_hpQ hp2).mp b
  have hl : (T ++ [v]).length = T.length + 1 := List.length_append
  rw [p1]
  refine ⟨fun hv => ?_, fun hv => ?_, hn, hp, hp2⟩
  · refine Bool.eq_false_iff.mpr (fun x => ?_)
    refine (zm_bnP (by omega)).mp x p hp (by omega) ⟨T.length - p, by omega, fun e he => ?_, ?_⟩
    · rw [zl_ap (show p + e < T.length by omega), zl_ap (show e < T.length by omega), Q (p + e) (by omega) (by omega), show p + e - p = e by omega]
    · rw [show p + (T.length - p) = T.length by omega, zl_al, zl_ap (show T.length - p < T.length by omega)]
      exact hv
  · refine (zm_bnP (by omega)).mpr (fun q q1 q2 => zm_noB (p := p) ⟨hp, by omega, fun j j1 j2 => ?_⟩ (fun i i1 i2 => ?_) q q1)
    · obtain ⟨d, d1, d2, d3⟩ := L.2.2 j j1 j2
      refine ⟨d, d1, fun e he => ?_, ?_⟩
      · rw [zl_ap (show 0 + j + e < T.length by omega), zl_ap (show 0 + e < T.length by omega)]
        exact d2 e he
      · rw [zl_ap (show 0 + j + d < T.length by omega), zl_ap (show 0 + d < T.length by omega)]
        exact d3
    · by_cases e : i = T.length
      · rw [e, zl_al, zl_ap (show T.length - p < T.length by omega)]
        exact hv
      · rw [zl_ap (show i < T.length by omega), zl_ap (show i - p < T.length by omega)]
        exact Q i i1 (by omega)
section ZYX
variable {N : Nat} {h : zH} {fl fl' : Nat → Int} {a a' : Nat → Nat → Int} {bef now snap : zA} {hist : List zA} {sv t : Int} {inp : List Nat} {rep : zvP} {T : List Nat}
theorem zr_keeping20 (hN : 1000 ≤ N) (ok : zv_ok now) (b : zw_bn now.2.1 = true) {x : Nat} (hx : x + 97 = now.2.1.getD (now.2.1.length - zw_lE now.2.1 0) 0) (hg : x < now.1) : ∀ (c f i : Nat) (h : zH) (fl : Nat → Int) (a : Nat → Nat → Int), zr h fl a → zyR fl a now hist snap sv inp rep t → i + c = x → c < f → ∃ h', fM_keepingLetter_20 N f 232 (Int32.ofInt (i : Int)) h = some (Int32.ofInt ((97 + x : Nat) : Int), h') ∧ zy h' now hist snap sv inp rep t ∧ zr_F h h' := by
  have o1 := ok.1.2
  have o2 := ok.2.1
  intro c
  induction c with
  | zero =>
    intro f i h fl a H R h1 h2
    obtain ⟨g, rfl⟩ : ∃ g, f = g + 1 := ⟨f - 1, by omega⟩
    have g0 : fAI h 233 100 (Int32.ofInt 0) = some (Int32.ofInt (a 233 0)) := zr_w H 0 (by decide)
    obtain ⟨h2, f2, a2, e2, H2, F2, Q2, r2⟩ := zr_loads (N := N) hN H (zyR_tx R) o2
    obtain ⟨h3, f3, a3, e3, H3, F3, Q3, r3⟩ := zr_adds (N := N) H2 r2 (by omega) (97 + i)
    have hl : (now.2.1 ++ [97 + i]).length = now.2.1.length + 1 := List.length_append
    have q := zr_beginning (N := N) hN H3 r3 (by omega) (fun u hu => by
      rw [List.mem_append, List.mem_singleton] at hu
      rcases hu with hu | hu
      · exact zv_256 ok u hu
      · omega)
    rw [(zm_keep b (97 + i)).2.1 (by omega), cond_true] at q
    refine ⟨h3, ?_, ⟨f3, a3, H3, zyR_Q R (zr_Qt Q2 Q3)⟩, zr_Ft F2 F3⟩
    rw [show (((97 + i : Nat) : Int) - 97) = (i : Int) by omega] at e3
    rw [fM_keepingLetter_20, zr_r0 H, b1_s, g0, b1_s, R.1.1, zqo_ge _ _ (by omega) (by omega), decide_eq_false (by omega), cond_false, e2, b2, e3, b2, q, b2]
    show some (Int32.ofInt 97 + Int32.ofInt (i : Int), h3) = _
    rw [zw_add, show 97 + (i : Int) = ((97 + x : Nat) : Int) by omega]
  | succ c ih =>
    intro f i h fl a H R h1 h2
    obtain ⟨g, rfl⟩ : ∃ g, f = g + 1 := ⟨f - 1, by omega⟩
    have g0 : fAI h 233 100 (Int32.ofInt 0) = some (Int32.ofInt (a 233 0)) := zr_w H 0 (by decide)
    obtain ⟨h2, f2, a2, e2, H2, F2, Q2, r2⟩ := zr_loads (N := N) hN H (zyR_tx R) o2
    obtain ⟨h3, f3, a3, e3, H3, F3, Q3, r3⟩ := zr_adds (N := N) H2 r2 (by omega) (97 + i)
    have hl : (now.2.1 ++ [97 + i]).length = now.2.1.length + 1 := List.length_append
    have q := zr_beginning (N := N) hN H3 r3 (by omega) (fun u hu => by
      rw [List.mem_append, List.mem_singleton] at hu
      rcases hu with hu | hu
      · exact zv_256 ok u hu
      · omega)
    rw [(zm_keep b (97 + i)).1 (by omega), cond_false] at q
    obtain ⟨h4, e4, Y4, F4⟩ := ih g (i + 1) h3 f3 a3 H3 (zyR_Q R (zr_Qt Q2 Q3)) (by omega) (by omega)
    refine ⟨h4, ?_, Y4, zr_Ft F2 (zr_Ft F3 F4)⟩
    rw [show (((97 + i : Nat) : Int) - 97) = (i : Int) by omega] at e3
    rw [fM_keepingLetter_20, zr_r0 H, b1_s, g0, b1_s, R.1.1, zqo_ge _ _ (by omega) (by omega), decide_eq_false (by omega), cond_false, e2, b2, e3, b2, q, b2]
    show fM_keepingLetter_20 N g 232 (Int32.ofInt (i : Int) + Int32.ofInt 1) h3 = _
    rw [zh_inc]
    exact e4
theorem zn_keepingLetter (Y : zy h now hist snap sv inp rep t) (ok : zv_ok now) (hN : 4000 ≤ N) : ∃ h', fM_keepingLetter N 232 h = some (Int32.ofInt (if zw_bn now.2.1 = true then zw_g now.2.1 ((now.2.1.length : Int) - (zw_lE now.2.1 0 : Int)) else -1), h') ∧ zy h' now hist snap sv inp rep 0 ∧ zr_F h h' := by
  obtain ⟨h1, e1, ⟨fl, a, H, R⟩, F1⟩ := zy_throw Y 0
  obtain ⟨fl0, a0, H0, R0⟩ := Y
  have o1 := ok.1.2
  have o2 := ok.2.1
  obtain ⟨h2, f2, a2, e2, H2, F2, Q2, r2⟩ := zr_loads (N := N) (by omega) H (zyR_tx R) o2
  have R2 := zyR_Q R Q2
  unfold fM_keepingLetter
  rw [zr_T H0, cond_true, e1, b1_s, e2, b2, zr_beginning (by omega) H2 r2 (by omega) (zv_256 ok), b2]
  cases b : zw_bn now.2.1 with
  | false =>
    refine ⟨h2, ?_, ⟨f2, a2, H2, R2⟩, zr_Ft F1 F2⟩
    rw [if_neg (by decide)]
    rfl
  | true =>
    obtain ⟨_, _, k1, k2, k3⟩ := zm_keep b 0
    have hi : now.2.1.length - zw_lE now.2.1 0 < now.2.1.length := by omega
    have hm := ok.2.2.1 (now.2.1.getD (now.2.1.length - zw_lE now.2.1 0) 0) (by rw [List.getD_eq_getElem?_getD, List.getElem?_eq_getElem hi]; exact List.getElem_mem hi)
    obtain ⟨x, hx⟩ : ∃ x, x + 97 = now.2.1.getD (now.2.1.length - zw_lE now.2.1 0) 0 := ⟨_, Nat.sub_add_cancel hm.1⟩
    obtain ⟨h3, e3, Y3, F3⟩ := zr_keeping20 (N := N) (by omega) ok b hx (by omega) x N 0 h2 f2 a2 H2 R2 (Nat.zero_add _) (by omega)
    refine ⟨h3, ?_, Y3, zr_Ft F1 (zr_Ft F2 F3)⟩
    have e3 : fM_keepingLetter_20 N N 232 (Int32.ofInt 0) h2 = _ := e3
    rw [if_pos rfl]
    show fM_keepingLetter_20 N N 232 (Int32.ofInt 0) h2 = _
    rw [e3]
    unfold zw_g
    rw [if_pos (by omega), show ((now.2.1.length : Int) - (zw_lE now.2.1 0 : Int)).toNat = now.2.1.length - zw_lE now.2.1 0 by omega, ← hx, Nat.add_comm]
end ZYX
end
section
/-! meanFactor, both sides. -/
def zc_mean (n c : Nat) : UInt64 := if c = 0 then FP.dconst0 else FP.ddiv (FP.i2d (Int32.ofInt (n : Int))) (FP.i2d (Int32.ofInt (c : Int)))
theorem zc_meanok {n c : Nat} (hn : n < 121) (hc : c < 121) (h0 : c ≠ 0) : FP.ddiv (FP.i2d (Int32.ofInt (n : Int))) (FP.i2d (Int32.ofInt (c : Int))) &&& 0x7fffffffffffffff ≤ 0x7ff0000000000000 := by
  have h := List.all_eq_true.mp (show ((List.range 121).all fun n => (List.range 121).all fun c => c == 0 || decide (FP.ddiv (FP.i2d (Int32.ofInt (n : Int))) (FP.i2d (Int32.ofInt (c : Int))) &&& 0x7fffffffffffffff ≤ 0x7ff0000000000000)) = true by decide +kernel) n (List.mem_range.mpr hn)
  have h2 := List.all_eq_true.mp h c (List.mem_range.mpr hc)
  rw [Bool.or_eq_true] at h2
  rcases h2 with h2 | h2
  · exact absurd (eq_of_beq h2) h0
  · exact of_decide_eq_true h2
section ZYY
variable {N : Nat} {h : zH} {now snap : zA} {hist : List zA} {sv t : Int} {inp : List Nat} {rep : zvP} {sL : Nat → Nat} {sT : Nat → List Nat} {sS : Nat → Nat → List Nat} {sK : Nat → Nat} {wd : Nat → List Nat} {nu : Nat → Int} {hs : Nat → Nat}
theorem zq_meanFactor (C : zc h sL sT sS sK wd nu hs) (hN : 3000 ≤ N) : fB_meanFactor N 0 h = some (zc_mean (sT 1).length (zw_fs (sT 1)).length, h) := by
  have W := zc_txt C
  have tl := W.2.2.2.1
  have fb := zm_fsl (sT 1)
  unfold fB_meanFactor zc_mean
  rw [zc_T0 C, cond_true, zc_r00 C, b1_s, zs_t (zc_now C), b1_s, zw_count W (by omega), b2, zqo_ne _ _ (by omega) (by decide)]
  by_cases e : (zw_fs (sT 1)).length = 0
  · rw [decide_eq_true (by omega), if_pos e]
    rfl
  · rw [decide_eq_false (by omega), if_neg e, Bool.not_false, cond_true, zc_r00 C, b1_s, zs_t (zc_now C), b1_s, zw_z W, b1_s, if_pos (zc_meanok (by omega) (by omega) e)]
    rfl
theorem zn_meanFactor (Y : zy h now hist snap sv inp rep t) (ok : zv_ok now) (hN : 4000 ≤ N) : ∃ h', fM_meanFactor N 232 h = some (zc_mean now.2.1.length (zw_fs now.2.1).length, h') ∧ zy h' now hist snap sv inp rep 0 ∧ zr_F h h' := by
  have o2 := ok.2.1
  have fb := zm_fsl now.2.1
  obtain ⟨h1, e1, Y1, F1⟩ := zy_throw Y 0
  obtain ⟨h2, e2, ⟨fl, a, H, R, S⟩, Y2, F2⟩ := zy_factors (N := N) (by omega) Y1 ok
  obtain ⟨fl0, a0, H0, R0⟩ := Y
  have g1 : fAI h2 233 100 (Int32.ofInt 1) = some (Int32.ofInt (a 233 1)) := zr_w H 1 (by decide)
  refine ⟨h2, ?_, Y2, zr_Ft F1 F2⟩
  unfold fM_meanFactor zc_mean
  rw [zr_T H0, cond_true, e1, b1_s, e2, b2, zqo_ne _ _ (by omega) (by decide)]
  by_cases e : (zw_fs now.2.1).length = 0
  · rw [decide_eq_true (by omega), if_pos e]
    rfl
  · rw [decide_eq_false (by omega), if_neg e, Bool.not_false, cond_true, zr_r0 H, b1_s, g1, b1_s, R.1.2.1, if_pos (zc_meanok (by omega) (by omega) e)]
    rfl
end ZYY
end
section
/-! violations: THE FACTORS FALL. -/
theorem zm_fnext {l : List Nat} {s : Nat} (hs : s < l.length) (h : zw_lE l s < l.length) : zw_cmp (zw_p l (zw_lE l s) l.length) (zw_p l s l.length) = -1 := by
  obtain ⟨p, p1, L, i, S⟩ := zm_lE hs
  rw [p1] at h ⊢
  exact zm_next L.1 S h
theorem zm_ffall {l : List Nat} {s : Nat} (hs : s < l.length) (h : zw_lE l s < l.length) : zw_cmp (zw_p l (zw_lE l s) (zw_lE l (zw_lE l s))) (zw_p l s (zw_lE l s)) ≠ 1 := by
  obtain ⟨p, p1, L, i, s1, s2, s3, s4⟩ := zm_lE hs
  obtain ⟨q, q1, L2, _⟩ := zm_lE h
  rw [q1]
  rw [p1] at L2 h ⊢
  have l1 := L.1
  have l2 := L2.1
  have l3 := L2.2.1
  have per : ∀ e, s + p + e < i → l.getD (s + p + e) 0 = l.getD (s + e) 0 := by
    intro e he
    have := s3 (p + e) (by omega) (by omega)
    rw [show s + (p + e) = s + p + e by omega, show s + p + e - p = s + e by omega] at this
    exact this
  by_cases c1 : i < s + p + q ∧ i < s + p + p
  · rcases s4 with s4 | ⟨s4, s5⟩
    · omega
    · have := zm_cd (l := l) (m := l) (i - (s + p)) (s + p) s (s + p + q) (s + p) l3 (by omega) (by omega) (by omega) (fun e he => per e (by omega))
      rw [show s + p + (i - (s + p)) = i by omega, show s + (i - (s + p)) = i - p by omega] at this
      rw [this (by omega), if_pos s5]
      decide
  · by_cases c2 : q ≤ p
    · have := zm_ce (l := l) (m := l) q (s + p) s (s + p) l3 (by omega) (by omega) (fun e he => per e (by omega))
      rw [this]
      split <;> decide
    · obtain ⟨d, d1, d2, d3⟩ := L2.2.2 p (by omega) (by omega)
      by_cases c3 : s + p + p + d < i
      · have := per (p + d) (by omega)
        rw [show s + p + (p + d) = s + p + p + d by omega, show s + (p + d) = s + p + d by omega] at this
        omega
      · rcases s4 with s4 | ⟨s4, s5⟩
        · omega
        · by_cases c4 : i - (s + p + p) < d
          · have := d2 _ c4
            rw [show s + p + p + (i - (s + p + p)) = i by omega, show s + p + (i - (s + p + p)) = i - p by omega] at this
            omega
          · have e : s + p + p + d = i := by omega
            rw [e, show s + p + d = i - p by omega] at d3
            omega
theorem zm_lastI {l : List Nat} : ∀ c s, s < l.length → l.length ≤ s + c → s ≤ ((zm_it l c s).getD ((zm_it l c s).length - 1) (0, 0)).1 ∧ ((zm_it l c s).getD ((zm_it l c s).length - 1) (0, 0)).1 < l.length ∧ zm_Xt l (-1) (fun j => s ≤ j) ((zm_it l c s).getD ((zm_it l c s).length - 1) (0, 0)).1 := by
  intro c
  induction c with
  | zero => intro s h1 h2; omega
  | succ c ih =>
    intro s h1 h2
    obtain ⟨p, p1, L, _⟩ := zm_lE h1
    have b := zw_lEb h1
    have big : ∀ j, s < j → j < zw_lE l s → zw_cmp (zw_p l s l.length) (zw_p l j l.length) = -1 := fun j j1 j2 => by
      have := zm_big (x := l.length) L (j := j - s) (by omega) (by omega) (by omega) (Nat.le_refl _)
      rw [show s + (j - s) = j by omega] at this
      rw [zm_anti (zw_p l j l.length) (zw_p l s l.length), this]
    rw [zm_it, if_neg (by omega)]
    by_cases e : zw_lE l s = l.length
    · have e0 : zm_it l c (zw_lE l s) = [] := by
        cases c with
        | zero => rfl
        | succ c => rw [zm_it, if_pos (by omega)]
      rw [e0]
      exact ⟨Nat.le_refl s, h1, fun j (j1 : s ≤ j) j2 (j3 : j ≠ s) => big j (by omega) (by omega)⟩
    · obtain ⟨i1, i2, i3⟩ := ih (zw_lE l s) (by omega) (by omega)
      have nl : 0 < (zm_it l c (zw_lE l s)).length := ((zm_itc c (zw_lE l s) b.2 (by omega)).2.1 (by omega)).1
      have eg : ((s, zw_lE l s) :: zm_it l c (zw_lE l s)).getD (((s, zw_lE l s) :: zm_it l c (zw_lE l s)).length - 1) (0, 0) = (zm_it l c (zw_lE l s)).getD ((zm_it l c (zw_lE l s)).length - 1) (0, 0) := by
        rw [List.length_cons, Nat.add_sub_cancel]
        obtain ⟨m, hm⟩ : ∃ m, (zm_it l c (zw_lE l s)).length = m + 1 := ⟨(zm_it l c (zw_lE l s)).length - 1, by omega⟩
        rw [hm, List.getD_cons_succ, Nat.add_sub_cancel]
      rw [eg]
      have fn := zm_fnext h1 (by omega)
      have xs : zw_cmp (zw_p l ((zm_it l c (zw_lE l s)).getD ((zm_it l c (zw_lE l s)).length - 1) (0, 0)).1 l.length) (zw_p l s l.length) = -1 := by
        by_cases ex : zw_lE l s = ((zm_it l c (zw_lE l s)).getD ((zm_it l c (zw_lE l s)).length - 1) (0, 0)).1
        · rw [← ex]
          exact fn
        · exact zw_cmpl _ _ _ (i3 _ (Nat.le_refl _) (by omega) ex) fn
      refine ⟨by omega, i2, fun j (j1 : s ≤ j) j2 j3 => ?_⟩
      by_cases h3 : zw_lE l s ≤ j
      · exact i3 j h3 j2 j3
      · by_cases h4 : j = s
        · rw [h4]
          exact xs
        · exact zw_cmpl _ _ _ xs (big j (by omega) (by omega))
/-- the last factor begins where the least ending does -/
theorem zm_last {T : List Nat} (hn : 0 < T.length) : zw_ext T (-1) = (((zw_fs T).getD ((zw_fs T).length - 1) (0, 0)).1 : Int) := by
  obtain ⟨i1, i2, i3⟩ := zm_lastI T.length 0 hn (by omega)
  rw [← zm_fs T] at i1 i2 i3
  have e0 : zm_Xt T (-1) (fun j => T.length - 1 ≤ j) (T.length - 1) := fun j (hj : T.length - 1 ≤ j) hl hx => absurd (show j = T.length - 1 by omega) hx
  have ex := zm_exE (Or.inl rfl) (T.length - 1) (T.length - 1) (Nat.le_refl _) (by omega) e0
  have eb := zw_exb T (-1) (T.length - 1) (T.length - 1) (by omega) (by omega)
  unfold zw_ext
  rw [if_neg (by omega), zm_Xtu (Or.inl rfl) eb i2 ex (fun j _ hl hx => i3 j (Nat.zero_le _) hl hx)]
end
section
/-! violations OF THE REFERENCE. -/
theorem zm_vfall {T : List Nat} {k : Nat} (hk : k + 1 < (zw_fs T).length) : zw_cmp (zw_p T ((zw_fs T).getD (k + 1) (0, 0)).1 ((zw_fs T).getD (k + 1) (0, 0)).2) (zw_p T ((zw_fs T).getD k (0, 0)).1 ((zw_fs T).getD k (0, 0)).2) ≠ 1 := by
  obtain ⟨i1, _, _⟩ := zm_itc (l := T) T.length 0 (Nat.zero_le _) (by omega)
  rw [← zm_fs T] at i1
  obtain ⟨j1, j2, j3, _⟩ := i1 k (by omega)
  obtain ⟨k1, k2, _, _⟩ := i1 (k + 1) hk
  have e := j3 hk
  have := zm_ffall (l := T) (s := ((zw_fs T).getD k (0, 0)).1) j2 (by rw [← j1, ← e]; exact k2)
  rw [← j1, ← e, ← k1] at this
  rw [← e]
  exact this
section ZYZ
variable {N : Nat} {h : zH} {fl fl' : Nat → Int} {a a' : Nat → Nat → Int} {now snap : zA} {hist : List zA} {sv t : Int} {inp : List Nat} {rep : zvP} {T : List Nat}
theorem zr_viol38 (hN : 1000 ≤ N) (H : zr h fl a) (tx : zr_tx a T) (hT : T.length ≤ 120) (hv : ∀ v ∈ T, v < 256) (S : zr_fs a T) : ∀ (c f i : Nat), i + c = (zw_fs T).length → 1 ≤ i → c < f → fM_violations_38 N f 232 (Int32.ofInt ((zw_fs T).length : Int)) (Int32.ofInt 0) (Int32.ofInt (i : Int)) h = some (Int32.ofInt 0, h) := by
  have fl := zm_fsl T
  intro c
  induction c with
  | zero =>
    intro f i h1 h2 h3
    obtain ⟨y, rfl⟩ : ∃ y, f = y + 1 := ⟨f - 1, by omega⟩
    rw [fM_violations_38, zqo_ge _ _ (by omega) (by omega), decide_eq_true (by omega), cond_true]
  | succ c ih =>
    intro f i h1 h2 h3
    obtain ⟨y, rfl⟩ : ∃ y, f = y + 1 := ⟨f - 1, by omega⟩
    obtain ⟨k, rfl⟩ : ∃ k, i = k + 1 := ⟨i - 1, by omega⟩
    obtain ⟨s1, s2, s3, s4⟩ := zr_fk2 S (show k + 1 < (zw_fs T).length by omega)
    obtain ⟨t1, t2, t3, t4⟩ := zr_fk2 S (show k < (zw_fs T).length by omega)
    have u1 := ((zm_fk (T := T)).1 k (by omega)).1 (by omega)
    have gi : fAI h 240 100 (Int32.ofInt (((k + 1 : Nat) : Int) + 1)) = some (Int32.ofInt (a 240 (k + 1 + 1))) := zr_st H (k + 1 + 1) (by omega)
    obtain ⟨q, q1, q2, q3, q4⟩ := zr_cmpT (N := N) hN H tx hT hv (x := ((zw_fs T).getD (k + 1) (0, 0)).1) (y := ((zw_fs T).getD (k + 1) (0, 0)).2) (z := ((zw_fs T).getD k (0, 0)).1) (w := ((zw_fs T).getD (k + 1) (0, 0)).1) (by omega) s4 (by omega) (by omega)
    have vf := zm_vfall (T := T) (k := k) (by omega)
    rw [← u1] at vf
    have q5 : q ≤ 0 := by
      rcases zw_cmpb (zw_p T ((zw_fs T).getD (k + 1) (0, 0)).1 ((zw_fs T).getD (k + 1) (0, 0)).2) (zw_p T ((zw_fs T).getD k (0, 0)).1 ((zw_fs T).getD (k + 1) (0, 0)).1) with w | w | w
      · have := q3.mpr w
        omega
      · have := q4.mpr w
        omega
      · exact absurd w vf
    rw [fM_violations_38, zqo_ge _ _ (by omega) (by omega), decide_eq_false (by omega), cond_false, zr_r9 H, b1_s, zw_add, gi, b1_s, b1_s, zr_st H (k + 1) (by omega), b1_s, b1_s, zr_st H (k + 1) (by omega), b1_s, b1_s, zw_sub, show ((k + 1 : Nat) : Int) - 1 = (k : Int) by omega, zr_st H k (by omega), b1_s, b1_s, zr_st H (k + 1) (by omega), b1_s, b1_s, zr_st H k (by omega), b1_s, s1, s2, t1, zw_add, zw_sub, zw_add, zw_sub, q1, b2, zqo_le _ _ (by omega) (by decide), decide_eq_true q5, cond_true]
    unfold fM_violations_108
    rw [show Int32.ofInt 0 + Int32.ofInt 0 = Int32.ofInt 0 from rfl, zh_inc]
    exact ih y (k + 1 + 1) (by omega) (by omega) (by omega)
theorem zn_violations (Y : zy h now hist snap sv inp rep t) (ok : zv_ok now) (hN : 4000 ≤ N) : ∃ h', fM_violations N 232 h = some (Int32.ofInt 0, h') ∧ zy h' now hist snap sv inp rep 0 ∧ zr_F h h' := by
  have o2 := ok.2.1
  have fb := zm_fsl now.2.1
  obtain ⟨h1, e1, Y1, F1⟩ := zy_throw Y 0
  obtain ⟨h2, e2, ⟨fl, a, H, R, S⟩, Y2, F2⟩ := zy_factors (N := N) (by omega) Y1 ok
  obtain ⟨fl0, a0, H0, R0⟩ := Y
  refine ⟨h2, ?_, Y2, zr_Ft F1 F2⟩
  unfold fM_violations
  rw [zr_T H0, cond_true, e1, b1_s, e2, b2, zqo_le _ _ (by omega) (by decide)]
  by_cases e : (zw_fs now.2.1).length = 0
  · obtain ⟨g, hg⟩ : ∃ g, N = g + 1 := ⟨N - 1, by omega⟩
    rw [decide_eq_true (by omega), cond_true]
    unfold fM_violations_34 fM_violations_35
    have st : ∀ x y z, fM_violations_38 N N 232 x y z h2 = fM_violations_38 N (g + 1) 232 x y z h2 := fun x y z => by rw [← hg]
    rw [st, fM_violations_38, zqo_ge _ _ (by decide) (by omega), decide_eq_true (by omega), cond_true]
  · have q := zr_viol38 (N := N) (by omega) H (zyR_tx R) o2 (zv_256 ok) S ((zw_fs now.2.1).length - 1) N 1 (by omega) (Nat.le_refl 1) (by omega)
    have q : fM_violations_38 N N 232 (Int32.ofInt ((zw_fs now.2.1).length : Int)) (Int32.ofInt 0) (Int32.ofInt 1) h2 = _ := q
    have hk := zr_fk2 S (show (zw_fs now.2.1).length - 1 < (zw_fs now.2.1).length by omega)
    rw [decide_eq_false (by omega), cond_false, zr_r9 H, b1_s, zw_sub, show ((zw_fs now.2.1).length : Int) - 1 = (((zw_fs now.2.1).length - 1 : Nat) : Int) by omega, zr_st H _ (by omega), b1_s, hk.1, zr_suffix (by omega) H (zyR_tx R) o2 (zv_256 ok) (Or.inl rfl), b2, zm_last (by omega), zqo_eq _ _ (by omega) (by omega), decide_eq_true rfl, cond_true]
    unfold fM_violations_34 fM_violations_35
    exact q
end ZYZ
end
section
/-! violations OF THE CLASS. -/
theorem zw_iLt {l : List Nat} {a p : Nat} (L : zm_L l a p) : ∀ c, c + 1 ≤ p → zw_iL l a (a + p) c = true := by
  intro c
  induction c with
  | zero =>
    intro h
    rw [zw_iL]
    exact decide_eq_true (by omega)
  | succ c ih =>
    intro h
    have := zm_big (x := a + p) L (j := p - (c + 1)) (by omega) (by omega) (Nat.le_refl _) L.2.1
    rw [show a + (p - (c + 1)) = a + p - (c + 1) by omega] at this
    rw [zw_iL, zm_anti (zw_p l (a + p - (c + 1)) (a + p)) (zw_p l a (a + p)), this, if_pos (by decide)]
    exact ih (by omega)
section ZVV
variable {N q n : Nat} {h : zH} {T : List Nat}
theorem zw_violF (W : zw_W h q n T) (hT : T.length ≤ 120) (hN : 1000 ≤ N) (f b s k : Nat) (h1 : s = T.length) (h2 : 0 < f) (h3 : k ≤ s) (h4 : (k = 0 ∧ s = 0 ∧ b = 0) ∨ (0 < k ∧ b < T.length ∧ s = zw_lE T b ∧ zm_Xt T (-1) (fun j => j < s) b)) : fB_violations_18 N f q (Int32.ofInt 0) (Int32.ofInt (b : Int)) (Int32.ofInt (s : Int)) (Int32.ofInt (k : Int)) h = some (Int32.ofInt 0, h) := by
    obtain ⟨y, rfl⟩ : ∃ y, f = y + 1 := ⟨f - 1, by omega⟩
    have fin : fB_violations_94 N q (Int32.ofInt 0) (Int32.ofInt (b : Int)) (Int32.ofInt (s : Int)) h = some (Int32.ofInt 0, h) := by
      unfold fB_violations_94
      rw [zw_z W, b1_s, zqo_eq _ _ (by omega) (by omega), decide_eq_true (by omega), cond_true]
      unfold fB_violations_106
      rw [zw_z W, b1_s, zqo_le _ _ (by omega) (by decide)]
      by_cases e : T.length = 0
      · rw [decide_eq_true (by omega), cond_true]
        rfl
      · rw [decide_eq_false (by omega), cond_false, zw_extr W hN (Or.inl rfl), b2]
        rcases h4 with h4 | ⟨k1, k2, k3, k4⟩
        · omega
        · have e0 : zm_Xt T (-1) (fun j => T.length - 1 ≤ j) (T.length - 1) := fun j (hj : T.length - 1 ≤ j) hl hx => absurd (show j = T.length - 1 by omega) hx
          have ex := zm_exE (Or.inl rfl) (T.length - 1) (T.length - 1) (Nat.le_refl _) (by omega) e0
          have eb := zw_exb T (-1) (T.length - 1) (T.length - 1) (by omega) (by omega)
          have eq : zw_ext T (-1) = (b : Int) := by
            unfold zw_ext
            rw [if_neg e, zm_Xtu (Or.inl rfl) eb k2 ex (fun j _ hl hx => k4 j (by omega) hl hx)]
          rw [eq, zqo_eq _ _ (by omega) (by omega), decide_eq_true rfl, cond_true]
          rfl
    rw [fB_violations_18, zw_z W, b1_s, zqo_ge _ _ (by omega) (by omega)]
    by_cases e : T.length ≤ k
    · rw [decide_eq_true (by omega), cond_true]
      exact fin
    · rw [decide_eq_false (by omega), cond_false, b1_s, zqo_ge _ _ (by omega) (by omega), decide_eq_true (by omega), cond_true]
      exact fin
theorem zw_viol18 (W : zw_W h q n T) (hT : T.length ≤ 120) (hN : 1000 ≤ N) : ∀ (c f b s k : Nat), s ≤ T.length → T.length ≤ s + c → c < f → k ≤ s → ((k = 0 ∧ s = 0 ∧ b = 0) ∨ (0 < k ∧ b < T.length ∧ s = zw_lE T b ∧ zm_Xt T (-1) (fun j => j < s) b)) → fB_violations_18 N f q (Int32.ofInt 0) (Int32.ofInt (b : Int)) (Int32.ofInt (s : Int)) (Int32.ofInt (k : Int)) h = some (Int32.ofInt 0, h) := by
  intro c
  induction c with
  | zero =>
    intro f b s k h0 h1 h2 h3 h4
    exact zw_violF W hT hN f b s k (by omega) h2 h3 h4
  | succ c ih =>
    intro f b s k h0 h1 h2 h3 h4
    by_cases es : s = T.length
    · exact zw_violF W hT hN f b s k es (by omega) h3 h4
    obtain ⟨y, rfl⟩ : ∃ y, f = y + 1 := ⟨f - 1, by omega⟩
    have hs : s < T.length := by omega
    obtain ⟨p, p1, L, _⟩ := zm_lE hs
    have lb := zw_lEb hs
    have il := zw_iLt L (p - 1) (by have := L.1; omega)
    rw [← p1, show p - 1 = zw_lE T s - (s + 1) by omega] at il
    have nx : zm_Xt T (-1) (fun j => j < zw_lE T s) s := by
      intro j (j1 : j < zw_lE T s) j2 j3
      by_cases j4 : s < j
      · have := zm_big (x := T.length) L (j := j - s) (by omega) (by omega) (by omega) (Nat.le_refl _)
        rw [show s + (j - s) = j by omega] at this
        rw [zm_anti (zw_p T j T.length) (zw_p T s T.length), this]
      · rcases h4 with h4 | ⟨k1, k2, k3, k4⟩
        · omega
        · have fn := zm_fnext k2 (by omega)
          rw [← k3] at fn
          by_cases j5 : j = b
          · rw [j5]
            exact fn
          · exact zw_cmpl _ _ _ fn (k4 j (by show j < s; omega) j2 j5)
    have rest := ih y s (zw_lE T s) (k + 1) lb.2 (by omega) (by omega) (by omega) (Or.inr ⟨by omega, hs, rfl, nx⟩)
    rw [fB_violations_18, zw_z W, b1_s, zqo_ge _ _ (by omega) (by omega), decide_eq_false (by omega), cond_false, b1_s, zqo_ge _ _ (by omega) (by omega), decide_eq_false (by omega), cond_false, zw_lyn W hN hs, b2, zw_lpart W hN (by omega) lb.2, b2, il]
    show fB_violations_58 N (fB_violations_18 N y) q (Int32.ofInt 0) (Int32.ofInt (b : Int)) (Int32.ofInt (s : Int)) (Int32.ofInt (k : Int)) (Int32.ofInt ((zw_lE T s : Nat) : Int)) h = _
    unfold fB_violations_58 fB_violations_81
    rw [zqo_le _ _ (by omega) (by decide), zh_inc]
    rcases h4 with ⟨rfl, _, _⟩ | ⟨k1, k2, k3, k4⟩
    · rw [decide_eq_true (by omega), cond_true]
      exact rest
    · have lb2 := zw_lEb k2
      have ff := zm_ffall k2 (by omega)
      rw [← k3] at ff
      rw [decide_eq_false (by omega), cond_false, zw_order W W hN lb.2 (by omega) (by omega) (by omega), b2, zqo_le _ _ (by rcases zw_cmpb (zw_p T s (zw_lE T s)) (zw_p T b s) with w | w | w <;> omega) (by decide), decide_eq_true (by rcases zw_cmpb (zw_p T s (zw_lE T s)) (zw_p T b s) with w | w | w <;> omega), cond_true]
      exact rest
end ZVV
theorem zq_violations {N : Nat} {h : zH} {sL : Nat → Nat} {sT : Nat → List Nat} {sS : Nat → Nat → List Nat} {sK : Nat → Nat} {wd : Nat → List Nat} {nu : Nat → Int} {hs : Nat → Nat} (C : zc h sL sT sS sK wd nu hs) (hN : 3000 ≤ N) : fB_violations N 0 h = some (Int32.ofInt 0, h) := by
  have W := zc_txt C
  have tl := W.2.2.2.1
  unfold fB_violations
  rw [zc_T0 C, cond_true, zc_r00 C, b1_s, zs_t (zc_now C), b1_s]
  exact zw_viol18 (N := N) W tl (by omega) (sT 1).length N 0 0 0 (Nat.zero_le _) (by omega) (by omega) (Nat.le_refl 0) (Or.inl ⟨rfl, rfl, rfl⟩)
end
