/-! THE REFERENCE'S QUESTIONS. -/
section ZYQ
variable {N : Nat} {h : zH} {fl fl' : Nat → Int} {a a' : Nat → Nat → Int} {bef now snap : zA} {hist : List zA} {sv t : Int} {inp : List Nat} {rep : zvP} {T : List Nat}
theorem zy_told (Y : zy h now hist snap sv inp rep t) (k : Nat) (hk : k < 451) : ∃ h', (∃ g, fM_told N 232 (Int32.ofInt (k : Int)) h = some (Int32.ofInt g, h') ∧ ∃ fl a, zr h' fl a ∧ zyR fl a now hist snap sv inp rep 0 ∧ g = a 233 k) ∧ zr_F h h' := by
  obtain ⟨h1, e1, ⟨fl, a, H, R⟩, F1⟩ := zy_throw Y 0
  obtain ⟨fl0, a0, H0, R0⟩ := Y
  refine ⟨h1, ⟨a 233 k, ?_, fl, a, H, R, rfl⟩, F1⟩
  unfold fM_told
  rw [zr_T H0, cond_true, e1, b1_s, zr_r0 H, b1_s, zr_w H k hk, b1_s]
theorem zn_letters (Y : zy h now hist snap sv inp rep t) : ∃ h', fM_letters N 232 h = some (Int32.ofInt (now.1 : Int), h') ∧ zy h' now hist snap sv inp rep 0 ∧ zr_F h h' := by
  obtain ⟨h1, ⟨g, e1, fl, a, H, R, eg⟩, F1⟩ := zy_told (N := N) Y 0 (by decide)
  obtain ⟨fl0, a0, H0, R0⟩ := Y
  refine ⟨h1, ?_, ⟨fl, a, H, R⟩, F1⟩
  have e1 : fM_told N 232 (Int32.ofInt 0) h = _ := e1
  unfold fM_letters
  rw [zr_T H0, cond_true, e1, b2, eg, R.1.1]
theorem zn_length (Y : zy h now hist snap sv inp rep t) : ∃ h', fM_length N 232 h = some (Int32.ofInt (now.2.1.length : Int), h') ∧ zy h' now hist snap sv inp rep 0 ∧ zr_F h h' := by
  obtain ⟨h1, ⟨g, e1, fl, a, H, R, eg⟩, F1⟩ := zy_told (N := N) Y 1 (by decide)
  obtain ⟨fl0, a0, H0, R0⟩ := Y
  refine ⟨h1, ?_, ⟨fl, a, H, R⟩, F1⟩
  have e1 : fM_told N 232 (Int32.ofInt 1) h = _ := e1
  unfold fM_length
  rw [zr_T H0, cond_true, e1, b2, eg, R.1.2.1]
theorem zn_keptCount (Y : zy h now hist snap sv inp rep t) : ∃ h', fM_keptCount N 232 h = some (Int32.ofInt (now.2.2.length : Int), h') ∧ zy h' now hist snap sv inp rep 0 ∧ zr_F h h' := by
  obtain ⟨h1, ⟨g, e1, fl, a, H, R, eg⟩, F1⟩ := zy_told (N := N) Y 2 (by decide)
  obtain ⟨fl0, a0, H0, R0⟩ := Y
  refine ⟨h1, ?_, ⟨fl, a, H, R⟩, F1⟩
  have e1 : fM_told N 232 (Int32.ofInt 2) h = _ := e1
  unfold fM_keptCount
  rw [zr_T H0, cond_true, e1, b2, eg, R.1.2.2.2.1]
theorem zn_letterAt (Y : zy h now hist snap sv inp rep t) (ok : zv_ok now) (x : Int) (hx : -2147483648 ≤ x ∧ x < 2147483648) : ∃ h', fM_letterAt N 232 (Int32.ofInt x) h = some (Int32.ofInt (zw_g now.2.1 x), h') ∧ zy h' now hist snap sv inp rep 0 ∧ zr_F h h' := by
  obtain ⟨h1, e1, ⟨fl, a, H, R⟩, F1⟩ := zy_throw Y 0
  obtain ⟨fl0, a0, H0, R0⟩ := Y
  have o2 := ok.2.1
  have g1 : fAI h1 233 100 (Int32.ofInt 1) = some (Int32.ofInt (a 233 1)) := zr_w H 1 (by decide)
  refine ⟨h1, ?_, ⟨fl, a, H, R⟩, F1⟩
  unfold fM_letterAt zw_g
  rw [zr_T H0, cond_true, e1, b1_s, zr_r0 H, b1_s, g1, b1_s, R.1.2.1, zw_sub, zr_in N x 0 _ hx (by decide) (by omega), b2]
  by_cases e : 0 ≤ x ∧ x < (now.2.1.length : Int)
  · obtain ⟨v, rfl⟩ : ∃ v : Nat, x = (v : Int) := ⟨x.toNat, by omega⟩
    have g2 : fAI h1 233 100 (Int32.ofInt (3 + (v : Int))) = some (Int32.ofInt ((now.2.1.getD v 0 : Int) - 97)) := by
      rw [show 3 + (v : Int) = ((3 + v : Nat) : Int) by omega, zr_w H _ (by omega), R.1.2.2.1 v (by omega)]
    rw [decide_eq_true (by omega : 0 ≤ (v : Int) ∧ (v : Int) ≤ (now.2.1.length : Int) - 1), if_pos e]
    show b1 (fR h1 232 5 0) _ = _
    rw [zr_r0 H, b1_s, zw_add, g2, b1_s, zw_add, show 97 + ((now.2.1.getD v 0 : Int) - 97) = (now.2.1.getD v 0 : Int) by omega]
    rfl
  · rw [decide_eq_false (by omega : ¬ (0 ≤ x ∧ x ≤ (now.2.1.length : Int) - 1)), if_neg e]
    rfl
theorem zn_factorCount (Y : zy h now hist snap sv inp rep t) (ok : zv_ok now) (hN : 4000 ≤ N) : ∃ h', fM_factorCount N 232 h = some (Int32.ofInt (((zw_fs now.2.1).length : Nat) : Int), h') ∧ zy h' now hist snap sv inp rep 0 ∧ zr_F h h' := by
  obtain ⟨h1, e1, Y1, F1⟩ := zy_throw Y 0
  obtain ⟨h2, e2, _, Y2, F2⟩ := zy_factors (N := N) (by omega) Y1 ok
  obtain ⟨fl0, a0, H0, R0⟩ := Y
  refine ⟨h2, ?_, Y2, zr_Ft F1 F2⟩
  unfold fM_factorCount
  rw [zr_T H0, cond_true, e1, b1_s, e2]
  rfl
/-- a factor is asked for -/
theorem zy_throwsFactor (Y : zy h now hist snap sv inp rep t) (ok : zv_ok now) (hN : 4000 ≤ N) (x : Int) (hx : -2147483648 ≤ x ∧ x < 2147483648) : (zw_bF now.2.1 x = -1 ∧ ∃ h', fM_throwsFactor N 232 (Int32.ofInt x) h = some (Int32.ofInt 1, h') ∧ zy h' now hist snap sv inp rep 1 ∧ zr_F h h') ∨ ∃ k b : Nat, x = (k : Int) ∧ k < (zw_fs now.2.1).length ∧ zw_bF now.2.1 x = (b : Int) ∧ ∃ h' fl a, fM_throwsFactor N 232 (Int32.ofInt x) h = some (Int32.ofInt 0, h') ∧ zr h' fl a ∧ zyR fl a now hist snap sv inp rep 0 ∧ a 240 k = (b : Int) ∧ a 240 (k + 1) = (zw_lE now.2.1 b : Int) ∧ zr_F h h' := by
  have o2 := ok.2.1
  have o5 := zm_fsl now.2.1
  obtain ⟨h1, e1, ⟨fl, a, H, R, S⟩, Y1, F1⟩ := zy_factors (N := N) (by omega) Y ok
  obtain ⟨fl0, a0, H0, R0⟩ := id Y
  unfold fM_throwsFactor
  rw [zr_T H0, cond_true, e1, b2, zw_sub, zr_in N x 0 _ hx (by decide) (by omega), b2]
  by_cases e : 0 ≤ x ∧ x ≤ ((zw_fs now.2.1).length : Int) - 1
  · obtain ⟨k, rfl⟩ : ∃ v : Nat, x = (v : Int) := ⟨x.toNat, by omega⟩
    have hk : k < (zw_fs now.2.1).length := by omega
    obtain ⟨b, b1', b2', b3, b4, b5, b6⟩ := zr_fk S hk
    obtain ⟨h2, e2, H2, F2⟩ := zr_s H 17 rfl 0
    refine Or.inr ⟨k, b, rfl, hk, b1', h2, _, a, ?_, H2, zyR_t R 0, b3, b4, zr_Ft F1 F2⟩
    rw [decide_eq_true e, cond_true]
    show b2 (fM_throwsOne N 232 (Int32.ofInt 0) h1) _ = _
    unfold fM_throwsOne
    rw [zr_T H, cond_true]
    show b2 (b1 (fS h1 232 5 17 (.int (Int32.ofInt 0))) _) _ = _
    rw [e2]
    rfl
  · obtain ⟨h2, e2, Y2, F2⟩ := zy_one1 (N := N) Y1
    refine Or.inl ⟨zw_bFn e, h2, ?_, Y2, zr_Ft F1 F2⟩
    rw [decide_eq_false e, cond_false]
    show b2 (fM_throwsOne N 232 (Int32.ofInt 1) h1) _ = _
    rw [e2]
    rfl
theorem zn_factorStart (Y : zy h now hist snap sv inp rep t) (ok : zv_ok now) (hN : 4000 ≤ N) (x : Int) (hx : -2147483648 ≤ x ∧ x < 2147483648) : (zw_bF now.2.1 x = -1 ∧ ∃ h', fM_factorStart N 232 (Int32.ofInt x) h = some (Int32.ofInt 0, h') ∧ zy h' now hist snap sv inp rep 1 ∧ zr_F h h') ∨ (zw_bF now.2.1 x ≠ -1 ∧ ∃ h', fM_factorStart N 232 (Int32.ofInt x) h = some (Int32.ofInt (zw_bF now.2.1 x), h') ∧ zy h' now hist snap sv inp rep 0 ∧ zr_F h h') := by
  have o2 := ok.2.1
  have o5 := zm_fsl now.2.1
  have HT : fT h 232 5 = true := by
    obtain ⟨fl, a, H, _⟩ := Y
    exact zr_T H
  unfold fM_factorStart
  rw [HT, cond_true]
  rcases zy_throwsFactor Y ok hN x hx with ⟨e, h1, e1, Y1, F1⟩ | ⟨k, b, ek, hk, eb, h1, fl, a, e1, H, R, a1, a2, F1⟩
  · refine Or.inl ⟨e, h1, ?_, Y1, F1⟩
    rw [e1]
    rfl
  · refine Or.inr ⟨by omega, h1, ?_, ⟨fl, a, H, R⟩, F1⟩
    rw [e1, b2]
    show b1 (fR h1 232 5 9) _ = _
    rw [zr_r9 H, b1_s, ek, zr_st H k (by omega), b1_s, a1, ← eb, ek]
    rfl
theorem zn_factorLength (Y : zy h now hist snap sv inp rep t) (ok : zv_ok now) (hN : 4000 ≤ N) (x : Int) (hx : -2147483648 ≤ x ∧ x < 2147483648) : (zw_bF now.2.1 x = -1 ∧ ∃ h', fM_factorLength N 232 (Int32.ofInt x) h = some (Int32.ofInt 0, h') ∧ zy h' now hist snap sv inp rep 1 ∧ zr_F h h') ∨ (zw_bF now.2.1 x ≠ -1 ∧ ∃ h', fM_factorLength N 232 (Int32.ofInt x) h = some (Int32.ofInt ((zw_lE now.2.1 (zw_bF now.2.1 x).toNat : Int) - zw_bF now.2.1 x), h') ∧ zy h' now hist snap sv inp rep 0 ∧ zr_F h h') := by
  have o2 := ok.2.1
  have o5 := zm_fsl now.2.1
  have HT : fT h 232 5 = true := by
    obtain ⟨fl, a, H, _⟩ := Y
    exact zr_T H
  unfold fM_factorLength
  rw [HT, cond_true]
  rcases zy_throwsFactor Y ok hN x hx with ⟨e, h1, e1, Y1, F1⟩ | ⟨k, b, ek, hk, eb, h1, fl, a, e1, H, R, a1, a2, F1⟩
  · refine Or.inl ⟨e, h1, ?_, Y1, F1⟩
    rw [e1]
    rfl
  · refine Or.inr ⟨by omega, h1, ?_, ⟨fl, a, H, R⟩, F1⟩
    have g3 : fAI h1 240 100 (Int32.ofInt ((k : Int) + 1)) = some (Int32.ofInt (a 240 (k + 1))) := zr_st H (k + 1) (by omega)
    rw [e1, b2]
    show b1 (fR h1 232 5 9) _ = _
    rw [zr_r9 H, b1_s, eb, ek, zw_add, g3, b1_s, b1_s, zr_st H k (by omega), b1_s, a1, a2, zw_sub]
    rfl
theorem zy_why (Y : zy h now hist snap sv inp rep t) (ok : zv_ok now) (hN : 4000 ≤ N) : ∃ h', fM_why N 232 h = some (Int32.ofInt (zc_why now.2.1), h') ∧ zy h' now hist snap sv inp rep t ∧ zr_F h h' := by
  obtain ⟨fl, a, H, R⟩ := Y
  obtain ⟨h1, f1, a1, e1, H1, F1, Q1, _⟩ := zr_why (N := N) (by omega) H (zyR_tx R) ok.2.1 (zv_256 ok)
  exact ⟨h1, e1, ⟨f1, a1, H1, zyR_Q R Q1⟩, F1⟩
theorem zn_whyNotLyndon (Y : zy h now hist snap sv inp rep t) (ok : zv_ok now) (hN : 4000 ≤ N) : ∃ h', fM_whyNotLyndon N 232 h = some (Int32.ofInt (zc_why now.2.1), h') ∧ zy h' now hist snap sv inp rep 0 ∧ zr_F h h' := by
  obtain ⟨h1, e1, Y1, F1⟩ := zy_throw Y 0
  obtain ⟨h2, e2, Y2, F2⟩ := zy_why Y1 ok hN
  obtain ⟨fl0, a0, H0, R0⟩ := Y
  refine ⟨h2, ?_, Y2, zr_Ft F1 F2⟩
  unfold fM_whyNotLyndon
  rw [zr_T H0, cond_true, e1, b1_s, e2]
  rfl
theorem zn_isLyndon (Y : zy h now hist snap sv inp rep t) (ok : zv_ok now) (hN : 4000 ≤ N) : ∃ h', fM_isLyndon N 232 h = some (cond (decide (0 < now.2.1.length ∧ zw_lE now.2.1 0 = now.2.1.length)) (Int32.ofInt 1) (Int32.ofInt 0), h') ∧ zy h' now hist snap sv inp rep 0 ∧ zr_F h h' := by
  obtain ⟨h1, e1, Y1, F1⟩ := zy_throw Y 0
  obtain ⟨h2, e2, Y2, F2⟩ := zy_why Y1 ok hN
  obtain ⟨fl0, a0, H0, R0⟩ := Y
  have wb : zc_why now.2.1 = 0 ∨ zc_why now.2.1 = 1 ∨ zc_why now.2.1 = 2 ∨ zc_why now.2.1 = 3 := by
    unfold zc_why
    repeat' split
    all_goals omega
  refine ⟨h2, ?_, Y2, zr_Ft F1 F2⟩
  unfold fM_isLyndon
  rw [zr_T H0, cond_true, e1, b1_s, e2, b2, zqo_ne _ _ (by omega) (by decide)]
  by_cases e : zc_why now.2.1 = 0
  · rw [decide_eq_true e, decide_eq_true (zm_why0.mp e)]
    rfl
  · rw [decide_eq_false e, decide_eq_false (fun x => e (zm_why0.mpr x))]
    rfl
theorem zn_undoCount (Y : zy h now hist snap sv inp rep t) : ∃ h', fM_undoCount N 232 h = some (Int32.ofInt (hist.length : Int), h') ∧ zy h' now hist snap sv inp rep 0 ∧ zr_F h h' := by
  obtain ⟨h1, e1, ⟨fl, a, H, R⟩, F1⟩ := zy_throw Y 0
  obtain ⟨fl0, a0, H0, R0⟩ := Y
  refine ⟨h1, ?_, ⟨fl, a, H, R⟩, F1⟩
  unfold fM_undoCount
  rw [zr_T H0, cond_true, e1, b1_s, zr_i H 4 rfl, b1_s, R.2.1]
theorem zn_scriptErrorKind (Y : zy h now hist snap sv inp rep t) : ∃ h', fM_scriptErrorKind N 232 h = some (Int32.ofInt rep.2.1, h') ∧ zy h' now hist snap sv inp rep 0 ∧ zr_F h h' := by
  obtain ⟨h1, e1, ⟨fl, a, H, R⟩, F1⟩ := zy_throw Y 0
  obtain ⟨fl0, a0, H0, R0⟩ := Y
  refine ⟨h1, ?_, ⟨fl, a, H, R⟩, F1⟩
  unfold fM_scriptErrorKind
  rw [zr_T H0, cond_true, e1, b1_s, zr_i H 12 rfl, b1_s, R.2.2.2.2.2.2.1.1.2.1]
theorem zn_scriptErrorOffset (Y : zy h now hist snap sv inp rep t) : ∃ h', fM_scriptErrorOffset N 232 h = some (Int32.ofInt rep.2.2, h') ∧ zy h' now hist snap sv inp rep 0 ∧ zr_F h h' := by
  obtain ⟨h1, e1, ⟨fl, a, H, R⟩, F1⟩ := zy_throw Y 0
  obtain ⟨fl0, a0, H0, R0⟩ := Y
  refine ⟨h1, ?_, ⟨fl, a, H, R⟩, F1⟩
  unfold fM_scriptErrorOffset
  rw [zr_T H0, cond_true, e1, b1_s, zr_i H 13 rfl, b1_s, R.2.2.2.2.2.2.1.1.2.2]
theorem zn_keptLength (Y : zy h now hist snap sv inp rep t) (ok : zv_ok now) (x : Int) (hx : -2147483648 ≤ x ∧ x < 2147483648) : (¬ (0 ≤ x ∧ x < (now.2.2.length : Int)) ∧ ∃ h', fM_keptLength N 232 (Int32.ofInt x) h = some (Int32.ofInt 0, h') ∧ zy h' now hist snap sv inp rep 1 ∧ zr_F h h') ∨ ((0 ≤ x ∧ x < (now.2.2.length : Int)) ∧ ∃ h', fM_keptLength N 232 (Int32.ofInt x) h = some (Int32.ofInt ((now.2.2.getD x.toNat []).length : Int), h') ∧ zy h' now hist snap sv inp rep 0 ∧ zr_F h h') := by
  have o4 := ok.2.2.2.1
  obtain ⟨fl0, a0, H0, R0⟩ := id Y
  unfold fM_keptLength
  rw [zr_T H0, cond_true, zr_isShelved H0 R0 ok x hx, b2]
  by_cases e : 0 ≤ x ∧ x < (now.2.2.length : Int)
  · rw [decide_eq_true e, cond_true]
    obtain ⟨v, rfl⟩ : ∃ v : Nat, x = (v : Int) := ⟨x.toNat, by omega⟩
    obtain ⟨h1, e1, ⟨fl, a, H, R⟩, F1⟩ := zy_one0 (N := N) Y
    refine Or.inr ⟨e, h1, ?_, ⟨fl, a, H, R⟩, F1⟩
    have g1 : fAI h1 233 100 (Int32.ofInt (123 + (v : Int))) = some (Int32.ofInt ((now.2.2.getD v []).length : Int)) := by
      rw [show 123 + (v : Int) = ((123 + v : Nat) : Int) by omega, zr_w H _ (by omega), (R.1.2.2.2.2 v (by omega)).1]
    show fM_keptLength_14 N 232 (Int32.ofInt (v : Int)) (Int32.ofInt 0) 232 h = _
    unfold fM_keptLength_14
    rw [e1, b2]
    show b1 (fR h1 232 5 0) _ = _
    rw [zr_r0 H, b1_s, zw_add, g1]
    rfl
  · rw [decide_eq_false e, cond_false]
    obtain ⟨h1, e1, Y1, F1⟩ := zy_one1 (N := N) Y
    refine Or.inl ⟨e, h1, ?_, Y1, F1⟩
    show fM_keptLength_14 N 232 (Int32.ofInt x) (Int32.ofInt 1) 232 h = _
    unfold fM_keptLength_14
    rw [e1]
    rfl
theorem zn_greatestKept (Y : zy h now hist snap sv inp rep t) (ok : zv_ok now) (hN : 4000 ≤ N) : ∃ h', fM_greatestKept N 232 h = some (Int32.ofInt (zs_gi (zs_g (fun j => now.2.2.getD j []) 0 now.2.2.length 0 none)), h') ∧ zy h' now hist snap sv inp rep 0 ∧ zr_F h h' := by
  have o4 := ok.2.2.2.1
  obtain ⟨h1, e1, ⟨fl, a, H, R⟩, F1⟩ := zy_throw Y 0
  obtain ⟨fl0, a0, H0, R0⟩ := Y
  refine ⟨h1, ?_, ⟨fl, a, H, R⟩, F1⟩
  have e := zr_great4 (N := N) (by omega) H R ok (m := 0) (by decide) now.2.2.length N 0 none (Nat.zero_add _) (by omega) (fun j hj => by cases hj)
  have e : fM_greatestBeside_4 N N 232 (Int32.ofInt 0) (Int32.ofInt (-1)) (Int32.ofInt 0) h1 = _ := e
  unfold fM_greatestKept fM_greatestBeside
  rw [zr_T H0, cond_true, e1, b1_s, zr_T H, cond_true, e]
  rfl
theorem zn_reportByte (Y : zy h now hist snap sv inp rep t) (hr : rep.1.length ≤ 400) (x : Int) (hx : -2147483648 ≤ x ∧ x < 2147483648) : ∃ h', fM_reportByte N 232 (Int32.ofInt x) h = some (Int32.ofInt (zw_g rep.1 x), h') ∧ zy h' now hist snap sv inp rep 0 ∧ zr_F h h' := by
  obtain ⟨h1, e1, ⟨fl, a, H, R⟩, F1⟩ := zy_throw Y 0
  obtain ⟨fl0, a0, H0, R0⟩ := Y
  refine ⟨h1, ?_, ⟨fl, a, H, R⟩, F1⟩
  unfold fM_reportByte zw_g
  rw [zr_T H0, cond_true, e1, b1_s, zr_i H 16 rfl, b1_s, R.2.2.2.2.2.2.1.1.1, zw_sub, zr_in N x 0 _ hx (by decide) (by omega), b2]
  by_cases e : 0 ≤ x ∧ x < (rep.1.length : Int)
  · obtain ⟨v, rfl⟩ : ∃ v : Nat, x = (v : Int) := ⟨x.toNat, by omega⟩
    have g2 : fAI h1 241 102 (Int32.ofInt (v : Int)) = some (Int32.ofInt (rep.1.getD v 0 : Int)) := by
      rw [← R.2.2.2.2.2.2.1.2 v (by omega)]
      exact zr_g H 241 v (by decide) (by decide) (by show v < 400; omega)
    rw [decide_eq_true (by omega : 0 ≤ (v : Int) ∧ (v : Int) ≤ (rep.1.length : Int) - 1), if_pos e]
    show b1 (fR h1 232 5 15) _ = _
    rw [zr_r15 H, b1_s, g2]
    rfl
  · rw [decide_eq_false (by omega : ¬ (0 ≤ x ∧ x ≤ (rep.1.length : Int) - 1)), if_neg e]
    rfl
end ZYQ
