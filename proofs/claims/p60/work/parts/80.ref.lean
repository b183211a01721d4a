section
/-! THE REFERENCE'S SHELF. -/
theorem zm_itc {l : List Nat} : ∀ c s, s ≤ l.length → l.length ≤ s + c → (∀ k, k < (zm_it l c s).length → ((zm_it l c s).getD k (0, 0)).2 = zw_lE l ((zm_it l c s).getD k (0, 0)).1 ∧ ((zm_it l c s).getD k (0, 0)).1 < l.length ∧ (k + 1 < (zm_it l c s).length → ((zm_it l c s).getD (k + 1) (0, 0)).1 = ((zm_it l c s).getD k (0, 0)).2) ∧ (k + 1 = (zm_it l c s).length → ((zm_it l c s).getD k (0, 0)).2 = l.length)) ∧ (s < l.length → 0 < (zm_it l c s).length ∧ ((zm_it l c s).getD 0 (0, 0)).1 = s) ∧ (s = l.length → (zm_it l c s).length = 0) := by
  intro c
  induction c with
  | zero =>
    intro s h1 h2
    exact ⟨fun k hk => absurd hk (Nat.not_lt_zero k), fun h => absurd h (by omega), fun _ => rfl⟩
  | succ c ih =>
    intro s h1 h2
    rw [zm_it]
    by_cases e : l.length ≤ s
    · rw [if_pos e]
      exact ⟨fun k hk => absurd hk (Nat.not_lt_zero k), fun h => absurd h (by omega), fun _ => rfl⟩
    · rw [if_neg e]
      have b := zw_lEb (l := l) (s := s) (by omega)
      obtain ⟨i1, i2, i3⟩ := ih (zw_lE l s) (by omega) (by omega)
      refine ⟨?_, fun _ => ⟨Nat.succ_pos _, rfl⟩, fun h => absurd h (by omega)⟩
      intro k hk
      cases k with
      | zero =>
        refine ⟨rfl, by show s < l.length; omega, fun h3 => ?_, fun h3 => ?_⟩
        · have h4 : 0 < (zm_it l c (zw_lE l s)).length := by
            rw [List.length_cons] at h3
            omega
          by_cases e2 : zw_lE l s = l.length
          · have := i3 e2
            omega
          · exact (i2 (by omega)).2
        · rw [List.length_cons] at h3
          by_cases e2 : zw_lE l s = l.length
          · exact e2
          · have := (i2 (by omega)).1
            omega
      | succ k =>
        rw [List.length_cons] at hk
        obtain ⟨j1, j2, j3, j4⟩ := i1 k (by omega)
        refine ⟨j1, j2, fun h3 => j3 ?_, fun h3 => j4 ?_⟩
        · rw [List.length_cons] at h3
          omega
        · rw [List.length_cons] at h3
          omega
/-- a factor, both ways -/
theorem zr_fk {a : Nat → Nat → Int} {T : List Nat} (f : zr_fs a T) {k : Nat} (hk : k < (zw_fs T).length) : ∃ b : Nat, zw_bF T (k : Int) = (b : Int) ∧ b < T.length ∧ a 240 k = (b : Int) ∧ a 240 (k + 1) = (zw_lE T b : Int) ∧ b < zw_lE T b ∧ zw_lE T b ≤ T.length := by
  have hf := zm_fs T
  obtain ⟨i1, _, _⟩ := zm_itc (l := T) T.length 0 (Nat.zero_le _) (by omega)
  rw [← hf] at i1
  obtain ⟨j1, j2, j3, j4⟩ := i1 k hk
  have b := zw_lEb (l := T) (s := ((zw_fs T).getD k (0, 0)).1) j2
  refine ⟨((zw_fs T).getD k (0, 0)).1, ?_, j2, f.1 k hk, ?_, by omega, by omega⟩
  · unfold zw_bF
    rw [if_neg (by omega), List.getD_eq_getElem?_getD, show ((k : Int)).toNat = k from rfl, List.getElem?_eq_getElem hk]
    rfl
  · rw [← j1]
    by_cases e : k + 1 < (zw_fs T).length
    · rw [f.1 _ e, j3 e]
    · have e : k + 1 = (zw_fs T).length := by omega
      rw [e, f.2, j4 e]
theorem zw_bFn {T : List Nat} {x : Int} (h : ¬ (0 ≤ x ∧ x ≤ ((zw_fs T).length : Int) - 1)) : zw_bF T x = -1 := by
  unfold zw_bF
  by_cases e : x < 0
  · rw [if_pos e]
  · rw [if_neg e, List.getElem?_eq_none (by omega)]
    rfl
theorem zm_fsl (T : List Nat) : (zw_fs T).length ≤ T.length := by
  rw [zm_fs T]
  exact (zm_itn T.length 0).1
section ZYI
variable {N : Nat} {h : zH} {fl fl' : Nat → Int} {a a' : Nat → Nat → Int} {bef now snap : zA} {hist : List zA} {sv t : Int} {inp : List Nat} {rep : zvP} {T : List Nat}
theorem zr_canKeepText (H : zr h fl a) (R : zyR fl a now hist snap sv inp rep t) (ok : zv_ok now) : fM_canKeepText N 232 h = some (cond (decide (1 ≤ now.2.1.length ∧ now.2.1.length ≤ 40 ∧ now.2.2.length < 8)) (Int32.ofInt 1) (Int32.ofInt 0), h) := by
  have o2 := ok.2.1
  have o4 := ok.2.2.2.1
  have g1 : fAI h 233 100 (Int32.ofInt 1) = some (Int32.ofInt (a 233 1)) := zr_w H 1 (by decide)
  have g2 : fAI h 233 100 (Int32.ofInt 2) = some (Int32.ofInt (a 233 2)) := zr_w H 2 (by decide)
  unfold fM_canKeepText
  rw [zr_T H, cond_true, zr_r0 H, b1_s, g2, b1_s, R.1.2.2.2.1, zqo_ge _ _ (by omega) (by decide)]
  by_cases e : now.2.2.length < 8
  · rw [decide_eq_false (by omega : ¬ (8 : Int) ≤ (now.2.2.length : Int)), cond_false, b1_s, g1, b1_s, R.1.2.1, zr_in N _ 1 40 (by omega) (by decide) (by decide), b2]
    by_cases e2 : 1 ≤ now.2.1.length ∧ now.2.1.length ≤ 40
    · rw [decide_eq_true (by omega : (1 : Int) ≤ (now.2.1.length : Int) ∧ (now.2.1.length : Int) ≤ 40), decide_eq_true (by omega)]
      rfl
    · rw [decide_eq_false (by omega : ¬ ((1 : Int) ≤ (now.2.1.length : Int) ∧ (now.2.1.length : Int) ≤ 40)), decide_eq_false (by omega)]
      rfl
  · rw [decide_eq_true (by omega : (8 : Int) ≤ (now.2.2.length : Int)), cond_true, decide_eq_false (by omega)]
    rfl
theorem zn_keepText (Y : zy h now hist snap sv inp rep t) (o : zo now hist snap) (hN : 4000 ≤ N) : (¬ (1 ≤ now.2.1.length ∧ now.2.1.length ≤ 40 ∧ now.2.2.length < 8) ∧ ∃ h', fM_keepText N 232 h = some (Int32.ofInt 0, h') ∧ zy h' now hist snap sv inp rep 1 ∧ zr_F h h') ∨ ((1 ≤ now.2.1.length ∧ now.2.1.length ≤ 40 ∧ now.2.2.length < 8) ∧ ∃ h', fM_keepText N 232 h = some (Int32.ofInt ((now.2.2.length + 1 : Nat) : Int), h') ∧ zy h' (now.1, now.2.1, now.2.2 ++ [now.2.1]) (zv_push hist now) snap sv inp rep 0 ∧ zr_F h h') := by
  obtain ⟨ok, okh, h8, oks⟩ := o
  obtain ⟨fl0, a0, H0, R0⟩ := id Y
  unfold fM_keepText
  rw [zr_T H0, cond_true, zr_canKeepText H0 R0 ok, b2]
  by_cases e : 1 ≤ now.2.1.length ∧ now.2.1.length ≤ 40 ∧ now.2.2.length < 8
  · rw [decide_eq_true e, cond_true]
    refine Or.inr ⟨e, ?_⟩
    obtain ⟨h1, e1, Y1, F1⟩ := zy_one0 (N := N) Y
    obtain ⟨h2, e2, Y2, F2⟩ := zy_begins (N := N) (by omega) Y1 ok
    obtain ⟨fl, a, H, R, B⟩ := id Y2
    have g1 : fAI h2 233 100 (Int32.ofInt 1) = some (Int32.ofInt (a 233 1)) := zr_w H 1 (by decide)
    obtain ⟨h3, e3, Y3, F3⟩ := zy_shelves (N := N) (by omega) Y2 ok 0 now.2.1.length (by omega) (by omega) (by omega)
    rw [Nat.zero_add, zw_pall] at Y3
    obtain ⟨h4, e4, Y4, F4⟩ := zy_remember (N := N) hN Y3 ok okh h8 (Int32.ofInt ((now.2.2.length + 1 : Nat) : Int))
    refine ⟨h4, ?_, Y4, zr_Ft F1 (zr_Ft F2 (zr_Ft F3 F4))⟩
    show fM_keepText_13 N 232 (Int32.ofInt 0) 232 h = _
    unfold fM_keepText_13
    rw [e1, b2]
    show b2 (fM_begins N 232 h1) _ = _
    rw [e2, b2, zr_r0 H, b1_s, g1, b1_s, R.1.2.1]
    show b2 (fM_shelves N 232 (Int32.ofInt ((0 : Nat) : Int)) (Int32.ofInt (now.2.1.length : Int)) h2) _ = _
    rw [e3, b2, e4]
    rfl
  · rw [decide_eq_false e, cond_false]
    refine Or.inl ⟨e, ?_⟩
    obtain ⟨h1, e1, Y1, F1⟩ := zy_one1 (N := N) Y
    refine ⟨h1, ?_, Y1, F1⟩
    show fM_keepText_13 N 232 (Int32.ofInt 1) 232 h = _
    unfold fM_keepText_13
    rw [e1]
    rfl
/-- the factors are looked up -/
theorem zy_factors (hN : 1000 ≤ N) (Y : zy h now hist snap sv inp rep t) (ok : zv_ok now) : ∃ h', fM_factors N 232 h = some (Int32.ofInt ((zw_fs now.2.1).length : Int), h') ∧ (∃ fl a, zr h' fl a ∧ zyR fl a now hist snap sv inp rep t ∧ zr_fs a now.2.1) ∧ zy h' now hist snap sv inp rep t ∧ zr_F h h' := by
  obtain ⟨fl, a, H, R⟩ := Y
  obtain ⟨h2, f2, a2, e2, H2, F2, Q2, _, S2⟩ := zr_factors hN H (zyR_tx R) ⟨by have := ok.2.1; omega, zv_256 ok⟩ ok.2.1
  exact ⟨h2, e2, ⟨f2, a2, H2, zyR_Q R Q2, S2⟩, ⟨f2, a2, H2, zyR_Q R Q2⟩, F2⟩
theorem zyp_factors (hN : 1000 ≤ N) (Y : zyp h bef now hist snap sv inp rep t) (ok : zv_ok now) : ∃ h', fM_factors N 232 h = some (Int32.ofInt ((zw_fs now.2.1).length : Int), h') ∧ (∃ fl a, zr h' fl a ∧ zyR fl a now hist snap sv inp rep t ∧ zr_fs a now.2.1) ∧ zyp h' bef now hist snap sv inp rep t ∧ zr_F h h' := by
  obtain ⟨fl, a, H, R, B⟩ := Y
  obtain ⟨h2, f2, a2, e2, H2, F2, Q2, _, S2⟩ := zr_factors hN H (zyR_tx R) ⟨by have := ok.2.1; omega, zv_256 ok⟩ ok.2.1
  refine ⟨h2, e2, ⟨f2, a2, H2, zyR_Q R Q2, S2⟩, ⟨f2, a2, H2, zyR_Q R Q2, ?_⟩, F2⟩
  rw [show a2 234 = a 234 from funext fun i => Q2.2 234 i (by decide) (by decide)]
  exact B
theorem zr_canKeepFactor (H : zr h fl a) (R : zyR fl a now hist snap sv inp rep t) (ok : zv_ok now) (S : zr_fs a now.2.1) {k b : Nat} (hk : k < (zw_fs now.2.1).length) (hb : zw_bF now.2.1 (k : Int) = (b : Int)) : fM_canKeepFactor N 232 (Int32.ofInt (k : Int)) h = some (cond (decide (zw_lE now.2.1 b - b ≤ 40 ∧ now.2.2.length < 8)) (Int32.ofInt 1) (Int32.ofInt 0), h) := by
  have o2 := ok.2.1
  have o4 := ok.2.2.2.1
  have o5 := zm_fsl now.2.1
  obtain ⟨b', b1, b2', b3, b4, b5, b6⟩ := zr_fk S hk
  have eb : b' = b := by omega
  subst eb
  have g2 : fAI h 233 100 (Int32.ofInt 2) = some (Int32.ofInt (a 233 2)) := zr_w H 2 (by decide)
  have g3 : fAI h 240 100 (Int32.ofInt ((k : Int) + 1)) = some (Int32.ofInt (a 240 (k + 1))) := zr_st H (k + 1) (by omega)
  unfold fM_canKeepFactor
  rw [zr_T H, cond_true, zr_r0 H, b1_s, g2, b1_s, R.1.2.2.2.1, zqo_ge _ _ (by omega) (by decide)]
  by_cases e : now.2.2.length < 8
  · rw [decide_eq_false (by omega : ¬ (8 : Int) ≤ (now.2.2.length : Int)), cond_false, zr_r9 H, b1_s, zw_add, g3, b1_s, b1_s, zr_st H k (by omega), b1_s, b3, b4, zw_sub, zqo_gt _ _ (by omega) (by decide)]
    by_cases e2 : zw_lE now.2.1 b' - b' ≤ 40
    · rw [decide_eq_false (by omega : ¬ (40 : Int) < (zw_lE now.2.1 b' : Int) - (b' : Int)), decide_eq_true ⟨e2, e⟩]
      rfl
    · rw [decide_eq_true (by omega : (40 : Int) < (zw_lE now.2.1 b' : Int) - (b' : Int)), decide_eq_false (fun x => e2 x.1)]
      rfl
  · rw [decide_eq_true (by omega : (8 : Int) ≤ (now.2.2.length : Int)), cond_true, decide_eq_false (fun x => e x.2)]
    rfl
theorem zy_keepsFactor (hN : 1000 ≤ N) (Y : zyp h bef now hist snap sv inp rep t) (ok : zv_ok now) {k b : Nat} (hk : k < (zw_fs now.2.1).length) (hb : zw_bF now.2.1 (k : Int) = (b : Int)) (h40 : zw_lE now.2.1 b - b ≤ 40) (hK : now.2.2.length < 8) : ∃ h', fM_keepsFactor N 232 (Int32.ofInt (k : Int)) h = some (Int32.ofInt ((now.2.2.length + 1 : Nat) : Int), h') ∧ zyp h' bef (now.1, now.2.1, now.2.2 ++ [zw_p now.2.1 b (zw_lE now.2.1 b)]) hist snap sv inp rep t ∧ zr_F h h' := by
  have o2 := ok.2.1
  have o5 := zm_fsl now.2.1
  obtain ⟨h1, e1, ⟨fl, a, H, R, S⟩, Y1, F1⟩ := zyp_factors hN Y ok
  obtain ⟨b', b1, b2', b3, b4, b5, b6⟩ := zr_fk S hk
  have eb : b' = b := by omega
  subst eb
  obtain ⟨h2, e2, Y2, F2⟩ := zy_shelves (N := N) hN Y1 ok b' (zw_lE now.2.1 b' - b') (by omega) h40 hK
  rw [show b' + (zw_lE now.2.1 b' - b') = zw_lE now.2.1 b' by omega] at Y2
  refine ⟨h2, ?_, Y2, zr_Ft F1 F2⟩
  have g3 : fAI h1 240 100 (Int32.ofInt ((k : Int) + 1)) = some (Int32.ofInt (a 240 (k + 1))) := zr_st H (k + 1) (by omega)
  obtain ⟨fl0, a0, H0, _⟩ := Y
  unfold fM_keepsFactor
  rw [zr_T H0, cond_true, e1, b2, zr_r9 H, b1_s, zr_st H k (by omega), b1_s, b1_s, zw_add, g3, b1_s, b1_s, zr_st H k (by omega), b1_s, b3, b4, zw_sub, show (zw_lE now.2.1 b' : Int) - (b' : Int) = ((zw_lE now.2.1 b' - b' : Nat) : Int) by omega, e2]
  rfl
end ZYI
end
section
/-! THE REFERENCE'S keepFactor AND removeKept. -/
section ZYJ
variable {N : Nat} {h : zH} {fl fl' : Nat → Int} {a a' : Nat → Nat → Int} {bef now snap : zA} {hist : List zA} {sv t : Int} {inp : List Nat} {rep : zvP} {T : List Nat}
theorem zn_keepFactor (Y : zy h now hist snap sv inp rep t) (o : zo now hist snap) (hN : 4000 ≤ N) (x : Int) (hx : -2147483648 ≤ x ∧ x < 2147483648) : (zw_bF now.2.1 x = -1 ∧ ∃ h', fM_keepFactor N 232 (Int32.ofInt x) h = some (Int32.ofInt 0, h') ∧ zy h' now hist snap sv inp rep 1 ∧ zr_F h h') ∨ ∃ b : Nat, zw_bF now.2.1 x = (b : Int) ∧ b < now.2.1.length ∧ ((¬ (zw_lE now.2.1 b - b ≤ 40 ∧ now.2.2.length < 8) ∧ ∃ h', fM_keepFactor N 232 (Int32.ofInt x) h = some (Int32.ofInt 0, h') ∧ zy h' now hist snap sv inp rep 2 ∧ zr_F h h') ∨ ((zw_lE now.2.1 b - b ≤ 40 ∧ now.2.2.length < 8) ∧ ∃ h', fM_keepFactor N 232 (Int32.ofInt x) h = some (Int32.ofInt ((now.2.2.length + 1 : Nat) : Int), h') ∧ zy h' (now.1, now.2.1, now.2.2 ++ [zw_p now.2.1 b (zw_lE now.2.1 b)]) (zv_push hist now) snap sv inp rep 0 ∧ zr_F h h')) := by
  obtain ⟨ok, okh, h8, oks⟩ := o
  have o2 := ok.2.1
  have o5 := zm_fsl now.2.1
  obtain ⟨h0, e0, ⟨fl, a, H, R, S⟩, Y0, F0⟩ := zy_factors (N := N) (by omega) Y ok
  obtain ⟨fl0, a0, H0, R0⟩ := id Y
  unfold fM_keepFactor
  rw [zr_T H0, cond_true, e0, b2, zw_sub, zr_in N x 0 _ hx (by decide) (by omega), b2]
  by_cases e : 0 ≤ x ∧ x ≤ ((zw_fs now.2.1).length : Int) - 1
  · obtain ⟨k, rfl⟩ : ∃ v : Nat, x = (v : Int) := ⟨x.toNat, by omega⟩
    have hk : k < (zw_fs now.2.1).length := by omega
    obtain ⟨b, b1, b2', b3, b4, b5, b6⟩ := zr_fk S hk
    rw [decide_eq_true e, cond_true]
    refine Or.inr ⟨b, b1, b2', ?_⟩
    by_cases e2 : zw_lE now.2.1 b - b ≤ 40 ∧ now.2.2.length < 8
    · refine Or.inr ⟨e2, ?_⟩
      obtain ⟨h1, e1, Y1, F1⟩ := zy_two00 (N := N) Y0
      obtain ⟨h2, e3, Y2, F2⟩ := zy_begins (N := N) (by omega) Y1 ok
      obtain ⟨h3, e4, Y3, F3⟩ := zy_keepsFactor (N := N) (by omega) Y2 ok hk b1 e2.1 e2.2
      obtain ⟨h4, e5, Y4, F4⟩ := zy_remember (N := N) hN Y3 ok okh h8 (Int32.ofInt ((now.2.2.length + 1 : Nat) : Int))
      refine ⟨h4, ?_, Y4, zr_Ft F0 (zr_Ft F1 (zr_Ft F2 (zr_Ft F3 F4)))⟩
      show fM_keepFactor_22 N 232 (Int32.ofInt (k : Int)) (Int32.ofInt 1) (Int32.ofInt 0) 232 h0 = _
      unfold fM_keepFactor_22
      show b2 (fM_canKeepFactor N 232 (Int32.ofInt (k : Int)) h0) _ = _
      rw [zr_canKeepFactor H R ok S hk b1, b2, decide_eq_true e2, cond_true]
      show fM_keepFactor_39 N 232 (Int32.ofInt (k : Int)) (Int32.ofInt 0) (Int32.ofInt 0) 232 h0 = _
      unfold fM_keepFactor_39
      rw [e1, b2]
      show b2 (fM_begins N 232 h1) _ = _
      rw [e3, b2, e4, b2, e5]
      rfl
    · refine Or.inl ⟨e2, ?_⟩
      obtain ⟨h1, e1, Y1, F1⟩ := zy_two01 (N := N) Y0
      refine ⟨h1, ?_, Y1, zr_Ft F0 F1⟩
      show fM_keepFactor_22 N 232 (Int32.ofInt (k : Int)) (Int32.ofInt 1) (Int32.ofInt 0) 232 h0 = _
      unfold fM_keepFactor_22
      show b2 (fM_canKeepFactor N 232 (Int32.ofInt (k : Int)) h0) _ = _
      rw [zr_canKeepFactor H R ok S hk b1, b2, decide_eq_false e2, cond_false]
      show fM_keepFactor_39 N 232 (Int32.ofInt (k : Int)) (Int32.ofInt 1) (Int32.ofInt 0) 232 h0 = _
      unfold fM_keepFactor_39
      rw [e1]
      rfl
  · rw [decide_eq_false e, cond_false]
    refine Or.inl ⟨zw_bFn e, ?_⟩
    obtain ⟨h1, e1, Y1, F1⟩ := zy_two1 (N := N) Y0 (Int32.ofInt 0)
    refine ⟨h1, ?_, Y1, zr_Ft F0 F1⟩
    show fM_keepFactor_39 N 232 (Int32.ofInt x) (Int32.ofInt 0) (Int32.ofInt 1) 232 h0 = _
    unfold fM_keepFactor_39
    rw [e1]
    rfl
theorem zr_isShelved (H : zr h fl a) (R : zyR fl a now hist snap sv inp rep t) (ok : zv_ok now) (x : Int) (hx : -2147483648 ≤ x ∧ x < 2147483648) : fM_isShelved N 232 (Int32.ofInt x) h = some (cond (decide (0 ≤ x ∧ x < (now.2.2.length : Int))) (Int32.ofInt 1) (Int32.ofInt 0), h) := by
  have o4 := ok.2.2.2.1
  have g2 : fAI h 233 100 (Int32.ofInt 2) = some (Int32.ofInt (a 233 2)) := zr_w H 2 (by decide)
  unfold fM_isShelved
  rw [zr_T H, cond_true, zr_r0 H, b1_s, g2, b1_s, R.1.2.2.2.1, zw_sub, zr_in N x 0 _ hx (by decide) (by omega), b2]
  by_cases e : 0 ≤ x ∧ x < (now.2.2.length : Int)
  · rw [decide_eq_true e, decide_eq_true (by omega : 0 ≤ x ∧ x ≤ (now.2.2.length : Int) - 1)]
    rfl
  · rw [decide_eq_false e, decide_eq_false (by omega : ¬ (0 ≤ x ∧ x ≤ (now.2.2.length : Int) - 1))]
    rfl
/-- one row of the shelf moves up -/
theorem zr_rem36 {fl : Nat → Int} {k2 : Nat → Int32 → zH → Option (Int32 × zH)} {i : Nat} (hi : i < 7) : ∀ (c f j : Nat) (h : zH) (a : Nat → Nat → Int), zr h fl a → j + c = 40 → c < f → ∃ h1 a1, fM_removes_36 N f k2 232 (Int32.ofInt (i : Int)) (Int32.ofInt (j : Int)) h = k2 232 (Int32.ofInt ((i + 1 : Nat) : Int)) h1 ∧ zr h1 fl a1 ∧ zr_F h h1 ∧ (∀ p m, (p ≠ 233 ∨ m < 131 + 40 * i + j ∨ 131 + 40 * i + 40 ≤ m) → a1 p m = a p m) ∧ ∀ m, j ≤ m → m < 40 → a1 233 (131 + 40 * i + m) = a 233 (131 + 40 * (i + 1) + m) := by
  intro c
  induction c with
  | zero =>
    intro f j h a H h1 hf
    obtain ⟨g, rfl⟩ : ∃ g, f = g + 1 := ⟨f - 1, by omega⟩
    refine ⟨h, a, ?_, H, zr_Fr h, fun _ _ _ => rfl, fun m h1 h2 => by omega⟩
    rw [fM_removes_36, zqo_ge _ _ (by omega) (by decide), decide_eq_true (by omega), cond_true, zh_inc]
  | succ c ih =>
    intro f j h a H h1 hf
    obtain ⟨g, rfl⟩ : ∃ g, f = g + 1 := ⟨f - 1, by omega⟩
    obtain ⟨h5, e5, H5, F5⟩ := zr_p H 233 (131 + 40 * i + j) (by decide) (by decide) (by show 131 + 40 * i + j < 451; omega) (a 233 (131 + 40 * (i + 1) + j))
    obtain ⟨h6, a6, e6, H6, F6, p6, r6⟩ := ih g (j + 1) h5 _ H5 (by omega) (by omega)
    refine ⟨h6, a6, ?_, H6, zr_Ft F5 F6, fun p m hp => (p6 p m (by omega)).trans (zr_vn a _ (by omega)), fun m m1 m2 => ?_⟩
    · have c1 : Int32.ofInt 131 + Int32.ofInt 40 * Int32.ofInt (i : Int) = Int32.ofInt ((131 + 40 * i : Nat) : Int) := by
        rw [← Int32.ofInt_mul, ← Int32.ofInt_add]
        rfl
      have g1 : fAI h 233 100 (Int32.ofInt (((131 + 40 * i : Nat) : Int) + 40 + (j : Int))) = some (Int32.ofInt (a 233 (131 + 40 * (i + 1) + j))) := by
        rw [show ((131 + 40 * i : Nat) : Int) + 40 + (j : Int) = ((131 + 40 * (i + 1) + j : Nat) : Int) by omega]
        exact zr_w H _ (by omega)
      rw [fM_removes_36, zqo_ge _ _ (by omega) (by decide), decide_eq_false (by omega), cond_false, zr_r0 H, b1_s, b1_s, c1, zw_add, zw_add, g1, b1_s, zw_add]
      have e5 : fAS h 233 100 (Int32.ofInt (((131 + 40 * i : Nat) : Int) + (j : Int))) (.int (Int32.ofInt (a 233 (131 + 40 * (i + 1) + j)))) = some h5 := e5
      rw [e5, b1_s, zh_inc]
      exact e6
    · by_cases e : m = j
      · rw [e, p6 233 _ (by omega), zr_vs]
      · rw [r6 m (by omega) m2, zr_vn a _ (Or.inr (by omega))]
/-- the freed row -/
theorem zr_rem114 {fl : Nat → Int} {K : Nat} (hK : K < 8) : ∀ (c f j : Nat) (h : zH) (a : Nat → Nat → Int), zr h fl a → a 233 2 = (K : Int) → j + c = 40 → c < f → ∃ h1 a1, fM_removes_114 N f 232 (Int32.ofInt (j : Int)) h = some (Int32.ofInt (K : Int), h1) ∧ zr h1 fl a1 ∧ zr_F h h1 ∧ ∀ p m, (p ≠ 233 ∨ m < 131 + 40 * K) → a1 p m = a p m := by
  intro c
  induction c with
  | zero =>
    intro f j h a H h2 h1 hf
    obtain ⟨g, rfl⟩ : ∃ g, f = g + 1 := ⟨f - 1, by omega⟩
    have g2 : fAI h 233 100 (Int32.ofInt 2) = some (Int32.ofInt (a 233 2)) := zr_w H 2 (by decide)
    refine ⟨h, a, ?_, H, zr_Fr h, fun _ _ _ => rfl⟩
    rw [fM_removes_114, zqo_ge _ _ (by omega) (by decide), decide_eq_true (by omega), cond_true, zr_r0 H, b1_s, g2, b1_s, h2]
  | succ c ih =>
    intro f j h a H h2 h1 hf
    obtain ⟨g, rfl⟩ : ∃ g, f = g + 1 := ⟨f - 1, by omega⟩
    have g2 : fAI h 233 100 (Int32.ofInt 2) = some (Int32.ofInt (a 233 2)) := zr_w H 2 (by decide)
    obtain ⟨h5, e5, H5, F5⟩ := zr_p H 233 (131 + 40 * K + j) (by decide) (by decide) (by show 131 + 40 * K + j < 451; omega) 0
    obtain ⟨h6, a6, e6, H6, F6, p6⟩ := ih g (j + 1) h5 _ H5 ((zr_vn a _ (Or.inr (by omega))).trans h2) (by omega) (by omega)
    refine ⟨h6, a6, ?_, H6, zr_Ft F5 F6, fun p m hp => (p6 p m (by omega)).trans (zr_vn a _ (by omega))⟩
    have c1 : Int32.ofInt 131 + Int32.ofInt 40 * Int32.ofInt (K : Int) = Int32.ofInt ((131 + 40 * K : Nat) : Int) := by
      rw [← Int32.ofInt_mul, ← Int32.ofInt_add]
      rfl
    rw [fM_removes_114, zqo_ge _ _ (by omega) (by decide), decide_eq_false (by omega), cond_false, zr_r0 H, b1_s, b1_s, g2, b1_s, h2, c1, zw_add]
    have e5 : fAS h 233 100 (Int32.ofInt (((131 + 40 * K : Nat) : Int) + (j : Int))) (.int (Int32.ofInt 0)) = some h5 := e5
    rw [e5, b1_s, zh_inc]
    exact e6
theorem zr_rem2 (hN : 1000 ≤ N) {fl : Nat → Int} {K x : Nat} (hK : K < 8) (hx : x ≤ K) {a0 : Nat → Nat → Int} (h2 : a0 233 2 = ((K + 1 : Nat) : Int)) : ∀ (c f i : Nat) (h : zH) (a : Nat → Nat → Int), zr h fl a → i + c = K → x ≤ i → c < f → (∀ p m, (p ≠ 233 ∨ m < 123 + x ∨ (123 + i ≤ m ∧ m < 131 + 40 * x) ∨ 131 + 40 * i ≤ m) → a p m = a0 p m) → (∀ k, x ≤ k → k < i → a 233 (123 + k) = a0 233 (123 + (k + 1)) ∧ ∀ m, m < 40 → a 233 (131 + 40 * k + m) = a0 233 (131 + 40 * (k + 1) + m)) → ∃ h1 a1, fM_removes_2 N f 232 (Int32.ofInt (i : Int)) h = some (Int32.ofInt (K : Int), h1) ∧ zr h1 fl a1 ∧ zr_F h h1 ∧ a1 233 2 = (K : Int) ∧ (∀ p m, (p ≠ 233 ∨ (m ≠ 2 ∧ m < 123 + x) ∨ (131 ≤ m ∧ m < 131 + 40 * x)) → a1 p m = a0 p m) ∧ ∀ k, x ≤ k → k < K → a1 233 (123 + k) = a0 233 (123 + (k + 1)) ∧ ∀ m, m < 40 → a1 233 (131 + 40 * k + m) = a0 233 (131 + 40 * (k + 1) + m) := by
  intro c
  induction c with
  | zero =>
    intro f i h a H h1 hxi hf h3 h4
    obtain ⟨g, rfl⟩ : ∃ g, f = g + 1 := ⟨f - 1, by omega⟩
    have e : i = K := by omega
    subst e
    have g2 : fAI h 233 100 (Int32.ofInt 2) = some (Int32.ofInt (a 233 2)) := zr_w H 2 (by decide)
    have a2 : a 233 2 = ((i + 1 : Nat) : Int) := (h3 233 2 (by omega)).trans h2
    obtain ⟨h5, e5, H5, F5⟩ := zr_p H 233 2 (by decide) (by decide) (by decide) (i : Int)
    have g5 : fAI h5 233 100 (Int32.ofInt 2) = some (Int32.ofInt (zr_v a 233 2 (i : Int) 233 2)) := zr_w H5 2 (by decide)
    obtain ⟨h6, e6, H6, F6⟩ := zr_p H5 233 (123 + i) (by decide) (by decide) (by show 123 + i < 451; omega) 0
    obtain ⟨h7, a7, e7, H7, F7, p7⟩ := zr_rem114 (N := N) hK 40 N 0 h6 _ H6 (by rw [zr_vn _ _ (Or.inr (by omega)), zr_vs]) (by decide) (by omega)
    have key : ∀ p m, (p ≠ 233 ∨ (m ≠ 2 ∧ m ≠ 123 + i ∧ m < 131 + 40 * i)) → a7 p m = a p m := fun p m hp => (p7 p m (by omega)).trans ((zr_vn _ _ (by omega)).trans (zr_vn _ _ (by omega)))
    refine ⟨h7, a7, ?_, H7, zr_Ft F5 (zr_Ft F6 F7), ?_, fun p m hp => (key p m (by omega)).trans (h3 p m (by omega)), fun k k1 k2 => ⟨(key 233 _ (by omega)).trans (h4 k k1 k2).1, fun m hm => (key 233 _ (by omega)).trans ((h4 k k1 k2).2 m hm)⟩⟩
    · have e5 : fAS h 233 100 (Int32.ofInt 2) (.int (Int32.ofInt (i : Int))) = some h5 := e5
      have e6 : fAS h5 233 100 (Int32.ofInt (123 + (i : Int))) (.int (Int32.ofInt 0)) = some h6 := e6
      rw [fM_removes_2, zr_r0 H, b1_s, g2, b1_s, a2, zw_add, zqo_ge _ _ (by omega) (by omega), decide_eq_true (by omega), cond_true, b1_s, g2, b1_s, a2, zw_sub, show ((i + 1 : Nat) : Int) - 1 = (i : Int) by omega, e5, b1_s, zr_r0 H5, b1_s, b1_s, g5, b1_s, zr_vs, zw_add, e6, b1_s]
      exact e7
    · rw [p7 233 2 (Or.inr (by omega)), zr_vn _ _ (Or.inr (by omega)), zr_vs]
  | succ c ih =>
    intro f i h a H h1 hxi hf h3 h4
    obtain ⟨g, rfl⟩ : ∃ g, f = g + 1 := ⟨f - 1, by omega⟩
    have g2 : fAI h 233 100 (Int32.ofInt 2) = some (Int32.ofInt (a 233 2)) := zr_w H 2 (by decide)
    have a2 : a 233 2 = ((K + 1 : Nat) : Int) := (h3 233 2 (by omega)).trans h2
    have g3 : fAI h 233 100 (Int32.ofInt (123 + (i : Int) + 1)) = some (Int32.ofInt (a 233 (123 + (i + 1)))) := by
      rw [show 123 + (i : Int) + 1 = ((123 + (i + 1) : Nat) : Int) by omega]
      exact zr_w H _ (by omega)
    obtain ⟨h5, e5, H5, F5⟩ := zr_p H 233 (123 + i) (by decide) (by decide) (by show 123 + i < 451; omega) (a 233 (123 + (i + 1)))
    obtain ⟨h6, a6, e6, H6, F6, p6, r6⟩ := zr_rem36 (N := N) (k2 := fM_removes_2 N g) (i := i) (by omega) 40 N 0 h5 _ H5 (by decide) (by omega)
    obtain ⟨h7, a7, e7, H7, F7, c7, p7, q7⟩ := ih g (i + 1) h6 a6 H6 (by omega) (by omega) (by omega) (fun p m hp => (p6 p m (by omega)).trans ((zr_vn a _ (by omega)).trans (h3 p m (by omega)))) (fun k k1 k2 => by
      by_cases ek : k = i
      · subst ek
        refine ⟨?_, fun m hm => ?_⟩
        · rw [p6 233 _ (by omega), zr_vs, h3 233 _ (by omega)]
        · rw [r6 m (Nat.zero_le _) hm, zr_vn a _ (Or.inr (by omega)), h3 233 _ (by omega)]
      · refine ⟨(p6 233 _ (by omega)).trans ((zr_vn a _ (by omega)).trans (h4 k k1 (by omega)).1), fun m hm => (p6 233 _ (by omega)).trans ((zr_vn a _ (by omega)).trans ((h4 k k1 (by omega)).2 m hm))⟩)
    refine ⟨h7, a7, ?_, H7, zr_Ft F5 (zr_Ft F6 F7), c7, p7, q7⟩
    have e5 : fAS h 233 100 (Int32.ofInt (123 + (i : Int))) (.int (Int32.ofInt (a 233 (123 + (i + 1))))) = some h5 := e5
    rw [fM_removes_2, zr_r0 H, b1_s, g2, b1_s, a2, zw_add, zqo_ge _ _ (by omega) (by omega), decide_eq_false (by omega), cond_false, b1_s, b1_s, zw_add, zw_add, g3, b1_s, e5, b1_s]
    exact e6.trans e7
end ZYJ
end
section
/-! THE REFERENCE'S removeKept AND setLetters. -/
theorem zy_isE {g g' : Nat → Int} {A : zA} {x : Nat} (ok : zv_ok A) (h : zy_is g A) (hx : x < A.2.2.length) (h2 : g' 2 = ((A.2.2.length - 1 : Nat) : Int)) (e : ∀ j, ((j ≠ 2 ∧ j < 123 + x) ∨ (131 ≤ j ∧ j < 131 + 40 * x)) → g' j = g j) (r : ∀ k, x ≤ k → k < A.2.2.length - 1 → g' (123 + k) = g (123 + (k + 1)) ∧ ∀ m, m < 40 → g' (131 + 40 * k + m) = g (131 + 40 * (k + 1) + m)) : zy_is g' (A.1, A.2.1, A.2.2.eraseIdx x) := by
  obtain ⟨a1, a2, a3, a4, a5⟩ := h
  have o2 := ok.2.1
  have hl : (A.2.2.eraseIdx x).length = A.2.2.length - 1 := by rw [List.length_eraseIdx, if_pos hx]
  refine ⟨(e 0 (by omega)).trans a1, (e 1 (by omega)).trans a2, fun i (hi : i < A.2.1.length) => (e _ (by omega)).trans (a3 i hi), by rw [h2, hl], fun k hk => ?_⟩
  have hk : k < A.2.2.length - 1 := hl ▸ hk
  show g' (123 + k) = (((A.2.2.eraseIdx x).getD k []).length : Int) ∧ ∀ i, i < ((A.2.2.eraseIdx x).getD k []).length → g' (131 + 40 * k + i) = (((A.2.2.eraseIdx x).getD k []).getD i 0 : Int) - 97
  by_cases ek : k < x
  · have ew : (A.2.2.eraseIdx x).getD k [] = A.2.2.getD k [] := by
      rw [List.getD_eq_getElem?_getD, List.getElem?_eraseIdx, if_pos ek, ← List.getD_eq_getElem?_getD]
    rw [ew]
    have hw : A.2.2.getD k [] ∈ A.2.2 := by
      rw [List.getD_eq_getElem?_getD, List.getElem?_eq_getElem (by omega)]
      exact List.getElem_mem _
    have o5 := (ok.2.2.2.2 _ hw).2.1
    have b5 := a5 k (by omega)
    exact ⟨(e _ (by omega)).trans b5.1, fun i hi => (e _ (by omega)).trans (b5.2 i hi)⟩
  · have ew : (A.2.2.eraseIdx x).getD k [] = A.2.2.getD (k + 1) [] := by
      rw [List.getD_eq_getElem?_getD, List.getElem?_eraseIdx, if_neg ek, ← List.getD_eq_getElem?_getD]
    rw [ew]
    have hw : A.2.2.getD (k + 1) [] ∈ A.2.2 := by
      rw [List.getD_eq_getElem?_getD, List.getElem?_eq_getElem (by omega)]
      exact List.getElem_mem _
    have o5 := (ok.2.2.2.2 _ hw).2.1
    have b5 := a5 (k + 1) (by omega)
    have r5 := r k (by omega) hk
    exact ⟨r5.1.trans b5.1, fun i hi => (r5.2 i (by omega)).trans (b5.2 i hi)⟩
section ZYK
variable {N : Nat} {h : zH} {fl fl' : Nat → Int} {a a' : Nat → Nat → Int} {bef now snap : zA} {hist : List zA} {sv t : Int} {inp : List Nat} {rep : zvP} {T : List Nat}
theorem zn_removeKept (Y : zy h now hist snap sv inp rep t) (o : zo now hist snap) (hN : 4000 ≤ N) (x : Int) (hx : -2147483648 ≤ x ∧ x < 2147483648) : (¬ (0 ≤ x ∧ x < (now.2.2.length : Int)) ∧ ∃ h', fM_removeKept N 232 (Int32.ofInt x) h = some (Int32.ofInt 0, h') ∧ zy h' now hist snap sv inp rep 1 ∧ zr_F h h') ∨ ((0 ≤ x ∧ x < (now.2.2.length : Int)) ∧ ∃ h', fM_removeKept N 232 (Int32.ofInt x) h = some (Int32.ofInt ((now.2.2.length - 1 : Nat) : Int), h') ∧ zy h' (now.1, now.2.1, now.2.2.eraseIdx x.toNat) (zv_push hist now) snap sv inp rep 0 ∧ zr_F h h') := by
  obtain ⟨ok, okh, h8, oks⟩ := o
  have o4 := ok.2.2.2.1
  obtain ⟨fl0, a0, H0, R0⟩ := id Y
  unfold fM_removeKept
  rw [zr_T H0, cond_true, zr_isShelved H0 R0 ok x hx, b2]
  by_cases e : 0 ≤ x ∧ x < (now.2.2.length : Int)
  · rw [decide_eq_true e, cond_true]
    refine Or.inr ⟨e, ?_⟩
    obtain ⟨v, rfl⟩ : ∃ v : Nat, x = (v : Int) := ⟨x.toNat, by omega⟩
    obtain ⟨h1, e1, Y1, F1⟩ := zy_one0 (N := N) Y
    obtain ⟨h2, e2, ⟨fl, a, H, R, B⟩, F2⟩ := zy_begins (N := N) (by omega) Y1 ok
    obtain ⟨h3, a3, e3, H3, F3, c3, p3, q3⟩ := zr_rem2 (N := N) (by omega) (K := now.2.2.length - 1) (x := v) (by omega) (by omega) (a0 := a) (by rw [R.1.2.2.2.1]; congr 1; omega) (now.2.2.length - 1 - v) N v h2 a H (by omega) (Nat.le_refl _) (by omega) (fun _ _ _ => rfl) (fun k k1 k2 => absurd k2 (by omega))
    have n3 : zy_is (a3 233) (now.1, now.2.1, now.2.2.eraseIdx v) := zy_isE ok R.1 (by omega) c3 (fun j hj => p3 233 j (Or.inr hj)) q3
    have Y3 : zyp h3 now (now.1, now.2.1, now.2.2.eraseIdx v) hist snap sv inp rep 0 := by
      refine ⟨fl, a3, H3, zyR_a R (fun _ _ => rfl) (fun p i hp => p3 p i (Or.inl (by omega))) n3, ?_⟩
      rw [show a3 234 = a 234 from funext fun i => p3 234 i (Or.inl (by decide))]
      exact B
    obtain ⟨h4, e4, Y4, F4⟩ := zy_remember (N := N) hN Y3 ok okh h8 (Int32.ofInt ((now.2.2.length - 1 : Nat) : Int))
    refine ⟨h4, ?_, Y4, zr_Ft F1 (zr_Ft F2 (zr_Ft F3 F4))⟩
    show fM_removeKept_14 N 232 (Int32.ofInt (v : Int)) (Int32.ofInt 0) 232 h = _
    unfold fM_removeKept_14
    rw [e1, b2]
    show b2 (fM_begins N 232 h1) _ = _
    rw [e2, b2]
    unfold fM_removes
    rw [zr_T H, cond_true, e3, b2, e4]
    rfl
  · rw [decide_eq_false e, cond_false]
    refine Or.inl ⟨e, ?_⟩
    obtain ⟨h1, e1, Y1, F1⟩ := zy_one1 (N := N) Y
    refine ⟨h1, ?_, Y1, F1⟩
    show fM_removeKept_14 N 232 (Int32.ofInt x) (Int32.ofInt 1) 232 h = _
    unfold fM_removeKept_14
    rw [e1]
    rfl
theorem zj_max (x y : Int) (hx : -2147483648 ≤ x ∧ x < 2147483648) (hy : -2147483648 ≤ y ∧ y < 2147483648) : (if Int32.ofInt x < Int32.ofInt y then Int32.ofInt y else Int32.ofInt x) = Int32.ofInt (max x y) := by
  by_cases e : x < y
  · rw [if_pos (by rw [Int32.lt_iff_toInt_lt, zqo_i x hx, zqo_i y hy]; exact e), Int.max_eq_right (by omega)]
  · rw [if_neg (by rw [Int32.lt_iff_toInt_lt, zqo_i x hx, zqo_i y hy]; exact e), Int.max_eq_left (by omega)]
theorem zr_have4 (H : zr h fl a) (R : zyR fl a now hist snap sv inp rep t) (ok : zv_ok now) {M : Nat} (hM : M ≤ 9) : ∀ (c f i m : Nat), i + c = now.2.1.length → c < f → m ≤ 300 → ∃ m' : Nat, fM_canHave_4 N f 232 (Int32.ofInt (M : Int)) (Int32.ofInt (m : Int)) (Int32.ofInt (i : Int)) h = fM_canHave_37 N N 232 (Int32.ofInt (M : Int)) (Int32.ofInt (m' : Int)) (Int32.ofInt 0) h ∧ m' ≤ 300 ∧ (m' ≤ M ↔ m ≤ M ∧ ∀ j, i ≤ j → j < now.2.1.length → now.2.1.getD j 0 < 97 + M) := by
  have g1 : fAI h 233 100 (Int32.ofInt 1) = some (Int32.ofInt (a 233 1)) := zr_w H 1 (by decide)
  have o2 := ok.2.1
  intro c
  induction c with
  | zero =>
    intro f i m h1 h2 h3
    obtain ⟨g, rfl⟩ : ∃ g, f = g + 1 := ⟨f - 1, by omega⟩
    refine ⟨m, ?_, h3, ⟨fun x => ⟨x, fun j j1 j2 => absurd j2 (by omega)⟩, fun x => x.1⟩⟩
    rw [fM_canHave_4, zr_r0 H, b1_s, g1, b1_s, R.1.2.1, zqo_ge _ _ (by omega) (by omega), decide_eq_true (by omega), cond_true]
  | succ c ih =>
    intro f i m h1 h2 h3
    obtain ⟨g, rfl⟩ : ∃ g, f = g + 1 := ⟨f - 1, by omega⟩
    have hv := ok.2.2.1 (now.2.1.getD i 0) (by rw [List.getD_eq_getElem?_getD, List.getElem?_eq_getElem (by omega)]; exact List.getElem_mem _)
    have h9 := ok.1.2
    have g3 : fAI h 233 100 (Int32.ofInt (3 + (i : Int))) = some (Int32.ofInt ((now.2.1.getD i 0 : Int) - 97)) := by
      rw [show 3 + (i : Int) = ((3 + i : Nat) : Int) by omega, zr_w H _ (by omega), R.1.2.2.1 i (by omega)]
    obtain ⟨m', e1, e2, e3⟩ := ih g (i + 1) (max m (now.2.1.getD i 0 - 96)) (by omega) (by omega) (by omega)
    refine ⟨m', ?_, e2, e3.trans ⟨fun x => ⟨by omega, fun j j1 j2 => ?_⟩, fun x => ⟨?_, fun j j1 j2 => x.2 j (by omega) j2⟩⟩⟩
    · rw [← e1, fM_canHave_4, zr_r0 H, b1_s, g1, b1_s, R.1.2.1, zqo_ge _ _ (by omega) (by omega), decide_eq_false (by omega), cond_false, b1_s, zw_add, g3, b1_s, zw_add, zj_max _ _ (by omega) (by omega), zh_inc, show max (m : Int) ((now.2.1.getD i 0 : Int) - 97 + 1) = ((max m (now.2.1.getD i 0 - 96) : Nat) : Int) by omega]
    · by_cases e : j = i
      · rw [e]
        omega
      · exact x.2 j (by omega) j2
    · have := x.2 i (Nat.le_refl _) (by omega)
      omega
theorem zr_have37 (H : zr h fl a) (R : zyR fl a now hist snap sv inp rep t) (ok : zv_ok now) {M : Nat} (hM : M ≤ 9) : ∀ (c f i m : Nat), i + c = 40 * now.2.2.length → c < f → m ≤ 300 → ∃ r : Bool, fM_canHave_37 N f 232 (Int32.ofInt (M : Int)) (Int32.ofInt (m : Int)) (Int32.ofInt (i : Int)) h = some (cond r (Int32.ofInt 1) (Int32.ofInt 0), h) ∧ (r = true ↔ m ≤ M ∧ ∀ j, i ≤ j → j < 40 * now.2.2.length → j % 40 < (now.2.2.getD (j / 40) []).length → (now.2.2.getD (j / 40) []).getD (j % 40) 0 < 97 + M) := by
  have g2 : fAI h 233 100 (Int32.ofInt 2) = some (Int32.ofInt (a 233 2)) := zr_w H 2 (by decide)
  have o4 := ok.2.2.2.1
  have c1 : Int32.ofInt (now.2.2.length : Int) * Int32.ofInt 40 = Int32.ofInt ((40 * now.2.2.length : Nat) : Int) := by
    rw [← Int32.ofInt_mul]
    congr 1
    omega
  intro c
  induction c with
  | zero =>
    intro f i m h1 h2 h3
    obtain ⟨g, rfl⟩ : ∃ g, f = g + 1 := ⟨f - 1, by omega⟩
    rw [fM_canHave_37, zr_r0 H, b1_s, g2, b1_s, R.1.2.2.2.1, c1, zqo_ge _ _ (by omega) (by omega), decide_eq_true (by omega), cond_true, zqo_gt _ _ (by omega) (by omega)]
    by_cases e : m ≤ M
    · refine ⟨true, ?_, ⟨fun _ => ⟨e, fun j j1 j2 => absurd j2 (by omega)⟩, fun _ => rfl⟩⟩
      rw [decide_eq_false (by omega)]
      rfl
    · refine ⟨false, ?_, ⟨fun x => absurd x (by decide), fun x => absurd x.1 e⟩⟩
      rw [decide_eq_true (by omega)]
      rfl
  | succ c ih =>
    intro f i m h1 h2 h3
    obtain ⟨g, rfl⟩ : ∃ g, f = g + 1 := ⟨f - 1, by omega⟩
    have hk : i / 40 < now.2.2.length := by omega
    have hw : now.2.2.getD (i / 40) [] ∈ now.2.2 := by
      rw [List.getD_eq_getElem?_getD, List.getElem?_eq_getElem hk]
      exact List.getElem_mem hk
    have o5 := ok.2.2.2.2 _ hw
    have b5 := R.1.2.2.2.2 _ hk
    have h9 := ok.1.2
    have n40 : Int32.ofInt 40 ≠ Int32.ofInt 0 := zr_nz (n := 40) (by decide) (by decide)
    have d40 : Int32.ofInt (i : Int) / Int32.ofInt 40 = Int32.ofInt ((i / 40 : Nat) : Int) := zw_div i 40 (by omega) (by decide)
    have m40 : Int32.ofInt (i : Int) - Int32.ofInt (i : Int) / Int32.ofInt 40 * Int32.ofInt 40 = Int32.ofInt ((i % 40 : Nat) : Int) := zw_modi i 40 (by omega) (by decide)
    have g3 : fAI h 233 100 (Int32.ofInt (123 + ((i / 40 : Nat) : Int))) = some (Int32.ofInt ((now.2.2.getD (i / 40) []).length : Int)) := by
      rw [show 123 + ((i / 40 : Nat) : Int) = ((123 + i / 40 : Nat) : Int) by omega, zr_w H _ (by omega), b5.1]
    rw [fM_canHave_37, zr_r0 H, b1_s, g2, b1_s, R.1.2.2.2.1, c1, zqo_ge _ _ (by omega) (by omega), decide_eq_false (by omega), cond_false, if_neg n40, b1_s, if_neg n40, m40, d40, zw_add, g3, b1_s, zqo_ge _ _ (by omega) (by omega)]
    by_cases e : i % 40 < (now.2.2.getD (i / 40) []).length
    · have hv := o5.2.2 ((now.2.2.getD (i / 40) []).getD (i % 40) 0) (by rw [List.getD_eq_getElem?_getD (l := now.2.2.getD (i / 40) []), List.getElem?_eq_getElem e]; exact List.getElem_mem e)
      have g4 : fAI h 233 100 (Int32.ofInt (131 + (i : Int))) = some (Int32.ofInt (((now.2.2.getD (i / 40) []).getD (i % 40) 0 : Int) - 97)) := by
        rw [show 131 + (i : Int) = ((131 + 40 * (i / 40) + i % 40 : Nat) : Int) by omega, zr_w H _ (by omega), b5.2 _ e]
      obtain ⟨r, e1, e3⟩ := ih g (i + 1) (max ((now.2.2.getD (i / 40) []).getD (i % 40) 0 - 96) m) (by omega) (by omega) (by omega)
      refine ⟨r, ?_, e3.trans ⟨fun x => ⟨by omega, fun j j1 j2 j3 => ?_⟩, fun x => ⟨?_, fun j j1 j2 => x.2 j (by omega) j2⟩⟩⟩
      · rw [← e1, decide_eq_false (by omega), cond_false, b1_s, zw_add, g4, b1_s]
        unfold fM_canHave_86
        rw [zw_add, zj_max _ _ (by omega) (by omega), zh_inc, show max (m : Int) (((now.2.2.getD (i / 40) []).getD (i % 40) 0 : Int) - 97 + 1) = ((max ((now.2.2.getD (i / 40) []).getD (i % 40) 0 - 96) m : Nat) : Int) by omega]
      · by_cases ej : j = i
        · rw [ej]
          omega
        · exact x.2 j (by omega) j2 j3
      · have := x.2 i (Nat.le_refl _) (by omega) e
        omega
    · obtain ⟨r, e1, e3⟩ := ih g (i + 1) m (by omega) (by omega) h3
      refine ⟨r, ?_, e3.trans ⟨fun x => ⟨x.1, fun j j1 j2 j3 => ?_⟩, fun x => ⟨x.1, fun j j1 j2 => x.2 j (by omega) j2⟩⟩⟩
      · rw [← e1, decide_eq_true (by omega), cond_true]
        unfold fM_canHave_86
        have := zj_max (m : Int) 0 (by omega) (by decide)
        rw [this, zh_inc, Int.max_eq_left (by omega)]
      · by_cases ej : j = i
        · rw [ej] at j3
          exact absurd j3 e
        · exact x.2 j (by omega) j2 j3
theorem zr_canHave (H : zr h fl a) (R : zyR fl a now hist snap sv inp rep t) (ok : zv_ok now) (hN : 4000 ≤ N) {M : Nat} (hM : M ≤ 9) : fM_canHave N 232 (Int32.ofInt (M : Int)) h = some (cond (zv_fit now M) (Int32.ofInt 1) (Int32.ofInt 0), h) := by
  have o2 := ok.2.1
  have o4 := ok.2.2.2.1
  obtain ⟨m, e1, m1, m2⟩ := zr_have4 (N := N) H R ok hM now.2.1.length N 0 0 (Nat.zero_add _) (by omega) (by decide)
  obtain ⟨r, e2, r2⟩ := zr_have37 (N := N) H R ok hM (40 * now.2.2.length) N 0 m (Nat.zero_add _) (by omega) m1
  have er : r = zv_fit now M := by
    rw [Bool.eq_iff_iff, r2, m2]
    unfold zv_fit
    rw [Bool.and_eq_true, List.all_eq_true, List.all_eq_true]
    constructor
    · intro x
      refine ⟨fun w hw => List.all_eq_true.mpr (fun v hv => decide_eq_true ?_), fun v hv => decide_eq_true ?_⟩
      · obtain ⟨k, hk, ek⟩ := List.getElem_of_mem hw
        obtain ⟨i, hi, ei⟩ := List.getElem_of_mem hv
        have o5 := (ok.2.2.2.2 w hw).2.1
        have ew : now.2.2.getD k [] = w := by
          rw [List.getD_eq_getElem?_getD, List.getElem?_eq_getElem hk, ek]
          rfl
        have ev : w.getD i 0 = v := by
          rw [List.getD_eq_getElem?_getD, List.getElem?_eq_getElem hi, ei]
          rfl
        have := x.2 (40 * k + i) (Nat.zero_le _) (by omega)
        rw [show (40 * k + i) / 40 = k by omega, show (40 * k + i) % 40 = i by omega, ew, ev] at this
        exact this hi
      · obtain ⟨i, hi, ei⟩ := List.getElem_of_mem hv
        have := x.1.2 i (Nat.zero_le _) hi
        rw [List.getD_eq_getElem?_getD, List.getElem?_eq_getElem hi, ei] at this
        exact this
    · intro x
      refine ⟨⟨Nat.zero_le _, fun j j1 j2 => ?_⟩, fun j j1 j2 j3 => ?_⟩
      · have := of_decide_eq_true (x.2 (now.2.1.getD j 0) (by rw [List.getD_eq_getElem?_getD, List.getElem?_eq_getElem j2]; exact List.getElem_mem j2))
        exact this
      · have hk : j / 40 < now.2.2.length := by omega
        have hw : now.2.2.getD (j / 40) [] ∈ now.2.2 := by
          rw [List.getD_eq_getElem?_getD, List.getElem?_eq_getElem hk]
          exact List.getElem_mem hk
        exact of_decide_eq_true (List.all_eq_true.mp (x.1 _ hw) _ (by rw [List.getD_eq_getElem?_getD (l := now.2.2.getD (j / 40) []), List.getElem?_eq_getElem j3]; exact List.getElem_mem j3))
  unfold fM_canHave
  rw [zr_T H, cond_true, ← er]
  exact e1.trans e2
end ZYK
end
section
/-! THE REFERENCE'S setLetters, why AND THE NEXT WORD. -/
section ZYL
variable {N : Nat} {h : zH} {fl fl' : Nat → Int} {a a' : Nat → Nat → Int} {bef now snap : zA} {hist : List zA} {sv t : Int} {inp : List Nat} {rep : zvP} {T : List Nat}
theorem zn_setLetters (Y : zy h now hist snap sv inp rep t) (o : zo now hist snap) (hN : 4000 ≤ N) (x : Int) (hx : -2147483648 ≤ x ∧ x < 2147483648) : (¬ (2 ≤ x ∧ x ≤ 9) ∧ ∃ h', fM_setLetters N 232 (Int32.ofInt x) h = some (Int32.ofInt 0, h') ∧ zy h' now hist snap sv inp rep 1 ∧ zr_F h h') ∨ ((2 ≤ x ∧ x ≤ 9) ∧ zv_fit now x.toNat = false ∧ ∃ h', fM_setLetters N 232 (Int32.ofInt x) h = some (Int32.ofInt 0, h') ∧ zy h' now hist snap sv inp rep 2 ∧ zr_F h h') ∨ ((2 ≤ x ∧ x ≤ 9) ∧ zv_fit now x.toNat = true ∧ ∃ h', fM_setLetters N 232 (Int32.ofInt x) h = some (Int32.ofInt (now.1 : Int), h') ∧ zy h' (x.toNat, now.2.1, now.2.2) (zv_push hist now) snap sv inp rep 0 ∧ zr_F h h') := by
  obtain ⟨ok, okh, h8, oks⟩ := o
  obtain ⟨fl0, a0, H0, R0⟩ := id Y
  unfold fM_setLetters
  rw [zr_T H0, cond_true, zr_in N x 2 9 hx (by decide) (by decide), b2]
  by_cases e : 2 ≤ x ∧ x ≤ 9
  · rw [decide_eq_true e, cond_true]
    refine Or.inr ?_
    obtain ⟨v, rfl⟩ : ∃ v : Nat, x = (v : Int) := ⟨x.toNat, by omega⟩
    have ec : fM_setLetters_15 N 232 (Int32.ofInt (v : Int)) (Int32.ofInt 0) h = cond (zv_fit now v) (fM_setLetters_35 N 232 (Int32.ofInt (v : Int)) (Int32.ofInt 0) (Int32.ofInt 0) 232 h) (fM_setLetters_35 N 232 (Int32.ofInt (v : Int)) (Int32.ofInt 1) (Int32.ofInt 0) 232 h) := by
      unfold fM_setLetters_15
      show b2 (fM_canHave N 232 (Int32.ofInt (v : Int)) h) _ = _
      rw [zr_canHave H0 R0 ok hN (by omega), b2]
      cases zv_fit now v <;> rfl
    by_cases e2 : zv_fit now v = true
    · refine Or.inr ⟨e, e2, ?_⟩
      obtain ⟨h1, e1, Y1, F1⟩ := zy_two00 (N := N) Y
      obtain ⟨h2, e3, ⟨fl, a, H, R, B⟩, F2⟩ := zy_begins (N := N) (by omega) Y1 ok
      have g0 : fAI h2 233 100 (Int32.ofInt 0) = some (Int32.ofInt (a 233 0)) := zr_w H 0 (by decide)
      obtain ⟨h3, e4, H3, F3⟩ := zr_p H 233 0 (by decide) (by decide) (by decide) (v : Int)
      have n3 : zy_is (zr_v a 233 0 (v : Int) 233) (v, now.2.1, now.2.2) := ⟨zr_vs _ _ _ _, (zr_vn a _ (Or.inr (by decide))).trans R.1.2.1, fun i hi => (zr_vn a _ (Or.inr (by omega))).trans (R.1.2.2.1 i hi), (zr_vn a _ (Or.inr (by decide))).trans R.1.2.2.2.1, fun k hk => ⟨(zr_vn a _ (Or.inr (by omega))).trans (R.1.2.2.2.2 k hk).1, fun i hi => (zr_vn a _ (Or.inr (by omega))).trans ((R.1.2.2.2.2 k hk).2 i hi)⟩⟩
      have Y3 : zyp h3 now (v, now.2.1, now.2.2) hist snap sv inp rep 0 := by
        refine ⟨fl, _, H3, zyR_a R (fun _ _ => rfl) (fun p i hp => zr_vn a _ (Or.inl (by omega))) n3, ?_⟩
        rw [show zr_v a 233 0 (v : Int) 234 = a 234 from funext fun i => zr_vn a _ (Or.inl (by decide))]
        exact B
      obtain ⟨h4, e5, Y4, F4⟩ := zy_remember (N := N) hN Y3 ok okh h8 (Int32.ofInt (now.1 : Int))
      refine ⟨h4, ?_, Y4, zr_Ft F1 (zr_Ft F2 (zr_Ft F3 F4))⟩
      refine ec.trans ?_
      rw [e2, cond_true]
      unfold fM_setLetters_35
      rw [e1, b2]
      show b2 (fM_begins N 232 h1) _ = _
      have e4 : fAS h2 233 100 (Int32.ofInt 0) (.int (Int32.ofInt (v : Int))) = some h3 := e4
      rw [e3, b2, zr_r0 H, b1_s, g0, b1_s, b1_s, e4, b1_s, R.1.1, e5]
      rfl
    · have e2 : zv_fit now v = false := Bool.eq_false_iff.mpr e2
      refine Or.inl ⟨e, e2, ?_⟩
      obtain ⟨h1, e1, Y1, F1⟩ := zy_two01 (N := N) Y
      refine ⟨h1, ?_, Y1, F1⟩
      refine ec.trans ?_
      rw [e2, cond_false]
      unfold fM_setLetters_35
      rw [e1]
      rfl
  · rw [decide_eq_false e, cond_false]
    refine Or.inl ⟨e, ?_⟩
    obtain ⟨h1, e1, Y1, F1⟩ := zy_two1 (N := N) Y (Int32.ofInt 0)
    refine ⟨h1, ?_, Y1, F1⟩
    show fM_setLetters_35 N 232 (Int32.ofInt x) (Int32.ofInt 0) (Int32.ofInt 1) 232 h = _
    unfold fM_setLetters_35
    rw [e1]
    rfl
/-- the row against its turn -/
theorem zr_turned2 (H : zr h fl a) (r : zr_rw fl a T) (hT : T.length ≤ 120) (hv : ∀ v ∈ T, v < 256) {x : Nat} (hx : x ≤ 1000) : ∀ (c f i : Nat), i + c = T.length → c < f → fM_turned_2 N f 232 (Int32.ofInt (x : Int)) (Int32.ofInt (i : Int)) h = some (Int32.ofInt (zm_ro T x 0 c), h) := by
  intro c
  induction c with
  | zero =>
    intro f i h1 h2
    obtain ⟨g, rfl⟩ : ∃ g, f = g + 1 := ⟨f - 1, by omega⟩
    rw [fM_turned_2, zr_i H 14 rfl, b1_s, r.1, zqo_ge _ _ (by omega) (by omega), decide_eq_true (by omega), cond_true]
    rfl
  | succ c ih =>
    intro f i h1 h2
    obtain ⟨g, rfl⟩ : ∃ g, f = g + 1 := ⟨f - 1, by omega⟩
    have hn : 0 < T.length := by omega
    have m1 := Nat.mod_lt (i + x) hn
    have k1 : fAI h 239 100 (Int32.ofInt (((i + x) % T.length : Nat) : Int)) = some (Int32.ofInt ((zm_c T (x + i) : Int) - 97)) := by
      rw [zr_row H _ (by omega), r.2 _ m1, Nat.add_comm i x]
      rfl
    have k2 : fAI h 239 100 (Int32.ofInt (i : Int)) = some (Int32.ofInt ((zm_c T (0 + i) : Int) - 97)) := by
      rw [zr_row H _ (by omega), r.2 _ (by omega), Nat.zero_add]
      unfold zm_c
      rw [Nat.mod_eq_of_lt (by omega)]
    have c1 := zm_clt hv (x + i)
    have c2 := zm_clt hv (0 + i)
    rw [fM_turned_2, zr_i H 14 rfl, b1_s, r.1, zqo_ge _ _ (by omega) (by omega), decide_eq_false (by omega), cond_false, zr_r8 H, b1_s, b1_s, if_neg (zr_nz hn (by omega)), zw_add, show (i : Int) + (x : Int) = ((i + x : Nat) : Int) by omega, zw_modi _ _ (by omega) (by omega), k1, b1_s, b1_s, k2, b1_s, zqo_eq _ _ (by omega) (by omega), zm_ro, show T.length - (c + 1) = i by omega]
    by_cases e : zm_c T (x + i) = zm_c T (0 + i)
    · rw [decide_eq_true (by omega), cond_true, if_pos e, zh_inc]
      exact ih g (i + 1) (by omega) (by omega)
    · rw [decide_eq_false (by omega), cond_false, if_neg e, b1_s, k2, b1_s, zw_sub, show (zm_c T (x + i) : Int) - 97 - ((zm_c T (0 + i) : Int) - 97) = (zm_c T (x + i) : Int) - (zm_c T (0 + i) : Int) by omega]
theorem zr_turned (hN : 1000 ≤ N) (H : zr h fl a) (r : zr_rw fl a T) (hT : T.length ≤ 120) (hv : ∀ v ∈ T, v < 256) {x : Nat} (hx : x ≤ 1000) : fM_turned N 232 (Int32.ofInt (x : Int)) h = some (Int32.ofInt (zm_ro T x 0 T.length), h) := by
  unfold fM_turned
  rw [zr_T H, cond_true]
  exact zr_turned2 H r hT hv hx T.length N 0 (Nat.zero_add _) (by omega)
theorem zr_prim2 (hN : 1000 ≤ N) (H : zr h fl a) (r : zr_rw fl a T) (hT : T.length ≤ 120) (hv : ∀ v ∈ T, v < 256) (hn : 0 < T.length) : ∀ (c f i : Nat), i + c = T.length → c < f → ∃ b : Bool, fM_isPrimitiveRow_2 N f 232 (Int32.ofInt (i : Int)) h = some (cond b (Int32.ofInt 1) (Int32.ofInt 0), h) ∧ (b = true ↔ ∀ j, i ≤ j → j < T.length → ¬ zm_E T j 0) := by
  intro c
  induction c with
  | zero =>
    intro f i h1 h2
    obtain ⟨g, rfl⟩ : ∃ g, f = g + 1 := ⟨f - 1, by omega⟩
    refine ⟨true, ?_, ⟨fun _ j j1 j2 => absurd j2 (by omega), fun _ => rfl⟩⟩
    rw [fM_isPrimitiveRow_2, zr_i H 14 rfl, b1_s, r.1, zqo_ge _ _ (by omega) (by omega), decide_eq_true (by omega), cond_true, b1_s, zqo_le _ _ (by omega) (by decide), decide_eq_false (by omega)]
    rfl
  | succ c ih =>
    intro f i h1 h2
    obtain ⟨g, rfl⟩ : ∃ g, f = g + 1 := ⟨f - 1, by omega⟩
    have b := zm_rob hv i 0 T.length
    rw [fM_isPrimitiveRow_2, zr_i H 14 rfl, b1_s, r.1, zqo_ge _ _ (by omega) (by omega), decide_eq_false (by omega), cond_false, zr_turned hN H r hT hv (by omega), b2, zqo_ne _ _ (by omega) (by decide)]
    by_cases e : zm_ro T i 0 T.length = 0
    · refine ⟨false, ?_, ⟨fun x => absurd x (by decide), fun x => absurd (zm_ro0.mp e) (x i (Nat.le_refl _) (by omega))⟩⟩
      rw [decide_eq_true e]
      rfl
    · obtain ⟨q, e1, e2⟩ := ih g (i + 1) (by omega) (by omega)
      refine ⟨q, ?_, e2.trans ⟨fun x j j1 j2 => ?_, fun x j j1 j2 => x j (by omega) j2⟩⟩
      · rw [decide_eq_false e, zh_inc]
        exact e1
      · by_cases ej : j = i
        · rw [ej]
          exact fun x => e (zm_ro0.mpr x)
        · exact x j (by omega) j2
theorem zr_lea2 (hN : 1000 ≤ N) (H : zr h fl a) (r : zr_rw fl a T) (hT : T.length ≤ 120) (hv : ∀ v ∈ T, v < 256) (hn : 0 < T.length) : ∀ (c f i : Nat), i + c = T.length → c < f → ∃ b : Bool, fM_isLeastRow_2 N f 232 (Int32.ofInt (i : Int)) h = some (cond b (Int32.ofInt 1) (Int32.ofInt 0), h) ∧ (b = true ↔ ∀ j, i ≤ j → j < T.length → ¬ zm_R T j 0) := by
  intro c
  induction c with
  | zero =>
    intro f i h1 h2
    obtain ⟨g, rfl⟩ : ∃ g, f = g + 1 := ⟨f - 1, by omega⟩
    refine ⟨true, ?_, ⟨fun _ j j1 j2 => absurd j2 (by omega), fun _ => rfl⟩⟩
    rw [fM_isLeastRow_2, zr_i H 14 rfl, b1_s, r.1, zqo_ge _ _ (by omega) (by omega), decide_eq_true (by omega), cond_true, b1_s, zqo_le _ _ (by omega) (by decide), decide_eq_false (by omega)]
    rfl
  | succ c ih =>
    intro f i h1 h2
    obtain ⟨g, rfl⟩ : ∃ g, f = g + 1 := ⟨f - 1, by omega⟩
    have b := zm_rob hv i 0 T.length
    rw [fM_isLeastRow_2, zr_i H 14 rfl, b1_s, r.1, zqo_ge _ _ (by omega) (by omega), decide_eq_false (by omega), cond_false, zr_turned hN H r hT hv (by omega), b2, zqo_ge _ _ (by omega) (by decide)]
    by_cases e : zm_ro T i 0 T.length < 0
    · refine ⟨false, ?_, ⟨fun x => absurd x (by decide), fun x => absurd (zm_ro1.mp e) (x i (Nat.le_refl _) (by omega))⟩⟩
      rw [decide_eq_false (by omega)]
      rfl
    · obtain ⟨q, e1, e2⟩ := ih g (i + 1) (by omega) (by omega)
      refine ⟨q, ?_, e2.trans ⟨fun x j j1 j2 => ?_, fun x j j1 j2 => x j (by omega) j2⟩⟩
      · rw [decide_eq_true (by omega), cond_true, zh_inc]
        exact e1
      · by_cases ej : j = i
        · rw [ej]
          exact fun x => e (zm_ro1.mpr x)
        · exact x j (by omega) j2
theorem zm_tuE (hn : 0 < T.length) : zw_tu T < T.length ↔ ¬ ∀ j, 1 ≤ j → j < T.length → ¬ zm_E T j 0 := by
  rw [zm_tu hn]
  obtain ⟨t1, t2, t3, t4⟩ := zm_rtE (l := T) (T.length - 1) (by omega)
  constructor
  · intro x y
    exact y _ (by omega) x (t1 x)
  · intro x
    by_cases e : zm_rt T (T.length - 1) < T.length
    · exact e
    · exact absurd (fun j j1 j2 => t4 j (by omega) (by omega)) x
theorem zm_leE (hn : 0 < T.length) : zw_lT T = 0 ↔ ∀ j, 1 ≤ j → j < T.length → ¬ zm_R T j 0 := by
  rw [zm_lT hn]
  obtain ⟨m1, m2, m3⟩ := zm_leastM hn
  constructor
  · intro x j j1 j2
    have := m2 j j2
    rw [x] at this
    exact this
  · intro x
    by_cases e : zm_least T = 0
    · exact e
    · exact absurd (m3 0 (by omega)) (x _ (by omega) m1)
theorem zr_why (hN : 1000 ≤ N) (H : zr h fl a) (tx : zr_tx a T) (hT : T.length ≤ 120) (hv : ∀ v ∈ T, v < 256) : ∃ h' fl' a', fM_why N 232 h = some (Int32.ofInt (zc_why T), h') ∧ zr h' fl' a' ∧ zr_F h h' ∧ zr_Q fl a fl' a' ∧ zr_rw fl' a' T := by
  obtain ⟨h1, f1, a1, e1, H1, F1, Q1, r1⟩ := zr_loads hN H tx hT
  refine ⟨h1, f1, a1, ?_, H1, F1, Q1, r1⟩
  unfold fM_why zc_why
  rw [zr_T H, cond_true, e1, b2, zr_i H1 14 rfl, b1_s, r1.1, zqo_ne _ _ (by omega) (by decide)]
  by_cases e : T.length = 0
  · rw [decide_eq_true (by omega), if_pos e]
    rfl
  rw [decide_eq_false (by omega), if_neg e]
  show b2 (fM_isPrimitiveRow N 232 h1) _ = _
  obtain ⟨p, p1, p2⟩ := zr_prim2 (N := N) hN H1 r1 hT hv (by omega) (T.length - 1) N 1 (by omega) (by omega)
  obtain ⟨q, q1, q2⟩ := zr_lea2 (N := N) hN H1 r1 hT hv (by omega) (T.length - 1) N 1 (by omega) (by omega)
  unfold fM_isPrimitiveRow fM_isLeastRow
  have p1 : fM_isPrimitiveRow_2 N N 232 (Int32.ofInt 1) h1 = _ := p1
  have q1 : fM_isLeastRow_2 N N 232 (Int32.ofInt 1) h1 = _ := q1
  rw [zr_T H1, cond_true, p1, b2]
  cases p with
  | false =>
    rw [if_pos ((zm_tuE (by omega)).mpr (fun x => absurd (p2.mpr x) (by decide)))]
    rfl
  | true =>
    rw [if_neg (fun x => (zm_tuE (by omega)).mp x (p2.mp rfl))]
    show b2 (cond (fT h1 232 5) (fM_isLeastRow_2 N N 232 (Int32.ofInt 1) h1) none) _ = _
    rw [zr_T H1, cond_true, q1, b2]
    cases q with
    | false =>
      rw [if_neg (fun x => absurd (q2.mpr ((zm_leE (by omega)).mp x)) (by decide))]
      rfl
    | true =>
      rw [if_pos ((zm_leE (by omega)).mpr (q2.mp rfl))]
      rfl
/-- why not, and the factor at the begin -/
theorem zm_why0 : zc_why T = 0 ↔ 0 < T.length ∧ zw_lE T 0 = T.length := by
  unfold zc_why
  by_cases e : T.length = 0
  · rw [if_pos e]
    exact ⟨fun x => absurd x (by decide), fun x => absurd x.1 (by omega)⟩
  rw [if_neg e, zm_lyn (by omega)]
  have hn : 0 < T.length := by omega
  constructor
  · intro x
    refine ⟨hn, fun r r1 r2 => ?_⟩
    by_cases e2 : zw_tu T < T.length
    · rw [if_pos e2] at x
      exact absurd x (by decide)
    rw [if_neg e2] at x
    by_cases e3 : zw_lT T = 0
    · rcases zm_roC T r 0 with y | y | y
      · exact absurd y.2 ((zm_leE hn).mp e3 r r1 r2)
      · exact absurd ((zm_tuE hn).mpr (fun z => z r r1 r2 y.2)) e2
      · exact y.2
    · rw [if_neg e3] at x
      exact absurd x (by decide)
  · intro x
    rw [if_neg (fun y => (zm_tuE hn).mp y (fun j j1 j2 z => zm_RE (x.2 j j1 j2) (zm_Es z))), if_pos ((zm_leE hn).mpr (fun j j1 j2 z => zm_Ri (zm_Rt z (x.2 j j1 j2))))]
end ZYL
end
section
/-! THE REFERENCE'S NEXT WORD. -/
theorem zw_sp0 {l : List Nat} {g : Nat} : ∀ c k, k ≤ c → (∀ j, j < k → l.getD j 0 = g) → zw_sp l g c k = 0 := by
  intro c
  induction c with
  | zero =>
    intro k h1 h2
    rw [zw_sp]
    omega
  | succ c ih =>
    intro k h1 h2
    rw [zw_sp]
    by_cases e : k = 0
    · rw [if_pos e]
    · rw [if_neg e, if_pos (h2 _ (by omega))]
      exact ih (k - 1) (by omega) (fun j hj => h2 j (by omega))
theorem zw_sp1 {l : List Nat} {g : Nat} (h0 : l.getD 0 0 ≠ g) : ∀ c k, 1 ≤ k → 1 ≤ zw_sp l g c k := by
  intro c
  induction c with
  | zero =>
    intro k h1
    rw [zw_sp]
    exact h1
  | succ c ih =>
    intro k h1
    rw [zw_sp, if_neg (by omega)]
    by_cases e : l.getD (k - 1) 0 = g
    · rw [if_pos e]
      by_cases e2 : k = 1
      · rw [e2] at e
        exact absurd e h0
      · exact ih (k - 1) (by omega)
    · rw [if_neg e]
      exact h1
theorem zw_upd {l : List Nat} {k i : Nat} (hk : k ≤ l.length) (hi : i < k) : (zw_up l k).getD i 0 = if i = k - 1 then l.getD (k - 1) 0 + 1 else l.getD i 0 := by
  unfold zw_up
  rw [zm_gs _ _ _ _ (by rw [List.length_take]; omega)]
  by_cases e : i = k - 1
  · rw [if_pos e, if_pos e]
  · rw [if_neg e, if_neg e, zr_tl _ hi]
theorem zw_upl' {l : List Nat} {k : Nat} (hk : k ≤ l.length) : (zw_up l k).length = k := by
  unfold zw_up
  rw [List.length_set, List.length_take]
  omega
section ZYM
variable {N : Nat} {h : zH} {fl fl' : Nat → Int} {a a' : Nat → Nat → Int} {bef now snap : zA} {hist : List zA} {sv t : Int} {inp : List Nat} {rep : zvP} {T : List Nat}
theorem zr_next7 {m : Nat} (hm : m ≤ 120) (tx0 : zr_tx a T) (hT : T.length ≤ 120) (hn : 0 < T.length) {fl : Nat → Int} : ∀ (c f i : Nat) (h : zH) (a1 : Nat → Nat → Int), zr h fl a1 → (∀ p j, p ≠ 239 → a1 p j = a p j) → i + c = m → c < f → (∀ j, j < i → a1 239 j = (zm_c T j : Int) - 97) → ∃ h' a', fM_nexts_7 N f 232 (Int32.ofInt (m : Int)) (Int32.ofInt (i : Int)) h = fM_nexts_39 N N 232 h' ∧ zr h' fl a' ∧ zr_F h h' ∧ (∀ p j, p ≠ 239 → a' p j = a p j) ∧ ∀ j, j < m → a' 239 j = (zm_c T j : Int) - 97 := by
  intro c
  induction c with
  | zero =>
    intro f i h a1 H h1 h2 h3 h4
    obtain ⟨g, rfl⟩ : ∃ g, f = g + 1 := ⟨f - 1, by omega⟩
    refine ⟨h, a1, ?_, H, zr_Fr h, h1, fun j hj => h4 j (by omega)⟩
    rw [fM_nexts_7, zqo_ge _ _ (by omega) (by omega), decide_eq_true (by omega), cond_true]
  | succ c ih =>
    intro f i h a1 H h1 h2 h3 h4
    obtain ⟨g, rfl⟩ : ∃ g, f = g + 1 := ⟨f - 1, by omega⟩
    have m1 := Nat.mod_lt i hn
    have g1 : fAI h 233 100 (Int32.ofInt 1) = some (Int32.ofInt (a1 233 1)) := zr_w H 1 (by decide)
    have t1 : a1 233 1 = (T.length : Int) := (h1 233 1 (by decide)).trans tx0.1
    have k1 : fAI h 233 100 (Int32.ofInt (3 + ((i % T.length : Nat) : Int))) = some (Int32.ofInt ((zm_c T i : Int) - 97)) := by
      rw [show 3 + ((i % T.length : Nat) : Int) = ((3 + i % T.length : Nat) : Int) by omega, zr_w H _ (by omega), h1 233 _ (by decide), tx0.2 _ m1]
      rfl
    obtain ⟨h5, e5, H5, F5⟩ := zr_p H 239 i (by decide) (by decide) (by show i < 130; omega) ((zm_c T i : Int) - 97)
    obtain ⟨h6, a6, e6, H6, F6, p6, r6⟩ := ih g (i + 1) h5 _ H5 (fun p j hp => (zr_vn a1 _ (Or.inl hp)).trans (h1 p j hp)) (by omega) (by omega) (fun j hj => by
      by_cases e : j = i
      · rw [e, zr_vs]
      · rw [zr_vn a1 _ (Or.inr e)]
        exact h4 j (by omega))
    refine ⟨h6, a6, ?_, H6, zr_Ft F5 F6, p6, r6⟩
    rw [fM_nexts_7, zqo_ge _ _ (by omega) (by omega), decide_eq_false (by omega), cond_false, zr_r8 H, b1_s, zr_r0 H, b1_s, b1_s, g1, b1_s, t1, if_neg (zr_nz hn (by omega)), zw_modi _ _ (by omega) (by omega), zw_add, k1, b1_s]
    have e5 : fAS h 239 100 (Int32.ofInt (i : Int)) (.int (Int32.ofInt ((zm_c T i : Int) - 97))) = some h5 := e5
    rw [e5, b1_s, zh_inc]
    exact e6
theorem zr_next39 {X : List Nat} (hX : X.length ≤ 120) (hv : ∀ j, X.getD j 0 < 256) {g : Nat} (hg : 2 ≤ g ∧ g ≤ 9) (a0 : a 233 0 = (g : Int)) (ar : ∀ j, j < X.length → a 239 j = (X.getD j 0 : Int) - 97) : ∀ (c f k : Nat) (h : zH) (fl : Nat → Int), zr h fl a → fl 14 = (k : Int) → k ≤ c → k ≤ X.length → c < f → ∃ h1 fl1, fM_nexts_39 N f 232 h = fM_nexts_81 N 232 h1 ∧ zr h1 fl1 a ∧ zr_F h h1 ∧ (∀ j, j ≠ 14 → fl1 j = fl j) ∧ fl1 14 = ((zw_sp X (97 + g - 1) c k : Nat) : Int) := by
  intro c
  induction c with
  | zero =>
    intro f k h fl H h1 h2 h3 h4
    obtain ⟨g', rfl⟩ : ∃ g, f = g + 1 := ⟨f - 1, by omega⟩
    refine ⟨h, fl, ?_, H, zr_Fr h, fun _ _ => rfl, h1⟩
    rw [fM_nexts_39, zr_i H 14 rfl, b1_s, h1, zqo_le _ _ (by omega) (by decide), decide_eq_true (by omega), cond_true]
  | succ c ih =>
    intro f k h fl H h1 h2 h3 h4
    obtain ⟨g', rfl⟩ : ∃ g, f = g + 1 := ⟨f - 1, by omega⟩
    rw [fM_nexts_39, zr_i H 14 rfl, b1_s, h1, zqo_le _ _ (by omega) (by decide), zw_sp]
    by_cases e : k = 0
    · rw [decide_eq_true (by omega), cond_true, if_pos e]
      exact ⟨h, fl, rfl, H, zr_Fr h, fun _ _ => rfl, by rw [h1, e]⟩
    rw [decide_eq_false (by omega), cond_false, if_neg e]
    have g0 : fAI h 233 100 (Int32.ofInt 0) = some (Int32.ofInt (a 233 0)) := zr_w H 0 (by decide)
    have v1 := hv (k - 1)
    rw [zr_r8 H, b1_s, b1_s, zw_sub, show (k : Int) - 1 = ((k - 1 : Nat) : Int) by omega, zr_row H _ (by omega), b1_s, zr_r0 H, b1_s, g0, b1_s, a0, ar _ (by omega), zw_sub, zqo_ne _ _ (by omega) (by omega)]
    by_cases e2 : X.getD (k - 1) 0 = 97 + g - 1
    · rw [if_pos e2, decide_eq_true (by omega)]
      obtain ⟨h5, e5, H5, F5⟩ := zr_s H 14 rfl ((k - 1 : Nat) : Int)
      obtain ⟨h6, f6, e6, H6, F6, p6, q6⟩ := ih g' (k - 1) h5 _ H5 rfl (by omega) (by omega) (by omega)
      refine ⟨h6, f6, ?_, H6, zr_Ft F5 F6, fun j hj => (p6 j hj).trans (if_neg hj), q6⟩
      rw [Bool.not_true, cond_false, b1_s, zw_sub, show (k : Int) - 1 = ((k - 1 : Nat) : Int) by omega, e5, b1_s]
      exact e6
    · rw [if_neg e2, decide_eq_false (by omega), Bool.not_false, cond_true]
      exact ⟨h, fl, rfl, H, zr_Fr h, fun _ _ => rfl, h1⟩
theorem zr_next81 {X : List Nat} (hX : X.length ≤ 120) (ar : ∀ j, j < X.length → a 239 j = (X.getD j 0 : Int) - 97) {k : Nat} (hk : k ≤ X.length) (H : zr h fl a) (h14 : fl 14 = (k : Int)) : ∃ h' a', fM_nexts_81 N 232 h = some ((), h') ∧ zr h' fl a' ∧ zr_F h h' ∧ (∀ p j, p ≠ 239 → a' p j = a p j) ∧ zr_rw fl a' (zw_up X k) := by
  unfold fM_nexts_81
  rw [zr_i H 14 rfl, b1_s, h14, zqo_le _ _ (by omega) (by decide)]
  by_cases e : k = 0
  · rw [decide_eq_true (by omega), cond_true]
    refine ⟨h, a, rfl, H, zr_Fr h, fun _ _ _ => rfl, by rw [zw_upl' hk, h14], fun i hi => ?_⟩
    rw [zw_upl' hk] at hi
    omega
  · obtain ⟨h5, e5, H5, F5⟩ := zr_p H 239 (k - 1) (by decide) (by decide) (by show k - 1 < 130; omega) ((X.getD (k - 1) 0 : Int) - 97 + 1)
    refine ⟨h5, _, ?_, H5, F5, fun p j hp => zr_vn a _ (Or.inl hp), by rw [zw_upl' hk, h14], fun i hi => ?_⟩
    · rw [decide_eq_false (by omega), cond_false, zr_r8 H, b1_s, b1_s, zw_sub, show (k : Int) - 1 = ((k - 1 : Nat) : Int) by omega, zr_row H _ (by omega), b1_s, ar _ (by omega), zw_add]
      have e5 : fAS h 239 100 (Int32.ofInt ((k - 1 : Nat) : Int)) (.int (Int32.ofInt ((X.getD (k - 1) 0 : Int) - 97 + 1))) = some h5 := e5
      rw [e5]
      rfl
    · rw [zw_upl' hk] at hi
      rw [zw_upd hk hi]
      by_cases e2 : i = k - 1
      · rw [if_pos e2, e2, zr_vs]
        omega
      · rw [if_neg e2, zr_vn a _ (Or.inr e2), ar _ (by omega)]
theorem zr_nexts (hN : 1000 ≤ N) (H : zr h fl a) (tx : zr_tx a T) (hT : T.length ≤ 120) (hv : ∀ v ∈ T, v < 256) (hn : 0 < T.length) {g : Nat} (hg : 2 ≤ g ∧ g ≤ 9) (a0 : a 233 0 = (g : Int)) {m : Nat} (hm : T.length ≤ m) (hm2 : m ≤ 120) : ∃ h' fl' a', fM_nexts N 232 (Int32.ofInt (m : Int)) h = some ((), h') ∧ zr h' fl' a' ∧ zr_F h h' ∧ zr_Q fl a fl' a' ∧ zr_rw fl' a' (zw_nx T m (97 + g - 1)) ∧ (zw_nx T m (97 + g - 1)).length = zw_sp (zw_xt T.length (m - T.length) T) (97 + g - 1) m m := by
  have xl : (zw_xt T.length (m - T.length) T).length = m := by
    rw [zw_xtl]
    omega
  have xd := zm_xt (T := T) hn (m - T.length) T (Nat.le_refl _) (fun j hj => by
    unfold zm_c
    rw [Nat.mod_eq_of_lt hj])
  obtain ⟨h1, e1, H1, F1⟩ := zr_s H 14 rfl (m : Int)
  obtain ⟨h2, a2, e2, H2, F2, p2, r2⟩ := zr_next7 (N := N) hm2 tx hT hn (fl := zr_u fl 14 (m : Int)) m N 0 h1 a H1 (fun _ _ _ => rfl) (Nat.zero_add _) (by omega) (fun j hj => absurd hj (Nat.not_lt_zero j))
  have ar : ∀ j, j < (zw_xt T.length (m - T.length) T).length → a2 239 j = ((zw_xt T.length (m - T.length) T).getD j 0 : Int) - 97 := fun j hj => by
    rw [xl] at hj
    rw [r2 j hj, xd j (by omega)]
  obtain ⟨h3, f3, e3, H3, F3, p3, q3⟩ := zr_next39 (N := N) (X := zw_xt T.length (m - T.length) T) (by omega) (fun j => by
    by_cases e : j < m
    · rw [xd j (by omega)]
      exact zm_clt hv j
    · rw [List.getD_eq_getElem?_getD, List.getElem?_eq_none (by omega)]
      exact (by decide : (0 : Nat) < 256)) hg ((p2 233 0 (by decide)).trans a0) ar m N m h2 _ H2 rfl (Nat.le_refl _) (by omega) (by omega)
  have hk := zw_spl (zw_xt T.length (m - T.length) T) (97 + g - 1) m m
  obtain ⟨h4, a4, e4, H4, F4, p4, r4⟩ := zr_next81 (N := N) (by omega) ar (k := zw_sp (zw_xt T.length (m - T.length) T) (97 + g - 1) m m) (by omega) H3 q3
  have en : zw_nx T m (97 + g - 1) = zw_up (zw_xt T.length (m - T.length) T) (zw_sp (zw_xt T.length (m - T.length) T) (97 + g - 1) m m) := by
    unfold zw_nx
    rw [if_neg (by omega), xl]
  refine ⟨h4, f3, a4, ?_, H4, zr_Ft F1 (zr_Ft F2 (zr_Ft F3 F4)), ⟨fun k hk => (p3 k hk).trans (if_neg hk), fun p i h3 h4 => (p4 p i h3).trans (p2 p i h3)⟩, by rw [en]; exact r4, by rw [en]; exact zw_upl' (by omega)⟩
  unfold fM_nexts
  rw [zr_T H, cond_true, e1, b1_s]
  have e2 : fM_nexts_7 N N 232 (Int32.ofInt (m : Int)) (Int32.ofInt 0) h1 = _ := e2
  rw [e2, e3, e4]
/-- whether a word follows, both ways -/
theorem zm_hn {g m : Nat} (hn : 0 < T.length) (hl : zw_lE T 0 = T.length) (hm : T.length ≤ m) (hv : ∀ v ∈ T, v < 97 + g) (hg : 2 ≤ g) : 0 < zw_sp (zw_xt T.length (m - T.length) T) (97 + g - 1) m m ↔ T.getD 0 0 ≠ 97 + g - 1 := by
  have xd := zm_xt (T := T) hn (m - T.length) T (Nat.le_refl _) (fun j hj => by
    unfold zm_c
    rw [Nat.mod_eq_of_lt hj])
  have c0 : zm_c T 0 = T.getD 0 0 := by
    unfold zm_c
    rw [Nat.mod_eq_of_lt hn]
  constructor
  · intro x y
    have ly := (zm_lyn hn).mp hl
    have all : ∀ j, zm_c T j = 97 + g - 1 := by
      intro j
      have ej : zm_c T j = zm_c T (j % T.length) := by
        unfold zm_c
        rw [Nat.mod_mod]
      rw [ej]
      have hj := Nat.mod_lt j hn
      by_cases e : j % T.length = 0
      · rw [e, c0, y]
      · obtain ⟨d, d1, d2, d3⟩ := ly _ (by omega) hj
        by_cases ed : d = 0
        · subst ed
          rw [Nat.add_zero, Nat.add_zero, c0, y] at d3
          have : zm_c T (j % T.length) < 97 + g := by
            unfold zm_c
            rw [Nat.mod_mod, List.getD_eq_getElem?_getD, List.getElem?_eq_getElem hj]
            exact hv _ (List.getElem_mem hj)
          omega
        · have := d2 0 (by omega)
          rw [Nat.add_zero, Nat.add_zero, c0, y] at this
          exact this.symm
    rw [zw_sp0 m m (Nat.le_refl _) (fun j hj => (xd j (by omega)).trans (all j))] at x
    exact absurd x (Nat.lt_irrefl _)
  · intro x
    exact zw_sp1 (by rw [xd 0 (by omega), c0]; exact x) m m (by omega)
theorem zy_hasNext (hN : 1000 ≤ N) (Y : zy h now hist snap sv inp rep t) (ok : zv_ok now) {m : Nat} (hm : m ≤ 120) : ∃ h', fM_hasNext N 232 (Int32.ofInt (m : Int)) h = some (cond (zs_hn now.1 now.2.1 (m : Int)) (Int32.ofInt 1) (Int32.ofInt 0), h') ∧ zy h' now hist snap sv inp rep t ∧ zr_F h h' := by
  obtain ⟨fl, a, H, R⟩ := Y
  have o2 := ok.2.1
  have o1 := ok.1
  obtain ⟨h1, f1, a1, e1, H1, F1, Q1, _⟩ := zr_why hN H (zyR_tx R) o2 (zv_256 ok)
  have R1 := zyR_Q R Q1
  have g1 : fAI h1 233 100 (Int32.ofInt 1) = some (Int32.ofInt (a1 233 1)) := zr_w H1 1 (by decide)
  have wb : zc_why now.2.1 = 0 ∨ zc_why now.2.1 = 1 ∨ zc_why now.2.1 = 2 ∨ zc_why now.2.1 = 3 := by
    unfold zc_why
    repeat' split
    all_goals omega
  unfold fM_hasNext
  rw [zr_T H, cond_true, e1, b2, zqo_ne _ _ (by omega) (by decide)]
  unfold zs_hn
  by_cases e : zc_why now.2.1 = 0
  · have w := zm_why0.mp e
    rw [decide_eq_true e, Bool.not_true, cond_false, zr_r0 H1, b1_s, g1, b1_s, R1.1.2.1, zqo_le _ _ (by omega) (by omega)]
    by_cases em : now.2.1.length ≤ m
    · obtain ⟨h2, f2, a2, e2, H2, F2, Q2, r2, l2⟩ := zr_nexts (N := N) hN H1 (zyR_tx R1) o2 (zv_256 ok) w.1 o1 R1.1.1 em hm
      have hb := zw_spl (zw_xt now.2.1.length (m - now.2.1.length) now.2.1) (97 + now.1 - 1) m m
      have hh := zm_hn (g := now.1) w.1 w.2 em (fun v hv => (ok.2.2.1 v hv).2) o1.1
      refine ⟨h2, ?_, ⟨f2, a2, H2, zyR_Q R1 Q2⟩, zr_Ft F1 F2⟩
      rw [decide_eq_true (by omega : (now.2.1.length : Int) ≤ (m : Int)), cond_true, e2, b2, zr_i H2 14 rfl, b1_s, r2.1, l2, zqo_le _ _ (by omega) (by decide), decide_eq_true w]
      by_cases e3 : now.2.1.getD 0 0 = 97 + now.1 - 1
      · have : ¬ 0 < zw_sp (zw_xt now.2.1.length (m - now.2.1.length) now.2.1) (97 + now.1 - 1) m m := fun x => hh.mp x e3
        rw [decide_eq_true (by omega), decide_eq_true e3]
        rfl
      · have := hh.mpr e3
        rw [decide_eq_false (by omega), decide_eq_false e3]
        rfl
    · refine ⟨h1, ?_, ⟨f1, a1, H1, R1⟩, F1⟩
      rw [decide_eq_false (by omega : ¬ (now.2.1.length : Int) ≤ (m : Int))]
      rfl
  · refine ⟨h1, ?_, ⟨f1, a1, H1, R1⟩, F1⟩
    rw [decide_eq_false e, decide_eq_false (fun x => e (zm_why0.mpr x)), Bool.not_false, cond_true, Bool.false_and, Bool.and_false]
    rfl
theorem zn_nextLyndon (Y : zy h now hist snap sv inp rep t) (o : zo now hist snap) (hN : 4000 ≤ N) (x : Int) (hx : -2147483648 ≤ x ∧ x < 2147483648) : (¬ (1 ≤ x ∧ x ≤ 120) ∧ ∃ h', fM_nextLyndon N 232 (Int32.ofInt x) h = some (Int32.ofInt 0, h') ∧ zy h' now hist snap sv inp rep 1 ∧ zr_F h h') ∨ ((1 ≤ x ∧ x ≤ 120) ∧ zs_hn now.1 now.2.1 x = false ∧ ∃ h', fM_nextLyndon N 232 (Int32.ofInt x) h = some (Int32.ofInt 0, h') ∧ zy h' now hist snap sv inp rep 2 ∧ zr_F h h') ∨ ((1 ≤ x ∧ x ≤ 120) ∧ zs_hn now.1 now.2.1 x = true ∧ ∃ h', fM_nextLyndon N 232 (Int32.ofInt x) h = some (Int32.ofInt ((zw_nx now.2.1 x.toNat (97 + now.1 - 1)).length : Int), h') ∧ zy h' (now.1, zw_nx now.2.1 x.toNat (97 + now.1 - 1), now.2.2) (zv_push hist now) snap sv inp rep 0 ∧ zr_F h h') := by
  obtain ⟨ok, okh, h8, oks⟩ := o
  have o1 := ok.1
  obtain ⟨fl0, a0, H0, R0⟩ := id Y
  unfold fM_nextLyndon
  rw [zr_T H0, cond_true, zr_in N x 1 120 hx (by decide) (by decide), b2]
  by_cases e : 1 ≤ x ∧ x ≤ 120
  · rw [decide_eq_true e, cond_true]
    refine Or.inr ?_
    obtain ⟨v, rfl⟩ : ∃ v : Nat, x = (v : Int) := ⟨x.toNat, by omega⟩
    obtain ⟨hh, eh, Yh, Fh⟩ := zy_hasNext (N := N) (by omega) Y ok (m := v) (by omega)
    have ec : fM_nextLyndon_15 N 232 (Int32.ofInt (v : Int)) (Int32.ofInt 0) h = cond (zs_hn now.1 now.2.1 (v : Int)) (fM_nextLyndon_35 N 232 (Int32.ofInt (v : Int)) (Int32.ofInt 0) (Int32.ofInt 0) 232 hh) (fM_nextLyndon_35 N 232 (Int32.ofInt (v : Int)) (Int32.ofInt 1) (Int32.ofInt 0) 232 hh) := by
      unfold fM_nextLyndon_15
      show b2 (fM_hasNext N 232 (Int32.ofInt (v : Int)) h) _ = _
      rw [eh, b2]
      cases zs_hn now.1 now.2.1 (v : Int) <;> rfl
    by_cases e2 : zs_hn now.1 now.2.1 (v : Int) = true
    · refine Or.inr ⟨e, e2, ?_⟩
      have e2' := e2
      unfold zs_hn at e2'
      rw [Bool.and_eq_true, Bool.and_eq_true] at e2'
      have q1 := of_decide_eq_true e2'.1
      have q2 := of_decide_eq_true e2'.2.1
      obtain ⟨h1, e1, Y1, F1⟩ := zy_two00 (N := N) Yh
      obtain ⟨h2, e3, ⟨fl, a, H, R, B⟩, F2⟩ := zy_begins (N := N) (by omega) Y1 ok
      obtain ⟨h3, f3, a3, e4, H3, F3, Q3, r3, l3⟩ := zr_nexts (N := N) (by omega) H (zyR_tx R) ok.2.1 (zv_256 ok) q2.1 o1 R.1.1 (m := v) (by omega) (by omega)
      have hb := zw_spl (zw_xt now.2.1.length (v - now.2.1.length) now.2.1) (97 + now.1 - 1) v v
      obtain ⟨h4, a4, e5, H4, F4, p4, t4⟩ := zr_takes (N := N) (by omega) H3 r3 (by omega)
      have R3 := zyR_Q R Q3
      have n4 : zy_is (a4 233) (now.1, zw_nx now.2.1 v (97 + now.1 - 1), now.2.2) := zy_isT R3.1 t4.1 t4.2 (fun j h3 h4 => p4 233 j (Or.inr ⟨h3, h4⟩))
      have Y4 : zyp h4 now (now.1, zw_nx now.2.1 v (97 + now.1 - 1), now.2.2) hist snap sv inp rep 0 := by
        refine ⟨f3, a4, H4, zyR_a R3 (fun _ _ => rfl) (fun p i hp => p4 p i (Or.inl (by omega))) n4, ?_⟩
        rw [show a4 234 = a 234 from funext fun i => (p4 234 i (Or.inl (by decide))).trans (Q3.2 234 i (by decide) (by decide))]
        exact B
      obtain ⟨h5, e6, Y5, F5⟩ := zy_remember (N := N) hN Y4 ok okh h8 (Int32.ofInt ((zw_nx now.2.1 v (97 + now.1 - 1)).length : Int))
      refine ⟨h5, ?_, Y5, zr_Ft Fh (zr_Ft F1 (zr_Ft F2 (zr_Ft F3 (zr_Ft F4 F5))))⟩
      refine ec.trans ?_
      rw [e2, cond_true]
      unfold fM_nextLyndon_35
      rw [e1, b2]
      show b2 (fM_begins N 232 h1) _ = _
      rw [e3, b2]
      unfold fM_goesOn
      rw [zr_T H, cond_true, e4, b2, e5, b2, b2, e6]
      rfl
    · have e2 : zs_hn now.1 now.2.1 (v : Int) = false := Bool.eq_false_iff.mpr e2
      refine Or.inl ⟨e, e2, ?_⟩
      obtain ⟨h1, e1, Y1, F1⟩ := zy_two01 (N := N) Yh
      refine ⟨h1, ?_, Y1, zr_Ft Fh F1⟩
      refine ec.trans ?_
      rw [e2, cond_false]
      unfold fM_nextLyndon_35
      rw [e1]
      rfl
  · rw [decide_eq_false e, cond_false]
    refine Or.inl ⟨e, ?_⟩
    obtain ⟨h1, e1, Y1, F1⟩ := zy_two1 (N := N) Y (Int32.ofInt 0)
    refine ⟨h1, ?_, Y1, F1⟩
    show fM_nextLyndon_35 N 232 (Int32.ofInt x) (Int32.ofInt 0) (Int32.ofInt 1) 232 h = _
    unfold fM_nextLyndon_35
    rw [e1]
    rfl
end ZYM
end
section
/-! THE REFERENCE'S joinKept. -/
theorem zs_one0 : ∀ c i, zs_us (fun _ => [0]) 0 c i = c := by
  intro c
  induction c with
  | zero => intro i; rfl
  | succ c ih =>
    intro i
    rw [zs_us, ih, if_neg (by rw [Nat.zero_testBit]; decide)]
    show 1 + c = c + 1
    omega
theorem zs_none {S : Nat → List Nat} {m : Nat} : ∀ c i g, zs_g S m c i g = none → g = none ∧ zs_us (fun _ => [0]) m c i = 0 := by
  intro c
  induction c with
  | zero => intro i g h; exact ⟨h, rfl⟩
  | succ c ih =>
    intro i g h
    rw [zs_g] at h
    obtain ⟨h1, h2⟩ := ih _ _ h
    cases hb : m.testBit i with
    | true =>
      rw [hb, if_pos rfl] at h1
      exact ⟨h1, by rw [zs_us, hb, if_pos rfl, h2]⟩
    | false =>
      rw [hb, if_neg (by decide)] at h1
      cases g with
      | none => cases h1
      | some x =>
        rw [zs_st] at h1
        split at h1 <;> cases h1
section ZYN
variable {N : Nat} {h : zH} {fl fl' : Nat → Int} {a a' : Nat → Nat → Int} {bef now snap : zA} {hist : List zA} {sv t : Int} {inp : List Nat} {rep : zvP} {T : List Nat}
theorem zr_shelfLength4 (H : zr h fl a) (R : zyR fl a now hist snap sv inp rep t) (ok : zv_ok now) : ∀ (c f i s : Nat), i + c = now.2.2.length → c < f → s + 40 * c ≤ 1000 → fM_shelfLength_4 N f 232 (Int32.ofInt (s : Int)) (Int32.ofInt (i : Int)) h = some (Int32.ofInt ((s + ((now.2.2.drop i).map List.length).sum : Nat) : Int), h) := by
  have o4 := ok.2.2.2.1
  have g2 : fAI h 233 100 (Int32.ofInt 2) = some (Int32.ofInt (a 233 2)) := zr_w H 2 (by decide)
  intro c
  induction c with
  | zero =>
    intro f i s h1 h2 h3
    obtain ⟨g, rfl⟩ : ∃ g, f = g + 1 := ⟨f - 1, by omega⟩
    rw [fM_shelfLength_4, zr_r0 H, b1_s, g2, b1_s, R.1.2.2.2.1, zqo_ge _ _ (by omega) (by omega), decide_eq_true (by omega), cond_true, List.drop_eq_nil_of_le (by omega)]
    rfl
  | succ c ih =>
    intro f i s h1 h2 h3
    obtain ⟨g, rfl⟩ : ∃ g, f = g + 1 := ⟨f - 1, by omega⟩
    have hi : i < now.2.2.length := by omega
    have ei : now.2.2.getD i [] = now.2.2[i] := by
      rw [List.getD_eq_getElem?_getD, List.getElem?_eq_getElem hi]
      rfl
    have o5 := (ok.2.2.2.2 _ (List.getElem_mem hi)).2.1
    have g3 : fAI h 233 100 (Int32.ofInt (123 + (i : Int))) = some (Int32.ofInt ((now.2.2[i].length : Nat) : Int)) := by
      rw [show 123 + (i : Int) = ((123 + i : Nat) : Int) by omega, zr_w H _ (by omega), (R.1.2.2.2.2 i hi).1, ei]
    rw [fM_shelfLength_4, zr_r0 H, b1_s, g2, b1_s, R.1.2.2.2.1, zqo_ge _ _ (by omega) (by omega), decide_eq_false (by omega), cond_false, b1_s, zw_add, g3, b1_s, zw_add, zh_inc, show (s : Int) + (now.2.2[i].length : Int) = ((s + now.2.2[i].length : Nat) : Int) by omega, ih g (i + 1) _ (by omega) (by omega) (by omega), List.drop_eq_getElem_cons hi, List.map_cons, List.sum_cons, Nat.add_assoc]
theorem zv_sumb (ok : zv_ok now) : ∀ l : List (List Nat), (∀ w ∈ l, w ∈ now.2.2) → (l.map List.length).sum ≤ 40 * l.length := by
  intro l
  induction l with
  | nil => intro h; exact Nat.le_refl _
  | cons w l ih =>
    intro h
    have := ih (fun x hx => h x (List.mem_cons_of_mem _ hx))
    have o5 := (ok.2.2.2.2 w (h w (List.mem_cons_self ..))).2.1
    rw [List.map_cons, List.sum_cons, List.length_cons]
    omega
theorem zr_canJoin (hN : 1000 ≤ N) (H : zr h fl a) (R : zyR fl a now hist snap sv inp rep t) (ok : zv_ok now) : fM_canJoin N 232 h = some (cond (decide (0 < now.2.2.length ∧ (now.2.2.map List.length).sum ≤ 120)) (Int32.ofInt 1) (Int32.ofInt 0), h) := by
  have o4 := ok.2.2.2.1
  have sb := zv_sumb ok now.2.2 (fun _ h => h)
  have g2 : fAI h 233 100 (Int32.ofInt 2) = some (Int32.ofInt (a 233 2)) := zr_w H 2 (by decide)
  have e := zr_shelfLength4 (N := N) H R ok now.2.2.length N 0 0 (Nat.zero_add _) (by omega) (by omega)
  rw [List.drop_zero, Nat.zero_add] at e
  have e : fM_shelfLength_4 N N 232 (Int32.ofInt 0) (Int32.ofInt 0) h = _ := e
  unfold fM_canJoin
  rw [zr_T H, cond_true, zr_r0 H, b1_s, g2, b1_s, R.1.2.2.2.1, zqo_le _ _ (by omega) (by decide)]
  by_cases e1 : now.2.2.length = 0
  · rw [decide_eq_true (by omega), cond_true, decide_eq_false (by omega)]
    rfl
  · rw [decide_eq_false (by omega), cond_false]
    unfold fM_shelfLength
    rw [zr_T H, cond_true, e, b2, zqo_gt _ _ (by omega) (by decide)]
    by_cases e2 : (now.2.2.map List.length).sum ≤ 120
    · rw [decide_eq_false (by omega), cond_false, decide_eq_true (by omega)]
      rfl
    · rw [decide_eq_true (by omega), cond_true, decide_eq_false (by omega)]
      rfl
/-- two rows of letters -/
theorem zr_compares3 (H : zr h fl a) {u v : List Nat} {p q : Nat} (hu : u.length ≤ 130) (hv : v.length ≤ 130) (hp : p + u.length ≤ 451) (hq : q + v.length ≤ 451) (u2 : ∀ i, u.getD i 0 < 256) (v2 : ∀ i, v.getD i 0 < 256) (au : ∀ i, i < u.length → a 233 (p + i) = (u.getD i 0 : Int) - 97) (av : ∀ i, i < v.length → a 233 (q + i) = (v.getD i 0 : Int) - 97) : ∀ (c f i : Nat), i + c = u.length → i ≤ v.length → c < f → ∃ z : Int, fM_compares_3 N f 232 (Int32.ofInt (p : Int)) (Int32.ofInt (u.length : Int)) (Int32.ofInt (q : Int)) (Int32.ofInt (v.length : Int)) (Int32.ofInt (i : Int)) h = some (Int32.ofInt z, h) ∧ (-1000 ≤ z ∧ z ≤ 1000) ∧ (z < 0 ↔ zw_cmp (zw_p u i u.length) (zw_p v i v.length) = -1) ∧ (z = 0 ↔ zw_cmp (zw_p u i u.length) (zw_p v i v.length) = 0) := by
  intro c
  induction c with
  | zero =>
    intro f i h1 h2 h3
    obtain ⟨g, rfl⟩ : ∃ g, f = g + 1 := ⟨f - 1, by omega⟩
    refine ⟨(u.length : Int) - (v.length : Int), ?_, by omega, ?_⟩
    · rw [fM_compares_3, zqo_ge _ _ (by omega) (by omega), decide_eq_true (by omega), cond_true]
      unfold fM_compares_63
      rw [zw_sub]
    · rw [zw_p0 (l := u) (show u.length ≤ i by omega)]
      by_cases e : v.length ≤ i
      · rw [zw_p0 (l := v) e, zw_cmp]
        omega
      · rw [zw_pc (l := v) (show i < v.length by omega) (Nat.le_refl _), zw_cmp]
        omega
  | succ c ih =>
    intro f i h1 h2 h3
    obtain ⟨g, rfl⟩ : ∃ g, f = g + 1 := ⟨f - 1, by omega⟩
    rw [fM_compares_3, zqo_ge _ _ (by omega) (by omega), decide_eq_false (by omega), cond_false, zqo_ge _ _ (by omega) (by omega), zw_pc (l := u) (show i < u.length by omega) (Nat.le_refl _)]
    by_cases e : v.length ≤ i
    · refine ⟨(u.length : Int) - (v.length : Int), ?_, by omega, ?_⟩
      · rw [decide_eq_true (by omega), cond_true]
        unfold fM_compares_63
        rw [zw_sub]
      · rw [zw_p0 (l := v) e, zw_cmp]
        omega
    · have x1 := u2 i
      have x2 := v2 i
      have g1 : fAI h 233 100 (Int32.ofInt ((p : Int) + (i : Int))) = some (Int32.ofInt ((u.getD i 0 : Int) - 97)) := by
        rw [show (p : Int) + (i : Int) = ((p + i : Nat) : Int) by omega, zr_w H _ (by omega), au i (by omega)]
      have g2 : fAI h 233 100 (Int32.ofInt ((q : Int) + (i : Int))) = some (Int32.ofInt ((v.getD i 0 : Int) - 97)) := by
        rw [show (q : Int) + (i : Int) = ((q + i : Nat) : Int) by omega, zr_w H _ (by omega), av i (by omega)]
      rw [decide_eq_false (by omega), cond_false, zr_r0 H, b1_s, zw_add, g1, b1_s, b1_s, zw_add, g2, b1_s, zqo_eq _ _ (by omega) (by omega), zw_pc (l := v) (show i < v.length by omega) (Nat.le_refl _), zw_cmp]
      by_cases e2 : u.getD i 0 = v.getD i 0
      · obtain ⟨z, z1, z2, z3⟩ := ih g (i + 1) (by omega) (by omega) (by omega)
        refine ⟨z, ?_, z2, by rw [if_pos e2]; exact z3⟩
        rw [decide_eq_true (by omega), cond_true, zh_inc]
        exact z1
      · refine ⟨(u.getD i 0 : Int) - (v.getD i 0 : Int), ?_, by omega, ?_⟩
        · rw [decide_eq_false (by omega), cond_false, b1_s, g1, b1_s, b1_s, g2, b1_s, zw_sub, show (u.getD i 0 : Int) - 97 - ((v.getD i 0 : Int) - 97) = (u.getD i 0 : Int) - (v.getD i 0 : Int) by omega]
        · rw [if_neg e2]
          by_cases e3 : u.getD i 0 < v.getD i 0
          · rw [if_pos e3]
            omega
          · rw [if_neg e3]
            omega
theorem zv_kmem {k : Nat} (hk : k < now.2.2.length) : now.2.2.getD k [] ∈ now.2.2 := by
  rw [List.getD_eq_getElem?_getD, List.getElem?_eq_getElem hk]
  exact List.getElem_mem hk
theorem zr_shelved (hN : 1000 ≤ N) (H : zr h fl a) (R : zyR fl a now hist snap sv inp rep t) (ok : zv_ok now) {j k : Nat} (hj : j < now.2.2.length) (hk : k < now.2.2.length) : ∃ z : Int, fM_shelved N 232 (Int32.ofInt (j : Int)) (Int32.ofInt (k : Int)) h = some (Int32.ofInt z, h) ∧ (-1000 ≤ z ∧ z ≤ 1000) ∧ (z < 0 ↔ zw_cmp (now.2.2.getD j []) (now.2.2.getD k []) = -1) ∧ (z = 0 ↔ zw_cmp (now.2.2.getD j []) (now.2.2.getD k []) = 0) := by
  have o4 := ok.2.2.2.1
  have o1 := ok.1.2
  have wj := ok.2.2.2.2 _ (zv_kmem hj)
  have wk := ok.2.2.2.2 _ (zv_kmem hk)
  have bj := R.1.2.2.2.2 j hj
  have bk := R.1.2.2.2.2 k hk
  obtain ⟨z, z1, z2, z3⟩ := zr_compares3 (N := N) H (u := now.2.2.getD j []) (v := now.2.2.getD k []) (p := 131 + 40 * j) (q := 131 + 40 * k) (by omega) (by omega) (by omega) (by omega) (zd_lt (fun x hx => by have := wj.2.2 x hx; omega)) (zd_lt (fun x hx => by have := wk.2.2 x hx; omega)) bj.2 bk.2 (now.2.2.getD j []).length N 0 (Nat.zero_add _) (Nat.zero_le _) (by omega)
  rw [zw_pall, zw_pall] at z3
  refine ⟨z, ?_, z2, z3⟩
  have g1 : fAI h 233 100 (Int32.ofInt (123 + (j : Int))) = some (Int32.ofInt ((now.2.2.getD j []).length : Int)) := by
    rw [show 123 + (j : Int) = ((123 + j : Nat) : Int) by omega, zr_w H _ (by omega), bj.1]
  have g2 : fAI h 233 100 (Int32.ofInt (123 + (k : Int))) = some (Int32.ofInt ((now.2.2.getD k []).length : Int)) := by
    rw [show 123 + (k : Int) = ((123 + k : Nat) : Int) by omega, zr_w H _ (by omega), bk.1]
  have c1 : ∀ i : Nat, Int32.ofInt 131 + Int32.ofInt 40 * Int32.ofInt (i : Int) = Int32.ofInt ((131 + 40 * i : Nat) : Int) := fun i => by
    rw [← Int32.ofInt_mul, ← Int32.ofInt_add]
    rfl
  have z1 : fM_compares_3 N N 232 (Int32.ofInt ((131 + 40 * j : Nat) : Int)) (Int32.ofInt ((now.2.2.getD j []).length : Int)) (Int32.ofInt ((131 + 40 * k : Nat) : Int)) (Int32.ofInt ((now.2.2.getD k []).length : Int)) (Int32.ofInt 0) h = _ := z1
  unfold fM_shelved
  rw [zr_T H, cond_true, zr_r0 H, b1_s, zw_add, g1, b1_s, b1_s, zw_add, g2, b1_s, c1, c1]
  unfold fM_compares
  rw [zr_T H, cond_true, z1]
  rfl
theorem zr_great4 (hN : 1000 ≤ N) (H : zr h fl a) (R : zyR fl a now hist snap sv inp rep t) (ok : zv_ok now) {m : Nat} (hm : m < 256) : ∀ (c f i : Nat) (g : Option Nat), i + c = now.2.2.length → c < f → (∀ j, g = some j → j < i) → fM_greatestBeside_4 N f 232 (Int32.ofInt (m : Int)) (Int32.ofInt (zs_gi g)) (Int32.ofInt (i : Int)) h = some (Int32.ofInt (zs_gi (zs_g (fun j => now.2.2.getD j []) m c i g)), h) := by
  have o4 := ok.2.2.2.1
  have g2 : fAI h 233 100 (Int32.ofInt 2) = some (Int32.ofInt (a 233 2)) := zr_w H 2 (by decide)
  intro c
  induction c with
  | zero =>
    intro f i g h1 h2 h3
    obtain ⟨y, rfl⟩ : ∃ y, f = y + 1 := ⟨f - 1, by omega⟩
    rw [fM_greatestBeside_4, zr_r0 H, b1_s, g2, b1_s, R.1.2.2.2.1, zqo_ge _ _ (by omega) (by omega), decide_eq_true (by omega), cond_true]
    rfl
  | succ c ih =>
    intro f i g h1 h2 h3
    obtain ⟨y, rfl⟩ : ∃ y, f = y + 1 := ⟨f - 1, by omega⟩
    rw [fM_greatestBeside_4, zr_r0 H, b1_s, g2, b1_s, R.1.2.2.2.1, zqo_ge _ _ (by omega) (by omega), decide_eq_false (by omega), cond_false, zs_bit m i hm (by omega), zs_g]
    unfold fM_greatestBeside_36 fM_greatestBeside_38
    cases hb : m.testBit i with
    | true =>
      rw [cond_true, if_pos rfl, zh_inc]
      exact ih y (i + 1) g (by omega) (by omega) (fun j hj => by have := h3 j hj; omega)
    | false =>
      rw [cond_false, if_neg (by decide), zh_inc]
      cases g with
      | none =>
        rw [show zs_gi none = -1 from rfl, zqo_eq _ _ (by decide) (by decide), decide_eq_true rfl, cond_true]
        exact ih y (i + 1) (some i) (by omega) (by omega) (fun j hj => by cases hj; omega)
      | some x =>
        have hx := h3 x rfl
        obtain ⟨z, z1, z2, z3, z4⟩ := zr_shelved (N := N) hN H R ok (j := i) (k := x) (by omega) (by omega)
        rw [show zs_gi (some x) = (x : Int) from rfl, zqo_eq _ _ (by omega) (by decide), decide_eq_false (by omega), cond_false, z1, b2, zqo_le _ _ (by omega) (by decide), zs_st]
        rcases zw_cmpb (now.2.2.getD i []) (now.2.2.getD x []) with w | w | w
        · have := z3.mpr w
          rw [decide_eq_true (by omega), cond_true, if_neg (by rw [w]; decide)]
          exact ih y (i + 1) (some x) (by omega) (by omega) (fun j hj => by cases hj; omega)
        · have := z4.mpr w
          rw [decide_eq_true (by omega), cond_true, if_neg (by rw [w]; decide)]
          exact ih y (i + 1) (some x) (by omega) (by omega) (fun j hj => by cases hj; omega)
        · have n1 : ¬ z < 0 := fun y => by rw [z3.mp y] at w; exact absurd w (by decide)
          have n2 : ¬ z = 0 := fun y => by rw [z4.mp y] at w; exact absurd w (by decide)
          rw [decide_eq_false (by omega), cond_false, if_pos w]
          exact ih y (i + 1) (some i) (by omega) (by omega) (fun j hj => by cases hj; omega)
end ZYN
end
section
/-! THE REFERENCE'S joinKept, the end. -/
section ZYO
variable {N : Nat} {h : zH} {fl fl' : Nat → Int} {a a' : Nat → Nat → Int} {bef now snap : zA} {hist : List zA} {sv t : Int} {inp : List Nat} {rep : zvP} {T : List Nat}
theorem zr_joins34 (ok : zv_ok now) {j : Nat} (hj : j < now.2.2.length) {x y : Int32} {k9 : Nat → Int32 → Int32 → zH → Option (Int32 × zH)} : ∀ (c f i : Nat) (h : zH) (fl : Nat → Int) (a : Nat → Nat → Int) (u : List Nat), zr h fl a → zy_is (a 233) now → zr_rw fl a u → i + c = (now.2.2.getD j []).length → c < f → u.length + c ≤ 120 → ∃ h1 fl1 a1, fM_joins_34 N f k9 232 x y (Int32.ofInt (j : Int)) (Int32.ofInt (i : Int)) h = k9 232 x (y + Int32.ofInt 1) h1 ∧ zr h1 fl1 a1 ∧ zr_F h h1 ∧ zr_Q fl a fl1 a1 ∧ zr_rw fl1 a1 (u ++ (now.2.2.getD j []).drop i) := by
  have o4 := ok.2.2.2.1
  have wj := ok.2.2.2.2 _ (zv_kmem hj)
  have c1 : ∀ i : Nat, Int32.ofInt 131 + Int32.ofInt 40 * Int32.ofInt (i : Int) = Int32.ofInt ((131 + 40 * i : Nat) : Int) := fun i => by
    rw [← Int32.ofInt_mul, ← Int32.ofInt_add]
    rfl
  intro c
  induction c with
  | zero =>
    intro f i h fl a u H A r h1 h2 h3
    obtain ⟨g, rfl⟩ : ∃ g, f = g + 1 := ⟨f - 1, by omega⟩
    have g1 : fAI h 233 100 (Int32.ofInt (123 + (j : Int))) = some (Int32.ofInt ((now.2.2.getD j []).length : Int)) := by
      rw [show 123 + (j : Int) = ((123 + j : Nat) : Int) by omega, zr_w H _ (by omega), (A.2.2.2.2 j hj).1]
    refine ⟨h, fl, a, ?_, H, zr_Fr h, zr_Qr fl a, ?_⟩
    · rw [fM_joins_34, zr_r0 H, b1_s, zw_add, g1, b1_s, zqo_ge _ _ (by omega) (by omega), decide_eq_true (by omega), cond_true]
    · rw [List.drop_eq_nil_of_le (by omega), List.append_nil]
      exact r
  | succ c ih =>
    intro f i h fl a u H A r h1 h2 h3
    obtain ⟨g, rfl⟩ : ∃ g, f = g + 1 := ⟨f - 1, by omega⟩
    have hi : i < (now.2.2.getD j []).length := by omega
    have g1 : fAI h 233 100 (Int32.ofInt (123 + (j : Int))) = some (Int32.ofInt ((now.2.2.getD j []).length : Int)) := by
      rw [show 123 + (j : Int) = ((123 + j : Nat) : Int) by omega, zr_w H _ (by omega), (A.2.2.2.2 j hj).1]
    have g2 : fAI h 233 100 (Int32.ofInt (((131 + 40 * j : Nat) : Int) + (i : Int))) = some (Int32.ofInt (((now.2.2.getD j []).getD i 0 : Int) - 97)) := by
      rw [show ((131 + 40 * j : Nat) : Int) + (i : Int) = ((131 + 40 * j + i : Nat) : Int) by omega, zr_w H _ (by omega), (A.2.2.2.2 j hj).2 i hi]
    obtain ⟨h5, f5, a5, e5, H5, F5, Q5, r5⟩ := zr_adds (N := N) H r (by omega) ((now.2.2.getD j []).getD i 0)
    have e33 : a5 233 = a 233 := funext fun i => Q5.2 233 i (by decide) (by decide)
    obtain ⟨h6, f6, a6, e6, H6, F6, Q6, r6⟩ := ih g (i + 1) h5 f5 a5 _ H5 (by rw [e33]; exact A) r5 (by omega) (by omega) (by rw [List.length_append]; show u.length + 1 + c ≤ 120; omega)
    refine ⟨h6, f6, a6, ?_, H6, zr_Ft F5 F6, zr_Qt Q5 Q6, ?_⟩
    · rw [fM_joins_34, zr_r0 H, b1_s, zw_add, g1, b1_s, zqo_ge _ _ (by omega) (by omega), decide_eq_false (by omega), cond_false, b1_s, c1, zw_add, g2, b1_s, e5, b2, zh_inc]
      exact e6
    · have ed : (now.2.2.getD j []).drop i = (now.2.2.getD j []).getD i 0 :: (now.2.2.getD j []).drop (i + 1) := by
        rw [List.drop_eq_getElem_cons hi, List.getD_eq_getElem?_getD (l := now.2.2.getD j []), List.getElem?_eq_getElem hi]
        rfl
      rw [ed, List.append_cons]
      exact r6
theorem zr_joins9 (hN : 1000 ≤ N) (ok : zv_ok now) : ∀ (c f i m : Nat) (h : zH) (fl : Nat → Int) (a : Nat → Nat → Int) (u : List Nat), zr h fl a → zyR fl a now hist snap sv inp rep t → zr_rw fl a u → i + c = now.2.2.length → c < f → m < 256 → zs_us (fun _ => [0]) m now.2.2.length 0 = c → u.length + zs_us (fun j => now.2.2.getD j []) m now.2.2.length 0 ≤ 120 → ∃ h1 fl1 a1 g, fM_joins_9 N f 232 (Int32.ofInt (m : Int)) (Int32.ofInt (i : Int)) h = b2 (fM_takes N 232 h1) (fun x4 h5 => some (x4, h5)) ∧ zr h1 fl1 a1 ∧ zr_F h h1 ∧ zr_Q fl a fl1 a1 ∧ g = zs_jn (fun j => now.2.2.getD j []) now.2.2.length c m u ∧ zr_rw fl1 a1 g ∧ g.length ≤ 120 := by
  have o4 := ok.2.2.2.1
  intro c
  induction c with
  | zero =>
    intro f i m h fl a u H R r h1 h2 h3 h4 h5
    obtain ⟨g, rfl⟩ : ∃ g, f = g + 1 := ⟨f - 1, by omega⟩
    have g2 : fAI h 233 100 (Int32.ofInt 2) = some (Int32.ofInt (a 233 2)) := zr_w H 2 (by decide)
    refine ⟨h, fl, a, u, ?_, H, zr_Fr h, zr_Qr fl a, rfl, r, by omega⟩
    rw [fM_joins_9, zr_r0 H, b1_s, g2, b1_s, R.1.2.2.2.1, zqo_ge _ _ (by omega) (by omega), decide_eq_true (by omega), cond_true]
  | succ c ih =>
    intro f i m h fl a u H R r h1 h2 h3 h4 h5
    obtain ⟨g, rfl⟩ : ∃ g, f = g + 1 := ⟨f - 1, by omega⟩
    have g2 : fAI h 233 100 (Int32.ofInt 2) = some (Int32.ofInt (a 233 2)) := zr_w H 2 (by decide)
    have e := zr_great4 (N := N) hN H R ok h3 now.2.2.length N 0 none (Nat.zero_add _) (by omega) (fun j hj => by cases hj)
    have e : fM_greatestBeside_4 N N 232 (Int32.ofInt (m : Int)) (Int32.ofInt (-1)) (Int32.ofInt 0) h = _ := e
    rw [fM_joins_9, zr_r0 H, b1_s, g2, b1_s, R.1.2.2.2.1, zqo_ge _ _ (by omega) (by omega), decide_eq_false (by omega), cond_false]
    unfold fM_greatestBeside
    rw [zr_T H, cond_true, e, b2, zs_jn]
    cases hg : zs_g (fun j => now.2.2.getD j []) m now.2.2.length 0 none with
    | none =>
      have := (zs_none _ _ _ hg).2
      omega
    | some j =>
      obtain ⟨j1, j2⟩ := zs_gb _ m now.2.2.length 0 none (fun k hk => by cases hk) j hg
      have j1 : j < now.2.2.length := by omega
      have u1 := zs_us1 (fun _ => [0]) m j h3 j2 now.2.2.length 0 (by omega) (Nat.zero_le _) (by omega)
      have u2 := zs_us1 (fun j => now.2.2.getD j []) m j h3 j2 now.2.2.length 0 (by omega) (Nat.zero_le _) (by omega)
      have u1 : zs_us (fun _ => [0]) (m ||| (1 <<< j)) now.2.2.length 0 + 1 = _ := u1
      have u2 : zs_us (fun j => now.2.2.getD j []) (m ||| (1 <<< j)) now.2.2.length 0 + (now.2.2.getD j []).length = _ := u2
      have wj := ok.2.2.2.2 _ (zv_kmem j1)
      obtain ⟨h6, f6, a6, e6, H6, F6, Q6, r6⟩ := zr_joins34 (N := N) ok j1 (x := Int32.ofInt ((m ||| (1 <<< j) : Nat) : Int)) (y := Int32.ofInt (i : Int)) (k9 := fM_joins_9 N g) (now.2.2.getD j []).length N 0 h fl a u H R.1 r (Nat.zero_add _) (by omega) (by omega)
      rw [List.drop_zero] at r6
      obtain ⟨h7, f7, a7, z, e7, H7, F7, Q7, z7, r7, l7⟩ := ih g (i + 1) (m ||| (1 <<< j)) h6 f6 a6 _ H6 (zyR_Q R Q6) r6 (by omega) (by omega) (zs_orb m j 0 h3 (by omega) (by decide)).1 (by omega) (by rw [List.length_append]; omega)
      refine ⟨h7, f7, a7, z, ?_, H7, zr_Ft F6 F7, zr_Qt Q6 Q7, z7, r7, l7⟩
      rw [show zs_gi (some j) = (j : Int) from rfl, zs_or m j h3 (by omega)]
      have e6 : fM_joins_34 N N (fM_joins_9 N g) 232 (Int32.ofInt ((m ||| (1 <<< j) : Nat) : Int)) (Int32.ofInt (i : Int)) (Int32.ofInt (j : Int)) (Int32.ofInt 0) h = _ := e6
      rw [e6, zh_inc]
      exact e7
theorem zs_usS {l : List (List Nat)} : ∀ (c i : Nat), i + c = l.length → zs_us (fun j => l.getD j []) 0 c i = ((l.drop i).map List.length).sum := by
  intro c
  induction c with
  | zero =>
    intro i h
    rw [List.drop_eq_nil_of_le (by omega)]
    rfl
  | succ c ih =>
    intro i h
    have hi : i < l.length := by omega
    rw [zs_us, if_neg (by rw [Nat.zero_testBit]; decide), ih (i + 1) (by omega), List.drop_eq_getElem_cons hi, List.map_cons, List.sum_cons]
    show (l.getD i []).length + _ = _
    rw [List.getD_eq_getElem?_getD, List.getElem?_eq_getElem hi]
    rfl
theorem zn_joinKept (Y : zy h now hist snap sv inp rep t) (o : zo now hist snap) (hN : 4000 ≤ N) : (¬ (0 < now.2.2.length ∧ (now.2.2.map List.length).sum ≤ 120) ∧ ∃ h', fM_joinKept N 232 h = some (Int32.ofInt 0, h') ∧ zy h' now hist snap sv inp rep 1 ∧ zr_F h h') ∨ ((0 < now.2.2.length ∧ (now.2.2.map List.length).sum ≤ 120) ∧ ∃ h', fM_joinKept N 232 h = some (Int32.ofInt ((zv_jn now.2.2).length : Int), h') ∧ zy h' (now.1, zv_jn now.2.2, now.2.2) (zv_push hist now) snap sv inp rep 0 ∧ zr_F h h') := by
  obtain ⟨ok, okh, h8, oks⟩ := o
  have o4 := ok.2.2.2.1
  obtain ⟨fl0, a0, H0, R0⟩ := id Y
  unfold fM_joinKept
  rw [zr_T H0, cond_true, zr_canJoin (by omega) H0 R0 ok, b2]
  by_cases e : 0 < now.2.2.length ∧ (now.2.2.map List.length).sum ≤ 120
  · rw [decide_eq_true e, cond_true]
    refine Or.inr ⟨e, ?_⟩
    obtain ⟨h1, e1, Y1, F1⟩ := zy_one0 (N := N) Y
    obtain ⟨h2, e2, ⟨fl, a, H, R, B⟩, F2⟩ := zy_begins (N := N) (by omega) Y1 ok
    obtain ⟨h3, e3, H3, F3⟩ := zr_s H 14 rfl 0
    have Q3 : zr_Q fl a (zr_u fl 14 0) a := ⟨fun k hk => if_neg hk, fun _ _ _ _ => rfl⟩
    have us := zs_usS (l := now.2.2) now.2.2.length 0 (Nat.zero_add _)
    rw [List.drop_zero] at us
    obtain ⟨h4, f4, a4, z, e4, H4, F4, Q4, z4, r4, l4⟩ := zr_joins9 (N := N) (by omega) ok now.2.2.length N 0 0 h3 _ a [] H3 (zyR_Q R Q3) ⟨rfl, fun i hi => by cases hi⟩ (Nat.zero_add _) (by omega) (by decide) (zs_one0 _ _) (by rw [us]; show 0 + _ ≤ 120; omega)
    have z4 : z = zv_jn now.2.2 := z4
    subst z4
    have Q := zr_Qt Q3 Q4
    obtain ⟨h5, a5, e5, H5, F5, p5, t5⟩ := zr_takes (N := N) (by omega) H4 r4 l4
    have R4 := zyR_Q R Q
    have n5 : zy_is (a5 233) (now.1, zv_jn now.2.2, now.2.2) := zy_isT R4.1 t5.1 t5.2 (fun j h3 h4 => p5 233 j (Or.inr ⟨h3, h4⟩))
    have Y5 : zyp h5 now (now.1, zv_jn now.2.2, now.2.2) hist snap sv inp rep 0 := by
      refine ⟨f4, a5, H5, zyR_a R4 (fun _ _ => rfl) (fun p i hp => p5 p i (Or.inl (by omega))) n5, ?_⟩
      rw [show a5 234 = a 234 from funext fun i => (p5 234 i (Or.inl (by decide))).trans (Q.2 234 i (by decide) (by decide))]
      exact B
    obtain ⟨h6, e6, Y6, F6⟩ := zy_remember (N := N) hN Y5 ok okh h8 (Int32.ofInt ((zv_jn now.2.2).length : Int))
    refine ⟨h6, ?_, Y6, zr_Ft F1 (zr_Ft F2 (zr_Ft F3 (zr_Ft F4 (zr_Ft F5 F6))))⟩
    show fM_joinKept_13 N 232 (Int32.ofInt 0) 232 h = _
    unfold fM_joinKept_13
    rw [e1, b2]
    show b2 (fM_begins N 232 h1) _ = _
    have e4 : fM_joins_9 N N 232 (Int32.ofInt 0) (Int32.ofInt 0) h3 = _ := e4
    rw [e2, b2]
    unfold fM_joins
    rw [zr_T H, cond_true, e3, b1_s, e4, e5, b2, b2, e6]
    rfl
  · rw [decide_eq_false e, cond_false]
    refine Or.inl ⟨e, ?_⟩
    obtain ⟨h1, e1, Y1, F1⟩ := zy_one1 (N := N) Y
    refine ⟨h1, ?_, Y1, F1⟩
    show fM_joinKept_13 N 232 (Int32.ofInt 1) 232 h = _
    unfold fM_joinKept_13
    rw [e1]
    rfl
end ZYO
end
