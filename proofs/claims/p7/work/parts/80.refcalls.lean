/-! THE REFERENCE'S SHELF. -/
theorem zm_itc {l : List Nat} : ∀ c s, s ≤ l.length → l.length ≤ s + c → (∀ k, k < (zm_it l c s).length → ((zm_it l c s).getD k (0, 0)).2 = zw_lE l ((zm_it l c s).getD k (0, 0)).1 ∧ ((zm_it l c s).getD k (0, 0)).1 < l.length ∧ (k + 1 < (zm_it l c s).length → ((zm_it l c s).getD (k + 1) (0, 0)).1 = ((zm_it l c s).getD k (0, 0)).2) ∧ (k + 1 = (zm_it l c s).length → ((zm_it l c s).getD k (0, 0)).2 = l.length)) ∧ (s < l.length → 0 < (zm_it l c s).length ∧ ((zm_it l c s).getD 0 (0, 0)).1 = s) ∧ (s = l.length → (zm_it l c s).length = 0) := by
  intro c
  induction c with
  | zero =>
    intro s h1 h2
    exact ⟨fun k hk => absurd hk (Nat.not_lt_zero k), fun h => absurd h (by omega), fun _ => rfl⟩
  | succ c ih =>
    intro s h1 h2
    rw [zm_it]
    by_cases e : l.length ≤ s
    · rw [if_pos e]
      exact ⟨fun k hk => absurd hk (Nat.not_lt_zero k), fun h => absurd h (by omega), fun _ => rfl⟩
    · rw [if_neg e]
      have b := zw_lEb (l := l) (s := s) (by omega)
      obtain ⟨i1, i2, i3⟩ := ih (zw_lE l s) (by omega) (by omega)
      refine ⟨?_, fun _ => ⟨Nat.succ_pos _, rfl⟩, fun h => absurd h (by omega)⟩
      intro k hk
      cases k with
      | zero =>
        refine ⟨rfl, by show s < l.length; omega, fun h3 => ?_, fun h3 => ?_⟩
        · have h4 : 0 < (zm_it l c (zw_lE l s)).length := by
            rw [List.length_cons] at h3
            omega
          by_cases e2 : zw_lE l s = l.length
          · have := i3 e2
            omega
          · exact (i2 (by omega)).2
        · rw [List.length_cons] at h3
          by_cases e2 : zw_lE l s = l.length
          · exact e2
          · have := (i2 (by omega)).1
            omega
      | succ k =>
        rw [List.length_cons] at hk
        obtain ⟨j1, j2, j3, j4⟩ := i1 k (by omega)
        refine ⟨j1, j2, fun h3 => j3 ?_, fun h3 => j4 ?_⟩
        · rw [List.length_cons] at h3
          omega
        · rw [List.length_cons] at h3
          omega
/-- a factor, both ways -/
theorem zr_fk {a : Nat → Nat → Int} {T : List Nat} (f : zr_fs a T) {k : Nat} (hk : k < (zw_fs T).length) : ∃ b : Nat, zw_bF T (k : Int) = (b : Int) ∧ b < T.length ∧ a 240 k = (b : Int) ∧ a 240 (k + 1) = (zw_lE T b : Int) ∧ b < zw_lE T b ∧ zw_lE T b ≤ T.length := by
  have hf := zm_fs T
  obtain ⟨i1, _, _⟩ := zm_itc (l := T) T.length 0 (Nat.zero_le _) (by omega)
  rw [← hf] at i1
  obtain ⟨j1, j2, j3, j4⟩ := i1 k hk
  have b := zw_lEb (l := T) (s := ((zw_fs T).getD k (0, 0)).1) j2
  refine ⟨((zw_fs T).getD k (0, 0)).1, ?_, j2, f.1 k hk, ?_, by omega, by omega⟩
  · unfold zw_bF
    rw [if_neg (by omega), List.getD_eq_getElem?_getD, show ((k : Int)).toNat = k from rfl, List.getElem?_eq_getElem hk]
    rfl
  · rw [← j1]
    by_cases e : k + 1 < (zw_fs T).length
    · rw [f.1 _ e, j3 e]
    · have e : k + 1 = (zw_fs T).length := by omega
      rw [e, f.2, j4 e]
theorem zw_bFn {T : List Nat} {x : Int} (h : ¬ (0 ≤ x ∧ x ≤ ((zw_fs T).length : Int) - 1)) : zw_bF T x = -1 := by
  unfold zw_bF
  by_cases e : x < 0
  · rw [if_pos e]
  · rw [if_neg e, List.getElem?_eq_none (by omega)]
    rfl
theorem zm_fsl (T : List Nat) : (zw_fs T).length ≤ T.length := by
  rw [zm_fs T]
  exact (zm_itn T.length 0).1
section ZYI
variable {N : Nat} {h : zH} {fl fl' : Nat → Int} {a a' : Nat → Nat → Int} {bef now snap : zA} {hist : List zA} {sv t : Int} {inp : List Nat} {rep : zvP} {T : List Nat}
theorem zr_canKeepText (H : zr h fl a) (R : zyR fl a now hist snap sv inp rep t) (ok : zv_ok now) : fM_canKeepText N 232 h = some (cond (decide (1 ≤ now.2.1.length ∧ now.2.1.length ≤ 40 ∧ now.2.2.length < 8)) (Int32.ofInt 1) (Int32.ofInt 0), h) := by
  have o2 := ok.2.1
  have o4 := ok.2.2.2.1
  have g1 : fAI h 233 100 (Int32.ofInt 1) = some (Int32.ofInt (a 233 1)) := zr_w H 1 (by decide)
  have g2 : fAI h 233 100 (Int32.ofInt 2) = some (Int32.ofInt (a 233 2)) := zr_w H 2 (by decide)
  unfold fM_canKeepText
  rw [zr_T H, cond_true, zr_r0 H, b1_s, g2, b1_s, R.1.2.2.2.1, zqo_ge _ _ (by omega) (by decide)]
  by_cases e : now.2.2.length < 8
  · rw [decide_eq_false (by omega : ¬ (8 : Int) ≤ (now.2.2.length : Int)), cond_false, b1_s, g1, b1_s, R.1.2.1, zr_in N _ 1 40 (by omega) (by decide) (by decide), b2]
    by_cases e2 : 1 ≤ now.2.1.length ∧ now.2.1.length ≤ 40
    · rw [decide_eq_true (by omega : (1 : Int) ≤ (now.2.1.length : Int) ∧ (now.2.1.length : Int) ≤ 40), decide_eq_true (by omega)]
      rfl
    · rw [decide_eq_false (by omega : ¬ ((1 : Int) ≤ (now.2.1.length : Int) ∧ (now.2.1.length : Int) ≤ 40)), decide_eq_false (by omega)]
      rfl
  · rw [decide_eq_true (by omega : (8 : Int) ≤ (now.2.2.length : Int)), cond_true, decide_eq_false (by omega)]
    rfl
theorem zn_keepText (Y : zy h now hist snap sv inp rep t) (o : zo now hist snap) (hN : 4000 ≤ N) : (¬ (1 ≤ now.2.1.length ∧ now.2.1.length ≤ 40 ∧ now.2.2.length < 8) ∧ ∃ h', fM_keepText N 232 h = some (Int32.ofInt 0, h') ∧ zy h' now hist snap sv inp rep 1 ∧ zr_F h h') ∨ ((1 ≤ now.2.1.length ∧ now.2.1.length ≤ 40 ∧ now.2.2.length < 8) ∧ ∃ h', fM_keepText N 232 h = some (Int32.ofInt ((now.2.2.length + 1 : Nat) : Int), h') ∧ zy h' (now.1, now.2.1, now.2.2 ++ [now.2.1]) (zv_push hist now) snap sv inp rep 0 ∧ zr_F h h') := by
  obtain ⟨ok, okh, h8, oks⟩ := o
  obtain ⟨fl0, a0, H0, R0⟩ := id Y
  unfold fM_keepText
  rw [zr_T H0, cond_true, zr_canKeepText H0 R0 ok, b2]
  by_cases e : 1 ≤ now.2.1.length ∧ now.2.1.length ≤ 40 ∧ now.2.2.length < 8
  · rw [decide_eq_true e, cond_true]
    refine Or.inr ⟨e, ?_⟩
    obtain ⟨h1, e1, Y1, F1⟩ := zy_one0 (N := N) Y
    obtain ⟨h2, e2, Y2, F2⟩ := zy_begins (N := N) (by omega) Y1 ok
    obtain ⟨fl, a, H, R, B⟩ := id Y2
    have g1 : fAI h2 233 100 (Int32.ofInt 1) = some (Int32.ofInt (a 233 1)) := zr_w H 1 (by decide)
    obtain ⟨h3, e3, Y3, F3⟩ := zy_shelves (N := N) (by omega) Y2 ok 0 now.2.1.length (by omega) (by omega) (by omega)
    rw [Nat.zero_add, zw_pall] at Y3
    obtain ⟨h4, e4, Y4, F4⟩ := zy_remember (N := N) hN Y3 ok okh h8 (Int32.ofInt ((now.2.2.length + 1 : Nat) : Int))
    refine ⟨h4, ?_, Y4, zr_Ft F1 (zr_Ft F2 (zr_Ft F3 F4))⟩
    show fM_keepText_13 N 232 (Int32.ofInt 0) 232 h = _
    unfold fM_keepText_13
    rw [e1, b2]
    show b2 (fM_begins N 232 h1) _ = _
    rw [e2, b2, zr_r0 H, b1_s, g1, b1_s, R.1.2.1]
    show b2 (fM_shelves N 232 (Int32.ofInt ((0 : Nat) : Int)) (Int32.ofInt (now.2.1.length : Int)) h2) _ = _
    rw [e3, b2, e4]
    rfl
  · rw [decide_eq_false e, cond_false]
    refine Or.inl ⟨e, ?_⟩
    obtain ⟨h1, e1, Y1, F1⟩ := zy_one1 (N := N) Y
    refine ⟨h1, ?_, Y1, F1⟩
    show fM_keepText_13 N 232 (Int32.ofInt 1) 232 h = _
    unfold fM_keepText_13
    rw [e1]
    rfl
/-- the factors are looked up -/
theorem zy_factors (hN : 1000 ≤ N) (Y : zy h now hist snap sv inp rep t) (ok : zv_ok now) : ∃ h', fM_factors N 232 h = some (Int32.ofInt ((zw_fs now.2.1).length : Int), h') ∧ (∃ fl a, zr h' fl a ∧ zyR fl a now hist snap sv inp rep t ∧ zr_fs a now.2.1) ∧ zy h' now hist snap sv inp rep t ∧ zr_F h h' := by
  obtain ⟨fl, a, H, R⟩ := Y
  obtain ⟨h2, f2, a2, e2, H2, F2, Q2, _, S2⟩ := zr_factors hN H (zyR_tx R) ⟨by have := ok.2.1; omega, zv_256 ok⟩ ok.2.1
  exact ⟨h2, e2, ⟨f2, a2, H2, zyR_Q R Q2, S2⟩, ⟨f2, a2, H2, zyR_Q R Q2⟩, F2⟩
theorem zyp_factors (hN : 1000 ≤ N) (Y : zyp h bef now hist snap sv inp rep t) (ok : zv_ok now) : ∃ h', fM_factors N 232 h = some (Int32.ofInt ((zw_fs now.2.1).length : Int), h') ∧ (∃ fl a, zr h' fl a ∧ zyR fl a now hist snap sv inp rep t ∧ zr_fs a now.2.1) ∧ zyp h' bef now hist snap sv inp rep t ∧ zr_F h h' := by
  obtain ⟨fl, a, H, R, B⟩ := Y
  obtain ⟨h2, f2, a2, e2, H2, F2, Q2, _, S2⟩ := zr_factors hN H (zyR_tx R) ⟨by have := ok.2.1; omega, zv_256 ok⟩ ok.2.1
  refine ⟨h2, e2, ⟨f2, a2, H2, zyR_Q R Q2, S2⟩, ⟨f2, a2, H2, zyR_Q R Q2, ?_⟩, F2⟩
  rw [show a2 234 = a 234 from funext fun i => Q2.2 234 i (by decide) (by decide)]
  exact B
theorem zr_canKeepFactor (H : zr h fl a) (R : zyR fl a now hist snap sv inp rep t) (ok : zv_ok now) (S : zr_fs a now.2.1) {k b : Nat} (hk : k < (zw_fs now.2.1).length) (hb : zw_bF now.2.1 (k : Int) = (b : Int)) : fM_canKeepFactor N 232 (Int32.ofInt (k : Int)) h = some (cond (decide (zw_lE now.2.1 b - b ≤ 40 ∧ now.2.2.length < 8)) (Int32.ofInt 1) (Int32.ofInt 0), h) := by
  have o2 := ok.2.1
  have o4 := ok.2.2.2.1
  have o5 := zm_fsl now.2.1
  obtain ⟨b', b1, b2', b3, b4, b5, b6⟩ := zr_fk S hk
  have eb : b' = b := by omega
  subst eb
  have g2 : fAI h 233 100 (Int32.ofInt 2) = some (Int32.ofInt (a 233 2)) := zr_w H 2 (by decide)
  have g3 : fAI h 240 100 (Int32.ofInt ((k : Int) + 1)) = some (Int32.ofInt (a 240 (k + 1))) := zr_st H (k + 1) (by omega)
  unfold fM_canKeepFactor
  rw [zr_T H, cond_true, zr_r0 H, b1_s, g2, b1_s, R.1.2.2.2.1, zqo_ge _ _ (by omega) (by decide)]
  by_cases e : now.2.2.length < 8
  · rw [decide_eq_false (by omega : ¬ (8 : Int) ≤ (now.2.2.length : Int)), cond_false, zr_r9 H, b1_s, zw_add, g3, b1_s, b1_s, zr_st H k (by omega), b1_s, b3, b4, zw_sub, zqo_gt _ _ (by omega) (by decide)]
    by_cases e2 : zw_lE now.2.1 b' - b' ≤ 40
    · rw [decide_eq_false (by omega : ¬ (40 : Int) < (zw_lE now.2.1 b' : Int) - (b' : Int)), decide_eq_true ⟨e2, e⟩]
      rfl
    · rw [decide_eq_true (by omega : (40 : Int) < (zw_lE now.2.1 b' : Int) - (b' : Int)), decide_eq_false (fun x => e2 x.1)]
      rfl
  · rw [decide_eq_true (by omega : (8 : Int) ≤ (now.2.2.length : Int)), cond_true, decide_eq_false (fun x => e x.2)]
    rfl
theorem zy_keepsFactor (hN : 1000 ≤ N) (Y : zyp h bef now hist snap sv inp rep t) (ok : zv_ok now) {k b : Nat} (hk : k < (zw_fs now.2.1).length) (hb : zw_bF now.2.1 (k : Int) = (b : Int)) (h40 : zw_lE now.2.1 b - b ≤ 40) (hK : now.2.2.length < 8) : ∃ h', fM_keepsFactor N 232 (Int32.ofInt (k : Int)) h = some (Int32.ofInt ((now.2.2.length + 1 : Nat) : Int), h') ∧ zyp h' bef (now.1, now.2.1, now.2.2 ++ [zw_p now.2.1 b (zw_lE now.2.1 b)]) hist snap sv inp rep t ∧ zr_F h h' := by
  have o2 := ok.2.1
  have o5 := zm_fsl now.2.1
  obtain ⟨h1, e1, ⟨fl, a, H, R, S⟩, Y1, F1⟩ := zyp_factors hN Y ok
  obtain ⟨b', b1, b2', b3, b4, b5, b6⟩ := zr_fk S hk
  have eb : b' = b := by omega
  subst eb
  obtain ⟨h2, e2, Y2, F2⟩ := zy_shelves (N := N) hN Y1 ok b' (zw_lE now.2.1 b' - b') (by omega) h40 hK
  rw [show b' + (zw_lE now.2.1 b' - b') = zw_lE now.2.1 b' by omega] at Y2
  refine ⟨h2, ?_, Y2, zr_Ft F1 F2⟩
  have g3 : fAI h1 240 100 (Int32.ofInt ((k : Int) + 1)) = some (Int32.ofInt (a 240 (k + 1))) := zr_st H (k + 1) (by omega)
  obtain ⟨fl0, a0, H0, _⟩ := Y
  unfold fM_keepsFactor
  rw [zr_T H0, cond_true, e1, b2, zr_r9 H, b1_s, zr_st H k (by omega), b1_s, b1_s, zw_add, g3, b1_s, b1_s, zr_st H k (by omega), b1_s, b3, b4, zw_sub, show (zw_lE now.2.1 b' : Int) - (b' : Int) = ((zw_lE now.2.1 b' - b' : Nat) : Int) by omega, e2]
  rfl
end ZYI
