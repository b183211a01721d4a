/-! violations OF THE REFERENCE. -/
theorem zm_vfall {T : List Nat} {k : Nat} (hk : k + 1 < (zw_fs T).length) : zw_cmp (zw_p T ((zw_fs T).getD (k + 1) (0, 0)).1 ((zw_fs T).getD (k + 1) (0, 0)).2) (zw_p T ((zw_fs T).getD k (0, 0)).1 ((zw_fs T).getD k (0, 0)).2) ≠ 1 := by
  obtain ⟨i1, _, _⟩ := zm_itc (l := T) T.length 0 (Nat.zero_le _) (by omega)
  rw [← zm_fs T] at i1
  obtain ⟨j1, j2, j3, _⟩ := i1 k (by omega)
  obtain ⟨k1, k2, _, _⟩ := i1 (k + 1) hk
  have e := j3 hk
  have := zm_ffall (l := T) (s := ((zw_fs T).getD k (0, 0)).1) j2 (by rw [← j1, ← e]; exact k2)
  rw [← j1, ← e, ← k1] at this
  rw [← e]
  exact this
section ZYZ
variable {N : Nat} {h : zH} {fl fl' : Nat → Int} {a a' : Nat → Nat → Int} {now snap : zA} {hist : List zA} {sv t : Int} {inp : List Nat} {rep : zvP} {T : List Nat}
theorem zr_viol38 (hN : 1000 ≤ N) (H : zr h fl a) (tx : zr_tx a T) (hT : T.length ≤ 120) (hv : ∀ v ∈ T, v < 256) (S : zr_fs a T) : ∀ (c f i : Nat), i + c = (zw_fs T).length → 1 ≤ i → c < f → fM_violations_38 N f 232 (Int32.ofInt ((zw_fs T).length : Int)) (Int32.ofInt 0) (Int32.ofInt (i : Int)) h = some (Int32.ofInt 0, h) := by
  have fl := zm_fsl T
  intro c
  induction c with
  | zero =>
    intro f i h1 h2 h3
    obtain ⟨y, rfl⟩ : ∃ y, f = y + 1 := ⟨f - 1, by omega⟩
    rw [fM_violations_38, zqo_ge _ _ (by omega) (by omega), decide_eq_true (by omega), cond_true]
  | succ c ih =>
    intro f i h1 h2 h3
    obtain ⟨y, rfl⟩ : ∃ y, f = y + 1 := ⟨f - 1, by omega⟩
    obtain ⟨k, rfl⟩ : ∃ k, i = k + 1 := ⟨i - 1, by omega⟩
    obtain ⟨s1, s2, s3, s4⟩ := zr_fk2 S (show k + 1 < (zw_fs T).length by omega)
    obtain ⟨t1, t2, t3, t4⟩ := zr_fk2 S (show k < (zw_fs T).length by omega)
    have u1 := ((zm_fk (T := T)).1 k (by omega)).1 (by omega)
    have gi : fAI h 240 100 (Int32.ofInt (((k + 1 : Nat) : Int) + 1)) = some (Int32.ofInt (a 240 (k + 1 + 1))) := zr_st H (k + 1 + 1) (by omega)
    obtain ⟨q, q1, q2, q3, q4⟩ := zr_cmpT (N := N) hN H tx hT hv (x := ((zw_fs T).getD (k + 1) (0, 0)).1) (y := ((zw_fs T).getD (k + 1) (0, 0)).2) (z := ((zw_fs T).getD k (0, 0)).1) (w := ((zw_fs T).getD (k + 1) (0, 0)).1) (by omega) s4 (by omega) (by omega)
    have vf := zm_vfall (T := T) (k := k) (by omega)
    rw [← u1] at vf
    have q5 : q ≤ 0 := by
      rcases zw_cmpb (zw_p T ((zw_fs T).getD (k + 1) (0, 0)).1 ((zw_fs T).getD (k + 1) (0, 0)).2) (zw_p T ((zw_fs T).getD k (0, 0)).1 ((zw_fs T).getD (k + 1) (0, 0)).1) with w | w | w
      · have := q3.mpr w
        omega
      · have := q4.mpr w
        omega
      · exact absurd w vf
    rw [fM_violations_38, zqo_ge _ _ (by omega) (by omega), decide_eq_false (by omega), cond_false, zr_r9 H, b1_s, zw_add, gi, b1_s, b1_s, zr_st H (k + 1) (by omega), b1_s, b1_s, zr_st H (k + 1) (by omega), b1_s, b1_s, zw_sub, show ((k + 1 : Nat) : Int) - 1 = (k : Int) by omega, zr_st H k (by omega), b1_s, b1_s, zr_st H (k + 1) (by omega), b1_s, b1_s, zr_st H k (by omega), b1_s, s1, s2, t1, zw_add, zw_sub, zw_add, zw_sub, q1, b2, zqo_le _ _ (by omega) (by decide), decide_eq_true q5, cond_true]
    unfold fM_violations_108
    rw [show Int32.ofInt 0 + Int32.ofInt 0 = Int32.ofInt 0 from rfl, zh_inc]
    exact ih y (k + 1 + 1) (by omega) (by omega) (by omega)
theorem zn_violations (Y : zy h now hist snap sv inp rep t) (ok : zv_ok now) (hN : 4000 ≤ N) : ∃ h', fM_violations N 232 h = some (Int32.ofInt 0, h') ∧ zy h' now hist snap sv inp rep 0 ∧ zr_F h h' := by
  have o2 := ok.2.1
  have fb := zm_fsl now.2.1
  obtain ⟨h1, e1, Y1, F1⟩ := zy_throw Y 0
  obtain ⟨h2, e2, ⟨fl, a, H, R, S⟩, Y2, F2⟩ := zy_factors (N := N) (by omega) Y1 ok
  obtain ⟨fl0, a0, H0, R0⟩ := Y
  refine ⟨h2, ?_, Y2, zr_Ft F1 F2⟩
  unfold fM_violations
  rw [zr_T H0, cond_true, e1, b1_s, e2, b2, zqo_le _ _ (by omega) (by decide)]
  by_cases e : (zw_fs now.2.1).length = 0
  · obtain ⟨g, hg⟩ : ∃ g, N = g + 1 := ⟨N - 1, by omega⟩
    rw [decide_eq_true (by omega), cond_true]
    unfold fM_violations_34 fM_violations_35
    have st : ∀ x y z, fM_violations_38 N N 232 x y z h2 = fM_violations_38 N (g + 1) 232 x y z h2 := fun x y z => by rw [← hg]
    rw [st, fM_violations_38, zqo_ge _ _ (by decide) (by omega), decide_eq_true (by omega), cond_true]
  · have q := zr_viol38 (N := N) (by omega) H (zyR_tx R) o2 (zv_256 ok) S ((zw_fs now.2.1).length - 1) N 1 (by omega) (Nat.le_refl 1) (by omega)
    have q : fM_violations_38 N N 232 (Int32.ofInt ((zw_fs now.2.1).length : Int)) (Int32.ofInt 0) (Int32.ofInt 1) h2 = _ := q
    have hk := zr_fk2 S (show (zw_fs now.2.1).length - 1 < (zw_fs now.2.1).length by omega)
    rw [decide_eq_false (by omega), cond_false, zr_r9 H, b1_s, zw_sub, show ((zw_fs now.2.1).length : Int) - 1 = (((zw_fs now.2.1).length - 1 : Nat) : Int) by omega, zr_st H _ (by omega), b1_s, hk.1, zr_suffix (by omega) H (zyR_tx R) o2 (zv_256 ok) (Or.inl rfl), b2, zm_last (by omega), zqo_eq _ _ (by omega) (by omega), decide_eq_true rfl, cond_true]
    unfold fM_violations_34 fM_violations_35
    exact q
end ZYZ
