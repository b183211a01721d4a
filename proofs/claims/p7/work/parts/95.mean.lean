/-! meanFactor, both sides. -/
def zc_mean (n c : Nat) : UInt64 := if c = 0 then FP.dconst0 else FP.ddiv (FP.i2d (Int32.ofInt (n : Int))) (FP.i2d (Int32.ofInt (c : Int)))
theorem zc_meanok {n c : Nat} (hn : n < 121) (hc : c < 121) (h0 : c ≠ 0) : FP.ddiv (FP.i2d (Int32.ofInt (n : Int))) (FP.i2d (Int32.ofInt (c : Int))) &&& 0x7fffffffffffffff ≤ 0x7ff0000000000000 := by
  have h := List.all_eq_true.mp (show ((List.range 121).all fun n => (List.range 121).all fun c => c == 0 || decide (FP.ddiv (FP.i2d (Int32.ofInt (n : Int))) (FP.i2d (Int32.ofInt (c : Int))) &&& 0x7fffffffffffffff ≤ 0x7ff0000000000000)) = true by decide +kernel) n (List.mem_range.mpr hn)
  have h2 := List.all_eq_true.mp h c (List.mem_range.mpr hc)
  rw [Bool.or_eq_true] at h2
  rcases h2 with h2 | h2
  · exact absurd (eq_of_beq h2) h0
  · exact of_decide_eq_true h2
section ZYY
variable {N : Nat} {h : zH} {now snap : zA} {hist : List zA} {sv t : Int} {inp : List Nat} {rep : zvP} {sL : Nat → Nat} {sT : Nat → List Nat} {sS : Nat → Nat → List Nat} {sK : Nat → Nat} {wd : Nat → List Nat} {nu : Nat → Int} {hs : Nat → Nat}
theorem zq_meanFactor (C : zc h sL sT sS sK wd nu hs) (hN : 3000 ≤ N) : fB_meanFactor N 0 h = some (zc_mean (sT 1).length (zw_fs (sT 1)).length, h) := by
  have W := zc_txt C
  have tl := W.2.2.2.1
  have fb := zm_fsl (sT 1)
  unfold fB_meanFactor zc_mean
  rw [zc_T0 C, cond_true, zc_r00 C, b1_s, zs_t (zc_now C), b1_s, zw_count W (by omega), b2, zqo_ne _ _ (by omega) (by decide)]
  by_cases e : (zw_fs (sT 1)).length = 0
  · rw [decide_eq_true (by omega), if_pos e]
    rfl
  · rw [decide_eq_false (by omega), if_neg e, Bool.not_false, cond_true, zc_r00 C, b1_s, zs_t (zc_now C), b1_s, zw_z W, b1_s, if_pos (zc_meanok (by omega) (by omega) e)]
    rfl
theorem zn_meanFactor (Y : zy h now hist snap sv inp rep t) (ok : zv_ok now) (hN : 4000 ≤ N) : ∃ h', fM_meanFactor N 232 h = some (zc_mean now.2.1.length (zw_fs now.2.1).length, h') ∧ zy h' now hist snap sv inp rep 0 ∧ zr_F h h' := by
  have o2 := ok.2.1
  have fb := zm_fsl now.2.1
  obtain ⟨h1, e1, Y1, F1⟩ := zy_throw Y 0
  obtain ⟨h2, e2, ⟨fl, a, H, R, S⟩, Y2, F2⟩ := zy_factors (N := N) (by omega) Y1 ok
  obtain ⟨fl0, a0, H0, R0⟩ := Y
  have g1 : fAI h2 233 100 (Int32.ofInt 1) = some (Int32.ofInt (a 233 1)) := zr_w H 1 (by decide)
  refine ⟨h2, ?_, Y2, zr_Ft F1 F2⟩
  unfold fM_meanFactor zc_mean
  rw [zr_T H0, cond_true, e1, b1_s, e2, b2, zqo_ne _ _ (by omega) (by decide)]
  by_cases e : (zw_fs now.2.1).length = 0
  · rw [decide_eq_true (by omega), if_pos e]
    rfl
  · rw [decide_eq_false (by omega), if_neg e, Bool.not_false, cond_true, zr_r0 H, b1_s, g1, b1_s, R.1.2.1, if_pos (zc_meanok (by omega) (by omega) e)]
    rfl
end ZYY
