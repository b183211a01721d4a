/-! THE CLASS'S undo, snapshot, input. -/
theorem zw_lowb (x : Int32) : (x &&& Int32.ofInt 255).toInt = (x.toInt % 256) := by
  have h1 : (x &&& Int32.ofInt 255).toBitVec = x.toBitVec &&& 255#32 := rfl
  show (x &&& Int32.ofInt 255).toBitVec.toInt = x.toBitVec.toInt % 256
  rw [h1]
  have h2 : (x.toBitVec &&& 255#32).toNat = x.toBitVec.toNat % 256 := by
    rw [BitVec.toNat_and]
    exact Nat.and_two_pow_sub_one_eq_mod x.toBitVec.toNat 8
  have h3 := x.toBitVec.isLt
  rw [BitVec.toInt_eq_toNat_cond, BitVec.toInt_eq_toNat_cond, h2]
  split <;> split <;> omega
/-- the lowest byte -/
def zw_lo (x : Int32) : Nat := (x.toInt % 256).toNat
theorem zw_lo256 (x : Int32) : zw_lo x < 256 := by
  unfold zw_lo
  omega
theorem zw_loand (x : Int32) : x &&& Int32.ofInt 255 = Int32.ofInt (zw_lo x : Int) := by
  apply Int32.toInt_inj.mp
  rw [zw_lowb]
  unfold zw_lo
  rw [zqo_i _ (by omega)]
  omega
theorem zw_lob (x : Int32) : vp_nar .byte x.toInt8.toInt32 = zw_b (zw_lo x) := by
  unfold zw_b
  congr 2
  have h1 : x.toInt8.toInt = (x.toInt).bmod 256 := Int32.toInt_toInt8 x
  apply Int8.toInt_inj.mp
  rw [h1, Int32.toInt_toInt8]
  have : (Int32.ofInt (zw_lo x : Int)).toInt = (zw_lo x : Int) := zqo_i _ (by have := zw_lo256 x; omega)
  rw [this]
  unfold zw_lo
  rw [show (((x.toInt % 256).toNat : Nat) : Int) = x.toInt % 256 by omega]
  exact (Int.emod_bmod x.toInt 256).symm
section ZVI
variable {N : Nat} {h : zH} {now snap : zA} {hist : List zA} {sv : Int} {inp : List Nat} {rep : zvP}
theorem zk_undo (V : zv h now hist snap sv inp rep) (hN : 3000 ≤ N) : (hist = [] ∧ fB_undo N 0 h = some (Int32.ofInt (-1), h)) ∨ (∃ A r, hist = r ++ [A] ∧ ∃ h', fB_undo N 0 h = some (Int32.ofInt (r.length : Int), h') ∧ zv h' A r snap sv inp rep ∧ zc_F h h') := by
  have V0 := V
  obtain ⟨sL, sT, sS, sK, wd, nu, hs, C, v1, v2, v3, v4, v5, v6, v7, v8, v9⟩ := V
  unfold fB_undo
  rw [zc_T0 C, cond_true, zc_r01 C, b1_s, zc_r00 C, b1_s]
  rcases zc_back (N := N) C (by omega) v2 v3 with ⟨b1', b2'⟩ | ⟨b1', h1, S1, e1, C1, r1, F1⟩
  · refine Or.inl ⟨List.length_eq_zero_iff.mp b1', ?_⟩
    rw [b2', b2, show z_cmp .eq (Int32.ofInt 0) (Int32.ofInt 0) = true from rfl, cond_true]
    rfl
  · refine Or.inr ?_
    have hne : hist ≠ [] := fun x => by rw [x] at b1'; exact absurd b1' (by decide)
    have hl : (hist.dropLast).length = hist.length - 1 := List.length_dropLast
    refine ⟨hist.getLast hne, hist.dropLast, (List.dropLast_concat_getLast hne).symm, h1, ?_, ⟨_, _, _, _, _, _, _, C1, ?_, ?_, ?_, ?_, ?_, ?_, v7, ⟨v8.1, (zc_un nu _ (show (2 : Nat) ≠ 1 by decide)).trans v8.2.1, (zc_un nu _ (show (3 : Nat) ≠ 1 by decide)).trans v8.2.2⟩, ?_⟩, F1⟩
    · rw [e1, b2, show z_cmp .eq (Int32.ofInt 1) (Int32.ofInt 0) = false from rfl, cond_false, zc_r01 C1, b1_s, zc_cnt C1, b1_s, zc_us, hl]
      rfl
    · have a1 := v4 (hist.length - 1) (by omega)
      rw [List.getLast_eq_getElem]
      have a2 : hist[hist.length - 1]? = some (hist[hist.length - 1]'(by omega)) := List.getElem?_eq_getElem _
      rw [a2] at a1
      rw [Option.some.inj a1]
      refine zv_aeq (zc_us _ _ _) (zc_us _ _ _) (zc_us _ _ _) (fun j hj => ?_)
      rw [zc_us]
      exact r1 j hj
    · rw [zc_us, hl]
    · omega
    · intro i hi
      rw [hl] at hi
      have hn : hs i ≠ 1 := by
        obtain ⟨k, k1, k2⟩ := C.2.2.2.2.2.2.2.2.1 i (by omega)
        omega
      rw [List.getElem?_dropLast, if_pos hi, v4 i (by omega)]
      congr 1
      unfold zv_a
      rw [zc_un _ _ hn, zc_un _ _ hn, zc_un _ _ hn, zc_un _ _ hn]
    · rw [← v5]
      rfl
    · rw [← v6]
      rfl
    · intro q hq
      by_cases e : q = 1
      · have : zv_a (zc_u sL 1 (sL (hs (hist.length - 1)))) (zc_u sT 1 (sT (hs (hist.length - 1)))) (zc_u sS 1 S1) (zc_u sK 1 (sK (hs (hist.length - 1)))) q = zv_a sL sT sS sK (hs (hist.length - 1)) := by
          rw [e]
          refine zv_aeq (zc_us _ _ _) (zc_us _ _ _) (zc_us _ _ _) (fun j hj => ?_)
          rw [zc_us]
          exact r1 j hj
        rw [this]
        exact v9 _ (zc_hq C (by omega))
      · have := v9 q hq
        unfold zv_a at this ⊢
        rw [zc_un _ _ e, zc_un _ _ e, zc_un _ _ e, zc_un _ _ e]
        exact this
/-- the input -/
theorem zv_inp (V : zv h now hist snap sv inp rep) : zw_W h 204 600 inp ∧ ∀ h' l, zw_W h' 204 600 l → zw_F h h' 204 → zv h' now hist snap sv l rep ∧ zc_F h h' := by
  obtain ⟨sL, sT, sS, sK, wd, nu, hs, C, v1, v2, v3, v4, v5, v6, v7, v8, v9⟩ := V
  have W := zc_wd C (o := 204) (n := 600) (Or.inl ⟨rfl, rfl⟩)
  rw [v7] at W
  refine ⟨W, fun h' l W' F => ?_⟩
  obtain ⟨C2, F2⟩ := zc_word C (Or.inl ⟨rfl, rfl⟩) W' F
  exact ⟨⟨_, _, _, _, _, _, _, C2, v1, v2, v3, v4, v5, v6, zc_us _ _ _, ⟨by rw [zc_un _ _ (show (228 : Nat) ≠ 204 by decide)]; exact v8.1, v8.2⟩, v9⟩, F2⟩
theorem zw_addx {q n : Nat} {l : List Nat} (H : zw_W h q n l) (x : Int32) (hn : l.length < n) : ∃ h', fW_add N q x h = some ((), h') ∧ zw_W h' q n (l ++ [zw_lo x]) ∧ zw_F h h' q := by
  have e : fW_add N q x h = fW_add N q (Int32.ofInt ((zw_lo x : Nat) : Int)) h := by
    unfold fW_add
    rw [zw_lob x]
    rfl
  rw [e]
  exact zw_addN H (zw_lo x) (zw_lo256 x) hn
/-- the four bytes of a number -/
def zv_four (x : Int32) : List Nat := [zw_lo (x >>> (Int32.ofInt 24 &&& 31)), zw_lo (x >>> (Int32.ofInt 16 &&& 31)), zw_lo (x >>> (Int32.ofInt 8 &&& 31)), zw_lo (x >>> (Int32.ofInt 0 &&& 31))]
def zv_bytes (a b c d e : Int32) : List Nat := zv_four a ++ (zv_four b ++ (zv_four c ++ (zv_four d ++ zv_four e)))
end ZVI
