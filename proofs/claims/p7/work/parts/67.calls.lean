/-! THE CLASS'S undo, snapshot, input. -/
theorem zw_lowb (x : Int32) : (x &&& Int32.ofInt 255).toInt = (x.toInt % 256) := by
  have h1 : (x &&& Int32.ofInt 255).toBitVec = x.toBitVec &&& 255#32 := rfl
  show (x &&& Int32.ofInt 255).toBitVec.toInt = x.toBitVec.toInt % 256
  rw [h1]
  have h2 : (x.toBitVec &&& 255#32).toNat = x.toBitVec.toNat % 256 := by
    rw [BitVec.toNat_and]
    exact Nat.and_two_pow_sub_one_eq_mod x.toBitVec.toNat 8
  have h3 := x.toBitVec.isLt
  rw [BitVec.toInt_eq_toNat_cond, BitVec.toInt_eq_toNat_cond, h2]
  split <;> split <;> omega
/-- the lowest byte -/
def zw_lo (x : Int32) : Nat := (x.toInt % 256).toNat
theorem zw_lo256 (x : Int32) : zw_lo x < 256 := by
  unfold zw_lo
  omega
theorem zw_loand (x : Int32) : x &&& Int32.ofInt 255 = Int32.ofInt (zw_lo x : Int) := by
  apply Int32.toInt_inj.mp
  rw [zw_lowb]
  unfold zw_lo
  rw [zqo_i _ (by omega)]
  omega
theorem zw_lob (x : Int32) : vp_nar .byte x.toInt8.toInt32 = zw_b (zw_lo x) := by
  unfold zw_b
  congr 2
  have h1 : x.toInt8.toInt = (x.toInt).bmod 256 := Int32.toInt_toInt8 x
  apply Int8.toInt_inj.mp
  rw [h1, Int32.toInt_toInt8]
  have : (Int32.ofInt (zw_lo x : Int)).toInt = (zw_lo x : Int) := zqo_i _ (by have := zw_lo256 x; omega)
  rw [this]
  unfold zw_lo
  rw [show (((x.toInt % 256).toNat : Nat) : Int) = x.toInt % 256 by omega]
  exact (Int.emod_bmod x.toInt 256).symm
section ZVI
variable {N : Nat} {h : zH} {now snap : zA} {hist : List zA} {sv : Int} {inp : List Nat} {rep : zvP}
theorem zk_undo (V : zv h now hist snap sv inp rep) (hN : 3000 ≤ N) : (hist = [] ∧ fB_undo N 0 h = some (Int32.ofInt (-1), h)) ∨ (∃ A r, hist = r ++ [A] ∧ ∃ h', fB_undo N 0 h = some (Int32.ofInt (r.length : Int), h') ∧ zv h' A r snap sv inp rep ∧ zc_F h h') := by
  have V0 := V
  obtain ⟨sL, sT, sS, sK, wd, nu, hs, C, v1, v2, v3, v4, v5, v6, v7, v8, v9⟩ := V
  unfold fB_undo
  rw [zc_T0 C, cond_true, zc_r01 C, b1_s, zc_r00 C, b1_s]
  rcases zc_back (N := N) C (by omega) v2 v3 with ⟨b1', b2'⟩ | ⟨b1', h1, S1, e1, C1, r1, F1⟩
  · refine Or.inl ⟨List.length_eq_zero_iff.mp b1', ?_⟩
    rw [b2', b2, show z_cmp .eq (Int32.ofInt 0) (Int32.ofInt 0) = true from rfl, cond_true]
    rfl
  · refine Or.inr ?_
    have hne : hist ≠ [] := fun x => by rw [x] at b1'; exact absurd b1' (by decide)
    have hl : (hist.dropLast).length = hist.length - 1 := List.length_dropLast
    refine ⟨hist.getLast hne, hist.dropLast, (List.dropLast_concat_getLast hne).symm, h1, ?_, ⟨_, _, _, _, _, _, _, C1, ?_, ?_, ?_, ?_, ?_, ?_, v7, ⟨v8.1, (zc_un nu _ (show (2 : Nat) ≠ 1 by decide)).trans v8.2.1, (zc_un nu _ (show (3 : Nat) ≠ 1 by decide)).trans v8.2.2⟩, ?_⟩, F1⟩
    · rw [e1, b2, show z_cmp .eq (Int32.ofInt 1) (Int32.ofInt 0) = false from rfl, cond_false, zc_r01 C1, b1_s, zc_cnt C1, b1_s, zc_us, hl]
      rfl
    · have a1 := v4 (hist.length - 1) (by omega)
      rw [List.getLast_eq_getElem]
      have a2 : hist[hist.length - 1]? = some (hist[hist.length - 1]'(by omega)) := List.getElem?_eq_getElem _
      rw [a2] at a1
      rw [Option.some.inj a1]
      refine zv_aeq (zc_us _ _ _) (zc_us _ _ _) (zc_us _ _ _) (fun j hj => ?_)
      rw [zc_us]
      exact r1 j hj
    · rw [zc_us, hl]
    · omega
    · intro i hi
      rw [hl] at hi
      have hn : hs i ≠ 1 := by
        obtain ⟨k, k1, k2⟩ := C.2.2.2.2.2.2.2.2.1 i (by omega)
        omega
      rw [List.getElem?_dropLast, if_pos hi, v4 i (by omega)]
      congr 1
      unfold zv_a
      rw [zc_un _ _ hn, zc_un _ _ hn, zc_un _ _ hn, zc_un _ _ hn]
    · rw [← v5]
      rfl
    · rw [← v6]
      rfl
    · intro q hq
      by_cases e : q = 1
      · have : zv_a (zc_u sL 1 (sL (hs (hist.length - 1)))) (zc_u sT 1 (sT (hs (hist.length - 1)))) (zc_u sS 1 S1) (zc_u sK 1 (sK (hs (hist.length - 1)))) q = zv_a sL sT sS sK (hs (hist.length - 1)) := by
          rw [e]
          refine zv_aeq (zc_us _ _ _) (zc_us _ _ _) (zc_us _ _ _) (fun j hj => ?_)
          rw [zc_us]
          exact r1 j hj
        rw [this]
        exact v9 _ (zc_hq C (by omega))
      · have := v9 q hq
        unfold zv_a at this ⊢
        rw [zc_un _ _ e, zc_un _ _ e, zc_un _ _ e, zc_un _ _ e]
        exact this
theorem zk_saveSnapshot (V : zv h now hist snap sv inp rep) (hN : 3000 ≤ N) : ∃ h', fB_saveSnapshot N 0 h = some (Int32.ofInt (now.2.1.length : Int), h') ∧ zv h' now hist now 1 inp rep ∧ zc_F h h' := by
  obtain ⟨sL, sT, sS, sK, wd, nu, hs, C, v1, v2, v3, v4, v5, v6, v7, v8, v9⟩ := V
  have q183 : zc_Q 183 := Or.inr (Or.inl ⟨8, by decide, by decide⟩)
  obtain ⟨h1, S1, e1, C1, r1, F1⟩ := zc_copy (N := N) C (by omega) q183 (Or.inl rfl) (by decide)
  obtain ⟨h2, e2, C2, F2⟩ := zc_saved C1 1
  have ea : zv_a (zc_u sL 183 (sL 1)) (zc_u sT 183 (sT 1)) (zc_u sS 183 S1) (zc_u sK 183 (sK 1)) 183 = now := by
    rw [← v1]
    refine zv_aeq (zc_us _ _ _) (zc_us _ _ _) (zc_us _ _ _) (fun j hj => ?_)
    rw [zc_us]
    exact r1 j hj
  refine ⟨h2, ?_, ⟨_, _, _, _, _, _, _, C2, ?_, v2, v3, ?_, ea, rfl, v7, ⟨v8.1, (zc_un nu _ (show (2 : Nat) ≠ 0 by decide)).trans v8.2.1, (zc_un nu _ (show (3 : Nat) ≠ 0 by decide)).trans v8.2.2⟩, ?_⟩, zc_Ft F1 F2⟩
  · unfold fB_saveSnapshot
    rw [zc_T0 C, cond_true, zc_r02 C, b1_s, zc_r00 C, b1_s, e1, b2, e2, b1_s, zc_r00 C2, b1_s, zs_t (zc_now C2), b1_s, zw_z (zc_txt C2), b1_s, ← v1]
    rfl
  · rw [← v1]
    rfl
  · intro i hi
    have hn : hs i ≠ 183 := by
      obtain ⟨k, k1, k2⟩ := C.2.2.2.2.2.2.2.2.1 i (by omega)
      omega
    rw [v4 i hi]
    congr 1
    unfold zv_a
    rw [zc_un _ _ hn, zc_un _ _ hn, zc_un _ _ hn, zc_un _ _ hn]
  · intro q hq
    by_cases e : q = 183
    · rw [e, ea, ← v1]
      exact v9 1 (Or.inl rfl)
    · have := v9 q hq
      unfold zv_a at this ⊢
      rw [zc_un _ _ e, zc_un _ _ e, zc_un _ _ e, zc_un _ _ e]
      exact this
theorem zk_restoreSnapshot (V : zv h now hist snap sv inp rep) (hN : 3000 ≤ N) (hsv : sv = 0 ∨ sv = 1) : (sv = 0 ∧ fB_restoreSnapshot N 0 h = some (.inr 3, h)) ∨ (sv = 1 ∧ ∃ h', fB_restoreSnapshot N 0 h = some (.inl (Int32.ofInt (snap.2.1.length : Int)), h') ∧ zv h' snap [] snap sv inp rep ∧ zc_F h h') := by
  obtain ⟨sL, sT, sS, sK, wd, nu, hs, C, v1, v2, v3, v4, v5, v6, v7, v8, v9⟩ := V
  have q183 : zc_Q 183 := Or.inr (Or.inl ⟨8, by decide, by decide⟩)
  unfold fB_restoreSnapshot
  rw [zc_T0 C, cond_true, zc_i03 C, b1_s, v6]
  rcases hsv with e | e
  · refine Or.inl ⟨e, ?_⟩
    rw [e, show z_cmp .ne (Int32.ofInt 0) (Int32.ofInt 0) = false from rfl, cond_false]
  · refine Or.inr ⟨e, ?_⟩
    obtain ⟨h1, S1, e1, C1, r1, F1⟩ := zc_copy (N := N) C (by omega) (Or.inl rfl) q183 (by decide)
    obtain ⟨h2, e2, C2, F2⟩ := zc_many C1 0
    have ea : zv_a (zc_u sL 1 (sL 183)) (zc_u sT 1 (sT 183)) (zc_u sS 1 S1) (zc_u sK 1 (sK 183)) 1 = snap := by
      rw [← v5]
      refine zv_aeq (zc_us _ _ _) (zc_us _ _ _) (zc_us _ _ _) (fun j hj => ?_)
      rw [zc_us]
      exact r1 j hj
    refine ⟨h2, ?_, ⟨_, _, _, _, _, _, _, C2, ea, rfl, Nat.zero_le 8, fun i hi => absurd hi (Nat.not_lt_zero i), ?_, v6, v7, ⟨v8.1, (zc_un nu _ (show (2 : Nat) ≠ 1 by decide)).trans v8.2.1, (zc_un nu _ (show (3 : Nat) ≠ 1 by decide)).trans v8.2.2⟩, ?_⟩, zc_Ft F1 F2⟩
    · rw [e, show z_cmp .ne (Int32.ofInt 1) (Int32.ofInt 0) = true from rfl, cond_true, zc_r00 C, b1_s, zc_r02 C, b1_s, e1, b2, zc_r01 C1, b1_s, e2, b1_s, zc_r00 C2, b1_s, zs_t (zc_now C2), b1_s, zw_z (zc_txt C2), b1_s, ← v5]
      rfl
    · rw [← v5]
      rfl
    · intro q hq
      by_cases e : q = 1
      · rw [e, ea, ← v5]
        exact v9 183 q183
      · have := v9 q hq
        unfold zv_a at this ⊢
        rw [zc_un _ _ e, zc_un _ _ e, zc_un _ _ e, zc_un _ _ e]
        exact this
/-- the input -/
theorem zv_inp (V : zv h now hist snap sv inp rep) : zw_W h 204 600 inp ∧ ∀ h' l, zw_W h' 204 600 l → zw_F h h' 204 → zv h' now hist snap sv l rep ∧ zc_F h h' := by
  obtain ⟨sL, sT, sS, sK, wd, nu, hs, C, v1, v2, v3, v4, v5, v6, v7, v8, v9⟩ := V
  have W := zc_wd C (o := 204) (n := 600) (Or.inl ⟨rfl, rfl⟩)
  rw [v7] at W
  refine ⟨W, fun h' l W' F => ?_⟩
  obtain ⟨C2, F2⟩ := zc_word C (Or.inl ⟨rfl, rfl⟩) W' F
  exact ⟨⟨_, _, _, _, _, _, _, C2, v1, v2, v3, v4, v5, v6, zc_us _ _ _, ⟨by rw [zc_un _ _ (show (228 : Nat) ≠ 204 by decide)]; exact v8.1, v8.2⟩, v9⟩, F2⟩
theorem zk_truncateInput (V : zv h now hist snap sv inp rep) (hN : 3000 ≤ N) (x : Int) (hx : -2147483648 ≤ x ∧ x < 2147483648) : (¬ (0 ≤ x ∧ x ≤ (inp.length : Int)) ∧ fB_truncateInput N 0 (Int32.ofInt x) h = some (.inr 0, h)) ∨ ((0 ≤ x ∧ x ≤ (inp.length : Int)) ∧ ∃ h', fB_truncateInput N 0 (Int32.ofInt x) h = some (.inl (Int32.ofInt x), h') ∧ zv h' now hist snap sv (inp.take x.toNat) rep ∧ zc_F h h') := by
  obtain ⟨W, cl⟩ := zv_inp V
  have hl := W.2.2.2.1
  unfold fB_truncateInput
  rw [zv_T0 V, cond_true, zqo_lt _ _ hx (by decide), zv_r04 V, b1_s, zv_r20 V, b1_s, zw_z W, b1_s, zqo_le _ _ hx (by omega)]
  by_cases e1 : x < 0
  · refine Or.inl ⟨by omega, ?_⟩
    rw [decide_eq_true e1, cond_true]
    rfl
  · rw [decide_eq_false e1, cond_false]
    by_cases e2 : x ≤ (inp.length : Int)
    · refine Or.inr ⟨by omega, ?_⟩
      obtain ⟨h1, e3, W1, F1⟩ := zw_shorten (N := N) W x hx
      rw [if_pos (by omega)] at W1
      obtain ⟨V1, G1⟩ := cl h1 _ W1 F1
      refine ⟨h1, ?_, V1, G1⟩
      rw [decide_eq_true e2, cond_true, b1_s, zv_r20 V, b1_s, e3, b2]
    · refine Or.inl ⟨by omega, ?_⟩
      rw [decide_eq_false e2, cond_false]
      rfl
theorem zw_addx {q n : Nat} {l : List Nat} (H : zw_W h q n l) (x : Int32) (hn : l.length < n) : ∃ h', fW_add N q x h = some ((), h') ∧ zw_W h' q n (l ++ [zw_lo x]) ∧ zw_F h h' q := by
  have e : fW_add N q x h = fW_add N q (Int32.ofInt ((zw_lo x : Nat) : Int)) h := by
    unfold fW_add
    rw [zw_lob x]
    rfl
  rw [e]
  exact zw_addN H (zw_lo x) (zw_lo256 x) hn
/-- the four bytes of a number -/
def zv_four (x : Int32) : List Nat := [zw_lo (x >>> (Int32.ofInt 24 &&& 31)), zw_lo (x >>> (Int32.ofInt 16 &&& 31)), zw_lo (x >>> (Int32.ofInt 8 &&& 31)), zw_lo (x >>> (Int32.ofInt 0 &&& 31))]
theorem zw_four {q n : Nat} {l : List Nat} (H : zw_W h q n l) (x : Int32) (hN : 3000 ≤ N) (hn : l.length + 4 ≤ n) : ∃ h', fW_addFourBytes N q x h = some ((), h') ∧ zw_W h' q n (l ++ zv_four x) ∧ zw_F h h' q := by
  obtain ⟨h1, e1, W1, F1⟩ := zw_addx (N := N) H (x >>> (Int32.ofInt 24 &&& 31)) (by omega)
  obtain ⟨h2, e2, W2, F2⟩ := zw_addx (N := N) W1 (x >>> (Int32.ofInt 16 &&& 31)) (by rw [List.length_append]; show l.length + 1 < n; omega)
  obtain ⟨h3, e3, W3, F3⟩ := zw_addx (N := N) W2 (x >>> (Int32.ofInt 8 &&& 31)) (by rw [List.length_append, List.length_append]; show l.length + 1 + 1 < n; omega)
  obtain ⟨h4, e4, W4, F4⟩ := zw_addx (N := N) W3 (x >>> (Int32.ofInt 0 &&& 31)) (by rw [List.length_append, List.length_append, List.length_append]; show l.length + 1 + 1 + 1 < n; omega)
  refine ⟨h4, ?_, ?_, zw_Ft F1 (zw_Ft F2 (zw_Ft F3 F4))⟩
  · obtain ⟨g, rfl⟩ : ∃ g, N = g + 5 := ⟨N - 5, by omega⟩
    unfold fW_addFourBytes
    rw [zw_T H, cond_true]
    have s1 : ∀ (k : Nat) (h5 : zH), fW_addFourBytes_3 (g + 5) (k + 1) q x (Int32.ofInt 24) h5 = b2 (fW_add (g + 5) q (x >>> (Int32.ofInt 24 &&& 31)) h5) fun _ h2 => fW_addFourBytes_3 (g + 5) k q x (Int32.ofInt 16) h2 := fun k h5 => rfl
    have s2 : ∀ (k : Nat) (h5 : zH), fW_addFourBytes_3 (g + 5) (k + 1) q x (Int32.ofInt 16) h5 = b2 (fW_add (g + 5) q (x >>> (Int32.ofInt 16 &&& 31)) h5) fun _ h2 => fW_addFourBytes_3 (g + 5) k q x (Int32.ofInt 8) h2 := fun k h5 => rfl
    have s3 : ∀ (k : Nat) (h5 : zH), fW_addFourBytes_3 (g + 5) (k + 1) q x (Int32.ofInt 8) h5 = b2 (fW_add (g + 5) q (x >>> (Int32.ofInt 8 &&& 31)) h5) fun _ h2 => fW_addFourBytes_3 (g + 5) k q x (Int32.ofInt 0) h2 := fun k h5 => rfl
    have s4 : ∀ (k : Nat) (h5 : zH), fW_addFourBytes_3 (g + 5) (k + 1) q x (Int32.ofInt 0) h5 = b2 (fW_add (g + 5) q (x >>> (Int32.ofInt 0 &&& 31)) h5) fun _ h2 => fW_addFourBytes_3 (g + 5) k q x (Int32.ofInt (-8)) h2 := fun k h5 => rfl
    have s5 : ∀ (k : Nat) (h5 : zH), fW_addFourBytes_3 (g + 5) (k + 1) q x (Int32.ofInt (-8)) h5 = some ((), h5) := fun k h5 => rfl
    rw [s1 (g + 4), e1, b2, s2 (g + 3), e2, b2, s3 (g + 2), e3, b2, s4 (g + 1), e4, b2, s5 g]
  · rw [List.append_assoc, List.append_assoc, List.append_assoc] at W4
    exact W4
def zv_bytes (a b c d e : Int32) : List Nat := zv_four a ++ (zv_four b ++ (zv_four c ++ (zv_four d ++ zv_four e)))
theorem zk_append (V : zv h now hist snap sv inp rep) (hN : 3000 ≤ N) (a b c d e : Int32) : (580 < inp.length ∧ fB_append N 0 a b c d e h = some (Int32.ofInt (-1), h)) ∨ (inp.length ≤ 580 ∧ ∃ h', fB_append N 0 a b c d e h = some (Int32.ofInt ((inp.length + 20 : Nat) : Int), h') ∧ zv h' now hist snap sv (inp ++ zv_bytes a b c d e) rep ∧ zc_F h h') := by
  obtain ⟨W, cl⟩ := zv_inp V
  have hl := W.2.2.2.1
  unfold fB_append
  rw [zv_T0 V, cond_true, zv_r04 V, b1_s, zv_r20 V, b1_s, zw_z W, b1_s, zqo_le _ _ (by omega) (by decide)]
  by_cases e1 : inp.length ≤ 580
  · refine Or.inr ⟨e1, ?_⟩
    have l4 : ∀ (l : List Nat) (x : Int32), (l ++ zv_four x).length = l.length + 4 := fun l x => by rw [List.length_append]; rfl
    obtain ⟨h1, q1, W1, F1⟩ := zw_four (N := N) W a hN (by omega)
    obtain ⟨h2, q2, W2, F2⟩ := zw_four (N := N) W1 b hN (by rw [l4]; omega)
    obtain ⟨h3, q3, W3, F3⟩ := zw_four (N := N) W2 c hN (by rw [l4, l4]; omega)
    obtain ⟨h4, q4, W4, F4⟩ := zw_four (N := N) W3 d hN (by rw [l4, l4, l4]; omega)
    obtain ⟨h5, q5, W5, F5⟩ := zw_four (N := N) W4 e hN (by rw [l4, l4, l4, l4]; omega)
    have z5 := zw_z W5
    rw [l4, l4, l4, l4, l4] at z5
    obtain ⟨V5, G5⟩ := cl h5 _ W5 (zw_Ft F1 (zw_Ft F2 (zw_Ft F3 (zw_Ft F4 F5))))
    rw [List.append_assoc, List.append_assoc, List.append_assoc, List.append_assoc] at V5
    refine ⟨h5, ?_, V5, G5⟩
    rw [decide_eq_true (by omega), cond_true, q1, b2, q2, b2, q3, b2, q4, b2, q5, b2, z5, b1_s]
  · refine Or.inl ⟨by omega, ?_⟩
    rw [decide_eq_false (by omega), cond_false]
end ZVI
