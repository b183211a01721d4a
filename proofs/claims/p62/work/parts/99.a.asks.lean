/-! p62: THE CLASS'S QUESTIONS, of the class as it is seen (zv). -/
section ZVA
variable {N : Nat} {h : zH} {now snap : zA} {hist : List zA} {sv : Int} {inp : List Nat} {rep : zvP}
theorem zV_q (V : zv h now hist snap sv inp rep) : ∃ sL sT sS sK wd nu hs, zc h sL sT sS sK wd nu hs ∧ sL 1 = now.1 ∧ sT 1 = now.2.1 ∧ sK 1 = now.2.2.length ∧ (∀ k, k < now.2.2.length → sS 1 k = now.2.2.getD k []) ∧ nu 1 = (hist.length : Int) ∧ ∀ h' w, zc h' sL sT sS sK (zc_u wd 230 w) nu hs → zv h' now hist snap sv inp rep := by
  obtain ⟨sL, sT, sS, sK, wd, nu, hs, C, v1, v2, v3, v4, v5, v6, v7, v8, v9⟩ := V
  have l3 : now.2.2 = (List.range (sK 1)).map (sS 1) := by rw [← v1]; rfl
  refine ⟨sL, sT, sS, sK, wd, nu, hs, C, by rw [← v1]; rfl, by rw [← v1]; rfl, ?_, ?_, v2, fun h' w C' => ⟨_, _, _, _, _, _, _, C', v1, v2, v3, v4, v5, v6, by rw [zc_un _ _ (show (204 : Nat) ≠ 230 by decide)]; exact v7, ⟨by rw [zc_un _ _ (show (228 : Nat) ≠ 230 by decide)]; exact v8.1, v8.2⟩, v9⟩⟩
  · rw [l3, List.length_map, List.length_range]
  · intro k hk
    rw [l3] at hk ⊢
    rw [List.length_map, List.length_range] at hk
    rw [List.getD_eq_getElem?_getD, List.getElem?_map, List.getElem?_range hk]
    rfl
theorem zV_letters (V : zv h now hist snap sv inp rep) : fB_letters N 0 h = some (Int32.ofInt (now.1 : Int), h) := by
  obtain ⟨sL, sT, sS, sK, wd, nu, hs, C, l1, l2, l3, l4, n1, l6⟩ := zV_q V
  have e := zq_letters (N := N) C
  rw [l1] at e
  exact e
theorem zV_length (V : zv h now hist snap sv inp rep) : fB_length N 0 h = some (Int32.ofInt (now.2.1.length : Int), h) := by
  obtain ⟨sL, sT, sS, sK, wd, nu, hs, C, l1, l2, l3, l4, n1, l6⟩ := zV_q V
  have e := zq_length (N := N) C
  rw [l2] at e
  exact e
theorem zV_letterAt (V : zv h now hist snap sv inp rep) (x : Int) (hx : -2147483648 ≤ x ∧ x < 2147483648) : fB_letterAt N 0 (Int32.ofInt x) h = some (Int32.ofInt (zw_g now.2.1 x), h) := by
  obtain ⟨sL, sT, sS, sK, wd, nu, hs, C, l1, l2, l3, l4, n1, l6⟩ := zV_q V
  have e := zq_letterAt (N := N) C x hx
  rw [l2] at e
  exact e
theorem zV_factorCount (V : zv h now hist snap sv inp rep) (hN : 3000 ≤ N) : fB_factorCount N 0 h = some (Int32.ofInt (((zw_fs now.2.1).length : Nat) : Int), h) := by
  obtain ⟨sL, sT, sS, sK, wd, nu, hs, C, l1, l2, l3, l4, n1, l6⟩ := zV_q V
  have e := zq_factorCount (N := N) C hN
  rw [l2] at e
  exact e
theorem zV_factorOf (V : zv h now hist snap sv inp rep) (hN : 3000 ≤ N) (x : Int) (hx : -2147483648 ≤ x ∧ x < 2147483648) : fB_factorOf N 0 (Int32.ofInt x) h = some (Int32.ofInt (zw_wF now.2.1 x), h) := by
  obtain ⟨sL, sT, sS, sK, wd, nu, hs, C, l1, l2, l3, l4, n1, l6⟩ := zV_q V
  have e := zq_factorOf (N := N) C hN x hx
  rw [l2] at e
  exact e
theorem zV_isLyndon (V : zv h now hist snap sv inp rep) (hN : 3000 ≤ N) : fB_isLyndon N 0 h = some (cond (decide (0 < now.2.1.length ∧ zw_lE now.2.1 0 = now.2.1.length)) (Int32.ofInt 1) (Int32.ofInt 0), h) := by
  obtain ⟨sL, sT, sS, sK, wd, nu, hs, C, l1, l2, l3, l4, n1, l6⟩ := zV_q V
  have e := zq_isLyndon (N := N) C hN
  rw [l2] at e
  exact e
theorem zV_leastSuffix (V : zv h now hist snap sv inp rep) (hN : 3000 ≤ N) : fB_leastSuffix N 0 h = some (Int32.ofInt (zw_ext now.2.1 (-1)), h) := by
  obtain ⟨sL, sT, sS, sK, wd, nu, hs, C, l1, l2, l3, l4, n1, l6⟩ := zV_q V
  have e := zq_leastSuffix (N := N) C hN
  rw [l2] at e
  exact e
theorem zV_undoCount (V : zv h now hist snap sv inp rep) : fB_undoCount N 0 h = some (Int32.ofInt (hist.length : Int), h) := by
  obtain ⟨sL, sT, sS, sK, wd, nu, hs, C, l1, l2, l3, l4, n1, l6⟩ := zV_q V
  have e := zq_undoCount (N := N) C
  rw [n1] at e
  exact e
theorem zV_keptCount (V : zv h now hist snap sv inp rep) : fB_keptCount N 0 h = some (Int32.ofInt (now.2.2.length : Int), h) := by
  obtain ⟨sL, sT, sS, sK, wd, nu, hs, C, l1, l2, l3, l4, n1, l6⟩ := zV_q V
  have e := zq_keptCount (N := N) C
  rw [l3] at e
  exact e
theorem zV_violations (V : zv h now hist snap sv inp rep) (hN : 3000 ≤ N) : fB_violations N 0 h = some (Int32.ofInt 0, h) := by
  obtain ⟨sL, sT, sS, sK, wd, nu, hs, C, l1, l2, l3, l4, n1, l6⟩ := zV_q V
  exact zq_violations (N := N) C hN
theorem zV_factorStart (V : zv h now hist snap sv inp rep) (hN : 3000 ≤ N) {k : Nat} (hk : k < (zw_fs now.2.1).length) (h120 : k < 2147483648) : fB_factorStart N 0 (Int32.ofInt (k : Int)) h = some (.inl (Int32.ofInt (((zw_fs now.2.1).getD k (0, 0)).1 : Int)), h) := by
  obtain ⟨sL, sT, sS, sK, wd, nu, hs, C, l1, l2, l3, l4, n1, l6⟩ := zV_q V
  have e := zq_factorStart (N := N) C hN (k : Int) (by omega)
  rw [l2] at e
  have b : zw_bF now.2.1 (k : Int) = (((zw_fs now.2.1).getD k (0, 0)).1 : Int) := by
    unfold zw_bF
    rw [if_neg (by omega), Int.toNat_natCast, List.getElem?_eq_getElem hk, List.getD_eq_getElem?_getD, List.getElem?_eq_getElem hk]
    rfl
  rw [b, if_neg (by omega)] at e
  exact e
theorem zV_factorLength (V : zv h now hist snap sv inp rep) (hN : 3000 ≤ N) {k : Nat} (hk : k < (zw_fs now.2.1).length) (h120 : k < 2147483648) : fB_factorLength N 0 (Int32.ofInt (k : Int)) h = some (.inl (Int32.ofInt ((zw_lE now.2.1 ((zw_fs now.2.1).getD k (0, 0)).1 : Int) - (((zw_fs now.2.1).getD k (0, 0)).1 : Int))), h) := by
  obtain ⟨sL, sT, sS, sK, wd, nu, hs, C, l1, l2, l3, l4, n1, l6⟩ := zV_q V
  have e := zq_factorLength (N := N) C hN (k : Int) (by omega)
  rw [l2] at e
  have b : zw_bF now.2.1 (k : Int) = (((zw_fs now.2.1).getD k (0, 0)).1 : Int) := by
    unfold zw_bF
    rw [if_neg (by omega), Int.toNat_natCast, List.getElem?_eq_getElem hk, List.getD_eq_getElem?_getD, List.getElem?_eq_getElem hk]
    rfl
  rw [b, if_neg (by omega), Int.toNat_natCast] at e
  exact e
theorem zV_keptLength (V : zv h now hist snap sv inp rep) {k : Nat} (hk : k < now.2.2.length) (hb : k < 2147483648) : fB_keptLength N 0 (Int32.ofInt (k : Int)) h = some (.inl (Int32.ofInt ((now.2.2.getD k []).length : Int)), h) := by
  obtain ⟨sL, sT, sS, sK, wd, nu, hs, C, l1, l2, l3, l4, n1, l6⟩ := zV_q V
  have e := zq_keptLength (N := N) C (k : Int) (by omega)
  rw [l3, if_pos (by omega), Int.toNat_natCast, l4 k hk] at e
  exact e
theorem zV_keptLetter (V : zv h now hist snap sv inp rep) {k : Nat} (hk : k < now.2.2.length) (hb : k < 2147483648) (y : Int) (hy : -2147483648 ≤ y ∧ y < 2147483648) : fB_keptLetter N 0 (Int32.ofInt (k : Int)) (Int32.ofInt y) h = some (.inl (Int32.ofInt (zw_g (now.2.2.getD k []) y)), h) := by
  obtain ⟨sL, sT, sS, sK, wd, nu, hs, C, l1, l2, l3, l4, n1, l6⟩ := zV_q V
  have e := zq_keptLetter (N := N) C (k : Int) y (by omega) hy
  rw [l3, if_pos (by omega), Int.toNat_natCast, l4 k hk] at e
  exact e
theorem zV_ifAppended (V : zv h now hist snap sv inp rep) (hN : 3000 ≤ N) (x : Int) (hx : 97 ≤ x ∧ x < 97 + (now.1 : Int)) : ∃ h', fB_factorsIfAppended N 0 (Int32.ofInt x) h = some (.inl (Int32.ofInt (((zw_fs (now.2.1 ++ [x.toNat])).length : Nat) : Int)), h') ∧ zv h' now hist snap sv inp rep ∧ zc_F h h' := by
  have ok := (zv_open V).1
  obtain ⟨sL, sT, sS, sK, wd, nu, hs, C, l1, l2, l3, l4, n1, l6⟩ := zV_q V
  have hL := ok.1
  rcases zq_ifAppended (N := N) C hN (by omega) x (by omega) with ⟨_, _, h', e, C', F⟩ | ⟨z, _⟩
  · rw [l2] at e
    exact ⟨h', e, l6 _ _ C', F⟩
  · exact absurd (by rw [l1]; exact hx) z
end ZVA
theorem zw_frame {h h' : zH} {q n : Nat} {l : List Nat} (H : zw_W h q n l) (f : h'[q]? = h[q]?) (f2 : h'[q + 1]? = h[q + 1]?) : zw_W h' q n l := by
  obtain ⟨a1, a2, ⟨R, a3, a4⟩, a5⟩ := H
  exact ⟨a1, f.trans a2, ⟨R, f2.trans a3, a4⟩, a5⟩
/-- cells behind the class's have changed -/
theorem zv_frame {h h' : zH} {now snap : zA} {hist : List zA} {sv : Int} {inp : List Nat} {rep : zvP} (V : zv h now hist snap sv inp rep) (f : ∀ p, p < 232 → h'[p]? = h[p]?) : zv h' now hist snap sv inp rep := by
  obtain ⟨sL, sT, sS, sK, wd, nu, hs, ⟨c1, c2, c3, c4, c5, c6, c7, c8, c9⟩, v⟩ := V
  refine ⟨sL, sT, sS, sK, wd, nu, hs, ⟨(f _ (by decide)).trans c1, (f _ (by decide)).trans c2, (f _ (by decide)).trans c3, (f _ (by decide)).trans c4, (f _ (by decide)).trans c5, (f _ (by decide)).trans c6, ?_, ?_, c9⟩, v⟩
  · intro q hq
    have b := zc_Qb hq
    obtain ⟨a1, a2, a3, a4, a5, a6⟩ := c7 q hq
    exact ⟨a1, (f q (by omega)).trans a2, (f (q + 3) (by omega)).trans a3, zw_frame a4 (f _ (by omega)) (f _ (by omega)), fun i hi => zw_frame (a5 i hi) (f _ (by omega)) (f _ (by omega)), a6⟩
  · intro o n ho
    have b : o = 204 ∨ o = 228 ∨ o = 230 := by rcases ho with ⟨ho, _⟩ | ⟨ho, _⟩ | ⟨ho, _⟩ <;> omega
    exact zw_frame (c8 o n ho) (f _ (by omega)) (f _ (by omega))
/-! rows of numbers behind the class's cells -/
def yR (h : zH) (q : Nat) (l : List Int) : Prop := 232 ≤ q ∧ q < 1000000 ∧ l.length < 1000 ∧ h[q]? = some (100, l.map fun v => Value.int (Int32.ofInt v))
theorem yR_keep {h h' : zH} {q : Nat} {l : List Int} (R : yR h q l) (F : zc_F h h') : yR h' q l := ⟨R.1, R.2.1, R.2.2.1, (F.2 q R.1).trans R.2.2.2⟩
theorem yR_app {h : zH} {q : Nat} {l : List Int} (R : yR h q l) (c : zC) : yR (h ++ [c]) q l := ⟨R.1, R.2.1, R.2.2.1, by rw [List.getElem?_append_left (List.getElem?_eq_some_iff.mp R.2.2.2).1]; exact R.2.2.2⟩
theorem yR_len {h : zH} {q : Nat} {l : List Int} (R : yR h q l) : fN h q 100 = some (Int32.ofInt (l.length : Int)) := by
  rw [zi_N R.2.1 R.2.2.2, List.length_map]
  exact congrArg some Int32.ofInt_eq_ofNat.symm
theorem yR_get {h : zH} {q : Nat} {l : List Int} (R : yR h q l) {i : Nat} (hi : i < l.length) : fAI h q 100 (Int32.ofInt (i : Int)) = some (Int32.ofInt (l.getD i 0)) := by
  have hb := R.2.2.1
  refine zh_AI R.2.1 R.2.2.2 ?_ (by omega)
  rw [List.getElem?_map, List.getElem?_eq_getElem hi, List.getD_eq_getElem?_getD, List.getElem?_eq_getElem hi]
  rfl
theorem yR_set {h : zH} {q : Nat} {l : List Int} (R : yR h q l) {i : Nat} (hi : i < l.length) (v : Int) : ∃ h', fAS h q 100 (Int32.ofInt (i : Int)) (.int (Int32.ofInt v)) = some h' ∧ yR h' q (l.set i v) ∧ h'.length = h.length ∧ ∀ p, p ≠ q → h'[p]? = h[p]? := by
  have hb := R.2.2.1
  refine ⟨_, zh_AS R.2.2.2 (by rw [List.length_map]; exact hi) (by omega), ⟨R.1, R.2.1, by rw [List.length_set]; exact R.2.2.1, ?_⟩, by rw [List.length_set], fun p hp => zh_set (Ne.symm hp)⟩
  rw [List.getElem?_set_self (List.getElem?_eq_some_iff.mp R.2.2.2).1, List.map_set]
theorem yR_new {h : zH} {n : Nat} (hn : n ≤ 200) (hl : 232 ≤ h.length ∧ h.length < 1000000) : ∃ h', fNI h (Int32.ofInt (n : Int)) = some h' ∧ yR h' h.length (List.replicate n 0) ∧ h'.length = h.length + 1 ∧ ∀ p, p < h.length → h'[p]? = h[p]? := by
  obtain ⟨z1, z2⟩ := zh_nat (show n < 2147483648 by omega)
  refine ⟨h ++ [(100, List.replicate n (.int 0))], ?_, ⟨hl.1, hl.2, by rw [List.length_replicate]; omega, ?_⟩, by rw [List.length_append]; rfl, fun p hp => List.getElem?_append_left hp⟩
  · unfold fNI
    rw [z2, decide_eq_true z1, decide_eq_true hn, show Nat.blt h.length 1000000 = true from Nat.blt_eq.mpr hl.2]
    rfl
  · rw [List.getElem?_append_right (Nat.le_refl _), Nat.sub_self, List.map_replicate]
    rfl
theorem zV_len {h : zH} {now snap : zA} {hist : List zA} {sv : Int} {inp : List Nat} {rep : zvP} (V : zv h now hist snap sv inp rep) : 232 ≤ h.length := by
  obtain ⟨sL, sT, sS, sK, wd, nu, hs, C, -⟩ := zV_q V
  obtain ⟨_, _, ⟨R, e, _⟩, _⟩ := zq_trial C
  exact (List.getElem?_eq_some_iff.mp e).1
theorem b2_s {α β : Type} (a : α) (h : zH) (g : α → zH → Option β) : b2 (some (a, h)) g = g a h := rfl
theorem bN_s {α β : Type} (a : α) (h : zH) (g : α → zH → Option β) : bN (some (Sum.inl a, h)) g = g a h := rfl
