/-! THE CLASS'S CHANGES of the shelf; undo; the snapshot. -/
theorem zv_snoc {S : Nat → List Nat} {Ks : List (List Nat)} {w : List Nat} (h : (List.range Ks.length).map S = Ks) : (List.range (Ks.length + 1)).map (fun j => if j = Ks.length then w else S j) = Ks ++ [w] := by
  rw [List.range_succ, List.map_append]
  congr 1
  · rw [← h]
    rw [List.length_map, List.length_range]
    refine List.map_congr_left (fun j hj => ?_)
    have := List.mem_range.mp hj
    rw [if_neg (by omega)]
  · show [if Ks.length = Ks.length then w else S Ks.length] = [w]
    rw [if_pos rfl]
theorem zv_erase {S S' : Nat → List Nat} {Ks : List (List Nat)} {k : Nat} (h : (List.range Ks.length).map S = Ks) (hk : k < Ks.length) (h' : ∀ j, j < Ks.length - 1 → S' j = if k ≤ j then S (j + 1) else S j) : (List.range (Ks.length - 1)).map S' = Ks.eraseIdx k := by
  apply List.ext_getElem?
  intro i
  rw [List.getElem?_eraseIdx, List.getElem?_map]
  have hg : ∀ x, x < Ks.length → Ks[x]? = some (S x) := by
    intro x hx
    rw [← h, List.getElem?_map, List.getElem?_range hx]
    rfl
  by_cases e : i < Ks.length - 1
  · rw [List.getElem?_range e]
    show some (S' i) = _
    rw [h' i e]
    by_cases e2 : i < k
    · rw [if_pos e2, if_neg (by omega), hg i (by omega)]
    · rw [if_neg e2, if_pos (by omega), hg (i + 1) (by omega)]
  · rw [List.getElem?_eq_none (by rw [List.length_range]; omega)]
    by_cases e2 : i < k
    · omega
    · rw [if_neg e2, List.getElem?_eq_none (by omega)]
      rfl
section ZVE
variable {N : Nat} {h : zH} {now snap : zA} {hist : List zA} {sv : Int} {inp : List Nat} {rep : zvP}
theorem zv_checked (V : zv h now hist snap sv inp rep) (hN : 3000 ≤ N) (x : Int) (hx : -2147483648 ≤ x ∧ x < 2147483648) : fB_checkedBegin N 0 (Int32.ofInt x) h = if zw_bF now.2.1 x = -1 then some (.inr 2, h) else some (.inl (Int32.ofInt (zw_bF now.2.1 x)), h) := by
  obtain ⟨sL, sT, sS, sK, wd, nu, hs, C, v1, _⟩ := V
  have := zq_checked (N := N) C hN x hx
  rw [← v1]
  exact this
/-- a part of the text kept -/
theorem zv_keep (V : zv h now hist snap sv inp rep) (hN : 3000 ≤ N) (a c : Nat) (h1 : a + c ≤ now.2.1.length) (h2 : 1 ≤ c ∧ c ≤ 40) (h3 : now.2.2.length < 8) : ∃ h', fS_keep N 1 (1 + 1) (Int32.ofInt (a : Int)) (Int32.ofInt ((a + c : Nat) : Int)) h = some ((), h') ∧ zv h' (now.1, now.2.1, now.2.2 ++ [(now.2.1.drop a).take c]) hist snap sv inp rep ∧ zc_F h h' ∧ fI h' 1 3 3 = some (Int32.ofInt ((now.2.2.length + 1 : Nat) : Int)) := by
  obtain ⟨ok, S, H, hS, cl⟩ := zv_open V
  obtain ⟨h4, e4, H4, F4⟩ := zs_keepP (N := N) H h3 H.2.2.2.1 (fun i hi => by unfold zw_d; omega) (by omega) a c h1 (by omega)
  obtain ⟨V4, G4⟩ := cl h4 _ _ _ _ H4 F4 ⟨ok.1, ok.2.1, ok.2.2.1, by rw [zv_snoc hS, List.length_append]; show now.2.2.length + 1 ≤ 8; omega, fun w hw => by
    rw [zv_snoc hS, List.mem_append, List.mem_singleton] at hw
    rcases hw with hw | hw
    · exact ok.2.2.2.2 w hw
    · rw [hw]
      have hl : ((now.2.1.drop a).take c).length = c := by rw [List.length_take, List.length_drop]; omega
      exact ⟨by omega, by omega, fun v hv => ok.2.2.1 v (List.mem_of_mem_drop (List.mem_of_mem_take hv))⟩⟩
  rw [zv_snoc hS] at V4
  exact ⟨h4, e4, V4, G4, zs_K H4⟩
theorem zk_keepText (V : zv h now hist snap sv inp rep) (hN : 3000 ≤ N) : (¬ (1 ≤ now.2.1.length ∧ now.2.1.length ≤ 40 ∧ now.2.2.length < 8) ∧ fB_keepText N 0 h = some (.inr 1, h)) ∨ ((1 ≤ now.2.1.length ∧ now.2.1.length ≤ 40 ∧ now.2.2.length < 8) ∧ ∃ h', fB_keepText N 0 h = some (.inl (Int32.ofInt ((now.2.2.length + 1 : Nat) : Int)), h') ∧ zv h' (now.1, now.2.1, now.2.2 ++ [now.2.1]) (zv_push hist now) snap sv inp rep ∧ zc_F h h') := by
  obtain ⟨ok, S, H, hS, _⟩ := zv_open V
  have h120 := ok.2.1
  have W := zv_txt V
  unfold fB_keepText
  rw [zv_T0 V, cond_true, zv_r00 V, b1_s, b1_s, zv_t V, b1_s, zw_z W, b1_s, zs_canKeep H _ (by omega), b2]
  by_cases e : 1 ≤ now.2.1.length ∧ now.2.1.length ≤ 40 ∧ now.2.2.length < 8
  · refine Or.inr ⟨e, ?_⟩
    obtain ⟨h1, e1, V1, F1⟩ := zv_remember (N := N) V (by omega)
    obtain ⟨h2, e2, V2, F2, k2⟩ := zv_keep (N := N) V1 hN 0 now.2.1.length (by omega) (by omega) e.2.2
    rw [List.drop_zero, List.take_of_length_le (Nat.le_refl _)] at V2
    rw [Nat.zero_add] at e2
    refine ⟨h2, ?_, V2, zc_Ft F1 F2⟩
    rw [decide_eq_true (by omega), cond_true, show z_cmp .ne (Int32.ofInt 1) (Int32.ofInt 0) = true from rfl, cond_true, zv_r01 V, b1_s, zv_r00 V, b1_s, e1, b2, zv_r00 V1, b1_s, b1_s, zv_t V1, b1_s, b1_s, zv_t V1, b1_s, zw_z (zv_txt V1), b1_s, show Int32.ofInt 0 = Int32.ofInt ((0 : Nat) : Int) from rfl, e2, b2, zv_r00 V2, b1_s, k2, b1_s]
  · refine Or.inl ⟨e, ?_⟩
    rw [decide_eq_false (by omega), cond_false, show z_cmp .ne (Int32.ofInt 0) (Int32.ofInt 0) = false from rfl, cond_false]
theorem zk_keepFactor (V : zv h now hist snap sv inp rep) (hN : 3000 ≤ N) (x : Int) (hx : -2147483648 ≤ x ∧ x < 2147483648) : (zw_bF now.2.1 x = -1 ∧ fB_keepFactor N 0 (Int32.ofInt x) h = some (.inr 2, h)) ∨ ∃ b : Nat, zw_bF now.2.1 x = (b : Int) ∧ b < now.2.1.length ∧ ((¬ (zw_lE now.2.1 b - b ≤ 40 ∧ now.2.2.length < 8) ∧ fB_keepFactor N 0 (Int32.ofInt x) h = some (.inr 1, h)) ∨ ((zw_lE now.2.1 b - b ≤ 40 ∧ now.2.2.length < 8) ∧ ∃ h', fB_keepFactor N 0 (Int32.ofInt x) h = some (.inl (Int32.ofInt ((now.2.2.length + 1 : Nat) : Int)), h') ∧ zv h' (now.1, now.2.1, now.2.2 ++ [zw_p now.2.1 b (zw_lE now.2.1 b)]) (zv_push hist now) snap sv inp rep ∧ zc_F h h')) := by
  obtain ⟨ok, S, H, hS, _⟩ := zv_open V
  have h120 := ok.2.1
  have W := zv_txt V
  have bb := zw_bFb now.2.1 x
  unfold fB_keepFactor
  rw [zv_T0 V, cond_true, zv_checked V hN x hx]
  by_cases e0 : zw_bF now.2.1 x = -1
  · refine Or.inl ⟨e0, ?_⟩
    rw [if_pos e0]
    rfl
  · obtain ⟨b, hb⟩ : ∃ b : Nat, zw_bF now.2.1 x = (b : Int) := ⟨(zw_bF now.2.1 x).toNat, by omega⟩
    rw [if_neg e0]
    rw [hb] at bb ⊢
    have hbl : b < now.2.1.length := by omega
    have le := zw_lEb hbl
    refine Or.inr ⟨b, rfl, hbl, ?_⟩
    show _ ∧ b1 (fR h 0 0 0) _ = _ ∨ _
    have pre : ∀ g : Int32 → zH → Option ((Int32 ⊕ Nat) × zH), (b1 (fR h 0 0 0) fun x3 => b1 (fR h x3 3 1) fun x4 => b2 (fW_lyndonEnd N x4 (Int32.ofInt (b : Int)) h) g) = g (Int32.ofInt ((zw_lE now.2.1 b : Nat) : Int)) h := by
      intro g
      rw [zv_r00 V, b1_s, zv_t V, b1_s, zw_lyn W (by omega) hbl, b2]
    by_cases e : zw_lE now.2.1 b - b ≤ 40 ∧ now.2.2.length < 8
    · refine Or.inr ⟨e, ?_⟩
      obtain ⟨h1, e1, V1, F1⟩ := zv_remember (N := N) V (by omega)
      obtain ⟨h2, e2, V2, F2, k2⟩ := zv_keep (N := N) V1 hN b (zw_lE now.2.1 b - b) (by omega) (by omega) e.2
      rw [show b + (zw_lE now.2.1 b - b) = zw_lE now.2.1 b by omega] at e2
      refine ⟨h2, ?_, V2, zc_Ft F1 F2⟩
      refine (pre _).trans ?_
      rw [zv_r00 V, b1_s, zw_sub, zs_canKeep H _ (by omega), b2, decide_eq_true (by omega), cond_true, show z_cmp .ne (Int32.ofInt 1) (Int32.ofInt 0) = true from rfl, cond_true, zv_r01 V, b1_s, zv_r00 V, b1_s, e1, b2, zv_r00 V1, b1_s, b1_s, zv_t V1, b1_s, e2, b2, zv_r00 V2, b1_s, k2, b1_s]
    · refine Or.inl ⟨e, ?_⟩
      refine (pre _).trans ?_
      rw [zv_r00 V, b1_s, zw_sub, zs_canKeep H _ (by omega), b2, decide_eq_false (by omega), cond_false, show z_cmp .ne (Int32.ofInt 0) (Int32.ofInt 0) = false from rfl, cond_false]
theorem zk_removeKept (V : zv h now hist snap sv inp rep) (hN : 3000 ≤ N) (x : Int) (hx : -2147483648 ≤ x ∧ x < 2147483648) : (¬ (0 ≤ x ∧ x < (now.2.2.length : Int)) ∧ fB_removeKept N 0 (Int32.ofInt x) h = some (.inr 2, h)) ∨ ((0 ≤ x ∧ x < (now.2.2.length : Int)) ∧ ∃ h', fB_removeKept N 0 (Int32.ofInt x) h = some (.inl (Int32.ofInt ((now.2.2.length - 1 : Nat) : Int)), h') ∧ zv h' (now.1, now.2.1, now.2.2.eraseIdx x.toNat) (zv_push hist now) snap sv inp rep ∧ zc_F h h') := by
  obtain ⟨ok, S, H, hS, _⟩ := zv_open V
  have h8 := ok.2.2.2.1
  unfold fB_removeKept
  rw [zv_T0 V, cond_true, zv_r00 V, b1_s, zs_at H x hx, b2]
  by_cases e : 0 ≤ x ∧ x < (now.2.2.length : Int)
  · refine Or.inr ⟨e, ?_⟩
    obtain ⟨k, rfl⟩ : ∃ k : Nat, x = (k : Int) := ⟨x.toNat, by omega⟩
    obtain ⟨h1, e1, V1, F1⟩ := zv_remember (N := N) V (by omega)
    obtain ⟨ok1, S1, H1, hS1, cl⟩ := zv_open V1
    obtain ⟨h2, S2, e2, H2, r2, F2⟩ := zs_take (N := N) (by omega) H1 (k := k) (by omega)
    have em := zv_erase hS1 (show k < now.2.2.length by omega) r2
    obtain ⟨V2, G2⟩ := cl h2 _ _ _ _ H2 F2 ⟨ok.1, ok.2.1, ok.2.2.1, by rw [List.length_map, List.length_range]; omega, fun w hw => by
      rw [em] at hw
      exact ok.2.2.2.2 w (List.mem_of_mem_eraseIdx hw)⟩
    rw [em] at V2
    refine ⟨h2, ?_, V2, zc_Ft F1 G2⟩
    rw [if_pos e]
    show cond (fX h (1 + 4 + 2 * k)) _ none = _
    rw [zs_X H (by omega), cond_true, zv_r01 V, b1_s, zv_r00 V, b1_s, e1, b2, zv_r00 V1, b1_s, e2, b2, zv_r00 V2, b1_s, zs_K H2, b1_s]
  · refine Or.inl ⟨e, ?_⟩
    rw [if_neg e]
theorem zv_sum {S : Nat → List Nat} {Ks : List (List Nat)} (h : (List.range Ks.length).map S = Ks) : ∀ c i, i + c = Ks.length → zs_us S 0 c i = ((Ks.drop i).map List.length).sum := by
  intro c
  induction c with
  | zero =>
    intro i hi
    rw [List.drop_of_length_le (by omega)]
    rfl
  | succ c ih =>
    intro i hi
    have hg : Ks[i]? = some (S i) := by
      rw [← h, List.getElem?_map, List.getElem?_range (by omega)]
      rfl
    obtain ⟨h1, h2⟩ := List.getElem?_eq_some_iff.mp hg
    rw [zs_us, if_neg (by rw [Nat.zero_testBit]; decide), ih (i + 1) (by omega), List.drop_eq_getElem_cons h1, List.map_cons, List.sum_cons, h2]
theorem zk_joinKept (V : zv h now hist snap sv inp rep) (hN : 3000 ≤ N) : (¬ (0 < now.2.2.length ∧ (now.2.2.map List.length).sum ≤ 120) ∧ fB_joinKept N 0 h = some (.inr 1, h)) ∨ ((0 < now.2.2.length ∧ (now.2.2.map List.length).sum ≤ 120) ∧ ∃ h', fB_joinKept N 0 h = some (.inl (Int32.ofInt ((zv_jn now.2.2).length : Int)), h') ∧ zv h' (now.1, zv_jn now.2.2, now.2.2) (zv_push hist now) snap sv inp rep ∧ zc_F h h') := by
  obtain ⟨ok, S, H, hS, _⟩ := zv_open V
  have h8 := ok.2.2.2.1
  have hs := zv_sum hS now.2.2.length 0 (by omega)
  rw [List.drop_zero] at hs
  unfold fB_joinKept
  rw [zv_T0 V, cond_true, zv_r00 V, b1_s, zs_canJoin (by omega) H, b2, hs]
  by_cases e : 0 < now.2.2.length ∧ (now.2.2.map List.length).sum ≤ 120
  · refine Or.inr ⟨e, ?_⟩
    obtain ⟨h1, e1, V1, F1⟩ := zv_remember (N := N) V (by omega)
    obtain ⟨ok1, S1, H1, hS1, cl⟩ := zv_open V1
    have hs1 := zv_sum hS1 now.2.2.length 0 (by omega)
    rw [List.drop_zero] at hs1
    obtain ⟨h2, e2, H2, F2⟩ := zs_join (N := N) (by omega) H1 (by rw [hs1]; exact e.2)
    have ej : zs_jn S1 now.2.2.length now.2.2.length 0 [] = zv_jn now.2.2 := zs_jnC h8 (fun j hj => zv_mget hS1 hj) _ _ _
    rw [ej] at H2
    obtain ⟨V2, G2⟩ := cl h2 _ _ _ _ H2 F2 ⟨ok.1, H2.2.2.2.1.2.2.2.1, by
      refine zs_jnL (P := fun v => 97 ≤ v ∧ v < 97 + now.1) (fun j hj v hv => ?_) _ _ _ (fun v hv => by cases hv)
      have : now.2.2.getD j [] ∈ now.2.2 := by
        rw [List.getD_eq_getElem?_getD, List.getElem?_eq_getElem hj]
        exact List.getElem_mem hj
      exact (ok.2.2.2.2 _ this).2.2 v hv, by rw [hS1]; exact h8, by rw [hS1]; exact ok.2.2.2.2⟩
    rw [hS1] at V2
    refine ⟨h2, ?_, V2, zc_Ft F1 G2⟩
    rw [decide_eq_true e, cond_true, show z_cmp .ne (Int32.ofInt 1) (Int32.ofInt 0) = true from rfl, cond_true, zv_r01 V, b1_s, zv_r00 V, b1_s, e1, b2, zv_r00 V1, b1_s, e2, b2, zv_r00 V2, b1_s, zs_t H2, b1_s, zw_z H2.2.2.2.1, b1_s]
  · refine Or.inl ⟨e, ?_⟩
    rw [decide_eq_false e, cond_false, show z_cmp .ne (Int32.ofInt 0) (Int32.ofInt 0) = false from rfl, cond_false]
end ZVE
