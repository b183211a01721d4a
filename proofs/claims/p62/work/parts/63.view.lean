/-! THE CLASS AS IT IS SEEN: states as letters, text and kept words. -/
abbrev zA := Nat × List Nat × List (List Nat)
def zv_a (sL : Nat → Nat) (sT : Nat → List Nat) (sS : Nat → Nat → List Nat) (sK : Nat → Nat) (q : Nat) : zA := (sL q, sT q, (List.range (sK q)).map (sS q))
/-- a state that can be -/
def zv_ok (A : zA) : Prop := (2 ≤ A.1 ∧ A.1 ≤ 9) ∧ A.2.1.length ≤ 120 ∧ (∀ v ∈ A.2.1, 97 ≤ v ∧ v < 97 + A.1) ∧ A.2.2.length ≤ 8 ∧ ∀ w ∈ A.2.2, 1 ≤ w.length ∧ w.length ≤ 40 ∧ ∀ v ∈ w, 97 ≤ v ∧ v < 97 + A.1
/-- the report, the script's kind and offset -/
abbrev zvP := List Nat × Int × Int
def zv (h : zH) (now : zA) (hist : List zA) (snap : zA) (sv : Int) (inp : List Nat) (rep : zvP) : Prop := ∃ sL sT sS sK wd nu hs, zc h sL sT sS sK wd nu hs ∧ zv_a sL sT sS sK 1 = now ∧ nu 1 = (hist.length : Int) ∧ hist.length ≤ 8 ∧ (∀ i, i < hist.length → hist[i]? = some (zv_a sL sT sS sK (hs i))) ∧ zv_a sL sT sS sK 183 = snap ∧ nu 0 = sv ∧ wd 204 = inp ∧ (wd 228 = rep.1 ∧ nu 2 = rep.2.1 ∧ nu 3 = rep.2.2) ∧ ∀ q, zc_Q q → zv_ok (zv_a sL sT sS sK q)
/-- one more remembered -/
def zv_push (hist : List zA) (A : zA) : List zA := (if hist.length = 8 then hist.tail else hist) ++ [A]
theorem zv_pushl {hist : List zA} {A : zA} (h : hist.length ≤ 8) : (zv_push hist A).length = min hist.length 7 + 1 := by
  unfold zv_push
  rw [List.length_append]
  split
  · rw [List.length_tail]
    show hist.length - 1 + 1 = _
    omega
  · show hist.length + 1 = _
    omega
theorem zv_map {S S' : Nat → List Nat} {K : Nat} (h : ∀ j, j < K → S' j = S j) : (List.range K).map S' = (List.range K).map S := List.map_congr_left fun j hj => h j (List.mem_range.mp hj)
theorem zv_aeq {sL sL' : Nat → Nat} {sT sT' : Nat → List Nat} {sS sS' : Nat → Nat → List Nat} {sK sK' : Nat → Nat} {p q : Nat} (h1 : sL' p = sL q) (h2 : sT' p = sT q) (h3 : sK' p = sK q) (h4 : ∀ j, j < sK q → sS' p j = sS q j) : zv_a sL' sT' sS' sK' p = zv_a sL sT sS sK q := by
  unfold zv_a
  rw [h1, h2, h3, zv_map h4]
section ZVV
variable {N : Nat} {h : zH} {now snap : zA} {hist : List zA} {sv : Int} {inp : List Nat} {rep : zvP}
/-- the state opened: what may be done with it -/
theorem zv_open (V : zv h now hist snap sv inp rep) : zv_ok now ∧ ∃ S, zs_S h 1 now.1 now.2.1 S now.2.2.length ∧ (List.range now.2.2.length).map S = now.2.2 ∧ ∀ h' L' T' S' K', zs_S h' 1 L' T' S' K' → zs_F h h' 1 → zv_ok (L', T', (List.range K').map S') → zv h' (L', T', (List.range K').map S') hist snap sv inp rep ∧ zc_F h h' := by
  obtain ⟨sL, sT, sS, sK, wd, nu, hs, C, v1, v2, v3, v4, v5, v6, v7, v8, v9⟩ := V
  have lk : now.2.2.length = sK 1 := by
    rw [← v1]
    show ((List.range (sK 1)).map (sS 1)).length = sK 1
    rw [List.length_map, List.length_range]
  have l1 : now.1 = sL 1 := by rw [← v1]; rfl
  have l2 : now.2.1 = sT 1 := by rw [← v1]; rfl
  have l3 : now.2.2 = (List.range (sK 1)).map (sS 1) := by rw [← v1]; rfl
  refine ⟨by rw [← v1]; exact v9 1 (Or.inl rfl), sS 1, ?_, ?_, ?_⟩
  · rw [l1, l2, lk]
    exact zc_now C
  · rw [lk, l3]
  · intro h' L' T' S' K' H F ok
    obtain ⟨C2, F2⟩ := zc_state C (Or.inl rfl) H F
    refine ⟨⟨_, _, _, _, _, _, _, C2, ?_, v2, v3, ?_, ?_, v6, v7, v8, ?_⟩, F2⟩
    · unfold zv_a
      rw [zc_us, zc_us, zc_us, zc_us]
    · intro i hi
      have hq := zc_hq C (show i < 8 by omega)
      obtain ⟨k, k1, k2⟩ := C.2.2.2.2.2.2.2.2.1 i (by omega)
      rw [v4 i hi]
      congr 1
      unfold zv_a
      rw [zc_un _ _ (show hs i ≠ 1 by omega), zc_un _ _ (show hs i ≠ 1 by omega), zc_un _ _ (show hs i ≠ 1 by omega), zc_un _ _ (show hs i ≠ 1 by omega)]
    · rw [← v5]
      rfl
    · intro q hq
      by_cases e : q = 1
      · subst e
        unfold zv_a
        rw [zc_us, zc_us, zc_us, zc_us]
        exact ok
      · have := v9 q hq
        unfold zv_a at this ⊢
        rw [zc_un _ _ e, zc_un _ _ e, zc_un _ _ e, zc_un _ _ e]
        exact this
/-- the state remembered -/
theorem zv_remember (V : zv h now hist snap sv inp rep) (hN : 1000 ≤ N) : ∃ h', fH_remember N 21 1 h = some ((), h') ∧ zv h' now (zv_push hist now) snap sv inp rep ∧ zc_F h h' := by
  obtain ⟨sL, sT, sS, sK, wd, nu, hs, C, v1, v2, v3, v4, v5, v6, v7, v8, v9⟩ := V
  obtain ⟨h1, S1, hs1, e1, d1, C1, r1, F1⟩ := zc_remember (N := N) C hN v2 v3
  refine ⟨h1, e1, ⟨_, _, _, _, _, _, _, C1, ?_, ?_, ?_, ?_, ?_, ?_, v7, ⟨v8.1, (zc_un nu _ (show (2 : Nat) ≠ 1 by decide)).trans v8.2.1, (zc_un nu _ (show (3 : Nat) ≠ 1 by decide)).trans v8.2.2⟩, ?_⟩, F1⟩
  all_goals
    have slot : ∃ k, k < 8 ∧ hs1 (min hist.length 7) = 23 + 20 * k := C1.2.2.2.2.2.2.2.2.1 _ (by omega)
    obtain ⟨k, k1, k2⟩ := slot
  · rw [← v1]
    unfold zv_a
    rw [zc_un _ _ (show (1 : Nat) ≠ hs1 (min hist.length 7) by omega), zc_un _ _ (show (1 : Nat) ≠ hs1 (min hist.length 7) by omega), zc_un _ _ (show (1 : Nat) ≠ hs1 (min hist.length 7) by omega), zc_un _ _ (show (1 : Nat) ≠ hs1 (min hist.length 7) by omega)]
  · rw [zc_us, zv_pushl v3]
    rfl
  · rw [zv_pushl v3]
    omega
  · intro i hi
    rw [zv_pushl v3] at hi
    by_cases e : i = min hist.length 7
    · have ea : zv_a (zc_u sL (hs1 (min hist.length 7)) (sL 1)) (zc_u sT (hs1 (min hist.length 7)) (sT 1)) (zc_u sS (hs1 (min hist.length 7)) S1) (zc_u sK (hs1 (min hist.length 7)) (sK 1)) (hs1 i) = now := by
        rw [← v1, e]
        refine zv_aeq (zc_us _ _ _) (zc_us _ _ _) (zc_us _ _ _) (fun j hj => ?_)
        rw [zc_us]
        exact r1 j hj
      rw [ea]
      unfold zv_push
      split
      · rw [List.getElem?_append_right (by rw [List.length_tail]; omega), List.length_tail, show i - (hist.length - 1) = 0 by omega]
        rfl
      · rw [List.getElem?_append_right (by omega), show i - hist.length = 0 by omega]
        rfl
    · have ne : hs1 i ≠ hs1 (min hist.length 7) := C1.2.2.2.2.2.2.2.2.2 i _ (by omega) (by omega) e
      have ea : zv_a (zc_u sL (hs1 (min hist.length 7)) (sL 1)) (zc_u sT (hs1 (min hist.length 7)) (sT 1)) (zc_u sS (hs1 (min hist.length 7)) S1) (zc_u sK (hs1 (min hist.length 7)) (sK 1)) (hs1 i) = zv_a sL sT sS sK (hs1 i) := by
        unfold zv_a
        rw [zc_un _ _ ne, zc_un _ _ ne, zc_un _ _ ne, zc_un _ _ ne]
      rw [ea]
      unfold zv_push
      by_cases e8 : hist.length = 8
      · rw [if_pos e8]
        rw [if_pos e8] at d1
        rw [List.getElem?_append_left (by rw [List.length_tail]; omega), List.getElem?_tail, v4 (i + 1) (by omega), d1, zc_rotv hs i (by omega), if_neg (by omega)]
      · rw [if_neg e8]
        rw [if_neg e8] at d1
        rw [List.getElem?_append_left (by omega), v4 i (by omega), d1]
  · rw [← v5]
    unfold zv_a
    by_cases e : 183 = hs1 (min hist.length 7)
    · omega
    · rw [zc_un _ _ e, zc_un _ _ e, zc_un _ _ e, zc_un _ _ e]
  · rw [← v6]
    rfl
  · intro q hq
    by_cases e : q = hs1 (min hist.length 7)
    · have : zv_a (zc_u sL (hs1 (min hist.length 7)) (sL 1)) (zc_u sT (hs1 (min hist.length 7)) (sT 1)) (zc_u sS (hs1 (min hist.length 7)) S1) (zc_u sK (hs1 (min hist.length 7)) (sK 1)) q = zv_a sL sT sS sK 1 := by
        rw [e]
        refine zv_aeq (zc_us _ _ _) (zc_us _ _ _) (zc_us _ _ _) (fun j hj => ?_)
        rw [zc_us]
        exact r1 j hj
      rw [this]
      exact v9 1 (Or.inl rfl)
    · have := v9 q hq
      unfold zv_a at this ⊢
      rw [zc_un _ _ e, zc_un _ _ e, zc_un _ _ e, zc_un _ _ e]
      exact this
end ZVV
