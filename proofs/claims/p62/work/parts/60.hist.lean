/-! THE CLASS'S HISTORY. -/
/-- the oldest place behind the others -/
def zc_rot (hs : Nat → Nat) : Nat → Nat := fun i => if i = 7 then hs 0 else if i < 7 then hs (i + 1) else hs i
theorem zc_rotv (hs : Nat → Nat) (i : Nat) (hi : i < 8) : zc_rot hs i = hs (if i = 7 then 0 else i + 1) := by
  unfold zc_rot
  by_cases e : i = 7
  · rw [if_pos e, if_pos e]
  · rw [if_neg e, if_neg e, if_pos (by omega)]
section ZCH
variable {N : Nat} {sL : Nat → Nat} {sT : Nat → List Nat} {sS : Nat → Nat → List Nat} {sK : Nat → Nat} {wd : Nat → List Nat} {nu : Nat → Int} {hs : Nat → Nat}
theorem zc_hT {h : zH} {x : Nat} (H : ∃ L T S K, zs_S h x L T S K) : (fT h x (za_elem 105) && Nat.blt x 1000000) = true := by
  obtain ⟨L, T, S, K, H⟩ := H
  rw [show za_elem 105 = 3 from rfl, zs_T H, Bool.true_and]
  exact Nat.ble_eq.mpr (by have := H.1; omega)
/-- places moved one to the left; the state of the array while it goes on -/
theorem zc_forget18 {x : Nat} (hx : x = hs 0) : ∀ (c f i : Nat) (h : zH) (g : Nat → Nat), h[21]? = some (1, zc_o1 nu) → h[22]? = some (105, zc_ha g) → (∀ q, zc_Q q → ∃ L T S K, zs_S h q L T S K) → (∀ j, j < 8 → zc_Q (hs j)) → 1 ≤ i → i + c = 8 → c < f → (∀ j, j < 8 → g j = if j + 1 < i then hs (j + 1) else hs j) → fH_forgetOldest_18 N f 21 x (Int32.ofInt (i : Int)) h = some ((), ((h.set 22 (105, zc_ha (zc_rot hs))).set 21 (1, zc_o1 (zc_u nu 1 7)))) := by
  intro c
  induction c with
  | zero =>
    intro f i h g e1 e2 e3 e4 h1 h2 h3 h4
    obtain ⟨y, rfl⟩ : ∃ y, f = y + 1 := ⟨f - 1, by omega⟩
    have n1 : fN h 22 105 = some (Int32.ofInt 8) := by
      rw [zi_N (by decide) e2]
      rfl
    have r1 : fR h 21 1 0 = some 22 := zh_R (b := 0) (by decide) e1 rfl
    have eg : (zc_ha g).set 7 (.ref x) = zc_ha (zc_rot hs) := by
      rw [hx]
      unfold zc_ha zc_rot
      have a0 := h4 0 (by omega)
      have a1 := h4 1 (by omega)
      have a2 := h4 2 (by omega)
      have a3 := h4 3 (by omega)
      have a4 := h4 4 (by omega)
      have a5 := h4 5 (by omega)
      have a6 := h4 6 (by omega)
      rw [if_pos (by omega)] at a0 a1 a2 a3 a4 a5 a6
      rw [a0, a1, a2, a3, a4, a5, a6]
      rfl
    rw [fH_forgetOldest_18, r1, b1_s, n1, b1_s, zqo_ge _ _ (by omega) (by decide), decide_eq_true (by omega), cond_true, b1_s, b1_s, n1, b1_s, zc_hT (e3 x (by rw [hx]; exact e4 0 (by omega))), cond_true, zw_sub, show (8 : Int) - 1 = ((7 : Nat) : Int) by decide, zh_AS e2 (show 7 < 8 by decide) (by decide), b1_s, eg]
    have q1 : (h.set 22 (105, zc_ha (zc_rot hs)))[21]? = some (1, zc_o1 nu) := (zh_set (by decide)).trans e1
    have q2 : (h.set 22 (105, zc_ha (zc_rot hs)))[22]? = some (105, zc_ha (zc_rot hs)) := List.getElem?_set_self (List.getElem?_eq_some_iff.mp e2).1
    have n2 : fN (h.set 22 (105, zc_ha (zc_rot hs))) 22 105 = some (Int32.ofInt 8) := by
      rw [zi_N (by decide) q2]
      rfl
    rw [zh_R (b := 0) (by decide) q1 rfl, b1_s, n2, b1_s, zw_sub, zh_S q1 (show 1 < 2 by decide), b1_s]
    rfl
  | succ c ih =>
    intro f i h g e1 e2 e3 e4 h1 h2 h3 h4
    obtain ⟨y, rfl⟩ : ∃ y, f = y + 1 := ⟨f - 1, by omega⟩
    have n1 : fN h 22 105 = some (Int32.ofInt 8) := by
      rw [zi_N (by decide) e2]
      rfl
    have r1 : fR h 21 1 0 = some 22 := zh_R (b := 0) (by decide) e1 rfl
    have gi : g i = hs i := by rw [h4 i (by omega), if_neg (by omega)]
    have a1 : fAR h 22 105 (Int32.ofInt (i : Int)) = some (hs i) := by
      rw [← gi]
      exact zh_AR (by decide) e2 (zc_hi g i (by omega)) (by omega)
    rw [fH_forgetOldest_18, r1, b1_s, n1, b1_s, zqo_ge _ _ (by omega) (by decide), decide_eq_false (by omega), cond_false, b1_s, b1_s, a1, b1_s, zc_hT (e3 _ (e4 i (by omega))), cond_true, zw_sub, show (i : Int) - 1 = ((i - 1 : Nat) : Int) by omega, zh_AS e2 (show i - 1 < 8 by omega) (by omega), b1_s, zh_inc, zc_hset g (i - 1) (hs i) (by omega)]
    have q1 : (h.set 22 (105, zc_ha (zc_u g (i - 1) (hs i))))[21]? = some (1, zc_o1 nu) := (zh_set (by decide)).trans e1
    have q2 : (h.set 22 (105, zc_ha (zc_u g (i - 1) (hs i))))[22]? = some (105, zc_ha (zc_u g (i - 1) (hs i))) := List.getElem?_set_self (List.getElem?_eq_some_iff.mp e2).1
    have e5 := ih y (i + 1) _ _ q1 q2 (by
      intro q hq
      obtain ⟨L, T, S, K, H⟩ := e3 q hq
      have b := zc_Qb hq
      refine ⟨L, T, S, K, ?_⟩
      obtain ⟨a1, a2, a3, a4, a5, a6⟩ := H
      have f : ∀ r, r ≠ 22 → (h.set 22 (105, zc_ha (zc_u g (i - 1) (hs i))))[r]? = h[r]? := fun r hr => zh_set (fun e => hr e.symm)
      have kw : ∀ {o n : Nat} {l : List Nat}, zw_W h o n l → o ≠ 22 → o + 1 ≠ 22 → zw_W (h.set 22 (105, zc_ha (zc_u g (i - 1) (hs i)))) o n l := by
        intro o n l W h1 h2
        obtain ⟨b1', b2', ⟨R, b3, b4, b5⟩, b6, b7⟩ := W
        exact ⟨b1', (f o h1).trans b2', ⟨R, (f (o + 1) h2).trans b3, b4, b5⟩, b6, b7⟩
      exact ⟨a1, (f q (by omega)).trans a2, (f (q + 3) (by omega)).trans a3, kw a4 (by omega) (by omega), fun j hj => kw (a5 j hj) (by omega) (by omega), a6⟩) e4 (by omega) (by omega) (by omega) (by
      intro j hj
      by_cases e : j = i - 1
      · subst e
        rw [zc_us, if_pos (by omega), show i - 1 + 1 = i by omega]
      · rw [zc_un _ _ e, h4 j hj]
        by_cases e2 : j + 1 < i
        · rw [if_pos e2, if_pos (by omega)]
        · rw [if_neg e2, if_neg (by omega)])
    rw [e5, List.set_set]
theorem zc_forget {h : zH} (C : zc h sL sT sS sK wd nu hs) (hN : 1000 ≤ N) : ∃ h', fH_forgetOldest N 21 h = some ((), h') ∧ zc h' sL sT sS sK wd (zc_u nu 1 7) (zc_rot hs) ∧ zc_F h h' := by
  have hq : ∀ j, j < 8 → zc_Q (hs j) := fun j hj => zc_hq C hj
  have e := zc_forget18 (N := N) (x := hs 0) rfl 7 N 1 h hs C.2.1 C.2.2.1 (fun q hq => ⟨_, _, _, _, zc_st C hq⟩) hq (by omega) (by omega) (by omega) (fun j hj => by rw [if_neg (by omega)])
  obtain ⟨k7, k8, kF⟩ := zc_cells C (p := 22) (c := (105, zc_ha (zc_rot hs))) (by omega)
  obtain ⟨c1, c2, c3, c4, c5, c6, c7, c8, c9, c10⟩ := C
  have C2 : zc (h.set 22 (105, zc_ha (zc_rot hs))) sL sT sS sK wd nu (zc_rot hs) := by
    refine ⟨(zh_set (by decide)).trans c1, (zh_set (by decide)).trans c2, List.getElem?_set_self (List.getElem?_eq_some_iff.mp c3).1, (zh_set (by decide)).trans c4, (zh_set (by decide)).trans c5, (zh_set (by decide)).trans c6, k7, k8, ?_, ?_⟩
    · intro i hi
      unfold zc_rot
      split
      · exact c9 0 (by omega)
      · split
        · exact c9 (i + 1) (by omega)
        · exact c9 i hi
    · intro i j hi hj hij
      rw [zc_rotv hs i hi, zc_rotv hs j hj]
      by_cases e1 : i = 7
      · rw [if_pos e1, if_neg (by omega)]
        exact c10 _ _ (by omega) (by omega) (by omega)
      · rw [if_neg e1]
        by_cases e2 : j = 7
        · rw [if_pos e2]
          exact c10 _ _ (by omega) (by omega) (by omega)
        · rw [if_neg e2]
          exact c10 _ _ (by omega) (by omega) (by omega)
  obtain ⟨h3, e3, C3, F3⟩ := zc_many C2 7
  refine ⟨h3, ?_, C3, zc_Ft kF F3⟩
  unfold fH_forgetOldest
  rw [zi_T (by decide) c2, cond_true, zh_R (b := 0) (by decide) c2 rfl, b1_s, show fN h 22 105 = some (Int32.ofInt 8) by rw [zi_N (by decide) c3]; rfl, b1_s, show z_cmp .ne (Int32.ofInt 8) (Int32.ofInt 0) = true from rfl, cond_true, b1_s, show Int32.ofInt 0 = Int32.ofInt ((0 : Nat) : Int) from rfl, zh_AR (by decide) c3 (zc_hi hs 0 (by omega)) (by decide), b1_s]
  refine e.trans ?_
  have q1 : (h.set 22 (105, zc_ha (zc_rot hs)))[21]? = some (1, zc_o1 nu) := (zh_set (by decide)).trans c2
  rw [zh_S q1 (show 1 < 2 by decide)] at e3
  cases e3
  rfl
/-- a copy of one state in another's place -/
theorem zc_copy {h : zH} (C : zc h sL sT sS sK wd nu hs) (hN : 1000 ≤ N) {q p : Nat} (hq : zc_Q q) (hp : zc_Q p) (d : q ≠ p) : ∃ h' S', fS_copyFrom N q p h = some ((), h') ∧ zc h' (zc_u sL q (sL p)) (zc_u sT q (sT p)) (zc_u sS q S') (zc_u sK q (sK p)) wd nu hs ∧ (∀ j, j < sK p → S' j = sS p j) ∧ zc_F h h' := by
  obtain ⟨h1, S1, e1, H1, r1, F1⟩ := zs_copy (N := N) hN (zc_Qd hq hp d) (zc_st C hq) (zc_st C hp)
  obtain ⟨C2, F2⟩ := zc_state C hq H1 F1
  exact ⟨h1, S1, e1, C2, r1, F2⟩
/-- where the state goes that is remembered next -/
def zc_slot (nu : Nat → Int) (hs : Nat → Nat) : Nat := if nu 1 = 8 then hs 0 else hs (nu 1).toNat
theorem zc_rem16 {h : zH} (C : zc h sL sT sS sK wd nu hs) (hN : 1000 ≤ N) {n : Nat} (hn : nu 1 = (n : Int)) (h8 : n < 8) : ∃ h' S', fH_remember_16 N 21 1 h = some ((), h') ∧ zc h' (zc_u sL (hs n) (sL 1)) (zc_u sT (hs n) (sT 1)) (zc_u sS (hs n) S') (zc_u sK (hs n) (sK 1)) wd (zc_u nu 1 ((n : Int) + 1)) hs ∧ (∀ j, j < sK 1 → S' j = sS 1 j) ∧ zc_F h h' := by
  have hq := zc_hq C h8
  obtain ⟨h1, S1, e1, C1, r1, F1⟩ := zc_copy (N := N) C hN hq (Or.inl rfl) (by
    obtain ⟨k, k1, k2⟩ := C.2.2.2.2.2.2.2.2.1 n h8
    omega)
  obtain ⟨h2, e2, C2, F2⟩ := zc_many C1 ((n : Int) + 1)
  refine ⟨h2, S1, ?_, C2, r1, zc_Ft F1 F2⟩
  unfold fH_remember_16
  rw [zc_cnt C, b1_s, hn, zqo_lt _ _ (by omega) (by decide), decide_eq_false (by omega), cond_false, b1_s, zc_r1 C, b1_s, zc_n1 C, b1_s, zqo_ge _ _ (by omega) (by decide), decide_eq_false (by omega), cond_false, b1_s, b1_s, zc_i1 C h8, b1_s, zc_hx C h8, cond_true, b1_s, b1_s, zc_i1 C h8, b1_s, e1, b2, zc_cnt C1, b1_s, hn, zw_add, e2, b1_s]
/-- the state is remembered -/
theorem zc_remember {h : zH} (C : zc h sL sT sS sK wd nu hs) (hN : 1000 ≤ N) {n : Nat} (hn : nu 1 = (n : Int)) (h8 : n ≤ 8) : ∃ h' S' hs', fH_remember N 21 1 h = some ((), h') ∧ hs' = (if n = 8 then zc_rot hs else hs) ∧ zc h' (zc_u sL (hs' (min n 7)) (sL 1)) (zc_u sT (hs' (min n 7)) (sT 1)) (zc_u sS (hs' (min n 7)) S') (zc_u sK (hs' (min n 7)) (sK 1)) wd (zc_u nu 1 ((min n 7 : Nat) + 1)) hs' ∧ (∀ j, j < sK 1 → S' j = sS 1 j) ∧ zc_F h h' := by
  unfold fH_remember
  rw [zc_T1 C, cond_true, zc_cnt C, b1_s, zc_r1 C, b1_s, zc_n1 C, b1_s, hn, zqo_lt _ _ (by omega) (by decide)]
  by_cases e : n = 8
  · obtain ⟨h1, e1, C1, F1⟩ := zc_forget (N := N) C hN
    obtain ⟨h2, S2, e2, C2, r2, F2⟩ := zc_rem16 (N := N) C1 hN (n := 7) (zc_us _ _ _) (by omega)
    rw [decide_eq_false (by omega), cond_false, e1, b2]
    refine ⟨h2, S2, zc_rot hs, e2, by rw [if_pos e], ?_, r2, zc_Ft F1 F2⟩
    have eu : zc_u (zc_u nu 1 7) 1 (((7 : Nat) : Int) + 1) = zc_u nu 1 ((min n 7 : Nat) + 1) := by
      funext k
      unfold zc_u
      by_cases e3 : k = 1
      · rw [if_pos e3, if_pos e3, show min n 7 = 7 by omega]
      · rw [if_neg e3, if_neg e3, if_neg e3]
    rw [eu] at C2
    rw [show min n 7 = 7 by omega] at C2 ⊢
    exact C2
  · obtain ⟨h2, S2, e2, C2, r2, F2⟩ := zc_rem16 (N := N) C hN hn (by omega)
    rw [decide_eq_true (by omega), cond_true]
    refine ⟨h2, S2, hs, e2, by rw [if_neg e], ?_, r2, F2⟩
    rw [show min n 7 = n by omega]
    exact C2
/-- the latest remembered state brought back -/
theorem zc_back {h : zH} (C : zc h sL sT sS sK wd nu hs) (hN : 1000 ≤ N) {n : Nat} (hn : nu 1 = (n : Int)) (h8 : n ≤ 8) : (n = 0 ∧ fH_bringBack N 21 1 h = some (Int32.ofInt 0, h)) ∨ (1 ≤ n ∧ ∃ h' S', fH_bringBack N 21 1 h = some (Int32.ofInt 1, h') ∧ zc h' (zc_u sL 1 (sL (hs (n - 1)))) (zc_u sT 1 (sT (hs (n - 1)))) (zc_u sS 1 S') (zc_u sK 1 (sK (hs (n - 1)))) wd (zc_u nu 1 ((n - 1 : Nat) : Int)) hs ∧ (∀ j, j < sK (hs (n - 1)) → S' j = sS (hs (n - 1)) j) ∧ zc_F h h') := by
  unfold fH_bringBack
  rw [zc_T1 C, cond_true, zc_cnt C, b1_s, hn, zqo_lt _ _ (by omega) (by decide)]
  by_cases e : n = 0
  · refine Or.inl ⟨e, ?_⟩
    rw [decide_eq_true (by omega), cond_true]
    rfl
  · refine Or.inr ⟨by omega, ?_⟩
    obtain ⟨h1, e1, C1, F1⟩ := zc_many C ((n - 1 : Nat) : Int)
    have hq := zc_hq C1 (show n - 1 < 8 by omega)
    obtain ⟨h2, S2, e2, C2, r2, F2⟩ := zc_copy (N := N) C1 hN (Or.inl rfl) hq (by
      obtain ⟨k, k1, k2⟩ := C.2.2.2.2.2.2.2.2.1 (n - 1) (by omega)
      omega)
    refine ⟨h2, S2, ?_, C2, r2, zc_Ft F1 F2⟩
    rw [decide_eq_false (by omega), cond_false, b1_s, zc_r1 C, b1_s, zc_n1 C, b1_s, zqo_gt _ _ (by omega) (by decide), decide_eq_false (by omega), cond_false, b1_s, b1_s, zw_sub, show (n : Int) - 1 = ((n - 1 : Nat) : Int) by omega, zc_i1 C (by omega), b1_s, zc_hx C (by omega), cond_true, b1_s, zw_sub, show (n : Int) - 1 = ((n - 1 : Nat) : Int) by omega, e1, b1_s, zc_r1 C1, b1_s, zc_cnt C1, b1_s, zc_us, zc_i1 C1 (by omega), b1_s, e2, b2]
end ZCH
