/-! THE REFERENCE'S keepingLetter. -/
theorem zl_ap {T : List Nat} {v j : Nat} (h : j < T.length) : (T ++ [v]).getD j 0 = T.getD j 0 := by
  rw [List.getD_eq_getElem?_getD, List.getElem?_append_left h, ← List.getD_eq_getElem?_getD]
theorem zl_al {T : List Nat} {v : Nat} : (T ++ [v]).getD T.length 0 = v := by
  rw [List.getD_eq_getElem?_getD, List.getElem?_append_right (Nat.le_refl _), Nat.sub_self]
  rfl
theorem zm_keep {T : List Nat} (b : zw_bn T = true) (v : Nat) : (v < T.getD (T.length - zw_lE T 0) 0 → zw_bn (T ++ [v]) = false) ∧ (v = T.getD (T.length - zw_lE T 0) 0 → zw_bn (T ++ [v]) = true) ∧ 0 < T.length ∧ 1 ≤ zw_lE T 0 ∧ zw_lE T 0 ≤ T.length := by
  have hn : 0 < T.length := by
    unfold zw_bn at b
    rw [Bool.and_eq_true] at b
    exact of_decide_eq_true b.1
  obtain ⟨p, p1, L, _⟩ := zm_lE hn
  rw [Nat.zero_add] at p1
  have hp := L.1
  have hp2 : p ≤ T.length := by
    have := L.2.1
    omega
  have Q : zm_Q T p := by
    unfold zw_bn at b
    rw [decide_eq_true hn, Bool.true_and, p1] at b
    exact (zm_hpQ hp2).mp b
  have hl : (T ++ [v]).length = T.length + 1 := List.length_append
  rw [p1]
  refine ⟨fun hv => ?_, fun hv => ?_, hn, hp, hp2⟩
  · refine Bool.eq_false_iff.mpr (fun x => ?_)
    refine (zm_bnP (by omega)).mp x p hp (by omega) ⟨T.length - p, by omega, fun e he => ?_, ?_⟩
    · rw [zl_ap (show p + e < T.length by omega), zl_ap (show e < T.length by omega), Q (p + e) (by omega) (by omega), show p + e - p = e by omega]
    · rw [show p + (T.length - p) = T.length by omega, zl_al, zl_ap (show T.length - p < T.length by omega)]
      exact hv
  · refine (zm_bnP (by omega)).mpr (fun q q1 q2 => zm_noB (p := p) ⟨hp, by omega, fun j j1 j2 => ?_⟩ (fun i i1 i2 => ?_) q q1)
    · obtain ⟨d, d1, d2, d3⟩ := L.2.2 j j1 j2
      refine ⟨d, d1, fun e he => ?_, ?_⟩
      · rw [zl_ap (show 0 + j + e < T.length by omega), zl_ap (show 0 + e < T.length by omega)]
        exact d2 e he
      · rw [zl_ap (show 0 + j + d < T.length by omega), zl_ap (show 0 + d < T.length by omega)]
        exact d3
    · by_cases e : i = T.length
      · rw [e, zl_al, zl_ap (show T.length - p < T.length by omega)]
        exact hv
      · rw [zl_ap (show i < T.length by omega), zl_ap (show i - p < T.length by omega)]
        exact Q i i1 (by omega)
section ZYX
variable {N : Nat} {h : zH} {fl fl' : Nat → Int} {a a' : Nat → Nat → Int} {bef now snap : zA} {hist : List zA} {sv t : Int} {inp : List Nat} {rep : zvP} {T : List Nat}
theorem zr_keeping20 (hN : 1000 ≤ N) (ok : zv_ok now) (b : zw_bn now.2.1 = true) {x : Nat} (hx : x + 97 = now.2.1.getD (now.2.1.length - zw_lE now.2.1 0) 0) (hg : x < now.1) : ∀ (c f i : Nat) (h : zH) (fl : Nat → Int) (a : Nat → Nat → Int), zr h fl a → zyR fl a now hist snap sv inp rep t → i + c = x → c < f → ∃ h', fM_keepingLetter_20 N f 232 (Int32.ofInt (i : Int)) h = some (Int32.ofInt ((97 + x : Nat) : Int), h') ∧ zy h' now hist snap sv inp rep t ∧ zr_F h h' := by
  have o1 := ok.1.2
  have o2 := ok.2.1
  intro c
  induction c with
  | zero =>
    intro f i h fl a H R h1 h2
    obtain ⟨g, rfl⟩ : ∃ g, f = g + 1 := ⟨f - 1, by omega⟩
    have g0 : fAI h 233 100 (Int32.ofInt 0) = some (Int32.ofInt (a 233 0)) := zr_w H 0 (by decide)
    obtain ⟨h2, f2, a2, e2, H2, F2, Q2, r2⟩ := zr_loads (N := N) hN H (zyR_tx R) o2
    obtain ⟨h3, f3, a3, e3, H3, F3, Q3, r3⟩ := zr_adds (N := N) H2 r2 (by omega) (97 + i)
    have hl : (now.2.1 ++ [97 + i]).length = now.2.1.length + 1 := List.length_append
    have q := zr_beginning (N := N) hN H3 r3 (by omega) (fun u hu => by
      rw [List.mem_append, List.mem_singleton] at hu
      rcases hu with hu | hu
      · exact zv_256 ok u hu
      · omega)
    rw [(zm_keep b (97 + i)).2.1 (by omega), cond_true] at q
    refine ⟨h3, ?_, ⟨f3, a3, H3, zyR_Q R (zr_Qt Q2 Q3)⟩, zr_Ft F2 F3⟩
    rw [show (((97 + i : Nat) : Int) - 97) = (i : Int) by omega] at e3
    rw [fM_keepingLetter_20, zr_r0 H, b1_s, g0, b1_s, R.1.1, zqo_ge _ _ (by omega) (by omega), decide_eq_false (by omega), cond_false, e2, b2, e3, b2, q, b2]
    show some (Int32.ofInt 97 + Int32.ofInt (i : Int), h3) = _
    rw [zw_add, show 97 + (i : Int) = ((97 + x : Nat) : Int) by omega]
  | succ c ih =>
    intro f i h fl a H R h1 h2
    obtain ⟨g, rfl⟩ : ∃ g, f = g + 1 := ⟨f - 1, by omega⟩
    have g0 : fAI h 233 100 (Int32.ofInt 0) = some (Int32.ofInt (a 233 0)) := zr_w H 0 (by decide)
    obtain ⟨h2, f2, a2, e2, H2, F2, Q2, r2⟩ := zr_loads (N := N) hN H (zyR_tx R) o2
    obtain ⟨h3, f3, a3, e3, H3, F3, Q3, r3⟩ := zr_adds (N := N) H2 r2 (by omega) (97 + i)
    have hl : (now.2.1 ++ [97 + i]).length = now.2.1.length + 1 := List.length_append
    have q := zr_beginning (N := N) hN H3 r3 (by omega) (fun u hu => by
      rw [List.mem_append, List.mem_singleton] at hu
      rcases hu with hu | hu
      · exact zv_256 ok u hu
      · omega)
    rw [(zm_keep b (97 + i)).1 (by omega), cond_false] at q
    obtain ⟨h4, e4, Y4, F4⟩ := ih g (i + 1) h3 f3 a3 H3 (zyR_Q R (zr_Qt Q2 Q3)) (by omega) (by omega)
    refine ⟨h4, ?_, Y4, zr_Ft F2 (zr_Ft F3 F4)⟩
    rw [show (((97 + i : Nat) : Int) - 97) = (i : Int) by omega] at e3
    rw [fM_keepingLetter_20, zr_r0 H, b1_s, g0, b1_s, R.1.1, zqo_ge _ _ (by omega) (by omega), decide_eq_false (by omega), cond_false, e2, b2, e3, b2, q, b2]
    show fM_keepingLetter_20 N g 232 (Int32.ofInt (i : Int) + Int32.ofInt 1) h3 = _
    rw [zh_inc]
    exact e4
theorem zn_keepingLetter (Y : zy h now hist snap sv inp rep t) (ok : zv_ok now) (hN : 4000 ≤ N) : ∃ h', fM_keepingLetter N 232 h = some (Int32.ofInt (if zw_bn now.2.1 = true then zw_g now.2.1 ((now.2.1.length : Int) - (zw_lE now.2.1 0 : Int)) else -1), h') ∧ zy h' now hist snap sv inp rep 0 ∧ zr_F h h' := by
  obtain ⟨h1, e1, ⟨fl, a, H, R⟩, F1⟩ := zy_throw Y 0
  obtain ⟨fl0, a0, H0, R0⟩ := Y
  have o1 := ok.1.2
  have o2 := ok.2.1
  obtain ⟨h2, f2, a2, e2, H2, F2, Q2, r2⟩ := zr_loads (N := N) (by omega) H (zyR_tx R) o2
  have R2 := zyR_Q R Q2
  unfold fM_keepingLetter
  rw [zr_T H0, cond_true, e1, b1_s, e2, b2, zr_beginning (by omega) H2 r2 (by omega) (zv_256 ok), b2]
  cases b : zw_bn now.2.1 with
  | false =>
    refine ⟨h2, ?_, ⟨f2, a2, H2, R2⟩, zr_Ft F1 F2⟩
    rw [if_neg (by decide)]
    rfl
  | true =>
    obtain ⟨_, _, k1, k2, k3⟩ := zm_keep b 0
    have hi : now.2.1.length - zw_lE now.2.1 0 < now.2.1.length := by omega
    have hm := ok.2.2.1 (now.2.1.getD (now.2.1.length - zw_lE now.2.1 0) 0) (by rw [List.getD_eq_getElem?_getD, List.getElem?_eq_getElem hi]; exact List.getElem_mem hi)
    obtain ⟨x, hx⟩ : ∃ x, x + 97 = now.2.1.getD (now.2.1.length - zw_lE now.2.1 0) 0 := ⟨_, Nat.sub_add_cancel hm.1⟩
    obtain ⟨h3, e3, Y3, F3⟩ := zr_keeping20 (N := N) (by omega) ok b hx (by omega) x N 0 h2 f2 a2 H2 R2 (Nat.zero_add _) (by omega)
    refine ⟨h3, ?_, Y3, zr_Ft F1 (zr_Ft F2 F3)⟩
    have e3 : fM_keepingLetter_20 N N 232 (Int32.ofInt 0) h2 = _ := e3
    rw [if_pos rfl]
    show fM_keepingLetter_20 N N 232 (Int32.ofInt 0) h2 = _
    rw [e3]
    unfold zw_g
    rw [if_pos (by omega), show ((now.2.1.length : Int) - (zw_lE now.2.1 0 : Int)).toNat = now.2.1.length - zw_lE now.2.1 0 by omega, ← hx, Nat.add_comm]
end ZYX
