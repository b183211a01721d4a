/-! THE CLASS'S COMMANDS. -/
/-- how a command of the class's script ends: refused, or done and at its end -/
def yO (B : yB) (h : zH) (nu : Nat → Int) (r : Option (Int32 × zH)) (x : Option (zA × Nat)) : Prop := (x = none ∧ ∃ h' A' nu', r = some (Int32.ofInt 0, h') ∧ yc B h' A' nu' ∧ zc_F h h' ∧ yn nu nu') ∨ (∃ A' p', x = some (A', p') ∧ ∃ h' nu', r = some (Int32.ofInt 1, h') ∧ yc B h' A' nu' ∧ zc_F h h' ∧ yn nu nu' ∧ nu' 6 = (p' : Int))
section YCE
variable {N : Nat} {B : yB} {h : zH} {A : zA} {nu : Nat → Int}
theorem yc_drop (hN : 3000 ≤ N) (Y : yc B h A nu) {p : Nat} (h6 : nu 6 = (p : Int)) (hp : p ≤ (yW B).length) : yO B h nu (fC_runDrop N 203 h) (yx 2 (yW B) A p) := by
  have ok := yc_ok Y
  have o2 := ok.2.1
  show yO B h nu (fC_runDrop N 203 h) (yx_n (yW B) p 0 (A.2.1.length : Int) (yf_drop A))
  rcases yc_num (N := N) (by omega) Y h6 hp 0 (A.2.1.length : Int) (by decide) (by omega) with ⟨v, e, m1, h1, n1, e1, Y1, F1, y1, p1, v1⟩ | ⟨m1, h1, n1, e1, Y1, F1, y1⟩
  · obtain ⟨_, _, _, pe, el, _, vl, _⟩ := ym_numb hp m1
    rcases yc_sem (N := N) (by omega) Y1 p1 el with ⟨e', m2, h2, n2, e2, Y2, F2, y2, p2, v2⟩ | ⟨m2, h2, n2, e2, Y2, F2, y2⟩
    · obtain ⟨h3, e3, W3, F3⟩ := zw_shorten (N := N) (yc_txt Y2) ((A.2.1.length : Int) - (v : Int)) (by omega)
      rw [if_pos (by omega), show ((A.2.1.length : Int) - (v : Int)).toNat = A.2.1.length - v by omega] at W3
      obtain ⟨Y3, G3⟩ := yc_text Y2 W3 F3 (fun u hu => ok.2.2.1 u (List.mem_of_mem_take hu))
      refine Or.inr ⟨(A.1, A.2.1.take (A.2.1.length - v), A.2.2), e', ?_, h3, n2, ?_, Y3, zc_Ft F1 (zc_Ft F2 G3), yn_t y1 y2, p2⟩
      · rw [yx_n, m1]
        show (ym_sem (yW B) e).bind _ = _
        rw [m2]
        rfl
      · unfold fC_runDrop
        rw [yc_T Y, cond_true, yc_r1 Y, b1_s, yc_t Y, b1_s, zw_z (yc_txt Y), b1_s, e1, b2, show z_cmp .eq (Int32.ofInt 1) (Int32.ofInt 0) = false from rfl, cond_false, e2, b2, show z_cmp .ne (Int32.ofInt 1) (Int32.ofInt 0) = true from rfl, cond_true, yc_r1 Y2, b1_s, yc_t Y2, b1_s, b1_s, yc_t Y2, b1_s, zw_z (yc_txt Y2), b1_s, yc_i Y2 7 (by decide), b1_s, v2, v1, zw_sub, e3, b2]
    · refine Or.inl ⟨?_, h2, A, n2, ?_, Y2, zc_Ft F1 F2, yn_t y1 y2⟩
      · rw [yx_n, m1]
        show (ym_sem (yW B) e).bind _ = _
        rw [m2]
        rfl
      · unfold fC_runDrop
        rw [yc_T Y, cond_true, yc_r1 Y, b1_s, yc_t Y, b1_s, zw_z (yc_txt Y), b1_s, e1, b2, show z_cmp .eq (Int32.ofInt 1) (Int32.ofInt 0) = false from rfl, cond_false, e2, b2, show z_cmp .ne (Int32.ofInt 0) (Int32.ofInt 0) = false from rfl, cond_false]
        rfl
  · refine Or.inl ⟨?_, h1, A, n1, ?_, Y1, F1, y1⟩
    · rw [yx_n, m1]
      rfl
    · unfold fC_runDrop
      rw [yc_T Y, cond_true, yc_r1 Y, b1_s, yc_t Y, b1_s, zw_z (yc_txt Y), b1_s, e1, b2, show z_cmp .eq (Int32.ofInt 0) (Int32.ofInt 0) = true from rfl, cond_true]
      rfl
theorem yv_trnL {c : Nat} (hT : zv_L A A.2.1) (hc : c ≤ A.2.1.length) : zv_L A (zw_trn A.2.1 c) := zv_trnL hT hc
theorem yc_rotate (hN : 3000 ≤ N) (Y : yc B h A nu) {p : Nat} (h6 : nu 6 = (p : Int)) (hp : p ≤ (yW B).length) : yO B h nu (fC_runRotate N 203 h) (yx 4 (yW B) A p) := by
  have ok := yc_ok Y
  have o2 := ok.2.1
  show yO B h nu (fC_runRotate N 203 h) (yx_n (yW B) p 0 (A.2.1.length : Int) (yf_rot A))
  rcases yc_num (N := N) (by omega) Y h6 hp 0 (A.2.1.length : Int) (by decide) (by omega) with ⟨v, e, m1, h1, n1, e1, Y1, F1, y1, p1, v1⟩ | ⟨m1, h1, n1, e1, Y1, F1, y1⟩
  · obtain ⟨_, _, _, pe, el, _, vl, _⟩ := ym_numb hp m1
    rcases yc_sem (N := N) (by omega) Y1 p1 el with ⟨e', m2, h2, n2, e2, Y2, F2, y2, p2, v2⟩ | ⟨m2, h2, n2, e2, Y2, F2, y2⟩
    · obtain ⟨h3, e3, W3, F3⟩ := zw_turn (N := N) (yc_txt Y2) (by omega) (c := v) (by omega)
      obtain ⟨Y3, G3⟩ := yc_text Y2 W3 F3 (zv_trnL ok.2.2.1 (by omega))
      refine Or.inr ⟨(A.1, zw_trn A.2.1 v, A.2.2), e', ?_, h3, n2, ?_, Y3, zc_Ft F1 (zc_Ft F2 G3), yn_t y1 y2, p2⟩
      · rw [yx_n, m1]
        show (ym_sem (yW B) e).bind _ = _
        rw [m2]
        rfl
      · unfold fC_runRotate
        rw [yc_T Y, cond_true, yc_r1 Y, b1_s, yc_t Y, b1_s, zw_z (yc_txt Y), b1_s, e1, b2, show z_cmp .eq (Int32.ofInt 1) (Int32.ofInt 0) = false from rfl, cond_false, e2, b2, show z_cmp .ne (Int32.ofInt 1) (Int32.ofInt 0) = true from rfl, cond_true, yc_r1 Y2, b1_s, yc_t Y2, b1_s, yc_i Y2 7 (by decide), b1_s, v2, v1, e3, b2]
    · refine Or.inl ⟨?_, h2, A, n2, ?_, Y2, zc_Ft F1 F2, yn_t y1 y2⟩
      · rw [yx_n, m1]
        show (ym_sem (yW B) e).bind _ = _
        rw [m2]
        rfl
      · unfold fC_runRotate
        rw [yc_T Y, cond_true, yc_r1 Y, b1_s, yc_t Y, b1_s, zw_z (yc_txt Y), b1_s, e1, b2, show z_cmp .eq (Int32.ofInt 1) (Int32.ofInt 0) = false from rfl, cond_false, e2, b2, show z_cmp .ne (Int32.ofInt 0) (Int32.ofInt 0) = false from rfl, cond_false]
        rfl
  · refine Or.inl ⟨?_, h1, A, n1, ?_, Y1, F1, y1⟩
    · rw [yx_n, m1]
      rfl
    · unfold fC_runRotate
      rw [yc_T Y, cond_true, yc_r1 Y, b1_s, yc_t Y, b1_s, zw_z (yc_txt Y), b1_s, e1, b2, show z_cmp .eq (Int32.ofInt 0) (Int32.ofInt 0) = true from rfl, cond_true]
      rfl
theorem yc_remove (hN : 3000 ≤ N) (Y : yc B h A nu) {p : Nat} (h6 : nu 6 = (p : Int)) (hp : p ≤ (yW B).length) : yO B h nu (fC_runRemove N 203 h) (yx 9 (yW B) A p) := by
  have ok := yc_ok Y
  have o4 := ok.2.2.2.1
  obtain ⟨S0, H0, _, _⟩ := yc_st Y
  show yO B h nu (fC_runRemove N 203 h) (yx_n (yW B) p 0 ((A.2.2.length : Int) - 1) (yf_rem A))
  rcases yc_num (N := N) (by omega) Y h6 hp 0 ((A.2.2.length : Int) - 1) (by decide) (by omega) with ⟨v, e, m1, h1, n1, e1, Y1, F1, y1, p1, v1⟩ | ⟨m1, h1, n1, e1, Y1, F1, y1⟩
  · obtain ⟨_, _, _, pe, el, _, vl, _⟩ := ym_numb hp m1
    rcases yc_sem (N := N) (by omega) Y1 p1 el with ⟨e', m2, h2, n2, e2, Y2, F2, y2, p2, v2⟩ | ⟨m2, h2, n2, e2, Y2, F2, y2⟩
    · obtain ⟨S2, H2, hS2, cl⟩ := yc_st Y2
      obtain ⟨h3, S3, e3, H3, r3, F3⟩ := zs_take (N := N) (by omega) H2 (k := v) (by omega)
      have em := zv_erase hS2 (show v < A.2.2.length by omega) r3
      obtain ⟨Y3, G3⟩ := cl h3 _ _ _ _ H3 F3 ⟨ok.1, ok.2.1, ok.2.2.1, by rw [List.length_map, List.length_range]; omega, fun w hw => by
        rw [em] at hw
        exact ok.2.2.2.2 w (List.mem_of_mem_eraseIdx hw)⟩
      rw [em] at Y3
      refine Or.inr ⟨(A.1, A.2.1, A.2.2.eraseIdx v), e', ?_, h3, n2, ?_, Y3, zc_Ft F1 (zc_Ft F2 G3), yn_t y1 y2, p2⟩
      · rw [yx_n, m1]
        show (ym_sem (yW B) e).bind _ = _
        rw [m2]
        rfl
      · unfold fC_runRemove
        rw [yc_T Y, cond_true, yc_r1 Y, b1_s, zs_K H0, b1_s, zw_sub, e1, b2, show z_cmp .eq (Int32.ofInt 1) (Int32.ofInt 0) = false from rfl, cond_false, e2, b2, show z_cmp .ne (Int32.ofInt 1) (Int32.ofInt 0) = true from rfl, cond_true, yc_r1 Y2, b1_s, yc_i Y2 7 (by decide), b1_s, v2, v1, e3, b2]
    · refine Or.inl ⟨?_, h2, A, n2, ?_, Y2, zc_Ft F1 F2, yn_t y1 y2⟩
      · rw [yx_n, m1]
        show (ym_sem (yW B) e).bind _ = _
        rw [m2]
        rfl
      · unfold fC_runRemove
        rw [yc_T Y, cond_true, yc_r1 Y, b1_s, zs_K H0, b1_s, zw_sub, e1, b2, show z_cmp .eq (Int32.ofInt 1) (Int32.ofInt 0) = false from rfl, cond_false, e2, b2, show z_cmp .ne (Int32.ofInt 0) (Int32.ofInt 0) = false from rfl, cond_false]
        rfl
  · refine Or.inl ⟨?_, h1, A, n1, ?_, Y1, F1, y1⟩
    · rw [yx_n, m1]
      rfl
    · unfold fC_runRemove
      rw [yc_T Y, cond_true, yc_r1 Y, b1_s, zs_K H0, b1_s, zw_sub, e1, b2, show z_cmp .eq (Int32.ofInt 0) (Int32.ofInt 0) = true from rfl, cond_true]
      rfl
theorem yc_next (hN : 3000 ≤ N) (Y : yc B h A nu) {p : Nat} (h6 : nu 6 = (p : Int)) (hp : p ≤ (yW B).length) : yO B h nu (fC_runNext N 203 h) (yx 7 (yW B) A p) := by
  have ok := yc_ok Y
  have o1 := ok.1
  have o2 := ok.2.1
  show yO B h nu (fC_runNext N 203 h) (yx_n (yW B) p 1 120 (yf_next A))
  rcases yc_num (N := N) (by omega) Y h6 hp 1 120 (by decide) (by decide) with ⟨v, e, m1, h1, n1, e1, Y1, F1, y1, p1, v1⟩ | ⟨m1, h1, n1, e1, Y1, F1, y1⟩
  · obtain ⟨_, _, _, pe, el, vl0, vl, _⟩ := ym_numb hp m1
    obtain ⟨S1, H1, _, _⟩ := yc_st Y1
    have hn := zs_hasNext (N := N) H1 (by omega) (by omega) (v : Int) (by omega)
    rcases yc_end (N := N) (by omega) Y1 p1 el (zs_hn A.1 A.2.1 (v : Int)) with ⟨e', m2, b, h2, n2, e2, Y2, F2, y2, p2, v2⟩ | ⟨m2, h2, n2, e2, Y2, F2, y2⟩
    · have b' := b
      unfold zs_hn at b'
      rw [Bool.and_eq_true, Bool.and_eq_true] at b'
      have l1 := of_decide_eq_true b'.1
      have l2 := of_decide_eq_true b'.2.1
      have x1 := zm_nx (T := A.2.1) (m := v) (g := 97 + A.1 - 1) l2.1 (by omega)
      obtain ⟨S2, H2, hS2, cl⟩ := yc_st Y2
      obtain ⟨h3, e3, W3, F3⟩ := zw_step (N := N) (yc_txt Y2) (by omega) (m := v) (g := 97 + A.1 - 1) (by omega) (by omega) (by omega) (fun u hu => by
        have := ok.2.2.1 u hu
        omega)
      obtain ⟨Y3, G3⟩ := yc_text Y2 W3 F3 (zm_mem (P := fun u => 97 ≤ u ∧ u < 97 + A.1) (fun j hj => by
        rw [x1.2.1] at hj
        rw [x1.2.2.1 j hj]
        have a1 := zm_cget (P := fun u => 97 ≤ u ∧ u < 97 + A.1) ok.2.2.1 l2.1 j
        by_cases e6 : j = zm_nr A.2.1 v (97 + A.1 - 1) - 1
        · rw [if_pos e6]
          rcases x1.2.2.2 with x2 | x2
          · omega
          · rw [← e6] at x2
            omega
        · rw [if_neg e6]
          exact a1))
      refine Or.inr ⟨(A.1, zw_nx A.2.1 v (97 + A.1 - 1), A.2.2), e', ?_, h3, n2, ?_, Y3, zc_Ft F1 (zc_Ft F2 G3), yn_t y1 y2, p2⟩
      · rw [yx_n, m1]
        show (ym_sem (yW B) e).bind _ = _
        rw [m2]
        show (yf_next A v).bind _ = _
        rw [yf_next, if_pos b]
        rfl
      · unfold fC_runNext
        rw [yc_T Y, cond_true, e1, b2, show z_cmp .eq (Int32.ofInt 1) (Int32.ofInt 0) = false from rfl, cond_false, yc_r1 Y1, b1_s, yc_i Y1 7 (by decide), b1_s, v1, hn, b2, e2, b2, show z_cmp .ne (Int32.ofInt 1) (Int32.ofInt 0) = true from rfl, cond_true, yc_r1 Y2, b1_s, yc_t Y2, b1_s, yc_i Y2 7 (by decide), b1_s, v2, v1, b1_s, zs_greatest H2, b2, zw_sub, show ((97 + A.1 : Nat) : Int) - 1 = ((97 + A.1 - 1 : Nat) : Int) by omega, e3, b2]
    · refine Or.inl ⟨?_, h2, A, n2, ?_, Y2, zc_Ft F1 F2, yn_t y1 y2⟩
      · rw [yx_n, m1]
        show (ym_sem (yW B) e).bind _ = _
        rcases m2 with m2 | m2
        · rw [m2]
          rfl
        · cases ym_sem (yW B) e with
          | none => rfl
          | some q =>
            show (yf_next A v).bind _ = _
            rw [yf_next, if_neg (by rw [m2]; decide)]
            rfl
      · unfold fC_runNext
        rw [yc_T Y, cond_true, e1, b2, show z_cmp .eq (Int32.ofInt 1) (Int32.ofInt 0) = false from rfl, cond_false, yc_r1 Y1, b1_s, yc_i Y1 7 (by decide), b1_s, v1, hn, b2, e2, b2, show z_cmp .ne (Int32.ofInt 0) (Int32.ofInt 0) = false from rfl, cond_false]
        rfl
  · refine Or.inl ⟨?_, h1, A, n1, ?_, Y1, F1, y1⟩
    · rw [yx_n, m1]
      rfl
    · unfold fC_runNext
      rw [yc_T Y, cond_true, e1, b2, show z_cmp .eq (Int32.ofInt 0) (Int32.ofInt 0) = true from rfl, cond_true]
      rfl
theorem yc_reverse (hN : 3000 ≤ N) (Y : yc B h A nu) {p : Nat} (h6 : nu 6 = (p : Int)) (hp : p ≤ (yW B).length) : yO B h nu (fC_runReverse N 203 h) (yx 5 (yW B) A p) := by
  have ok := yc_ok Y
  show yO B h nu (fC_runReverse N 203 h) (yx_s (yW B) p (some (A.1, zw_mir A.2.1 0 A.2.1.length, A.2.2)))
  rcases yc_sem (N := N) (by omega) Y h6 hp with ⟨e', m2, h2, n2, e2, Y2, F2, y2, p2, v2⟩ | ⟨m2, h2, n2, e2, Y2, F2, y2⟩
  · obtain ⟨h3, e3, W3, F3⟩ := zw_mirror (N := N) (yc_txt Y2) (by omega) (Nat.zero_le A.2.1.length) (Nat.le_refl _)
    obtain ⟨Y3, G3⟩ := yc_text Y2 W3 F3 (zm_mem (P := fun v => 97 ≤ v ∧ v < 97 + A.1) (fun j hj => by
      rw [zm_mirl] at hj
      rw [zm_rev hj]
      exact zm_get (P := fun v => 97 ≤ v ∧ v < 97 + A.1) ok.2.2.1 (by omega)))
    refine Or.inr ⟨(A.1, zw_mir A.2.1 0 A.2.1.length, A.2.2), e', ?_, h3, n2, ?_, Y3, zc_Ft F2 G3, y2, p2⟩
    · rw [yx_s, m2]
      rfl
    · unfold fC_runReverse
      rw [yc_T Y, cond_true, e2, b2, show z_cmp .ne (Int32.ofInt 1) (Int32.ofInt 0) = true from rfl, cond_true, yc_r1 Y2, b1_s, yc_t Y2, b1_s, b1_s, yc_t Y2, b1_s, zw_z (yc_txt Y2), b1_s, show Int32.ofInt 0 = Int32.ofInt ((0 : Nat) : Int) from rfl, e3, b2]
  · refine Or.inl ⟨?_, h2, A, n2, ?_, Y2, F2, y2⟩
    · rw [yx_s, m2]
      rfl
    · unfold fC_runReverse
      rw [yc_T Y, cond_true, e2, b2, show z_cmp .ne (Int32.ofInt 0) (Int32.ofInt 0) = false from rfl, cond_false]
theorem yc_least (hN : 3000 ≤ N) (Y : yc B h A nu) {p : Nat} (h6 : nu 6 = (p : Int)) (hp : p ≤ (yW B).length) : yO B h nu (fC_runLeast N 203 h) (yx 6 (yW B) A p) := by
  have ok := yc_ok Y
  have o2 := ok.2.1
  show yO B h nu (fC_runLeast N 203 h) (yx_s (yW B) p (yf_least A))
  have s0 : fC_runLeast N 203 h = fC_runLeast_19 N 203 (cond (decide (0 < A.2.1.length)) (Int32.ofInt 1) (Int32.ofInt 0)) 203 h := by
    unfold fC_runLeast
    rw [yc_T Y, cond_true, yc_r1 Y, b1_s, yc_t Y, b1_s, zw_z (yc_txt Y), b1_s, zqo_le _ _ (by omega) (by decide)]
    by_cases e : 0 < A.2.1.length
    · rw [decide_eq_false (show ¬ ((A.2.1.length : Int) ≤ 0) by omega), cond_false, decide_eq_true e, cond_true]
    · rw [decide_eq_true (show (A.2.1.length : Int) ≤ 0 by omega), cond_true, decide_eq_false e, cond_false]
  rw [s0]
  rcases yc_end (N := N) (by omega) Y h6 hp (decide (0 < A.2.1.length)) with ⟨e', m2, b, h2, n2, e2, Y2, F2, y2, p2, v2⟩ | ⟨m2, h2, n2, e2, Y2, F2, y2⟩
  · have b' := of_decide_eq_true b
    have lt := (zm_leastM (l := A.2.1) b').1
    have hl := zw_lturn (N := N) (yc_txt Y2) hN
    rw [zm_lT b'] at hl
    obtain ⟨h3, e3, W3, F3⟩ := zw_turn (N := N) (yc_txt Y2) (by omega) (c := zm_least A.2.1) (by omega)
    obtain ⟨Y3, G3⟩ := yc_text Y2 W3 F3 (zv_trnL ok.2.2.1 (by omega))
    refine Or.inr ⟨(A.1, zw_trn A.2.1 (zm_least A.2.1), A.2.2), e', ?_, h3, n2, ?_, Y3, zc_Ft F2 G3, y2, p2⟩
    · rw [yx_s, m2]
      show (yf_least A).bind _ = _
      rw [yf_least, if_pos b']
      rfl
    · unfold fC_runLeast_19
      rw [e2, b2, show z_cmp .ne (Int32.ofInt 1) (Int32.ofInt 0) = true from rfl, cond_true, yc_r1 Y2, b1_s, yc_t Y2, b1_s, b1_s, yc_t Y2, b1_s, hl, b2, e3, b2]
  · refine Or.inl ⟨?_, h2, A, n2, ?_, Y2, F2, y2⟩
    · rw [yx_s]
      rcases m2 with m2 | m2
      · rw [m2]
        rfl
      · cases ym_sem (yW B) p with
        | none => rfl
        | some q =>
          show (yf_least A).bind _ = _
          rw [yf_least, if_neg (of_decide_eq_false m2)]
          rfl
    · unfold fC_runLeast_19
      rw [e2, b2, show z_cmp .ne (Int32.ofInt 0) (Int32.ofInt 0) = false from rfl, cond_false]
theorem yc_join (hN : 3000 ≤ N) (Y : yc B h A nu) {p : Nat} (h6 : nu 6 = (p : Int)) (hp : p ≤ (yW B).length) : yO B h nu (fC_runJoin N 203 h) (yx 10 (yW B) A p) := by
  have ok := yc_ok Y
  have h8 := ok.2.2.2.1
  obtain ⟨S, H, hS, _⟩ := yc_st Y
  show yO B h nu (fC_runJoin N 203 h) (yx_s (yW B) p (yf_join A))
  have hs := zv_sum hS A.2.2.length 0 (by omega)
  rw [List.drop_zero] at hs
  have s0 : ∀ g : Int32 → zH → Option (Int32 × zH), cond (fT h 203 2) (b1 (fR h 203 2 1) fun x1 => b2 (fS_canJoin N x1 h) g) none = g (cond (decide (0 < A.2.2.length ∧ (A.2.2.map List.length).sum ≤ 120)) (Int32.ofInt 1) (Int32.ofInt 0)) h := fun g => by
    rw [yc_T Y, cond_true, yc_r1 Y, b1_s, zs_canJoin (by omega) H, b2, hs]
  rcases yc_end (N := N) (by omega) Y h6 hp (decide (0 < A.2.2.length ∧ (A.2.2.map List.length).sum ≤ 120)) with ⟨e', m2, b, h2, n2, e2, Y2, F2, y2, p2, v2⟩ | ⟨m2, h2, n2, e2, Y2, F2, y2⟩
  · have b' := of_decide_eq_true b
    obtain ⟨S1, H1, hS1, cl⟩ := yc_st Y2
    have hs1 := zv_sum hS1 A.2.2.length 0 (by omega)
    rw [List.drop_zero] at hs1
    obtain ⟨h3, e3, H3, F3⟩ := zs_join (N := N) (by omega) H1 (by rw [hs1]; exact b'.2)
    have ej : zs_jn S1 A.2.2.length A.2.2.length 0 [] = zv_jn A.2.2 := zs_jnC h8 (fun j hj => zv_mget hS1 hj) _ _ _
    rw [ej] at H3
    obtain ⟨Y3, G3⟩ := cl h3 _ _ _ _ H3 F3 ⟨ok.1, H3.2.2.2.1.2.2.2.1, by
      refine zs_jnL (P := fun v => 97 ≤ v ∧ v < 97 + A.1) (fun j hj v hv => ?_) _ _ _ (fun v hv => by cases hv)
      have : A.2.2.getD j [] ∈ A.2.2 := by
        rw [List.getD_eq_getElem?_getD, List.getElem?_eq_getElem hj]
        exact List.getElem_mem hj
      exact (ok.2.2.2.2 _ this).2.2 v hv, by rw [hS1]; exact h8, by rw [hS1]; exact ok.2.2.2.2⟩
    rw [hS1] at Y3
    refine Or.inr ⟨(A.1, zv_jn A.2.2, A.2.2), e', ?_, h3, n2, ?_, Y3, zc_Ft F2 G3, y2, p2⟩
    · rw [yx_s, m2]
      show (yf_join A).bind _ = _
      rw [yf_join, if_pos b']
      rfl
    · unfold fC_runJoin
      rw [s0, e2, b2, show z_cmp .ne (Int32.ofInt 1) (Int32.ofInt 0) = true from rfl, cond_true, yc_r1 Y2, b1_s, e3, b2]
  · refine Or.inl ⟨?_, h2, A, n2, ?_, Y2, F2, y2⟩
    · rw [yx_s]
      rcases m2 with m2 | m2
      · rw [m2]
        rfl
      · cases ym_sem (yW B) p with
        | none => rfl
        | some q =>
          show (yf_join A).bind _ = _
          rw [yf_join, if_neg (of_decide_eq_false m2)]
          rfl
    · unfold fC_runJoin
      rw [s0, e2, b2, show z_cmp .ne (Int32.ofInt 0) (Int32.ofInt 0) = false from rfl, cond_false]
end YCE
