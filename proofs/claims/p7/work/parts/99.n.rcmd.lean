/-! THE REFERENCE'S COMMANDS, further ones. -/
section YVD
variable {N : Nat} {G : yH} {h : zH} {A : zA} {fl : Nat → Int} {a : Nat → Nat → Int}
theorem yv_reverse (hN : 4000 ≤ N) (Y : yv G h A fl a) {p : Nat} (hp : p ≤ (yX G).length) (T : yT (yX G) (yt_s (yX G) p) fl) : yU G h (fl 22) (fM_readsReverse N 232 h) (yx 5 (yX G) A p) := by
  show yU G h (fl 22) (fM_readsReverse N 232 h) (yx_s (yX G) p (some (A.1, zw_mir A.2.1 0 A.2.1.length, A.2.2)))
  unfold fM_readsReverse yx_s
  rw [yv_T Y, cond_true]
  rcases yv_stops (N := N) Y T true with ⟨q, m2, _, e2, q20⟩ | ⟨m2, h2, f2, e2, Y2, F2⟩
  · obtain ⟨r, h3, f3, a3, e3, Y3, F3, Q3⟩ := yv_mirrors (N := N) (by omega) Y
    have e2 : fM_stops N 232 (Int32.ofInt 1) h = _ := e2
    refine Or.inr ⟨(A.1, zw_mir A.2.1 0 A.2.1.length, A.2.2), q, by rw [m2]; rfl, h3, f3, a3, ?_, Y3, F3, (Q3.1 20 (by decide)).trans q20, Q3.1 22 (by decide)⟩
    rw [e2, b2, show z_cmp .ne (Int32.ofInt 1) (Int32.ofInt 0) = true from rfl, cond_true, e3, b2]
  · have m2 : ym_sem (yX G) p = none := m2.resolve_right (by decide)
    have e2 : fM_stops N 232 (Int32.ofInt 1) h = _ := e2
    refine Or.inl ⟨by rw [m2]; rfl, h2, A, f2, a, ?_, Y2, F2⟩
    rw [e2, b2, show z_cmp .ne (Int32.ofInt 0) (Int32.ofInt 0) = false from rfl, cond_false]
theorem yv_leastc (hN : 4000 ≤ N) (Y : yv G h A fl a) {p : Nat} (hp : p ≤ (yX G).length) (T : yT (yX G) (yt_s (yX G) p) fl) : yU G h (fl 22) (fM_readsLeast N 232 h) (yx 6 (yX G) A p) := by
  have o2 := (yv_ok Y).2.1
  show yU G h (fl 22) (fM_readsLeast N 232 h) (yx_s (yX G) p (yf_least A))
  have s0 : fM_readsLeast N 232 h = fM_readsLeast_15 N 232 (cond (decide (0 < A.2.1.length)) (Int32.ofInt 1) (Int32.ofInt 0)) 232 h := by
    unfold fM_readsLeast
    rw [yv_T Y, cond_true, zr_r0 Y.1, b1_s, yv_w1 Y, b1_s, zqo_le _ _ (by omega) (by decide)]
    by_cases e : 0 < A.2.1.length
    · rw [decide_eq_false (show ¬ ((A.2.1.length : Int) ≤ 0) by omega), cond_false, decide_eq_true e, cond_true]
    · rw [decide_eq_true (show (A.2.1.length : Int) ≤ 0 by omega), cond_true, decide_eq_false e, cond_false]
  rw [s0]
  unfold fM_readsLeast_15 yx_s
  rcases yv_stops (N := N) Y T (decide (0 < A.2.1.length)) with ⟨q, m2, b, e2, q20⟩ | ⟨m2, h2, f2, e2, Y2, F2⟩
  · have b' := of_decide_eq_true b
    obtain ⟨r, h3, f3, a3, e3, Y3, F3, Q3⟩ := yv_least (N := N) (by omega) Y b'
    refine Or.inr ⟨(A.1, zw_trn A.2.1 (zm_least A.2.1), A.2.2), q, ?_, h3, f3, a3, ?_, Y3, F3, (Q3.1 20 (by decide)).trans q20, Q3.1 22 (by decide)⟩
    · rw [m2]
      show (yf_least A).bind _ = _
      rw [yf_least, if_pos b']
      rfl
    · rw [e2, b2, show z_cmp .ne (Int32.ofInt 1) (Int32.ofInt 0) = true from rfl, cond_true, e3, b2]
  · refine Or.inl ⟨?_, h2, A, f2, a, ?_, Y2, F2⟩
    · rcases m2 with m2 | m2
      · rw [m2]
        rfl
      · cases ym_sem (yX G) p with
        | none => rfl
        | some q =>
          show (yf_least A).bind _ = _
          rw [yf_least, if_neg (of_decide_eq_false m2)]
          rfl
    · rw [e2, b2, show z_cmp .ne (Int32.ofInt 0) (Int32.ofInt 0) = false from rfl, cond_false]
theorem yv_join (hN : 4000 ≤ N) (Y : yv G h A fl a) {p : Nat} (hp : p ≤ (yX G).length) (T : yT (yX G) (yt_s (yX G) p) fl) : yU G h (fl 22) (fM_readsJoin N 232 h) (yx 10 (yX G) A p) := by
  have ok := yv_ok Y
  show yU G h (fl 22) (fM_readsJoin N 232 h) (yx_s (yX G) p (yf_join A))
  unfold fM_readsJoin yx_s
  rw [yv_T Y, cond_true, zr_canJoin (by omega) Y.1 Y.2.1 ok, b2]
  rcases yv_stops (N := N) Y T (decide (0 < A.2.2.length ∧ (A.2.2.map List.length).sum ≤ 120)) with ⟨q, m2, b, e2, q20⟩ | ⟨m2, h2, f2, e2, Y2, F2⟩
  · have b' := of_decide_eq_true b
    obtain ⟨r, h3, f3, a3, e3, Y3, F3, Q3⟩ := yv_joins (N := N) (by omega) Y b'
    refine Or.inr ⟨(A.1, zv_jn A.2.2, A.2.2), q, ?_, h3, f3, a3, ?_, Y3, F3, (Q3.1 20 (by decide)).trans q20, Q3.1 22 (by decide)⟩
    · rw [m2]
      show (yf_join A).bind _ = _
      rw [yf_join, if_pos b']
      rfl
    · rw [e2, b2, show z_cmp .ne (Int32.ofInt 1) (Int32.ofInt 0) = true from rfl, cond_true, e3, b2]
  · refine Or.inl ⟨?_, h2, A, f2, a, ?_, Y2, F2⟩
    · rcases m2 with m2 | m2
      · rw [m2]
        rfl
      · cases ym_sem (yX G) p with
        | none => rfl
        | some q =>
          show (yf_join A).bind _ = _
          rw [yf_join, if_neg (of_decide_eq_false m2)]
          rfl
    · rw [e2, b2, show z_cmp .ne (Int32.ofInt 0) (Int32.ofInt 0) = false from rfl, cond_false]
theorem yv_nextc (hN : 4000 ≤ N) (Y : yv G h A fl a) {p : Nat} (hp : p ≤ (yX G).length) (T : yT (yX G) (yt_s (yX G) p) fl) : yU G h (fl 22) (fM_readsNext N 232 h) (yx 7 (yX G) A p) := by
  show yU G h (fl 22) (fM_readsNext N 232 h) (yx_n (yX G) p 1 120 (yf_next A))
  unfold fM_readsNext
  rw [yv_T Y, cond_true]
  rcases yv_num (N := N) (by omega) Y hp T 0 (by decide) 1 120 (by decide) (by decide) with ⟨v, e, m1, h1, f1, a1, e1, Y1, F1, T1, x1, n1, _, _⟩ | ⟨m1, h1, f1, e1, Y1, F1⟩
  · obtain ⟨_, _, _, pe, el, vl0, vl, _⟩ := ym_numb hp m1
    have e1 : fM_number N 232 (Int32.ofInt 0) (Int32.ofInt 1) (Int32.ofInt 120) h = _ := e1
    refine yv_ns m1 ?_
    obtain ⟨h2, f2, a2, e2, Y2, F2, Q2⟩ := yv_hasNext (N := N) (by omega) Y1 (m := v) (by omega)
    have T2 : yT (yX G) (yt_s (yX G) e) f2 := ⟨(Q2.1 18 (by decide)).trans T1.1, (Q2.1 19 (by decide)).trans T1.2.1, (Q2.1 20 (by decide)).trans T1.2.2.1, fun x => (Q2.1 21 (by decide)).trans (T1.2.2.2 x)⟩
    rw [e1, b2, show z_cmp .eq (Int32.ofInt 1) (Int32.ofInt 0) = false from rfl, cond_false, zr_r23 Y1.1, b1_s, yv_n0 Y1, b1_s, n1, e2, b2]
    rcases yv_stops (N := N) Y2 T2 (zs_hn A.1 A.2.1 (v : Int)) with ⟨q, m2, b, e3, q20⟩ | ⟨m2, h3, f3, e3, Y3, F3⟩
    · obtain ⟨r, h4, f4, a4, e4, Y4, F4, Q4⟩ := yv_goesOn (N := N) (by omega) Y2 (v := v) (by omega) b
      refine Or.inr ⟨(A.1, zw_nx A.2.1 v (97 + A.1 - 1), A.2.2), q, ?_, h4, f4, a4, ?_, Y4, zr_Ft F1 (zr_Ft F2 F4), (Q4.1 20 (by decide)).trans q20, (Q4.1 22 (by decide)).trans ((Q2.1 22 (by decide)).trans x1)⟩
      · rw [m2]
        show (yf_next A v).bind _ = _
        rw [yf_next, if_pos b]
        rfl
      · rw [e3, b2, show z_cmp .ne (Int32.ofInt 1) (Int32.ofInt 0) = true from rfl, cond_true, zr_r23 Y2.1, b1_s, yv_n0 Y2, b1_s, Q2.2 242 0 (by decide) (by decide) (by decide), n1, e4, b2]
    · refine Or.inl ⟨?_, h3, A, f3, a2, ?_, Y3, zr_Ft F1 (zr_Ft F2 F3)⟩
      · rcases m2 with m2 | m2
        · rw [m2]
          rfl
        · cases ym_sem (yX G) e with
          | none => rfl
          | some q =>
            show (yf_next A v).bind _ = _
            rw [yf_next, if_neg (by rw [m2]; decide)]
            rfl
      · rw [e3, b2, show z_cmp .ne (Int32.ofInt 0) (Int32.ofInt 0) = false from rfl, cond_false]
        rfl
  · have e1 : fM_number N 232 (Int32.ofInt 0) (Int32.ofInt 1) (Int32.ofInt 120) h = _ := e1
    refine Or.inl ⟨by rw [yx_n, m1]; rfl, h1, A, f1, a, ?_, Y1, F1⟩
    rw [e1, b2, show z_cmp .eq (Int32.ofInt 0) (Int32.ofInt 0) = true from rfl, cond_true]
    rfl
theorem yv_keep (hN : 4000 ≤ N) (Y : yv G h A fl a) {p : Nat} (hp : p ≤ (yX G).length) (T : yT (yX G) (yt_s (yX G) p) fl) : yU G h (fl 22) (fM_readsKeep N 232 h) (yx 8 (yX G) A p) := by
  have ok := yv_ok Y
  have o2 := ok.2.1
  have mi := yt_mi (q := yt_q (yX G) (yt_s (yX G) p))
  have mb := yt_mb (yt_q (yX G) (yt_s (yX G) p))
  have o5 := zm_fsl A.2.1
  show yU G h (fl 22) (fM_readsKeep N 232 h) (yx_keep (yX G) A p)
  unfold fM_readsKeep
  rw [yv_T Y, cond_true, yv_i Y 18 rfl, b1_s, T.1, zqo_eq _ _ (by omega) (by decide)]
  by_cases e0 : yt_q (yX G) (yt_s (yX G) p) = 2
  · rw [decide_eq_true (by omega), cond_true, yx_keep, if_pos e0]
    obtain ⟨h0, f0, a0, e0', Y0, F0, Q0, S0⟩ := yv_factors (N := N) (by omega) Y
    have T0 : yT (yX G) (yt_s (yX G) p) f0 := ⟨(Q0.1 18 (by decide)).trans T.1, (Q0.1 19 (by decide)).trans T.2.1, (Q0.1 20 (by decide)).trans T.2.2.1, fun x => (Q0.1 21 (by decide)).trans (T.2.2.2 x)⟩
    rw [e0', b2, zw_sub]
    rcases yv_num (N := N) (by omega) Y0 hp T0 0 (by decide) 0 (((zw_fs A.2.1).length : Int) - 1) (by decide) (by omega) with ⟨v, e, m1, h1, f1, a1, e1, Y1, F1, T1, x1, n1, k1, _⟩ | ⟨m1, h1, f1, e1, Y1, F1⟩
    · obtain ⟨_, _, _, pe, el, vl0, vl, _⟩ := ym_numb hp m1
      have e1 : fM_number N 232 (Int32.ofInt 0) (Int32.ofInt 0) (Int32.ofInt (((zw_fs A.2.1).length : Int) - 1)) h0 = _ := e1
      refine yv_ns m1 ?_
      have S1 : zr_fs a1 A.2.1 := ⟨fun j hj => (k1 240 j (by decide)).trans (S0.1 j hj), (k1 240 _ (by decide)).trans S0.2⟩
      have hv : v < (zw_fs A.2.1).length := by omega
      obtain ⟨b, c1, c2, _⟩ := zr_fk S1 hv
      have hcan := zr_canKeepFactor (N := N) Y1.1 Y1.2.1 ok S1 hv c1
      rw [e1, b2, show z_cmp .eq (Int32.ofInt 1) (Int32.ofInt 0) = false from rfl, cond_false, zr_r23 Y1.1, b1_s, yv_n0 Y1, b1_s, n1, hcan, b2]
      have ef : yf_fac A v = if zw_lE A.2.1 b - b ≤ 40 ∧ A.2.2.length < 8 then some (A.1, A.2.1, A.2.2 ++ [zw_p A.2.1 b (zw_lE A.2.1 b)]) else none := by
        unfold yf_fac
        rw [c1, show ((b : Nat) : Int).toNat = b by omega]
      rcases yv_stops (N := N) Y1 T1 (decide (zw_lE A.2.1 b - b ≤ 40 ∧ A.2.2.length < 8)) with ⟨q, m2, d, e3, q20⟩ | ⟨m2, h3, f3, e3, Y3, F3⟩
      · have d' := of_decide_eq_true d
        obtain ⟨r, h4, f4, a4, e4, Y4, F4, Q4⟩ := yv_keepsFactor (N := N) (by omega) Y1 hv c1 d'.1 d'.2
        refine Or.inr ⟨(A.1, A.2.1, A.2.2 ++ [zw_p A.2.1 b (zw_lE A.2.1 b)]), q, ?_, h4, f4, a4, ?_, Y4, zr_Ft F0 (zr_Ft F1 F4), (Q4.1 20 (by decide)).trans q20, (Q4.1 22 (by decide)).trans (x1.trans (Q0.1 22 (by decide)))⟩
        · rw [m2]
          show (yf_fac A v).bind _ = _
          rw [ef, if_pos d']
          rfl
        · rw [e3, b2, show z_cmp .ne (Int32.ofInt 1) (Int32.ofInt 0) = true from rfl, cond_true, zr_r23 Y1.1, b1_s, yv_n0 Y1, b1_s, n1, e4, b2]
      · refine Or.inl ⟨?_, h3, A, f3, a1, ?_, Y3, zr_Ft F0 (zr_Ft F1 F3)⟩
        · rcases m2 with m2 | m2
          · rw [m2]
            rfl
          · cases ym_sem (yX G) e with
            | none => rfl
            | some q =>
              show (yf_fac A v).bind _ = _
              rw [ef, if_neg (of_decide_eq_false m2)]
              rfl
        · rw [e3, b2, show z_cmp .ne (Int32.ofInt 0) (Int32.ofInt 0) = false from rfl, cond_false]
          rfl
    · have e1 : fM_number N 232 (Int32.ofInt 0) (Int32.ofInt 0) (Int32.ofInt (((zw_fs A.2.1).length : Int) - 1)) h0 = _ := e1
      refine Or.inl ⟨by rw [yx_n, m1]; rfl, h1, A, f1, a0, ?_, Y1, zr_Ft F0 F1⟩
      rw [e1, b2, show z_cmp .eq (Int32.ofInt 0) (Int32.ofInt 0) = true from rfl, cond_true]
      rfl
  · rw [decide_eq_false (by omega), cond_false, yx_keep, if_neg e0, zr_canKeepText Y.1 Y.2.1 ok, b2]
    unfold yx_s
    rcases yv_stops (N := N) Y T (decide (1 ≤ A.2.1.length ∧ A.2.1.length ≤ 40 ∧ A.2.2.length < 8)) with ⟨q, m2, d, e3, q20⟩ | ⟨m2, h3, f3, e3, Y3, F3⟩
    · have d' := of_decide_eq_true d
      obtain ⟨r, h4, a4, e4, Y4, F4, Q4⟩ := yv_shelves (N := N) (by omega) Y 0 A.2.1.length (by omega) ⟨d'.1, d'.2.1⟩ d'.2.2
      rw [Nat.zero_add, zw_pall] at Y4
      refine Or.inr ⟨(A.1, A.2.1, A.2.2 ++ [A.2.1]), q, ?_, h4, fl, a4, ?_, Y4, F4, q20, rfl⟩
      · rw [m2]
        show (yf_keep A).bind _ = _
        rw [yf_keep, if_pos d']
        rfl
      · have e4 : fM_shelves N 232 (Int32.ofInt 0) (Int32.ofInt (A.2.1.length : Int)) h = _ := e4
        rw [e3, b2, show z_cmp .ne (Int32.ofInt 1) (Int32.ofInt 0) = true from rfl, cond_true, zr_r0 Y.1, b1_s, yv_w1 Y, b1_s, e4, b2]
    · refine Or.inl ⟨?_, h3, A, f3, a, ?_, Y3, F3⟩
      · rcases m2 with m2 | m2
        · rw [m2]
          rfl
        · cases ym_sem (yX G) p with
          | none => rfl
          | some q =>
            show (yf_keep A).bind _ = _
            rw [yf_keep, if_neg (of_decide_eq_false m2)]
            rfl
      · rw [e3, b2, show z_cmp .ne (Int32.ofInt 0) (Int32.ofInt 0) = false from rfl, cond_false]
/-- the letters of a word looked at -/
theorem yv_15 {x1 : Int32} {p b : Nat} (hb : b ≤ (yX G).length) (Y : yv G h A fl a) (h20 : fl 20 = (b : Int)) (hk : ∀ j, p ≤ j → j < b → yt_k ((yX G).getD j 0) = 1) : ∀ c f i, p ≤ i → i + c = b → c < f → ((∀ j, i ≤ j → j < b → (yX G).getD j 0 < 97 + A.1) ∧ ∃ g, fM_readsWordInto_15 N f 232 x1 (Int32.ofInt (i : Int)) h = fM_readsWordInto_15 N (g + 1) 232 x1 (Int32.ofInt (b : Int)) h) ∨ ((∃ j, i ≤ j ∧ j < b ∧ ¬ (yX G).getD j 0 < 97 + A.1) ∧ ∃ h' fl', fM_readsWordInto_15 N f 232 x1 (Int32.ofInt (i : Int)) h = some (Int32.ofInt 0, h') ∧ yv G h' A fl' a ∧ zr_F h h') := by
  have l6 := Y.2.2.2.2.1.1
  have ok := yv_ok Y
  have o1 := ok.1
  intro c
  induction c with
  | zero =>
    intro f i h1 h2 h3
    obtain ⟨g, rfl⟩ : ∃ g, f = g + 1 := ⟨f - 1, by omega⟩
    have : i = b := by omega
    subst this
    exact Or.inl ⟨fun j h4 h5 => absurd h5 (by omega), g, rfl⟩
  | succ c ih =>
    intro f i h1 h2 h3
    obtain ⟨g, rfl⟩ : ∃ g, f = g + 1 := ⟨f - 1, by omega⟩
    have k1 := yt_k1 (hk i h1 (by omega))
    have s0 : ∀ (u : Option (Int32 × zH)) (w : Int32 → zH → Option (Int32 × zH)), (b1 (fI h 232 5 20) fun x4 => cond (z_cmp .ge (Int32.ofInt (i : Int)) x4) u (b1 (fR h 232 5 7) fun x7 => b1 (fAI h x7 100 (Int32.ofInt (i : Int))) fun x8 => b2 (fM_isLetter N 232 x8 h) w)) = w (cond (decide ((yX G).getD i 0 < 97 + A.1)) (Int32.ofInt 1) (Int32.ofInt 0)) h := fun u w => by
      rw [yv_i Y 20 rfl, b1_s, h20, zqo_ge _ _ (by omega) (by omega), decide_eq_false (by omega), cond_false, zr_r7 Y.1, b1_s, yv_src Y (by omega), b1_s, zr_isLetter Y.1 Y.2.1.1.1 o1.2 _ (by omega), b2]
      by_cases e : (yX G).getD i 0 < 97 + A.1
      · rw [decide_eq_true e, decide_eq_true (by omega)]
      · rw [decide_eq_false e, decide_eq_false (by omega)]
    by_cases e : (yX G).getD i 0 < 97 + A.1
    · have s1 : fM_readsWordInto_15 N (g + 1) 232 x1 (Int32.ofInt (i : Int)) h = fM_readsWordInto_15 N g 232 x1 (Int32.ofInt ((i + 1 : Nat) : Int)) h := by
        have s2 := s0 (b1 (fI h 232 5 20) fun x5 => b1 (fI h 232 5 19) fun x6 => fM_readsWordInto_60 N N 232 x1 (x5 - x6) (Int32.ofInt 0) h) (fun x9 h10 => cond (z_cmp .ne x9 (Int32.ofInt 0)) (fM_readsWordInto_15 N g 232 x1 (Int32.ofInt (i : Int) + Int32.ofInt 1) h10) (b2 (fM_fail N 232 (Int32.ofInt 2) h10) fun x11 h12 => cond (decide (x11 = Int32.ofInt 0) || decide (x11 = Int32.ofInt 1)) (some (x11, h12)) none))
        rw [fM_readsWordInto_15, s2, decide_eq_true e, cond_true, show z_cmp .ne (Int32.ofInt 1) (Int32.ofInt 0) = true from rfl, cond_true, zh_inc]
      rw [s1]
      rcases ih g (i + 1) (by omega) (by omega) (by omega) with ⟨q, r⟩ | ⟨⟨j, j1, j2, j3⟩, r⟩
      · refine Or.inl ⟨fun j h4 h5 => ?_, r⟩
        by_cases e2 : j = i
        · rw [e2]
          exact e
        · exact q j (by omega) h5
      · exact Or.inr ⟨⟨j, by omega, j2, j3⟩, r⟩
    · obtain ⟨h2, f2, e2, Y2, F2⟩ := yv_fail (N := N) Y 2
      refine Or.inr ⟨⟨i, Nat.le_refl i, by omega, e⟩, h2, f2, ?_, Y2, F2⟩
      have s2 := s0 (b1 (fI h 232 5 20) fun x5 => b1 (fI h 232 5 19) fun x6 => fM_readsWordInto_60 N N 232 x1 (x5 - x6) (Int32.ofInt 0) h) (fun x9 h10 => cond (z_cmp .ne x9 (Int32.ofInt 0)) (fM_readsWordInto_15 N g 232 x1 (Int32.ofInt (i : Int) + Int32.ofInt 1) h10) (b2 (fM_fail N 232 (Int32.ofInt 2) h10) fun x11 h12 => cond (decide (x11 = Int32.ofInt 0) || decide (x11 = Int32.ofInt 1)) (some (x11, h12)) none))
      rw [fM_readsWordInto_15, s2, decide_eq_false e, cond_false, show z_cmp .ne (Int32.ofInt 0) (Int32.ofInt 0) = false from rfl, cond_false, e2, b2]
      rfl
/-- the letters copied to the row -/
theorem yv_60w {p b t : Nat} (hb : b ≤ (yX G).length) (hpb : p ≤ b) (ht : t + (b - p) ≤ 120) {a0 : Nat → Nat → Int} : ∀ (c f i : Nat) (h : zH) (a : Nat → Nat → Int), yv G h A fl a → fl 19 = (p : Int) → i + c = b - p → c < f → (∀ r j, r ≠ 239 → a r j = a0 r j) → (∀ j, j < t → a 239 j = a0 239 j) → (∀ j, j < i → a 239 (t + j) = ((yX G).getD (p + j) 0 : Int) - 97) → ∃ h' a', fM_readsWordInto_60 N f 232 (Int32.ofInt (t : Int)) (Int32.ofInt ((b - p : Nat) : Int)) (Int32.ofInt (i : Int)) h = fM_readsWordInto_101 N 232 (Int32.ofInt (t : Int)) (Int32.ofInt ((b - p : Nat) : Int)) h' ∧ yv G h' A fl a' ∧ zr_F h h' ∧ (∀ r j, r ≠ 239 → a' r j = a0 r j) ∧ (∀ j, j < t → a' 239 j = a0 239 j) ∧ ∀ j, j < b - p → a' 239 (t + j) = ((yX G).getD (p + j) 0 : Int) - 97 := by
  intro c
  induction c with
  | zero =>
    intro f i h a Y h19 h1 h2 h3 h4 h5
    obtain ⟨g, rfl⟩ : ∃ g, f = g + 1 := ⟨f - 1, by omega⟩
    refine ⟨h, a, ?_, Y, zr_Fr h, h3, h4, fun j hj => h5 j (by omega)⟩
    rw [fM_readsWordInto_60, zqo_ge _ _ (by omega) (by omega), decide_eq_true (by omega), cond_true]
  | succ c ih =>
    intro f i h a Y h19 h1 h2 h3 h4 h5
    obtain ⟨g, rfl⟩ : ∃ g, f = g + 1 := ⟨f - 1, by omega⟩
    have l6 := Y.2.2.2.2.1.1
    have sr := yv_src Y (i := p + i) (by omega)
    obtain ⟨h6, e6, H6, F6⟩ := zr_p Y.1 239 (t + i) (by decide) (by decide) (by show t + i < 130; omega) (((yX G).getD (p + i) 0 : Int) - 97)
    have e6 : fAS h 239 100 (Int32.ofInt ((t + i : Nat) : Int)) (.int (Int32.ofInt (((yX G).getD (p + i) 0 : Int) - 97))) = some h6 := e6
    have Y6 := yv_Q Y H6 ⟨fun _ _ => rfl, fun r j h7 _ => zr_vn a _ (Or.inl h7)⟩
    obtain ⟨h7, a7, e7, Y7, F7, k7, l7, m7⟩ := ih g (i + 1) h6 _ Y6 h19 (by omega) (by omega) (fun r j hr => (zr_vn a _ (Or.inl hr)).trans (h3 r j hr)) (fun j hj => (zr_vn a _ (Or.inr (by omega))).trans (h4 j hj)) (fun j hj => by
      by_cases e : j = i
      · rw [e, zr_vs]
      · rw [zr_vn a _ (Or.inr (by omega))]
        exact h5 j (by omega))
    refine ⟨h7, a7, ?_, Y7, zr_Ft F6 F7, k7, l7, m7⟩
    rw [fM_readsWordInto_60, zqo_ge _ _ (by omega) (by omega), decide_eq_false (by omega), cond_false, zw_add, zqo_gt _ _ (by omega) (by decide), decide_eq_false (by omega), cond_false, zr_r8 Y.1, b1_s, zr_r7 Y.1, b1_s, yv_i Y 19 rfl, b1_s, h19, zw_add, show (p : Int) + (i : Int) = ((p + i : Nat) : Int) by omega, sr, b1_s, zw_sub, zw_add, show (t : Int) + (i : Int) = ((t + i : Nat) : Int) by omega, e6, b1_s, zh_inc]
    exact e7
/-- a word read behind the letters of the row -/
theorem yv_into (hN : 4000 ≤ N) (Y : yv G h A fl a) {p : Nat} (hp : p ≤ (yX G).length) (T : yT (yX G) (yt_s (yX G) p) fl) {T0 : List Nat} (r0 : ∀ i, i < T0.length → a 239 i = (T0.getD i 0 : Int) - 97) (hT0 : T0.length ≤ 120) : (∃ w e, ym_word (yX G) A.1 p = some (w, e) ∧ ∃ h' fl' a', fM_readsWordInto N 232 (Int32.ofInt (T0.length : Int)) h = some (Int32.ofInt 1, h') ∧ yv G h' A fl' a' ∧ zr_F h h' ∧ yT (yX G) (yt_s (yX G) e) fl' ∧ fl' 22 = fl 22 ∧ fl' 14 = ((T0.length + w.length : Nat) : Int) ∧ (T0.length + w.length ≤ 120 → zr_rw fl' a' (T0 ++ w))) ∨ (ym_word (yX G) A.1 p = none ∧ ∃ h' fl', fM_readsWordInto N 232 (Int32.ofInt (T0.length : Int)) h = some (Int32.ofInt 0, h') ∧ yv G h' A fl' a ∧ zr_F h h') := by
  have mi := yt_mi (q := yt_q (yX G) (yt_s (yX G) p))
  have mb := yt_mb (yt_q (yX G) (yt_s (yX G) p))
  have sb := yt_sb hp
  have eb := yt_eb sb.2
  have l6 := Y.2.2.2.2.1.1
  unfold fM_readsWordInto
  rw [yv_T Y, cond_true]
  rcases yv_is (N := N) Y T.1 mb 2 (by decide) with ⟨q1, e1⟩ | ⟨q1, h1, f1, e1, Y1, F1⟩
  · have q1' : yt_q (yX G) (yt_s (yX G) p) = 1 := by omega
    have wk := (yt_q1 q1').2
    have hl := zw_pl (yX G) (yt_s (yX G) p) (yt_e (yX G) (yt_s (yX G) p)) eb.2.1
    rw [e1, b2, show z_cmp .ne (Int32.ofInt 1) (Int32.ofInt 0) = true from rfl, cond_true, yv_i Y 19 rfl, b1_s, T.2.1]
    rcases yv_15 (N := N) (x1 := Int32.ofInt (T0.length : Int)) eb.2.1 Y T.2.2.1 wk (yt_e (yX G) (yt_s (yX G) p) - yt_s (yX G) p) N (yt_s (yX G) p) (Nat.le_refl _) (by omega) (by omega) with ⟨r1, g, r2⟩ | ⟨⟨j, j1, j2, j3⟩, h2, f2, e2, Y2, F2⟩
    · refine Or.inl ⟨_, _, if_pos ⟨q1', (yt_pm (P := fun v => v < 97 + A.1) eb.2.1).mpr (fun j a b => r1 j a b)⟩, ?_⟩
      rw [r2, fM_readsWordInto_15, yv_i Y 20 rfl, b1_s, T.2.2.1, zqo_ge _ _ (by omega) (by omega), decide_eq_true (by omega), cond_true, b1_s, yv_i Y 19 rfl, b1_s, T.2.1, zw_sub, show (yt_e (yX G) (yt_s (yX G) p) : Int) - (yt_s (yX G) p : Int) = ((yt_e (yX G) (yt_s (yX G) p) - yt_s (yX G) p : Nat) : Int) by omega, hl]
      -- behind the letters
      have fin : ∀ (h1 : zH) (a1 : Nat → Nat → Int), yv G h1 A fl a1 → ∃ h' fl', fM_readsWordInto_101 N 232 (Int32.ofInt (T0.length : Int)) (Int32.ofInt ((yt_e (yX G) (yt_s (yX G) p) - yt_s (yX G) p : Nat) : Int)) h1 = some (Int32.ofInt 1, h') ∧ yv G h' A fl' a1 ∧ zr_F h1 h' ∧ yT (yX G) (yt_s (yX G) (yt_e (yX G) (yt_s (yX G) p))) fl' ∧ fl' 22 = fl 22 ∧ fl' 14 = ((T0.length + (yt_e (yX G) (yt_s (yX G) p) - yt_s (yX G) p) : Nat) : Int) := by
        intro h1 a1 Y1
        obtain ⟨h2, e2, H2, F2⟩ := zr_s Y1.1 14 rfl ((T0.length + (yt_e (yX G) (yt_s (yX G) p) - yt_s (yX G) p) : Nat) : Int)
        have Y2 := yv_Q Y1 H2 ⟨fun k hk => if_neg hk, fun _ _ _ _ => rfl⟩
        obtain ⟨h3, f3, e3, Y3, F3, T3, k3⟩ := yv_next (N := N) (by omega) Y2 (p := yt_e (yX G) (yt_s (yX G) p)) ((if_neg (by decide)).trans T.2.2.1) eb.2.1
        refine ⟨h3, f3, ?_, Y3, zr_Ft F2 F3, T3, (k3 22 (by omega)).trans (if_neg (by decide)), (k3 14 (by omega)).trans (if_pos rfl)⟩
        unfold fM_readsWordInto_101
        rw [zw_add, show (T0.length : Int) + ((yt_e (yX G) (yt_s (yX G) p) - yt_s (yX G) p : Nat) : Int) = ((T0.length + (yt_e (yX G) (yt_s (yX G) p) - yt_s (yX G) p) : Nat) : Int) by omega, e2, b1_s, e3, b2]
      by_cases e120 : T0.length + (yt_e (yX G) (yt_s (yX G) p) - yt_s (yX G) p) ≤ 120
      · obtain ⟨h3, a3, e3, Y3, F3, k3, l3, m3⟩ := yv_60w (N := N) (t := T0.length) eb.2.1 eb.1 e120 (a0 := a) (yt_e (yX G) (yt_s (yX G) p) - yt_s (yX G) p) N 0 h a Y T.2.1 (by omega) (by omega) (fun _ _ _ => rfl) (fun _ _ => rfl) (fun j hj => absurd hj (Nat.not_lt_zero j))
        obtain ⟨h4, f4, e4, Y4, F4, T4, x4, n4⟩ := fin h3 a3 Y3
        refine ⟨h4, f4, a3, e3.trans e4, Y4, zr_Ft F3 F4, T4, x4, n4, fun _ => ⟨?_, fun i hi => ?_⟩⟩
        · rw [n4, List.length_append, hl]
        · rw [List.length_append, hl] at hi
          by_cases c : i < T0.length
          · rw [List.getD_eq_getElem?_getD, List.getElem?_append_left c, ← List.getD_eq_getElem?_getD, l3 i c, r0 i c]
          · have := m3 (i - T0.length) (by omega)
            rw [show T0.length + (i - T0.length) = i by omega] at this
            have ew : (T0 ++ zw_p (yX G) (yt_s (yX G) p) (yt_e (yX G) (yt_s (yX G) p))).getD i 0 = (yX G).getD (yt_s (yX G) p + (i - T0.length)) 0 := by
              rw [List.getD_eq_getElem?_getD, List.getElem?_append_right (by omega), ← List.getD_eq_getElem?_getD, zw_pd (by omega)]
            rw [this, ew]
      · obtain ⟨h4, f4, e4, Y4, F4, T4, x4, n4⟩ := fin h a Y
        refine ⟨h4, f4, a, ?_, Y4, F4, T4, x4, n4, fun x => absurd x e120⟩
        have e5 : ∀ f, fM_readsWordInto_60 N (f + 1) 232 (Int32.ofInt (T0.length : Int)) (Int32.ofInt ((yt_e (yX G) (yt_s (yX G) p) - yt_s (yX G) p : Nat) : Int)) (Int32.ofInt 0) h = some (Int32.ofInt 1, h4) := fun f => by
          rw [fM_readsWordInto_60, zw_add, zqo_gt _ _ (by omega) (by decide), decide_eq_true (show (120 : Int) < (T0.length : Int) + ((yt_e (yX G) (yt_s (yX G) p) - yt_s (yX G) p : Nat) : Int) by omega), cond_true, e4]
          cases z_cmp .ge (Int32.ofInt 0) (Int32.ofInt ((yt_e (yX G) (yt_s (yX G) p) - yt_s (yX G) p : Nat) : Int)) <;> rfl
        have e6 := e5 (N - 1)
        rw [show N - 1 + 1 = N by omega] at e6
        exact e6
    · refine Or.inr ⟨if_neg (fun x => j3 ((yt_pm (P := fun v => v < 97 + A.1) eb.2.1).mp x.2 j j1 j2)), h2, f2, e2, Y2, F2⟩
  · refine Or.inr ⟨if_neg (fun x => q1 (by omega)), h1, f1, ?_, Y1, F1⟩
    rw [e1, b2, show z_cmp .ne (Int32.ofInt 0) (Int32.ofInt 0) = false from rfl, cond_false]
end YVD
