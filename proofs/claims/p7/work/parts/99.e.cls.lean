/-! THE CLASS'S COMMANDS part, keep, text, append. -/
section YCF
variable {N : Nat} {B : yB} {h : zH} {A : zA} {nu : Nat → Int}
theorem yc_part (hN : 3000 ≤ N) (Y : yc B h A nu) {p : Nat} (h6 : nu 6 = (p : Int)) (hp : p ≤ (yW B).length) : yO B h nu (fC_runPart N 203 h) (yx 3 (yW B) A p) := by
  have ok := yc_ok Y
  have o2 := ok.2.1
  show yO B h nu (fC_runPart N 203 h) (yx_part (yW B) A p)
  rcases yc_num (N := N) (by omega) Y h6 hp 0 999 (by decide) (by decide) with ⟨a, e, m1, h1, n1, e1, Y1, F1, y1, p1, v1⟩ | ⟨m1, h1, n1, e1, Y1, F1, y1⟩
  · obtain ⟨_, _, _, pe, el, _, vl, _⟩ := ym_numb hp m1
    rcases yc_num (N := N) (by omega) Y1 p1 el (a : Int) (A.2.1.length : Int) (by omega) (by omega) with ⟨b, f, m2, h2, n2, e2, Y2, F2, y2, p2, v2⟩ | ⟨m2, h2, n2, e2, Y2, F2, y2⟩
    · obtain ⟨_, _, _, pf, fl, ab, bl, _⟩ := ym_numb el m2
      rcases yc_sem (N := N) (by omega) Y2 p2 fl with ⟨g, m3, h3, n3, e3, Y3, F3, y3, p3, v3⟩ | ⟨m3, h3, n3, e3, Y3, F3, y3⟩
      · obtain ⟨h4, e4, W4, F4⟩ := zw_cut (N := N) (yc_txt Y3) (by omega) (show a ≤ b by omega) (by omega)
        rw [zm_cut (by omega) (by omega)] at W4
        obtain ⟨Y4, G4⟩ := yc_text Y3 W4 F4 (fun u hu => ok.2.2.1 u (List.mem_of_mem_drop (List.mem_of_mem_take hu)))
        refine Or.inr ⟨(A.1, zw_p A.2.1 a b, A.2.2), g, ?_, h4, n3, ?_, Y4, zc_Ft F1 (zc_Ft F2 (zc_Ft F3 G4)), yn_t y1 (yn_t y2 y3), p3⟩
        · rw [yx_part, m1]
          show (ym_num (yW B) e (a : Int) (A.2.1.length : Int)).bind _ = _
          rw [m2]
          show (ym_sem (yW B) f).bind _ = _
          rw [m3]
          rfl
        · unfold fC_runPart
          rw [yc_T Y, cond_true, e1, b2, show z_cmp .ne (Int32.ofInt 1) (Int32.ofInt 0) = true from rfl, cond_true, yc_i Y1 7 (by decide), b1_s, v1, yc_r1 Y1, b1_s, yc_t Y1, b1_s, zw_z (yc_txt Y1), b1_s, e2, b2, show z_cmp .eq (Int32.ofInt 1) (Int32.ofInt 0) = false from rfl, cond_false, e3, b2, show z_cmp .ne (Int32.ofInt 1) (Int32.ofInt 0) = true from rfl, cond_true, yc_r1 Y3, b1_s, yc_t Y3, b1_s, yc_i Y3 7 (by decide), b1_s, v3, v2, e4, b2]
      · refine Or.inl ⟨?_, h3, A, n3, ?_, Y3, zc_Ft F1 (zc_Ft F2 F3), yn_t y1 (yn_t y2 y3)⟩
        · rw [yx_part, m1]
          show (ym_num (yW B) e (a : Int) (A.2.1.length : Int)).bind _ = _
          rw [m2]
          show (ym_sem (yW B) f).bind _ = _
          rw [m3]
          rfl
        · unfold fC_runPart
          rw [yc_T Y, cond_true, e1, b2, show z_cmp .ne (Int32.ofInt 1) (Int32.ofInt 0) = true from rfl, cond_true, yc_i Y1 7 (by decide), b1_s, v1, yc_r1 Y1, b1_s, yc_t Y1, b1_s, zw_z (yc_txt Y1), b1_s, e2, b2, show z_cmp .eq (Int32.ofInt 1) (Int32.ofInt 0) = false from rfl, cond_false, e3, b2, show z_cmp .ne (Int32.ofInt 0) (Int32.ofInt 0) = false from rfl, cond_false]
          rfl
    · refine Or.inl ⟨?_, h2, A, n2, ?_, Y2, zc_Ft F1 F2, yn_t y1 y2⟩
      · rw [yx_part, m1]
        show (ym_num (yW B) e (a : Int) (A.2.1.length : Int)).bind _ = _
        rw [m2]
        rfl
      · unfold fC_runPart
        rw [yc_T Y, cond_true, e1, b2, show z_cmp .ne (Int32.ofInt 1) (Int32.ofInt 0) = true from rfl, cond_true, yc_i Y1 7 (by decide), b1_s, v1, yc_r1 Y1, b1_s, yc_t Y1, b1_s, zw_z (yc_txt Y1), b1_s, e2, b2, show z_cmp .eq (Int32.ofInt 0) (Int32.ofInt 0) = true from rfl, cond_true]
        rfl
  · refine Or.inl ⟨?_, h1, A, n1, ?_, Y1, F1, y1⟩
    · rw [yx_part, m1]
      rfl
    · unfold fC_runPart
      rw [yc_T Y, cond_true, e1, b2, show z_cmp .ne (Int32.ofInt 0) (Int32.ofInt 0) = false from rfl, cond_false]
/-- a part of the text kept, behind the semicolon's reading -/
theorem yc_67 (hN : 3000 ≤ N) (Y : yc B h A nu) {q e : Nat} (h4 : nu 4 = (q : Int)) (hq : q ≤ 7) (h6 : nu 6 = (e : Int)) (a c : Nat) (hc : a + c ≤ A.2.1.length) : yO B h nu (fC_runKeep_67 N 203 (Int32.ofInt (a : Int)) (Int32.ofInt ((a + c : Nat) : Int)) h) (if q = 5 ∧ 1 ≤ c ∧ c ≤ 40 ∧ A.2.2.length < 8 then some ((A.1, A.2.1, A.2.2 ++ [(A.2.1.drop a).take c]), e) else none) := by
  have ok := yc_ok Y
  have o2 := ok.2.1
  obtain ⟨S, H, hS, cl⟩ := yc_st Y
  unfold fC_runKeep_67
  rw [yc_i Y 4 (by decide), b1_s, h4, zqo_eq _ _ (by omega) (by decide)]
  by_cases e1 : q = 5
  · rw [decide_eq_true (by omega), cond_true, yc_r1 Y, b1_s, zw_sub, show (((a + c : Nat) : Int) - (a : Int)) = (c : Int) by omega, zs_canKeep H _ (by omega), b2]
    by_cases e2 : 1 ≤ c ∧ c ≤ 40 ∧ A.2.2.length < 8
    · obtain ⟨h3, e3, H3, F3⟩ := zs_keepP (N := N) H e2.2.2 H.2.2.2.1 (fun i hi => by unfold zw_d; omega) (by omega) a c hc (by omega)
      obtain ⟨Y3, G3⟩ := cl h3 _ _ _ _ H3 F3 ⟨ok.1, ok.2.1, ok.2.2.1, by rw [zv_snoc hS, List.length_append]; show A.2.2.length + 1 ≤ 8; omega, fun w hw => by
        rw [zv_snoc hS, List.mem_append, List.mem_singleton] at hw
        rcases hw with hw | hw
        · exact ok.2.2.2.2 w hw
        · rw [hw]
          have hl : ((A.2.1.drop a).take c).length = c := by rw [List.length_take, List.length_drop]; omega
          exact ⟨by omega, by omega, fun v hv => ok.2.2.1 v (List.mem_of_mem_drop (List.mem_of_mem_take hv))⟩⟩
      rw [zv_snoc hS] at Y3
      refine Or.inr ⟨_, e, if_pos ⟨e1, e2⟩, h3, nu, ?_, Y3, G3, yn_r nu, h6⟩
      rw [decide_eq_true (by omega), cond_true, show z_cmp .ne (Int32.ofInt 1) (Int32.ofInt 0) = true from rfl, cond_true, yc_r1 Y, b1_s, b1_s, yc_t Y, b1_s, e3, b2]
    · obtain ⟨h3, n3, e3, Y3, F3, r3⟩ := yc_fail (N := N) Y 3
      refine Or.inl ⟨if_neg (fun x => e2 x.2), h3, A, n3, ?_, Y3, F3, fun k hk => r3 k (by omega) (by omega)⟩
      rw [decide_eq_false (by omega), cond_false, show z_cmp .ne (Int32.ofInt 0) (Int32.ofInt 0) = false from rfl, cond_false, e3, b2]
      rfl
  · obtain ⟨h3, n3, e3, Y3, F3, r3⟩ := yc_fail (N := N) Y 1
    refine Or.inl ⟨if_neg (fun x => e1 x.1), h3, A, n3, ?_, Y3, F3, fun k hk => r3 k (by omega) (by omega)⟩
    rw [decide_eq_false (by omega), cond_false, e3, b2]
    rfl
theorem yO_t {h0 : zH} {n0 : Nat → Int} {r : Option (Int32 × zH)} {x : Option (zA × Nat)} (F : zc_F h0 h) (y : yn n0 nu) (o : yO B h nu r x) : yO B h0 n0 r x := by
  rcases o with ⟨a, h', A', n', b, c, d, e⟩ | ⟨A', p', a, h', n', b, c, d, e, g⟩
  · exact Or.inl ⟨a, h', A', n', b, c, zc_Ft F d, yn_t y e⟩
  · exact Or.inr ⟨A', p', a, h', n', b, c, zc_Ft F d, yn_t y e, g⟩
theorem yw_bF {T : List Nat} {v : Nat} : (zw_bF T (v : Int) = -1 ∧ (zw_fs T).length ≤ v) ∨ (∃ b : Nat, zw_bF T (v : Int) = (b : Int) ∧ b < T.length ∧ v < (zw_fs T).length) := by
  have bb := zw_bFb T (v : Int)
  by_cases e : v < (zw_fs T).length
  · refine Or.inr ?_
    have : zw_bF T (v : Int) = (((zw_fs T)[v]'e).1 : Int) := by
      unfold zw_bF
      rw [if_neg (by omega), show ((v : Nat) : Int).toNat = v by omega, List.getElem?_eq_getElem e]
      rfl
    exact ⟨((zw_fs T)[v]'e).1, this, by omega, e⟩
  · refine Or.inl ⟨?_, by omega⟩
    unfold zw_bF
    rw [if_neg (by omega), show ((v : Nat) : Int).toNat = v by omega, List.getElem?_eq_none (by omega)]
    rfl
theorem yc_keep (hN : 3000 ≤ N) (Y : yc B h A nu) {p : Nat} (h6 : nu 6 = (p : Int)) (hp : p ≤ (yW B).length) : yO B h nu (fC_runKeep N 203 h) (yx 8 (yW B) A p) := by
  have ok := yc_ok Y
  have o2 := ok.2.1
  have qb := yt_qb (yW B) (yt_s (yW B) p)
  have sb := yt_sb hp
  have eb := yt_eb sb.2
  show yO B h nu (fC_runKeep N 203 h) (yx_keep (yW B) A p)
  obtain ⟨h1, n1, e1, Y1, F1, K1⟩ := yc_tok (N := N) (by omega) Y h6 hp
  have yn1 : yn nu n1 := fun k hk => K1.2.2.2.2.2 k (by omega)
  have s0 : ∀ g : Int32 → zH → Option (Int32 × zH), cond (fT h 203 2) (b1 (fR h 203 2 1) fun x1 => b1 (fR h x1 3 1) fun x2 => b1 (fI h x2 4 1) fun x3 => b2 (fC_readToken N 203 h) fun _ h5 => g x3 h5) none = g (Int32.ofInt (A.2.1.length : Int)) h1 := fun g => by
    rw [yc_T Y, cond_true, yc_r1 Y, b1_s, yc_t Y, b1_s, zw_z (yc_txt Y), b1_s, e1, b2]
  by_cases e : yt_q (yW B) (yt_s (yW B) p) = 2
  · have k7 := K1.2.2.2.1 e
    have v9 := yt_v999 e
    rw [yx_keep, if_pos e]
    unfold fC_runKeep
    rw [s0 (fun x3 h5 => b1 (fI h5 203 2 4) fun x6 => cond (z_cmp .ne x6 (Int32.ofInt 2)) (fC_runKeep_67 N 203 (Int32.ofInt 0) x3 h5) _), yc_i Y1 4 (by decide), b1_s, K1.1, zqo_ne _ _ (by omega) (by decide), decide_eq_true (by omega), Bool.not_true, cond_false, yc_r1 Y1, b1_s, yc_t Y1, b1_s, yc_i Y1 7 (by decide), b1_s, k7, zw_begin (yc_txt Y1) (by omega) _ (by omega), b2]
    rcases yw_bF (T := A.2.1) (v := yt_v (yW B) (yt_s (yW B) p)) with ⟨f1, f2⟩ | ⟨b, f1, f2, f3⟩
    · obtain ⟨h2, n2, e2, Y2, F2, r2⟩ := yc_fail (N := N) Y1 2
      refine Or.inl ⟨?_, h2, A, n2, ?_, Y2, zc_Ft F1 F2, yn_t yn1 (fun k hk => r2 k (by omega) (by omega))⟩
      · rw [yx_n, ym_num, if_neg (by omega)]
        rfl
      · rw [f1, show z_cmp .ne (Int32.ofInt (-1)) (Int32.ofInt (-1)) = false from rfl, cond_false, e2, b2]
        rfl
    · have le := zw_lEb f2
      obtain ⟨h2, n2, e2, Y2, F2, K2⟩ := yc_tok (N := N) (by omega) Y1 (p := yt_e (yW B) (yt_s (yW B) p)) K1.2.2.1 eb.2.1
      rw [f1, zqo_ne _ _ (by omega) (by decide), decide_eq_false (by omega), Bool.not_false, cond_true, yc_r1 Y1, b1_s, yc_t Y1, b1_s, zw_lyn (yc_txt Y1) (by omega) f2, b2, e2, b2]
      have o := yc_67 hN Y2 (q := yt_q (yW B) (yt_s (yW B) (yt_e (yW B) (yt_s (yW B) p)))) K2.1 (yt_qb _ _) K2.2.2.1 b (zw_lE A.2.1 b - b) (by omega)
      rw [show b + (zw_lE A.2.1 b - b) = zw_lE A.2.1 b by omega] at o
      refine yO_t F1 yn1 (yO_t F2 (fun k hk => K2.2.2.2.2.2 k (by omega)) ?_)
      have ex : yx_n (yW B) p 0 (((zw_fs A.2.1).length : Int) - 1) (yf_fac A) = (if yt_q (yW B) (yt_s (yW B) (yt_e (yW B) (yt_s (yW B) p))) = 5 ∧ 1 ≤ zw_lE A.2.1 b - b ∧ zw_lE A.2.1 b - b ≤ 40 ∧ A.2.2.length < 8 then some ((A.1, A.2.1, A.2.2 ++ [(A.2.1.drop b).take (zw_lE A.2.1 b - b)]), yt_e (yW B) (yt_s (yW B) (yt_e (yW B) (yt_s (yW B) p)))) else none) := by
        rw [yx_n, ym_num, if_pos ⟨e, by omega, by omega⟩]
        show (ym_sem (yW B) (yt_e (yW B) (yt_s (yW B) p))).bind _ = _
        by_cases c1 : yt_q (yW B) (yt_s (yW B) (yt_e (yW B) (yt_s (yW B) p))) = 5
        · rw [ym_sem, if_pos c1]
          show (yf_fac A (yt_v (yW B) (yt_s (yW B) p))).bind _ = _
          unfold yf_fac
          rw [f1, show ((b : Nat) : Int).toNat = b by omega]
          by_cases c2 : zw_lE A.2.1 b - b ≤ 40 ∧ A.2.2.length < 8
          · rw [if_pos c2, if_pos ⟨c1, by omega, c2⟩]
            rfl
          · rw [if_neg c2, if_neg (fun x => c2 x.2.2)]
            rfl
        · rw [ym_sem, if_neg c1, if_neg (fun x => c1 x.1)]
          rfl
      rw [ex]
      exact o
  · rw [yx_keep, if_neg e]
    unfold fC_runKeep
    rw [s0 (fun x3 h5 => b1 (fI h5 203 2 4) fun x6 => cond (z_cmp .ne x6 (Int32.ofInt 2)) (fC_runKeep_67 N 203 (Int32.ofInt 0) x3 h5) _), yc_i Y1 4 (by decide), b1_s, K1.1, zqo_ne _ _ (by omega) (by decide), decide_eq_false (by omega), Bool.not_false, cond_true]
    have o := yc_67 hN Y1 (q := yt_q (yW B) (yt_s (yW B) p)) K1.1 (yt_qb _ _) K1.2.2.1 0 A.2.1.length (by omega)
    rw [Nat.zero_add, List.drop_zero, List.take_of_length_le (Nat.le_refl _)] at o
    refine yO_t F1 yn1 ?_
    have ex : yx_s (yW B) p (yf_keep A) = (if yt_q (yW B) (yt_s (yW B) p) = 5 ∧ 1 ≤ A.2.1.length ∧ A.2.1.length ≤ 40 ∧ A.2.2.length < 8 then some ((A.1, A.2.1, A.2.2 ++ [A.2.1]), yt_e (yW B) (yt_s (yW B) p)) else none) := by
      by_cases c1 : yt_q (yW B) (yt_s (yW B) p) = 5
      · rw [yx_s, ym_sem, if_pos c1]
        show (yf_keep A).bind _ = _
        unfold yf_keep
        by_cases c2 : 1 ≤ A.2.1.length ∧ A.2.1.length ≤ 40 ∧ A.2.2.length < 8
        · rw [if_pos c2, if_pos ⟨c1, c2⟩]
          rfl
        · rw [if_neg c2, if_neg (fun x => c2 x.2)]
          rfl
      · rw [yx_s, ym_sem, if_neg c1, if_neg (fun x => c1 x.1)]
        rfl
    rw [ex]
    exact o
/-- the letters of a word looked at -/
theorem yc_23 {x1 : Int32} {a b : Nat} (hb : b ≤ (yW B).length) (Y : yc B h A nu) (hk : ∀ j, a ≤ j → j < b → yt_k ((yW B).getD j 0) = 1) : ∀ c f i, a ≤ i → i + c = b → c < f → ((∀ j, i ≤ j → j < b → (yW B).getD j 0 < 97 + A.1) ∧ ∃ g, fC_runText_23 N f 203 x1 (Int32.ofInt (a : Int)) (Int32.ofInt (b : Int)) (Int32.ofInt (i : Int)) h = fC_runText_23 N (g + 1) 203 x1 (Int32.ofInt (a : Int)) (Int32.ofInt (b : Int)) (Int32.ofInt (b : Int)) h) ∨ ((∃ j, i ≤ j ∧ j < b ∧ ¬ (yW B).getD j 0 < 97 + A.1) ∧ ∃ h' nu', fC_runText_23 N f 203 x1 (Int32.ofInt (a : Int)) (Int32.ofInt (b : Int)) (Int32.ofInt (i : Int)) h = some (Int32.ofInt 0, h') ∧ yc B h' A nu' ∧ zc_F h h' ∧ yn nu nu') := by
  have W := yc_W Y
  have l6 := W.2.2.2.1
  have ok := yc_ok Y
  have o1 := ok.1
  obtain ⟨S, H, _, _⟩ := yc_st Y
  intro c
  induction c with
  | zero =>
    intro f i h1 h2 h3
    obtain ⟨g, rfl⟩ : ∃ g, f = g + 1 := ⟨f - 1, by omega⟩
    have : i = b := by omega
    subst this
    exact Or.inl ⟨fun j h4 h5 => absurd h5 (by omega), g, rfl⟩
  | succ c ih =>
    intro f i h1 h2 h3
    obtain ⟨g, rfl⟩ : ∃ g, f = g + 1 := ⟨f - 1, by omega⟩
    have k1 := yt_k1 (hk i h1 (by omega))
    have s0 : ∀ (u v : Option (Int32 × zH)) (w : Int32 → zH → Option (Int32 × zH)), cond (z_cmp .ge (Int32.ofInt (i : Int)) (Int32.ofInt (b : Int))) u (b1 (fR h 203 2 1) fun x8 => b1 (fR h 203 2 0) fun x9 => b2 (fW_at N x9 (Int32.ofInt (i : Int)) h) fun x10 h11 => b2 (fS_isLetter N x8 x10 h11) w) = w (cond (decide ((yW B).getD i 0 < 97 + A.1)) (Int32.ofInt 1) (Int32.ofInt 0)) h := fun u v w => by
      rw [zqo_ge _ _ (by omega) (by omega), decide_eq_false (by omega), cond_false, yc_r1 Y, b1_s, yc_r0 Y, b1_s, zw_at W _ (by omega), b2, zw_gi (by omega), show ((i : Nat) : Int).toNat = i by omega, zs_isLetter H _ (by omega), b2]
      by_cases e : (yW B).getD i 0 < 97 + A.1
      · rw [decide_eq_true e, decide_eq_true (by omega)]
      · rw [decide_eq_false e, decide_eq_false (by omega)]
    by_cases e : (yW B).getD i 0 < 97 + A.1
    · have s1 : fC_runText_23 N (g + 1) 203 x1 (Int32.ofInt (a : Int)) (Int32.ofInt (b : Int)) (Int32.ofInt (i : Int)) h = fC_runText_23 N g 203 x1 (Int32.ofInt (a : Int)) (Int32.ofInt (b : Int)) (Int32.ofInt ((i + 1 : Nat) : Int)) h := by
        rw [fC_runText_23, s0 _ none, decide_eq_true e, cond_true, show z_cmp .ne (Int32.ofInt 1) (Int32.ofInt 0) = true from rfl, cond_true, zh_inc]
      rw [s1]
      rcases ih g (i + 1) (by omega) (by omega) (by omega) with ⟨q, r⟩ | ⟨⟨j, j1, j2, j3⟩, r⟩
      · refine Or.inl ⟨fun j h4 h5 => ?_, r⟩
        by_cases e2 : j = i
        · rw [e2]
          exact e
        · exact q j (by omega) h5
      · exact Or.inr ⟨⟨j, by omega, j2, j3⟩, r⟩
    · obtain ⟨h2, n2, e2, Y2, F2, r2⟩ := yc_fail (N := N) Y 2
      refine Or.inr ⟨⟨i, Nat.le_refl i, by omega, e⟩, h2, n2, ?_, Y2, F2, fun k hk => r2 k (by omega) (by omega)⟩
      rw [fC_runText_23, s0 _ none, decide_eq_false e, cond_false, show z_cmp .ne (Int32.ofInt 0) (Int32.ofInt 0) = false from rfl, cond_false, e2, b2]
      rfl
theorem yt_pm {s : List Nat} {a b : Nat} (hb : b ≤ s.length) {P : Nat → Prop} : (∀ v ∈ zw_p s a b, P v) ↔ ∀ j, a ≤ j → j < b → P (s.getD j 0) := by
  have hl := zw_pl s a b hb
  constructor
  · intro h j h1 h2
    have := zm_get (P := P) h (j := j - a) (by omega)
    rw [zw_pd (by omega), show a + (j - a) = j by omega] at this
    exact this
  · intro h
    refine zm_mem (fun j hj => ?_)
    rw [hl] at hj
    rw [zw_pd hj]
    exact h _ (by omega) (by omega)
/-- the word's end -/
theorem yc_97 (hN : 3000 ≤ N) (Y : yc B h A nu) {a b : Nat} (h6 : nu 6 = (b : Int)) (hab : a ≤ b) (hb : b ≤ (yW B).length) (hw : ∀ v ∈ zw_p (yW B) a b, 97 ≤ v ∧ v < 97 + A.1) {T0 : List Nat} (ht : A.2.1.take T0.length = T0) : yO B h nu (fC_runText_97 N 203 (Int32.ofInt (a : Int)) (Int32.ofInt (b : Int)) (Int32.ofInt (T0.length : Int)) (cond (decide (T0.length + (zw_p (yW B) a b).length ≤ 120)) (Int32.ofInt 1) (Int32.ofInt 0)) 203 h) ((ym_sem (yW B) b).bind fun e => if T0.length + (zw_p (yW B) a b).length ≤ 120 then some ((A.1, T0 ++ zw_p (yW B) a b, A.2.2), e) else none) := by
  have ok := yc_ok Y
  have o2 := ok.2.1
  have hl := zw_pl (yW B) a b hb
  have l6 := (yc_W Y).2.2.2.1
  have tl : T0.length ≤ A.2.1.length := by
    have := congrArg List.length ht
    rw [List.length_take] at this
    omega
  unfold fC_runText_97
  rcases yc_end (N := N) (by omega) Y h6 hb (decide (T0.length + (zw_p (yW B) a b).length ≤ 120)) with ⟨e', m2, b0, h2, n2, e2, Y2, F2, y2, p2, v2⟩ | ⟨m2, h2, n2, e2, Y2, F2, y2⟩
  · have b' := of_decide_eq_true b0
    obtain ⟨h3, e3, W3, F3⟩ := zw_shorten (N := N) (yc_txt Y2) (T0.length : Int) (by omega)
    rw [if_pos (by omega), show ((T0.length : Nat) : Int).toNat = T0.length by omega, ht] at W3
    obtain ⟨Y3, G3⟩ := yc_text Y2 W3 F3 (fun u hu => by
      rw [← ht] at hu
      exact ok.2.2.1 u (List.mem_of_mem_take hu))
    obtain ⟨h4, e4, W4, F4⟩ := zw_addPart (N := N) (show zw_d 204 (206 + 1) by unfold zw_d; omega) W3 (yc_W Y3) a (b - a) (by omega) (by omega) (by omega)
    rw [show a + (b - a) = b by omega] at e4
    obtain ⟨Y4, G4⟩ := yc_text Y3 W4 F4 (fun u hu => by
      rw [List.mem_append] at hu
      rcases hu with hu | hu
      · rw [← ht] at hu
        exact ok.2.2.1 u (List.mem_of_mem_take hu)
      · exact hw u hu)
    refine Or.inr ⟨(A.1, T0 ++ zw_p (yW B) a b, A.2.2), e', ?_, h4, n2, ?_, Y4, zc_Ft F2 (zc_Ft G3 G4), y2, p2⟩
    · rw [m2]
      show (if _ then _ else _) = _
      rw [if_pos b']
    · rw [e2, b2, show z_cmp .ne (Int32.ofInt 1) (Int32.ofInt 0) = true from rfl, cond_true, yc_r1 Y2, b1_s, yc_t Y2, b1_s, e3, b2, yc_r1 Y3, b1_s, yc_t Y3, b1_s, yc_r0 Y3, b1_s, e4, b2]
  · refine Or.inl ⟨?_, h2, A, n2, ?_, Y2, F2, y2⟩
    · rcases m2 with m2 | m2
      · rw [m2]
        rfl
      · cases ym_sem (yW B) b with
        | none => rfl
        | some q =>
          show (if _ then _ else _) = _
          rw [if_neg (of_decide_eq_false m2)]
    · rw [e2, b2, show z_cmp .ne (Int32.ofInt 0) (Int32.ofInt 0) = false from rfl, cond_false]
theorem yc_word (hN : 3000 ≤ N) (Y : yc B h A nu) {p : Nat} (h6 : nu 6 = (p : Int)) (hp : p ≤ (yW B).length) (x1 : Int) {T0 : List Nat} (ht : A.2.1.take T0.length = T0) (hx : (x1 = 0 ∧ T0 = []) ∨ (x1 = 1 ∧ T0 = A.2.1)) : yO B h nu (fC_runText N 203 (Int32.ofInt x1) h) (yx_text T0 (yW B) A p) := by
  have ok := yc_ok Y
  have o2 := ok.2.1
  have l6 := (yc_W Y).2.2.2.1
  have sb := yt_sb hp
  have eb := yt_eb sb.2
  unfold fC_runText
  rcases yc_expect (N := N) (by omega) Y h6 hp 1 (by decide) with ⟨q1, h1, n1, e1, Y1, F1, K1⟩ | ⟨q1, h1, n1, e1, Y1, F1, y1⟩
  · have q1' : yt_q (yW B) (yt_s (yW B) p) = 1 := by omega
    have wk := (yt_q1 q1').2
    have yn1 : yn nu n1 := fun k hk => K1.2.2.2.2.2 k (by omega)
    rw [yc_T Y, cond_true, e1, b2, show z_cmp .ne (Int32.ofInt 1) (Int32.ofInt 0) = true from rfl, cond_true, yc_i Y1 5 (by decide), b1_s, K1.2.1, yc_i Y1 6 (by decide), b1_s, K1.2.2.1]
    rcases yc_23 (N := N) (x1 := Int32.ofInt x1) eb.2.1 Y1 wk (yt_e (yW B) (yt_s (yW B) p) - yt_s (yW B) p) N (yt_s (yW B) p) (Nat.le_refl _) (by omega) (by omega) with ⟨r1, g, r2⟩ | ⟨⟨j, j1, j2, j3⟩, h2, n2, e2, Y2, F2, y2⟩
    · have hw : ∀ v ∈ zw_p (yW B) (yt_s (yW B) p) (yt_e (yW B) (yt_s (yW B) p)), 97 ≤ v ∧ v < 97 + A.1 := (yt_pm eb.2.1).mpr (fun j a b => ⟨(yt_k1 (wk j a b)).1, r1 j a b⟩)
      have o := yc_97 hN Y1 K1.2.2.1 eb.1 eb.2.1 hw ht
      have hl := zw_pl (yW B) (yt_s (yW B) p) (yt_e (yW B) (yt_s (yW B) p)) eb.2.1
      have s2 : fC_runText_23 N (g + 1) 203 (Int32.ofInt x1) (Int32.ofInt (yt_s (yW B) p : Int)) (Int32.ofInt (yt_e (yW B) (yt_s (yW B) p) : Int)) (Int32.ofInt (yt_e (yW B) (yt_s (yW B) p) : Int)) h1 = fC_runText_97 N 203 (Int32.ofInt (yt_s (yW B) p : Int)) (Int32.ofInt (yt_e (yW B) (yt_s (yW B) p) : Int)) (Int32.ofInt (T0.length : Int)) (cond (decide (T0.length + (zw_p (yW B) (yt_s (yW B) p) (yt_e (yW B) (yt_s (yW B) p))).length ≤ 120)) (Int32.ofInt 1) (Int32.ofInt 0)) 203 h1 := by
        have s78 : fC_runText_78 N 203 (Int32.ofInt (yt_s (yW B) p : Int)) (Int32.ofInt (yt_e (yW B) (yt_s (yW B) p) : Int)) (Int32.ofInt (T0.length : Int)) h1 = fC_runText_97 N 203 (Int32.ofInt (yt_s (yW B) p : Int)) (Int32.ofInt (yt_e (yW B) (yt_s (yW B) p) : Int)) (Int32.ofInt (T0.length : Int)) (cond (decide (T0.length + (zw_p (yW B) (yt_s (yW B) p) (yt_e (yW B) (yt_s (yW B) p))).length ≤ 120)) (Int32.ofInt 1) (Int32.ofInt 0)) 203 h1 := by
          have tl : T0.length ≤ 120 := by
            have := congrArg List.length ht
            rw [List.length_take] at this
            omega
          unfold fC_runText_78
          rw [zw_add, zw_sub, zqo_gt _ _ (by omega) (by decide)]
          by_cases e : T0.length + (zw_p (yW B) (yt_s (yW B) p) (yt_e (yW B) (yt_s (yW B) p))).length ≤ 120
          · rw [decide_eq_true e, decide_eq_false (by omega), cond_false, cond_true]
          · rw [decide_eq_false e, decide_eq_true (by omega), cond_true, cond_false]
        rw [fC_runText_23, zqo_ge _ _ (by omega) (by omega), decide_eq_true (by omega), cond_true]
        rcases hx with ⟨x0, t0⟩ | ⟨x0, t0⟩
        · rw [x0, show z_cmp .eq (Int32.ofInt 0) (Int32.ofInt 0) = true from rfl, cond_true]
          rw [t0] at s78 ⊢
          exact s78
        · rw [x0, show z_cmp .eq (Int32.ofInt 1) (Int32.ofInt 0) = false from rfl, cond_false, yc_r1 Y1, b1_s, yc_t Y1, b1_s, zw_z (yc_txt Y1), b1_s]
          rw [t0] at s78 ⊢
          exact s78
      rw [r2, s2]
      refine yO_t F1 yn1 ?_
      rw [yx_text, ym_word, if_pos ⟨q1', fun v hv => (hw v hv).2⟩]
      exact o
    · refine Or.inl ⟨?_, h2, A, n2, e2, Y2, zc_Ft F1 F2, yn_t yn1 y2⟩
      rw [yx_text, ym_word, if_neg (fun x => j3 ((yt_pm (P := fun v => v < 97 + A.1) eb.2.1).mp x.2 j j1 j2))]
      rfl
  · refine Or.inl ⟨?_, h1, A, n1, ?_, Y1, F1, y1⟩
    · rw [yx_text, ym_word, if_neg (fun x => q1 (by omega))]
      rfl
    · rw [yc_T Y, cond_true, e1, b2, show z_cmp .ne (Int32.ofInt 0) (Int32.ofInt 0) = false from rfl, cond_false]
end YCF
