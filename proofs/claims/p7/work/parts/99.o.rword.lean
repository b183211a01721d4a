/-! THE REFERENCE'S SCRIPT: words, repeats, all of it. -/
section YVE
variable {N : Nat} {G : yH} {h : zH} {A : zA} {fl : Nat → Int} {a : Nat → Nat → Int}
theorem yv_textF {T0 : List Nat} {p e : Nat} {w : List Nat} {ex : Int} (hN : 4000 ≤ N) (Y : yv G h A fl a) (T : yT (yX G) (yt_s (yX G) e) fl) (x22 : fl 22 = ex) (n14 : fl 14 = ((T0.length + w.length : Nat) : Int)) (rw0 : T0.length + w.length ≤ 120 → zr_rw fl a (T0 ++ w)) (hL : zv_L A (T0 ++ w)) {F : Int32 → Nat → zH → Option (Int32 × zH)} (hF : ∀ x, F x 232 h = b2 (fM_stops N 232 x h) fun x4 h5 => cond (z_cmp .ne x4 (Int32.ofInt 0)) (b2 (fM_takes N 232 h5) fun x6 h7 => some ((Int32.ofInt 1), h7)) (some ((Int32.ofInt 0), h5))) : yU G h ex (F (cond (decide (T0.length + w.length ≤ 120)) (Int32.ofInt 1) (Int32.ofInt 0)) 232 h) ((ym_sem (yX G) e).bind fun q => if T0.length + w.length ≤ 120 then some ((A.1, T0 ++ w, A.2.2), q) else none) := by
  rw [hF]
  rcases yv_stops (N := N) Y T (decide (T0.length + w.length ≤ 120)) with ⟨q, m2, b, e2, q20⟩ | ⟨m2, h2, f2, e2, Y2, F2⟩
  · have b' := of_decide_eq_true b
    obtain ⟨h3, a3, e3, Y3, F3, Q3⟩ := yv_takes (N := N) (by omega) Y (rw0 b') (by rw [List.length_append]; exact b') hL
    refine Or.inr ⟨(A.1, T0 ++ w, A.2.2), q, ?_, h3, fl, a3, ?_, Y3, F3, q20, x22⟩
    · rw [m2]
      show (if _ then _ else _) = _
      rw [if_pos b']
    · rw [e2, b2, show z_cmp .ne (Int32.ofInt 1) (Int32.ofInt 0) = true from rfl, cond_true, e3, b2]
  · refine Or.inl ⟨?_, h2, A, f2, a, ?_, Y2, F2⟩
    · rcases m2 with m2 | m2
      · rw [m2]
        rfl
      · cases ym_sem (yX G) e with
        | none => rfl
        | some q =>
          show (if _ then _ else _) = _
          rw [if_neg (of_decide_eq_false m2)]
    · rw [e2, b2, show z_cmp .ne (Int32.ofInt 0) (Int32.ofInt 0) = false from rfl, cond_false]
theorem yv_wordL {p e : Nat} {w : List Nat} {L : Nat} (hp : p ≤ (yX G).length) (h : ym_word (yX G) L p = some (w, e)) : ∀ v ∈ w, 97 ≤ v ∧ v < 97 + L := by
  obtain ⟨b1, b2, b3, b4, b5, b6⟩ := ym_wordb hp h
  have wk := (yt_q1 b1).2
  intro v hv
  refine ⟨?_, b6 v hv⟩
  rw [b2] at hv
  exact (yt_pm (P := fun v => 97 ≤ v) b5).mpr (fun j x y => (yt_k1 (wk j x (by rw [← b3]; exact y))).1) v hv
theorem yv_text (hN : 4000 ≤ N) (Y : yv G h A fl a) {p : Nat} (hp : p ≤ (yX G).length) (T : yT (yX G) (yt_s (yX G) p) fl) : yU G h (fl 22) (fM_readsText N 232 h) (yx 0 (yX G) A p) := by
  have l6 := Y.2.2.2.2.1.1
  show yU G h (fl 22) (fM_readsText N 232 h) (yx_text [] (yX G) A p)
  unfold fM_readsText yx_text
  rw [yv_T Y, cond_true]
  rcases yv_into hN Y hp T (T0 := []) (fun i hi => by cases hi) (Nat.zero_le _) with ⟨w, e, m1, h1, f1, a1, e1, Y1, F1, T1, x1, n1, r1⟩ | ⟨m1, h1, f1, e1, Y1, F1⟩
  · obtain ⟨b1, b2', b3, b4, b5, b6⟩ := ym_wordb hp m1
    have wl : w.length ≤ 600 := by
      rw [b2', zw_pl _ _ _ b5]
      omega
    have e1 : fM_readsWordInto N 232 (Int32.ofInt 0) h = _ := e1
    have hL : zv_L A ([] ++ w) := yv_wordL hp m1
    have o := yv_textF (T0 := []) (p := p) (w := w) (F := fun x y z => fM_readsText_23 N y x y z) hN Y1 T1 x1 n1 r1 hL (fun x => rfl)
    rw [m1, e1, b2, show z_cmp .eq (Int32.ofInt 1) (Int32.ofInt 0) = false from rfl, cond_false, yv_i Y1 14 rfl, b1_s, n1, zqo_gt _ _ (by show -2147483648 ≤ (((0 + w.length : Nat)) : Int) ∧ (((0 + w.length : Nat)) : Int) < 2147483648; omega) (by decide)]
    have sw : (cond (decide ((120 : Int) < ((([] : List Nat).length + w.length : Nat) : Int))) (fM_readsText_23 N 232 (Int32.ofInt 0) 232 h1) (fM_readsText_23 N 232 (Int32.ofInt 1) 232 h1)) = fM_readsText_23 N 232 (cond (decide (([] : List Nat).length + w.length ≤ 120)) (Int32.ofInt 1) (Int32.ofInt 0)) 232 h1 := by
      by_cases c : ([] : List Nat).length + w.length ≤ 120
      · rw [decide_eq_true c, decide_eq_false (by omega)]
        rfl
      · rw [decide_eq_false c, decide_eq_true (by omega)]
        rfl
    rw [sw]
    rcases o with ⟨o1, o2⟩ | ⟨A', q, o1, h2, f2, a2, o2, Y2, F2, o3⟩
    · exact Or.inl ⟨o1, yFr_t F1 o2⟩
    · exact Or.inr ⟨A', q, o1, h2, f2, a2, o2, Y2, zr_Ft F1 F2, o3⟩
  · have e1 : fM_readsWordInto N 232 (Int32.ofInt 0) h = _ := e1
    refine Or.inl ⟨by rw [m1]; rfl, h1, A, f1, a, ?_, Y1, F1⟩
    rw [e1, b2, show z_cmp .eq (Int32.ofInt 0) (Int32.ofInt 0) = true from rfl, cond_true]
    rfl
theorem yv_append (hN : 4000 ≤ N) (Y : yv G h A fl a) {p : Nat} (hp : p ≤ (yX G).length) (T : yT (yX G) (yt_s (yX G) p) fl) : yU G h (fl 22) (fM_readsAppend N 232 h) (yx 1 (yX G) A p) := by
  have l6 := Y.2.2.2.2.1.1
  have ok := yv_ok Y
  have o2 := ok.2.1
  show yU G h (fl 22) (fM_readsAppend N 232 h) (yx_text A.2.1 (yX G) A p)
  obtain ⟨h0, f0, a0, e0, H0, F0, Q0, r0⟩ := zr_loads (N := N) (by omega) Y.1 (yv_tx Y) o2
  have Y0 := yv_Q Y H0 Q0
  have T0 : yT (yX G) (yt_s (yX G) p) f0 := ⟨(Q0.1 18 (by decide)).trans T.1, (Q0.1 19 (by decide)).trans T.2.1, (Q0.1 20 (by decide)).trans T.2.2.1, fun x => (Q0.1 21 (by decide)).trans (T.2.2.2 x)⟩
  unfold fM_readsAppend yx_text
  rw [yv_T Y, cond_true, e0, b2, zr_r0 Y0.1, b1_s, yv_w1 Y0, b1_s]
  rcases yv_into hN Y0 hp T0 (T0 := A.2.1) r0.2 o2 with ⟨w, e, m1, h1, f1, a1, e1, Y1, F1, T1, x1, n1, r1⟩ | ⟨m1, h1, f1, e1, Y1, F1⟩
  · obtain ⟨b1, b2', b3, b4, b5, b6⟩ := ym_wordb hp m1
    have wl : w.length ≤ 600 := by
      rw [b2', zw_pl _ _ _ b5]
      omega
    have hL : zv_L A (A.2.1 ++ w) := fun v hv => by
      rw [List.mem_append] at hv
      rcases hv with hv | hv
      · exact ok.2.2.1 v hv
      · exact yv_wordL hp m1 v hv
    have o := yv_textF (T0 := A.2.1) (p := p) (w := w) (F := fun x y z => fM_readsAppend_32 N y x y z) hN Y1 T1 (x1.trans (Q0.1 22 (by decide))) n1 r1 hL (fun x => rfl)
    rw [m1, e1, b2, show z_cmp .eq (Int32.ofInt 1) (Int32.ofInt 0) = false from rfl, cond_false, yv_i Y1 14 rfl, b1_s, n1, zqo_gt _ _ (by omega) (by decide)]
    have sw : (cond (decide ((120 : Int) < ((A.2.1.length + w.length : Nat) : Int))) (fM_readsAppend_32 N 232 (Int32.ofInt 0) 232 h1) (fM_readsAppend_32 N 232 (Int32.ofInt 1) 232 h1)) = fM_readsAppend_32 N 232 (cond (decide (A.2.1.length + w.length ≤ 120)) (Int32.ofInt 1) (Int32.ofInt 0)) 232 h1 := by
      by_cases c : A.2.1.length + w.length ≤ 120
      · rw [decide_eq_true c, decide_eq_false (by omega)]
        rfl
      · rw [decide_eq_false c, decide_eq_true (by omega)]
        rfl
    rw [sw]
    rcases o with ⟨o1, o2⟩ | ⟨A', q, o1, h2, f2, a2, o2, Y2, F2, o3⟩
    · exact Or.inl ⟨o1, yFr_t (zr_Ft F0 F1) o2⟩
    · exact Or.inr ⟨A', q, o1, h2, f2, a2, o2, Y2, zr_Ft F0 (zr_Ft F1 F2), o3⟩
  · refine Or.inl ⟨by rw [m1]; rfl, h1, A, f1, a0, ?_, Y1, zr_Ft F0 F1⟩
    rw [e1, b2, show z_cmp .eq (Int32.ofInt 0) (Int32.ofInt 0) = true from rfl, cond_true]
    rfl
/-- the word ahead against a string -/
theorem yv_says28 (Y : yv G h A fl a) {l3 : Nat} {b : List Nat} (hS : yS l3 b) (hb : b.length ≤ 20 ∧ ∀ v ∈ b, v < 256) {x y : Nat} (h19 : fl 19 = (x : Int)) (hxy : x ≤ y) (hy : y ≤ (yX G).length) (hl : y - x = b.length) : ∀ c f i, i + c = b.length → c < f → (∀ j, j < i → (yX G).getD (x + j) 0 = b.getD j 0) → fM_says_28 N f 232 l3 (Int32.ofInt (i : Int)) h = some (cond (decide (zw_p (yX G) x y = b)) (Int32.ofInt 1) (Int32.ofInt 0), h) := by
  have l6 := Y.2.2.2.2.1.1
  obtain ⟨s1, s2⟩ := hS N h
  have pl := zw_pl (yX G) x y hy
  intro c
  induction c with
  | zero =>
    intro f i h1 h2 h3
    obtain ⟨g, rfl⟩ : ∃ g, f = g + 1 := ⟨f - 1, by omega⟩
    have e : zw_p (yX G) x y = b := zm_same (by omega) (fun j hj => by
      rw [pl] at hj
      rw [zw_pd hj]
      exact h3 j (by omega))
    rw [fM_says_28, s1, b2, zqo_ge _ _ (by omega) (by omega), decide_eq_true (by omega), cond_true, decide_eq_true e, cond_true]
  | succ c ih =>
    intro f i h1 h2 h3
    obtain ⟨g, rfl⟩ : ∃ g, f = g + 1 := ⟨f - 1, by omega⟩
    have g1 := zw_gD Y.2.2.2.2.1.2 (x + i)
    have g2 := zw_gD hb.2 i
    have sr := yv_src Y (i := x + i) (by omega)
    rw [fM_says_28, s1, b2, zqo_ge _ _ (by omega) (by omega), decide_eq_false (by omega), cond_false, zr_r7 Y.1, b1_s, yv_i Y 19 rfl, b1_s, h19, zw_add, show (x : Int) + (i : Int) = ((x + i : Nat) : Int) by omega, sr, b1_s, s2 i (by omega), b2, zqo_eq _ _ (by omega) (by omega)]
    by_cases e : (yX G).getD (x + i) 0 = b.getD i 0
    · rw [decide_eq_true (by omega), cond_true, zh_inc]
      refine ih g (i + 1) (by omega) (by omega) (fun j hj => ?_)
      by_cases e2 : j = i
      · rw [e2]
        exact e
      · exact h3 j (by omega)
    · have e3 : ¬ zw_p (yX G) x y = b := fun z => e (by
        rw [← z, zw_pd (by omega)])
      rw [decide_eq_false (by omega), cond_false, decide_eq_false e3, cond_false]
theorem yv_says (hN : 1000 ≤ N) (Y : yv G h A fl a) {p : Nat} (hp : p ≤ (yX G).length) (T : yT (yX G) (yt_s (yX G) p) fl) {l3 : Nat} {b : List Nat} (hS : yS l3 b) (hb : b.length ≤ 20 ∧ ∀ v ∈ b, v < 256) : fM_says N 232 l3 h = some (cond (decide (yt_q (yX G) (yt_s (yX G) p) = 1 ∧ zw_p (yX G) (yt_s (yX G) p) (yt_e (yX G) (yt_s (yX G) p)) = b)) (Int32.ofInt 1) (Int32.ofInt 0), h) := by
  have l6 := Y.2.2.2.2.1.1
  have mi := yt_mi (q := yt_q (yX G) (yt_s (yX G) p))
  have mb := yt_mb (yt_q (yX G) (yt_s (yX G) p))
  have sb := yt_sb hp
  have eb := yt_eb sb.2
  have pl := zw_pl (yX G) (yt_s (yX G) p) (yt_e (yX G) (yt_s (yX G) p)) eb.2.1
  unfold fM_says
  rw [yv_T Y, cond_true, yv_i Y 18 rfl, b1_s, T.1, zqo_ne _ _ (by omega) (by decide)]
  by_cases e : yt_q (yX G) (yt_s (yX G) p) = 1
  · rw [decide_eq_true (by omega), Bool.not_true, cond_false, yv_i Y 20 rfl, b1_s, T.2.2.1, yv_i Y 19 rfl, b1_s, T.2.1, (hS N h).1, b2, zw_sub, zqo_eq _ _ (by omega) (by omega)]
    by_cases e2 : yt_e (yX G) (yt_s (yX G) p) - yt_s (yX G) p = b.length
    · rw [decide_eq_true (by omega), cond_true]
      have := yv_says28 (N := N) Y hS hb T.2.1 eb.1 eb.2.1 e2 b.length N 0 (by omega) (by omega) (fun j hj => absurd hj (Nat.not_lt_zero j))
      refine this.trans ?_
      by_cases e3 : zw_p (yX G) (yt_s (yX G) p) (yt_e (yX G) (yt_s (yX G) p)) = b
      · rw [decide_eq_true e3, decide_eq_true ⟨e, e3⟩]
      · rw [decide_eq_false e3, decide_eq_false (fun x => e3 x.2)]
    · have e3 : ¬ (yt_q (yX G) (yt_s (yX G) p) = 1 ∧ zw_p (yX G) (yt_s (yX G) p) (yt_e (yX G) (yt_s (yX G) p)) = b) := fun z => e2 (by rw [← z.2, pl])
      rw [decide_eq_false (by omega), cond_false, decide_eq_false e3]
      rfl
  · rw [decide_eq_false (by omega), Bool.not_false, cond_true, decide_eq_false (fun z => e z.1)]
    rfl
/-- the number of the word ahead, 12 if there is none -/
def ym_wi (s : List Nat) (p : Nat) : Nat := if yt_q s (yt_s s p) = 1 then ym_w s p else 12
theorem yv_ahead (hN : 1000 ≤ N) (Y : yv G h A fl a) {p : Nat} (hp : p ≤ (yX G).length) (T : yT (yX G) (yt_s (yX G) p) fl) : fM_wordAhead N 232 h = some (Int32.ofInt (if ym_wi (yX G) p < 12 then (ym_wi (yX G) p : Int) else -1), h) := by
  have sy : ∀ i, i < 12 → fM_says N 232 (1000049 + 2 * i) h = some (cond (decide (yt_q (yX G) (yt_s (yX G) p) = 1 ∧ zw_p (yX G) (yt_s (yX G) p) (yt_e (yX G) (yt_s (yX G) p)) = yt_words.getD i [])) (Int32.ofInt 1) (Int32.ofInt 0), h) := fun i hi => yv_says hN Y hp T (yS_ref i hi) ⟨by have := (yt_wl i hi).1; omega, (yt_wl i hi).2⟩
  have t : z_cmp .eq (Int32.ofInt 1) (Int32.ofInt 0) = false := rfl
  have u : z_cmp .eq (Int32.ofInt 0) (Int32.ofInt 0) = true := rfl
  unfold fM_wordAhead fM_laterWord fM_wordAhead_82 fM_laterWord_87 ym_wi ym_w yt_cmd
  rw [yv_T Y, cond_true]
  generalize zw_p (yX G) (yt_s (yX G) p) (yt_e (yX G) (yt_s (yX G) p)) = w at sy
  by_cases k1 : yt_q (yX G) (yt_s (yX G) p) = 1
  · rw [if_pos k1]
    have ix : ∀ i, i < 12 → yt_ix w (yt_words.drop i) i = if w = yt_words.getD i [] then i else yt_ix w (yt_words.drop (i + 1)) (i + 1) := fun i hi => by
      rw [yt_drop hi, yt_ix]
    have iy : ∀ i, i < 12 → w = yt_words.getD i [] → yt_ix w (yt_words.drop i) i = i := fun i hi e => by rw [ix i hi, if_pos e]
    have iz : ∀ i, i < 12 → ¬ w = yt_words.getD i [] → yt_ix w (yt_words.drop i) i = yt_ix w (yt_words.drop (i + 1)) (i + 1) := fun i hi e => by rw [ix i hi, if_neg e]
    have st : ∀ i, i < 12 → w = yt_words.getD i [] → fM_says N 232 (1000049 + 2 * i) h = some (Int32.ofInt 1, h) := fun i hi e => by rw [sy i hi, decide_eq_true ⟨k1, e⟩]; rfl
    have sf : ∀ i, i < 12 → ¬ w = yt_words.getD i [] → fM_says N 232 (1000049 + 2 * i) h = some (Int32.ofInt 0, h) := fun i hi e => by rw [sy i hi, decide_eq_false (fun x => e x.2)]; rfl
    show _ = some (Int32.ofInt (if yt_ix w (yt_words.drop 0) 0 < 12 then ((yt_ix w (yt_words.drop 0) 0 : Nat) : Int) else -1), h)
    by_cases c0 : w = yt_words.getD 0 []
    · rw [iy 0 (by decide) c0, show fM_says N 232 1000049 h = some (Int32.ofInt 1, h) from st 0 (by decide) c0, b2, t, cond_false]
      rfl
    rw [iz 0 (by decide) c0, show fM_says N 232 1000049 h = some (Int32.ofInt 0, h) from sf 0 (by decide) c0, b2, u, cond_true]
    by_cases c1 : w = yt_words.getD 1 []
    · rw [iy 1 (by decide) c1, show fM_says N 232 1000051 h = some (Int32.ofInt 1, h) from st 1 (by decide) c1, b2, t, cond_false]
      rfl
    rw [iz 1 (by decide) c1, show fM_says N 232 1000051 h = some (Int32.ofInt 0, h) from sf 1 (by decide) c1, b2, u, cond_true]
    by_cases c2 : w = yt_words.getD 2 []
    · rw [iy 2 (by decide) c2, show fM_says N 232 1000053 h = some (Int32.ofInt 1, h) from st 2 (by decide) c2, b2, t, cond_false]
      rfl
    rw [iz 2 (by decide) c2, show fM_says N 232 1000053 h = some (Int32.ofInt 0, h) from sf 2 (by decide) c2, b2, u, cond_true]
    by_cases c3 : w = yt_words.getD 3 []
    · rw [iy 3 (by decide) c3, show fM_says N 232 1000055 h = some (Int32.ofInt 1, h) from st 3 (by decide) c3, b2, t, cond_false]
      rfl
    rw [iz 3 (by decide) c3, show fM_says N 232 1000055 h = some (Int32.ofInt 0, h) from sf 3 (by decide) c3, b2, u, cond_true]
    by_cases c4 : w = yt_words.getD 4 []
    · rw [iy 4 (by decide) c4, show fM_says N 232 1000057 h = some (Int32.ofInt 1, h) from st 4 (by decide) c4, b2, t, cond_false]
      rfl
    rw [iz 4 (by decide) c4, show fM_says N 232 1000057 h = some (Int32.ofInt 0, h) from sf 4 (by decide) c4, b2, u, cond_true]
    by_cases c5 : w = yt_words.getD 5 []
    · rw [iy 5 (by decide) c5, show fM_says N 232 1000059 h = some (Int32.ofInt 1, h) from st 5 (by decide) c5, b2, t, cond_false]
      rfl
    rw [iz 5 (by decide) c5, show fM_says N 232 1000059 h = some (Int32.ofInt 0, h) from sf 5 (by decide) c5, b2, u, cond_true, yv_T Y, cond_true]
    by_cases c6 : w = yt_words.getD 6 []
    · rw [iy 6 (by decide) c6, show fM_says N 232 1000061 h = some (Int32.ofInt 1, h) from st 6 (by decide) c6, b2, t, cond_false]
      rfl
    rw [iz 6 (by decide) c6, show fM_says N 232 1000061 h = some (Int32.ofInt 0, h) from sf 6 (by decide) c6, b2, u, cond_true]
    by_cases c7 : w = yt_words.getD 7 []
    · rw [iy 7 (by decide) c7, show fM_says N 232 1000063 h = some (Int32.ofInt 1, h) from st 7 (by decide) c7, b2, t, cond_false]
      rfl
    rw [iz 7 (by decide) c7, show fM_says N 232 1000063 h = some (Int32.ofInt 0, h) from sf 7 (by decide) c7, b2, u, cond_true]
    by_cases c8 : w = yt_words.getD 8 []
    · rw [iy 8 (by decide) c8, show fM_says N 232 1000065 h = some (Int32.ofInt 1, h) from st 8 (by decide) c8, b2, t, cond_false]
      rfl
    rw [iz 8 (by decide) c8, show fM_says N 232 1000065 h = some (Int32.ofInt 0, h) from sf 8 (by decide) c8, b2, u, cond_true]
    by_cases c9 : w = yt_words.getD 9 []
    · rw [iy 9 (by decide) c9, show fM_says N 232 1000067 h = some (Int32.ofInt 1, h) from st 9 (by decide) c9, b2, t, cond_false]
      rfl
    rw [iz 9 (by decide) c9, show fM_says N 232 1000067 h = some (Int32.ofInt 0, h) from sf 9 (by decide) c9, b2, u, cond_true]
    by_cases c10 : w = yt_words.getD 10 []
    · rw [iy 10 (by decide) c10, show fM_says N 232 1000069 h = some (Int32.ofInt 1, h) from st 10 (by decide) c10, b2, t, cond_false]
      rfl
    rw [iz 10 (by decide) c10, show fM_says N 232 1000069 h = some (Int32.ofInt 0, h) from sf 10 (by decide) c10, b2, u, cond_true]
    by_cases c11 : w = yt_words.getD 11 []
    · rw [iy 11 (by decide) c11, show fM_says N 232 1000071 h = some (Int32.ofInt 1, h) from st 11 (by decide) c11, b2, t, cond_false]
      rfl
    rw [iz 11 (by decide) c11, show fM_says N 232 1000071 h = some (Int32.ofInt 0, h) from sf 11 (by decide) c11, b2, u, cond_true]
    rfl
  · rw [if_neg k1]
    have sf : ∀ i, i < 12 → fM_says N 232 (1000049 + 2 * i) h = some (Int32.ofInt 0, h) := fun i hi => by rw [sy i hi, decide_eq_false (fun x => k1 x.1)]; rfl
    rw [show fM_says N 232 1000049 h = some (Int32.ofInt 0, h) from sf 0 (by decide), b2, u, cond_true]
    rw [show fM_says N 232 1000051 h = some (Int32.ofInt 0, h) from sf 1 (by decide), b2, u, cond_true]
    rw [show fM_says N 232 1000053 h = some (Int32.ofInt 0, h) from sf 2 (by decide), b2, u, cond_true]
    rw [show fM_says N 232 1000055 h = some (Int32.ofInt 0, h) from sf 3 (by decide), b2, u, cond_true]
    rw [show fM_says N 232 1000057 h = some (Int32.ofInt 0, h) from sf 4 (by decide), b2, u, cond_true]
    rw [show fM_says N 232 1000059 h = some (Int32.ofInt 0, h) from sf 5 (by decide), b2, u, cond_true, yv_T Y, cond_true]
    rw [show fM_says N 232 1000061 h = some (Int32.ofInt 0, h) from sf 6 (by decide), b2, u, cond_true]
    rw [show fM_says N 232 1000063 h = some (Int32.ofInt 0, h) from sf 7 (by decide), b2, u, cond_true]
    rw [show fM_says N 232 1000065 h = some (Int32.ofInt 0, h) from sf 8 (by decide), b2, u, cond_true]
    rw [show fM_says N 232 1000067 h = some (Int32.ofInt 0, h) from sf 9 (by decide), b2, u, cond_true]
    rw [show fM_says N 232 1000069 h = some (Int32.ofInt 0, h) from sf 10 (by decide), b2, u, cond_true]
    rw [show fM_says N 232 1000071 h = some (Int32.ofInt 0, h) from sf 11 (by decide), b2, u, cond_true]
    rfl
theorem yU_w {r : Option (Int32 × zH)} {ex : Int} {x : Option (zA × Nat)} (o : yU G h ex r x) : b2 r (fun a g => cond (decide (a = Int32.ofInt 0) || decide (a = Int32.ofInt 1)) (some (a, g)) none) = r := by
  rcases o with ⟨_, h', _, _, _, b, _⟩ | ⟨_, _, _, h', _, _, b, _⟩
  · rw [b, b2]
    rfl
  · rw [b, b2]
    rfl
/-- a command that is none of repeat, behind its word -/
theorem yv_word (hN : 4000 ≤ N) (Y : yv G h A fl a) {p i : Nat} (hp : p ≤ (yX G).length) (T : yT (yX G) (yt_s (yX G) p) fl) (hi : i < 11) : yU G h (fl 22) (fM_readsWord N 232 (Int32.ofInt (i : Int)) h) (yx i (yX G) A p) := by
  have c : i = 0 ∨ i = 1 ∨ i = 2 ∨ i = 3 ∨ i = 4 ∨ i = 5 ∨ i = 6 ∨ i = 7 ∨ i = 8 ∨ i = 9 ∨ i = 10 := by omega
  unfold fM_readsWord
  rw [yv_T Y, cond_true]
  rcases c with c | c | c | c | c | c | c | c | c | c | c <;> subst c
  · have o := yv_text hN Y hp T
    show yU G h (fl 22) (b2 (fM_readsText N 232 h) (fun a g => cond (decide (a = Int32.ofInt 0) || decide (a = Int32.ofInt 1)) (some (a, g)) none)) _
    rw [yU_w o]
    exact o
  · have o := yv_append hN Y hp T
    show yU G h (fl 22) (b2 (fM_readsAppend N 232 h) (fun a g => cond (decide (a = Int32.ofInt 0) || decide (a = Int32.ofInt 1)) (some (a, g)) none)) _
    rw [yU_w o]
    exact o
  · have o := yv_drop hN Y hp T
    show yU G h (fl 22) (b2 (fM_readsDrop N 232 h) (fun a g => cond (decide (a = Int32.ofInt 0) || decide (a = Int32.ofInt 1)) (some (a, g)) none)) _
    rw [yU_w o]
    exact o
  · have o := yv_part hN Y hp T
    show yU G h (fl 22) (b2 (fM_readsPart N 232 h) (fun a g => cond (decide (a = Int32.ofInt 0) || decide (a = Int32.ofInt 1)) (some (a, g)) none)) _
    rw [yU_w o]
    exact o
  · have o := yv_rotate hN Y hp T
    show yU G h (fl 22) (b2 (fM_readsRotate N 232 h) (fun a g => cond (decide (a = Int32.ofInt 0) || decide (a = Int32.ofInt 1)) (some (a, g)) none)) _
    rw [yU_w o]
    exact o
  · have o := yv_reverse hN Y hp T
    show yU G h (fl 22) (b2 (fM_readsReverse N 232 h) (fun a g => cond (decide (a = Int32.ofInt 0) || decide (a = Int32.ofInt 1)) (some (a, g)) none)) _
    rw [yU_w o]
    exact o
  · have o := yv_leastc hN Y hp T
    show yU G h (fl 22) (b2 (fM_readsLeast N 232 h) (fun a g => cond (decide (a = Int32.ofInt 0) || decide (a = Int32.ofInt 1)) (some (a, g)) none)) _
    rw [yU_w o]
    exact o
  · have o := yv_nextc hN Y hp T
    show yU G h (fl 22) (b2 (fM_readsNext N 232 h) (fun a g => cond (decide (a = Int32.ofInt 0) || decide (a = Int32.ofInt 1)) (some (a, g)) none)) _
    rw [yU_w o]
    exact o
  · have o := yv_keep hN Y hp T
    show yU G h (fl 22) (b2 (fM_readsKeep N 232 h) (fun a g => cond (decide (a = Int32.ofInt 0) || decide (a = Int32.ofInt 1)) (some (a, g)) none)) _
    rw [yU_w o]
    exact o
  · have o := yv_remove hN Y hp T
    show yU G h (fl 22) (b2 (fM_readsRemove N 232 h) (fun a g => cond (decide (a = Int32.ofInt 0) || decide (a = Int32.ofInt 1)) (some (a, g)) none)) _
    rw [yU_w o]
    exact o
  · have o := yv_join hN Y hp T
    show yU G h (fl 22) (b2 (fM_readsJoin N 232 h) (fun a g => cond (decide (a = Int32.ofInt 0) || decide (a = Int32.ofInt 1)) (some (a, g)) none)) _
    rw [yU_w o]
    exact o
end YVE
