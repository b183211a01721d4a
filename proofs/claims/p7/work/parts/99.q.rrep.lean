/-! THE REFERENCE'S SCRIPT: a command by its word, repeats. -/
/-- one command: the state, how many were executed, where it ends -/
def y1 (rp : zA → Nat → Nat → Option (zA × Nat × Nat)) (s : List Nat) (A : zA) (ex p : Nat) : Option (zA × Nat × Nat) :=
  if yt_q s (yt_s s p) = 1 then
    (if ym_w s p = 11 then rp A ex (yt_e s (yt_s s p))
    else if ym_w s p = 12 ∨ 200 ≤ ex then none
    else (yx (ym_w s p) s A (yt_e s (yt_s s p))).bind fun r => some (r.1, ex + 1, r.2))
  else none
theorem yb_1 (rp : zA → Nat → Nat → Option (zA × Nat × Nat)) (s : List Nat) (cl c : Nat) (A : zA) (ex p : Nat) : yb rp s cl (c + 1) A ex p = if yt_q s (yt_s s p) = cl then some (A, ex, p) else (y1 rp s A ex p).bind fun r => yb rp s cl c r.1 r.2.1 r.2.2 := by
  rw [yb]
  by_cases e0 : yt_q s (yt_s s p) = cl
  · rw [if_pos e0, if_pos e0]
  · rw [if_neg e0, if_neg e0]
    unfold y1
    by_cases e1 : yt_q s (yt_s s p) = 1
    · rw [if_pos e1, if_pos e1]
      by_cases e2 : ym_w s p = 11
      · rw [if_pos e2, if_pos e2]
      · rw [if_neg e2, if_neg e2]
        by_cases e3 : ym_w s p = 12 ∨ 200 ≤ ex
        · rw [if_pos e3, if_pos e3]
          rfl
        · rw [if_neg e3, if_neg e3]
          cases yx (ym_w s p) s A (yt_e s (yt_s s p)) <;> rfl
    · rw [if_neg e1, if_neg e1]
      rfl
theorem y1_lt {rp : zA → Nat → Nat → Option (zA × Nat × Nat)} {s : List Nat} (D : yPd rp s) {A A' : zA} {ex p ex' e : Nat} (hp : p ≤ s.length) (h : y1 rp s A ex p = some (A', ex', e)) : p < e ∧ e ≤ s.length := by
  unfold y1 at h
  by_cases e1 : yt_q s (yt_s s p) = 1
  · rw [if_pos e1] at h
    have tb := yt_tokb hp (show yt_q s (yt_s s p) ≠ 0 by omega)
    by_cases e2 : ym_w s p = 11
    · rw [if_pos e2] at h
      have d := D _ _ _ _ _ _ tb.2 h
      omega
    · rw [if_neg e2] at h
      by_cases e3 : ym_w s p = 12 ∨ 200 ≤ ex
      · rw [if_pos e3] at h
        cases h
      · rw [if_neg e3] at h
        cases e4 : yx (ym_w s p) s A (yt_e s (yt_s s p)) with
        | none => rw [e4] at h; cases h
        | some r =>
          obtain ⟨A2, e5⟩ := r
          rw [e4] at h
          cases h
          have d := yx_end tb.2 e4
          omega
  · rw [if_neg e1] at h
    cases h
/-- what the reference does at depth d from a token on is y -/
def yCP (G : yH) (d : Nat) (rc : Nat → Int32 → zH → Option (Int32 × zH)) (y : zA → Nat → Nat → Option (zA × Nat × Nat)) : Prop := ∀ (h : zH) (A : zA) (fl : Nat → Int) (a : Nat → Nat → Int) (ex p : Nat), yv G h A fl a → p ≤ (yX G).length → yT (yX G) (yt_s (yX G) p) fl → fl 22 = (ex : Int) → ex ≤ 200 → (y A ex p = none ∧ yFr G h (rc 232 (Int32.ofInt (d : Int)) h)) ∨ (∃ A' ex' e, y A ex p = some (A', ex', e) ∧ ∃ h' fl' a', rc 232 (Int32.ofInt (d : Int)) h = some (Int32.ofInt 1, h') ∧ yv G h' A' fl' a' ∧ zr_F h h' ∧ fl' 20 = (e : Int) ∧ fl' 22 = (ex' : Int) ∧ ex' ≤ 200)
theorem yv_cmd {N : Nat} {G : yH} {d : Nat} {rc : Nat → Int32 → zH → Option (Int32 × zH)} {rp : zA → Nat → Nat → Option (zA × Nat × Nat)} (hN : 4000 ≤ N) (hd : d ≤ 2) (hR : d < 2 → yCP G d (fM_readsRepeat N rc) rp) (h2 : d = 2 → ∀ A ex p, rp A ex p = none) : yCP G d (fM_readsCommand_B N rc) (y1 rp (yX G)) := by
  intro h A fl a ex p Y hp T h22 hx
  have sb := yt_sb hp
  have eb := yt_eb sb.2
  unfold fM_readsCommand_B
  rw [yv_T Y, cond_true, yv_ahead (by omega) Y hp T, b2]
  have f1 := yv_failF (N := N) Y 1
  by_cases k1 : yt_q (yX G) (yt_s (yX G) p) = 1
  · have wi : ym_wi (yX G) p = ym_w (yX G) p := if_pos k1
    have wb : ym_w (yX G) p ≤ 12 := yt_cmdb _
    rw [wi]
    unfold y1
    rw [if_pos k1]
    by_cases w11 : ym_w (yX G) p = 11
    · rw [if_pos w11, w11, show (Int32.ofInt (if (11 : Nat) < 12 then ((11 : Nat) : Int) else -1)) = Int32.ofInt 11 from rfl, show z_cmp .ne (Int32.ofInt 11) (Int32.ofInt (-1)) = true from rfl, cond_true, show z_cmp .ne (Int32.ofInt 11) (Int32.ofInt 11) = false from rfl, cond_false, zqo_ne _ _ (by omega) (by decide)]
      by_cases d2 : d = 2
      · rw [decide_eq_true (by omega), Bool.not_true, cond_false]
        exact Or.inl ⟨h2 d2 _ _ _, yFr_w (yv_failF (N := N) Y 4)⟩
      · rw [decide_eq_false (by omega), Bool.not_false, cond_true]
        obtain ⟨h3, f3, e3, Y3, F3, T3, k3⟩ := yv_next (N := N) (by omega) Y (p := yt_e (yX G) (yt_s (yX G) p)) T.2.2.1 eb.2.1
        rw [e3, b2]
        rcases hR (by omega) h3 A f3 a ex (yt_e (yX G) (yt_s (yX G) p)) Y3 eb.2.1 T3 ((k3 22 (by omega)).trans h22) hx with ⟨o1, o2⟩ | ⟨A', ex', e, o1, h4, f4, a4, e4, Y4, F4, o20, o22, ox⟩
        · exact Or.inl ⟨o1, yFr_t F3 (yFr_w o2)⟩
        · refine Or.inr ⟨A', ex', e, o1, h4, f4, a4, ?_, Y4, zr_Ft F3 F4, o20, o22, ox⟩
          rw [e4, b2]
          rfl
    · rw [if_neg w11]
      by_cases w12 : ym_w (yX G) p = 12
      · rw [if_pos (Or.inl w12), w12, show (Int32.ofInt (if (12 : Nat) < 12 then ((12 : Nat) : Int) else -1)) = Int32.ofInt (-1) from rfl, show z_cmp .ne (Int32.ofInt (-1)) (Int32.ofInt (-1)) = false from rfl, cond_false]
        exact Or.inl ⟨rfl, yFr_w f1⟩
      · rw [if_pos (show ym_w (yX G) p < 12 by omega), zqo_ne _ _ (by omega) (by decide), decide_eq_false (by omega), Bool.not_false, cond_true, zqo_ne _ _ (by omega) (by decide), decide_eq_false (by omega), Bool.not_false, cond_true, yv_i Y 22 rfl, b1_s, h22, zqo_ne _ _ (by omega) (by decide)]
        by_cases x200 : ex = 200
        · rw [decide_eq_true (by omega), Bool.not_true, cond_false, if_pos (Or.inr (by omega))]
          exact Or.inl ⟨rfl, yFr_w (yv_failF (N := N) Y 5)⟩
        · obtain ⟨h3, e3, Y3, F3⟩ := yv_s Y 22 (by decide) ((ex : Int) + 1)
          obtain ⟨h4, f4, e4, Y4, F4, T4, k4⟩ := yv_next (N := N) (by omega) Y3 (p := yt_e (yX G) (yt_s (yX G) p)) ((zr_un fl _ (by decide)).trans T.2.2.1) eb.2.1
          have o := yv_word hN Y4 (p := yt_e (yX G) (yt_s (yX G) p)) (i := ym_w (yX G) p) eb.2.1 T4 (by omega)
          have x22 : f4 22 = ((ex + 1 : Nat) : Int) := (k4 22 (by omega)).trans ((zr_us _ _ _).trans (by omega))
          rw [decide_eq_false (by omega), Bool.not_false, cond_true, b1_s, zw_add, e3, b1_s, e4, b2, yU_w o, if_neg (by omega)]
          rcases o with ⟨o1, o2⟩ | ⟨A', e, o1, h5, f5, a5, e5, Y5, F5, o20, o22⟩
          · exact Or.inl ⟨by rw [o1]; rfl, yFr_t (zr_Ft F3 F4) o2⟩
          · exact Or.inr ⟨A', ex + 1, e, by rw [o1]; rfl, h5, f5, a5, e5, Y5, zr_Ft F3 (zr_Ft F4 F5), o20, o22.trans x22, by omega⟩
  · have wi : ym_wi (yX G) p = 12 := if_neg k1
    rw [wi, show (Int32.ofInt (if (12 : Nat) < 12 then ((12 : Nat) : Int) else -1)) = Int32.ofInt (-1) from rfl, show z_cmp .ne (Int32.ofInt (-1)) (Int32.ofInt (-1)) = false from rfl, cond_false]
    exact Or.inl ⟨if_neg k1, yFr_w f1⟩
/-- the commands of a round -/
theorem yv_51 {N : Nat} {G : yH} {d : Nat} {rc : Nat → Int32 → zH → Option (Int32 × zH)} {rp : zA → Nat → Nat → Option (zA × Nat × Nat)} (hN : 4000 ≤ N) (hd : d < 2) (CP : yCP G (d + 1) rc (y1 rp (yX G))) (D : yPd rp (yX G)) {k36 : Nat → Int32 → Int32 → Int32 → Int32 → zH → Option (Int32 × zH)} {l2 l3 l4 : Int32} : ∀ (c n : Nat) (h : zH) (A : zA) (fl : Nat → Int) (a : Nat → Nat → Int) (ex p : Nat), yv G h A fl a → p ≤ (yX G).length → (yX G).length < p + c → c ≤ n → yT (yX G) (yt_s (yX G) p) fl → fl 22 = (ex : Int) → ex ≤ 200 → (yb rp (yX G) 4 c A ex p = none ∧ yFr G h (fM_readsRepeat_51 N rc n k36 232 (Int32.ofInt (d : Int)) l2 l3 l4 h)) ∨ (∃ A' ex' q, yb rp (yX G) 4 c A ex p = some (A', ex', q) ∧ ∃ h' fl' a', fM_readsRepeat_51 N rc n k36 232 (Int32.ofInt (d : Int)) l2 l3 l4 h = k36 232 (Int32.ofInt (d : Int)) l2 l3 (l4 + Int32.ofInt 1) h' ∧ yv G h' A' fl' a' ∧ zr_F h h' ∧ yT (yX G) (yt_s (yX G) q) fl' ∧ fl' 22 = (ex' : Int) ∧ ex' ≤ 200) := by
  intro c
  induction c with
  | zero => intro n h A fl a ex p Y hp hc; omega
  | succ c ih =>
    intro n h A fl a ex p Y hp hc hn T h22 hx
    obtain ⟨g, rfl⟩ : ∃ g, n = g + 1 := ⟨n - 1, by omega⟩
    have mi := yt_mi (q := yt_q (yX G) (yt_s (yX G) p))
    have mb := yt_mb (yt_q (yX G) (yt_s (yX G) p))
    rw [yb_1, fM_readsRepeat_51, yv_i Y 18 rfl, b1_s, T.1, zqo_eq _ _ (by omega) (by decide)]
    by_cases e4 : yt_q (yX G) (yt_s (yX G) p) = 4
    · rw [if_pos e4, decide_eq_true (by omega), cond_true]
      exact Or.inr ⟨A, ex, p, rfl, h, fl, a, rfl, Y, zr_Fr h, T, h22, hx⟩
    · rw [if_neg e4, decide_eq_false (by omega), cond_false, zh_inc]
      rcases CP h A fl a ex p Y hp T h22 hx with ⟨o1, h', A', f', a', e', Y', F'⟩ | ⟨A1, ex1, e, o1, h1, f1, a1, e1, Y1, F1, o20, o22, ox⟩
      · refine Or.inl ⟨by rw [o1]; rfl, h', A', f', a', ?_, Y', F'⟩
        rw [e', b2]
        rfl
      · have lt := y1_lt D hp o1
        obtain ⟨h2, f2, e2, Y2, F2, T2, k2⟩ := yv_next (N := N) (by omega) Y1 (p := e) o20 lt.2
        rw [o1, e1, b2, show z_cmp .ne (Int32.ofInt 1) (Int32.ofInt 0) = true from rfl, cond_true, e2, b2]
        rcases ih g h2 A1 f2 a1 ex1 e Y2 lt.2 (by omega) (by omega) T2 ((k2 22 (by omega)).trans o22) ox with ⟨i1, i2⟩ | ⟨A', ex', q, i1, h', f', a', i2, i3, i4, i5⟩
        · exact Or.inl ⟨i1, yFr_t (zr_Ft F1 F2) i2⟩
        · exact Or.inr ⟨A', ex', q, i1, h', f', a', i2, i3, zr_Ft F1 (zr_Ft F2 i4), i5⟩
/-- rounds -/
theorem yv_36 {N : Nat} {G : yH} {d b t : Nat} {rc : Nat → Int32 → zH → Option (Int32 × zH)} {rp : zA → Nat → Nat → Option (zA × Nat × Nat)} (hN : 4000 ≤ N) (hd : d < 2) (CP : yCP G (d + 1) rc (y1 rp (yX G))) (D : yPd rp (yX G)) (hb : b ≤ (yX G).length) (ht : t ≤ 20) : ∀ (r n : Nat) (h : zH) (A : zA) (fl : Nat → Int) (a : Nat → Nat → Int) (ex k : Nat), yv G h A fl a → fl 22 = (ex : Int) → ex ≤ 200 → k + (r + 1) = t → r + 2 ≤ n → (yq (yX G) (yr (fun A ex => yb rp (yX G) 4 ((yX G).length + 1) A ex b) (r + 1) A ex) = none ∧ yFr G h (fM_readsRepeat_36 N rc n 232 (Int32.ofInt (d : Int)) (Int32.ofInt (t : Int)) (Int32.ofInt (b : Int)) (Int32.ofInt (k : Int)) h)) ∨ (∃ A' ex' e, yq (yX G) (yr (fun A ex => yb rp (yX G) 4 ((yX G).length + 1) A ex b) (r + 1) A ex) = some (A', ex', e) ∧ ∃ h' fl' a', fM_readsRepeat_36 N rc n 232 (Int32.ofInt (d : Int)) (Int32.ofInt (t : Int)) (Int32.ofInt (b : Int)) (Int32.ofInt (k : Int)) h = some (Int32.ofInt 1, h') ∧ yv G h' A' fl' a' ∧ zr_F h h' ∧ fl' 20 = (e : Int) ∧ fl' 22 = (ex' : Int) ∧ ex' ≤ 200) := by
  -- a round's start
  have st : ∀ (g : Nat) (h : zH) (A : zA) (fl : Nat → Int) (a : Nat → Nat → Int) (ex k : Nat), yv G h A fl a → fl 22 = (ex : Int) → ex ≤ 200 → k < t → (yb rp (yX G) 4 ((yX G).length + 1) A ex b = none ∧ yFr G h (fM_readsRepeat_36 N rc (g + 1) 232 (Int32.ofInt (d : Int)) (Int32.ofInt (t : Int)) (Int32.ofInt (b : Int)) (Int32.ofInt (k : Int)) h)) ∨ (∃ A' ex' q, yb rp (yX G) 4 ((yX G).length + 1) A ex b = some (A', ex', q) ∧ ∃ h' fl' a', fM_readsRepeat_36 N rc (g + 1) 232 (Int32.ofInt (d : Int)) (Int32.ofInt (t : Int)) (Int32.ofInt (b : Int)) (Int32.ofInt (k : Int)) h = fM_readsRepeat_36 N rc g 232 (Int32.ofInt (d : Int)) (Int32.ofInt (t : Int)) (Int32.ofInt (b : Int)) (Int32.ofInt ((k + 1 : Nat) : Int)) h' ∧ yv G h' A' fl' a' ∧ zr_F h h' ∧ yT (yX G) (yt_s (yX G) q) fl' ∧ fl' 22 = (ex' : Int) ∧ ex' ≤ 200) := by
    intro g h A fl a ex k Y h22 hx hk
    have l6 := Y.2.2.2.2.1.1
    obtain ⟨h1, e1, Y1, F1⟩ := yv_s Y 20 (by decide) (b : Int)
    obtain ⟨h2, f2, e2, Y2, F2, T2, k2⟩ := yv_next (N := N) (by omega) Y1 (p := b) (zr_us _ _ _) hb
    rw [fM_readsRepeat_36, zqo_ge _ _ (by omega) (by omega), decide_eq_false (by omega), cond_false, e1, b1_s, e2, b2]
    rcases yv_51 (k36 := fM_readsRepeat_36 N rc g) (l2 := Int32.ofInt (t : Int)) (l3 := Int32.ofInt (b : Int)) (l4 := Int32.ofInt (k : Int)) hN hd CP D ((yX G).length + 1) N h2 A f2 a ex b Y2 hb (by omega) (by omega) T2 ((k2 22 (by omega)).trans ((zr_un fl _ (by decide)).trans h22)) hx with ⟨o1, o2⟩ | ⟨A', ex', q, o1, h', f', a', o2, o3, o4, o5⟩
    · exact Or.inl ⟨o1, yFr_t (zr_Ft F1 F2) o2⟩
    · rw [zh_inc] at o2
      exact Or.inr ⟨A', ex', q, o1, h', f', a', o2, o3, zr_Ft F1 (zr_Ft F2 o4), o5⟩
  intro r
  induction r with
  | zero =>
    intro n h A fl a ex k Y h22 hx hk hn
    obtain ⟨g, rfl⟩ : ∃ g, n = g + 1 + 1 := ⟨n - 2, by omega⟩
    have er : yr (fun A ex => yb rp (yX G) 4 ((yX G).length + 1) A ex b) (0 + 1) A ex = yb rp (yX G) 4 ((yX G).length + 1) A ex b := by
      show (yb rp (yX G) 4 ((yX G).length + 1) A ex b).bind _ = _
      cases yb rp (yX G) 4 ((yX G).length + 1) A ex b <;> rfl
    rw [er]
    rcases st (g + 1) h A fl a ex k Y h22 hx (by omega) with ⟨o1, o2⟩ | ⟨A1, ex1, q, o1, h1, f1, a1, e1, Y1, F1, T1, x1, x2⟩
    · exact Or.inl ⟨by rw [o1]; rfl, o2⟩
    · obtain ⟨_, ql, qk, _⟩ := yb_det D _ _ _ _ _ _ _ hb o1
      have tb := yt_tokb ql (show yt_q (yX G) (yt_s (yX G) q) ≠ 0 by omega)
      have l6 := Y.2.2.2.2.1.1
      obtain ⟨h2, f2, e2, Y2, F2, T2, k2⟩ := yv_next (N := N) (by omega) Y1 (p := yt_e (yX G) (yt_s (yX G) q)) T1.2.2.1 tb.2
      have mi := yt_mi (q := yt_q (yX G) (yt_s (yX G) (yt_e (yX G) (yt_s (yX G) q))))
      have mb := yt_mb (yt_q (yX G) (yt_s (yX G) (yt_e (yX G) (yt_s (yX G) q))))
      rw [o1, e1, fM_readsRepeat_36, zqo_ge _ _ (by omega) (by omega), decide_eq_true (by omega), cond_true, e2, b2]
      show (((ym_sem (yX G) (yt_e (yX G) (yt_s (yX G) q))).bind fun e => some (A1, ex1, e)) = none ∧ _) ∨ (∃ A' ex' e, ((ym_sem (yX G) (yt_e (yX G) (yt_s (yX G) q))).bind fun e => some (A1, ex1, e)) = some (A', ex', e) ∧ _)
      rcases yv_is (N := N) Y2 T2.1 mb 1 (by decide) with ⟨q1, e3⟩ | ⟨q1, h3, f3, e3, Y3, F3⟩
      · have sm : ym_sem (yX G) (yt_e (yX G) (yt_s (yX G) q)) = some (yt_e (yX G) (yt_s (yX G) (yt_e (yX G) (yt_s (yX G) q)))) := if_pos (by omega)
        refine Or.inr ⟨A1, ex1, yt_e (yX G) (yt_s (yX G) (yt_e (yX G) (yt_s (yX G) q))), by rw [sm]; rfl, h2, f2, a1, ?_, Y2, zr_Ft F1 F2, T2.2.2.1, (k2 22 (by omega)).trans x1, x2⟩
        rw [e3, b2]
        rfl
      · have sm : ym_sem (yX G) (yt_e (yX G) (yt_s (yX G) q)) = none := if_neg (by omega)
        refine Or.inl ⟨by rw [sm]; rfl, h3, A1, f3, a1, ?_, Y3, zr_Ft F1 (zr_Ft F2 F3)⟩
        rw [e3, b2]
        rfl
  | succ r ih =>
    intro n h A fl a ex k Y h22 hx hk hn
    obtain ⟨g, rfl⟩ : ∃ g, n = g + 1 := ⟨n - 1, by omega⟩
    rcases st g h A fl a ex k Y h22 hx (by omega) with ⟨o1, o2⟩ | ⟨A1, ex1, q, o1, h1, f1, a1, e1, Y1, F1, T1, x1, x2⟩
    · refine Or.inl ⟨?_, o2⟩
      show yq (yX G) ((yb rp (yX G) 4 ((yX G).length + 1) A ex b).bind _) = none
      rw [o1]
      rfl
    · have er : yr (fun A ex => yb rp (yX G) 4 ((yX G).length + 1) A ex b) (r + 1 + 1) A ex = yr (fun A ex => yb rp (yX G) 4 ((yX G).length + 1) A ex b) (r + 1) A1 ex1 := by
        show (yb rp (yX G) 4 ((yX G).length + 1) A ex b).bind (fun x => if r + 1 = 0 then some x else yr (fun A ex => yb rp (yX G) 4 ((yX G).length + 1) A ex b) (r + 1) x.1 x.2.1) = _
        rw [o1]
        show (if r + 1 = 0 then some (A1, ex1, q) else yr (fun A ex => yb rp (yX G) 4 ((yX G).length + 1) A ex b) (r + 1) A1 ex1) = _
        rw [if_neg (Nat.succ_ne_zero r)]
      rw [er, e1]
      rcases ih g h1 A1 f1 a1 ex1 (k + 1) Y1 x1 x2 (by omega) (by omega) with ⟨i1, i2⟩ | ⟨A', ex', e, i1, h', f', a', i2, i3, i4, i5⟩
      · exact Or.inl ⟨i1, yFr_t F1 i2⟩
      · exact Or.inr ⟨A', ex', e, i1, h', f', a', i2, i3, zr_Ft F1 i4, i5⟩
theorem yv_repeat {N : Nat} {G : yH} {d : Nat} {rc : Nat → Int32 → zH → Option (Int32 × zH)} {rp : zA → Nat → Nat → Option (zA × Nat × Nat)} (hN : 4000 ≤ N) (hd : d < 2) (CP : yCP G (d + 1) rc (y1 rp (yX G))) (D : yPd rp (yX G)) : yCP G d (fM_readsRepeat N rc) (yp (fun b A ex => yb rp (yX G) 4 ((yX G).length + 1) A ex b) (yX G)) := by
  intro h A fl a ex p Y hp T h22 hx
  have l6 := Y.2.2.2.2.1.1
  unfold fM_readsRepeat yp
  rw [yv_T Y, cond_true]
  rcases yv_num (N := N) (by omega) Y hp T 0 (by decide) 1 20 (by decide) (by decide) with ⟨v, e, m1, h1, f1, a1, e1, Y1, F1, T1, x1, n1, _, _⟩ | ⟨m1, h1, f1, e1, Y1, F1⟩
  · obtain ⟨_, _, _, pe, el, vl0, vl, _⟩ := ym_numb hp m1
    have e1 : fM_number N 232 (Int32.ofInt 0) (Int32.ofInt 1) (Int32.ofInt 20) h = _ := e1
    have mi := yt_mi (q := yt_q (yX G) (yt_s (yX G) e))
    have mb := yt_mb (yt_q (yX G) (yt_s (yX G) e))
    have eb := yt_eb (yt_sb el).2
    rw [e1, b2, show z_cmp .eq (Int32.ofInt 1) (Int32.ofInt 0) = false from rfl, cond_false]
    rcases yv_is (N := N) Y1 T1.1 mb 4 (by decide) with ⟨q1, e2⟩ | ⟨q1, h2, f2, e2, Y2, F2⟩
    · have rp1 : ym_rep (yX G) p = some (v, yt_e (yX G) (yt_s (yX G) e)) := by
        rw [ym_rep, m1]
        exact if_pos (show yt_q (yX G) (yt_s (yX G) e) = 3 by omega)
      rw [rp1, e2, b2, show z_cmp .ne (Int32.ofInt 1) (Int32.ofInt 0) = true from rfl, cond_true, zr_r23 Y1.1, b1_s, yv_n0 Y1, b1_s, n1, yv_i Y1 20 rfl, b1_s, T1.2.2.1]
      obtain ⟨r, rfl⟩ : ∃ r, v = r + 1 := ⟨v - 1, by omega⟩
      rcases yv_36 (t := r + 1) hN hd CP D eb.2.1 (by omega) r N h1 A f1 a1 ex 0 Y1 (x1.trans h22) hx (by omega) (by omega) with ⟨o1, o2⟩ | ⟨A', ex', e', o1, h', f', a', o2, o3, o4, o5⟩
      · exact Or.inl ⟨o1, yFr_t F1 o2⟩
      · exact Or.inr ⟨A', ex', e', o1, h', f', a', o2, o3, zr_Ft F1 o4, o5⟩
    · have rp1 : ym_rep (yX G) p = none := by
        rw [ym_rep, m1]
        exact if_neg (show ¬ yt_q (yX G) (yt_s (yX G) e) = 3 by omega)
      rw [rp1]
      refine Or.inl ⟨rfl, h2, A, f2, a1, ?_, Y2, zr_Ft F1 F2⟩
      rw [e2, b2, show z_cmp .ne (Int32.ofInt 0) (Int32.ofInt 0) = false from rfl, cond_false]
      rfl
  · have rp1 : ym_rep (yX G) p = none := by
      rw [ym_rep, m1]
      rfl
    have e1 : fM_number N 232 (Int32.ofInt 0) (Int32.ofInt 1) (Int32.ofInt 20) h = _ := e1
    rw [rp1]
    refine Or.inl ⟨rfl, h1, A, f1, a, ?_, Y1, F1⟩
    rw [e1, b2, show z_cmp .eq (Int32.ofInt 0) (Int32.ofInt 0) = true from rfl, cond_true]
    rfl
/-- a command at depth 0 -/
theorem yv_cmd0 {N : Nat} {G : yH} (hN : 4000 ≤ N) : yCP G 0 (fM_readsCommand N 8) (y1 (yR0 (yX G)) (yX G)) := by
  have c2 : yCP G 2 (fM_readsCommand N 6) (y1 (fun _ _ _ => none) (yX G)) := yv_cmd (rc := fM_readsCommand N 5) hN (Nat.le_refl 2) (fun x => absurd x (by decide)) (fun _ _ _ _ => rfl)
  have r1 : yCP G 1 (fM_readsRepeat N (fM_readsCommand N 6)) (yR1 (yX G)) := yv_repeat hN (by decide) c2 (fun _ _ _ _ _ _ _ h => by cases h)
  have c1 : yCP G 1 (fM_readsCommand N 7) (y1 (yR1 (yX G)) (yX G)) := yv_cmd (rc := fM_readsCommand N 6) hN (by decide) (fun _ => r1) (fun x => absurd x (by decide))
  have r0 : yCP G 0 (fM_readsRepeat N (fM_readsCommand N 7)) (yR0 (yX G)) := yv_repeat hN (by decide) c1 (yR1_det _)
  exact yv_cmd (rc := fM_readsCommand N 7) hN (by decide) (fun _ => r0) (fun x => absurd x (by decide))
/-- all commands behind the head -/
theorem yv_57 {N : Nat} {G : yH} (hN : 4000 ≤ N) : ∀ (c n : Nat) (h : zH) (A : zA) (fl : Nat → Int) (a : Nat → Nat → Int) (ex p : Nat), yv G h A fl a → p ≤ (yX G).length → (yX G).length < p + c → c ≤ n → yT (yX G) (yt_s (yX G) p) fl → fl 22 = (ex : Int) → ex ≤ 200 → (yb (yR0 (yX G)) (yX G) 0 c A ex p = none ∧ yFr G h (fM_readsAll_57 N n 232 h)) ∨ (∃ x, yb (yR0 (yX G)) (yX G) 0 c A ex p = some x ∧ ∃ h' fl' a', fM_readsAll_57 N n 232 h = some (Int32.ofInt 1, h') ∧ yv G h' x.1 fl' a' ∧ zr_F h h') := by
  intro c
  induction c with
  | zero => intro n h A fl a ex p Y hp hc; omega
  | succ c ih =>
    intro n h A fl a ex p Y hp hc hn T h22 hx
    obtain ⟨g, rfl⟩ : ∃ g, n = g + 1 := ⟨n - 1, by omega⟩
    have mi := yt_mi (q := yt_q (yX G) (yt_s (yX G) p))
    have mb := yt_mb (yt_q (yX G) (yt_s (yX G) p))
    rw [yb_1, fM_readsAll_57, yv_i Y 18 rfl, b1_s, T.1, zqo_eq _ _ (by omega) (by decide)]
    by_cases e4 : yt_q (yX G) (yt_s (yX G) p) = 0
    · rw [if_pos e4, decide_eq_true (by omega), cond_true]
      exact Or.inr ⟨(A, ex, p), rfl, h, fl, a, rfl, Y, zr_Fr h⟩
    · rw [if_neg e4, decide_eq_false (by omega), cond_false]
      rcases yv_cmd0 (N := N) hN h A fl a ex p Y hp T h22 hx with ⟨o1, h', A', f', a', e', Y', F'⟩ | ⟨A1, ex1, e, o1, h1, f1, a1, e1, Y1, F1, o20, o22, ox⟩
      · have e' : fM_readsCommand N 8 232 (Int32.ofInt 0) h = _ := e'
        refine Or.inl ⟨by rw [o1]; rfl, h', A', f', a', ?_, Y', F'⟩
        rw [e', b2]
        rfl
      · have e1 : fM_readsCommand N 8 232 (Int32.ofInt 0) h = _ := e1
        have lt := y1_lt (yR0_det _) hp o1
        obtain ⟨h2, f2, e2, Y2, F2, T2, k2⟩ := yv_next (N := N) (by omega) Y1 (p := e) o20 lt.2
        rw [o1, e1, b2, show z_cmp .ne (Int32.ofInt 1) (Int32.ofInt 0) = true from rfl, cond_true, e2, b2]
        rcases ih g h2 A1 f2 a1 ex1 e Y2 lt.2 (by omega) (by omega) T2 ((k2 22 (by omega)).trans o22) ox with ⟨i1, i2⟩ | ⟨x, i1, h', f', a', i2, i3, i4⟩
        · exact Or.inl ⟨i1, yFr_t (zr_Ft F1 F2) i2⟩
        · exact Or.inr ⟨x, i1, h', f', a', i2, i3, zr_Ft F1 (zr_Ft F2 i4)⟩
