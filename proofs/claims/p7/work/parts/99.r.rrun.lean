/-! THE REFERENCE'S runScript. -/
def yFr0 (G : yH) (h : zH) (r : Option (Int32 × zH)) : Prop := ∃ h' A' fl' a', r = some (Int32.ofInt 0, h') ∧ yv0 G h' A' fl' a' ∧ zr_F h h'
theorem yFr0_of {G : yH} {h h1 : zH} {r : Option (Int32 × zH)} (F : zr_F h h1) (o : yFr G h1 r) : yFr0 G h r := by
  obtain ⟨h', A', f', a', e, Y, F'⟩ := o
  exact ⟨h', A', f', a', e, yv0_of Y, zr_Ft F F'⟩
section YVG
variable {N : Nat} {G : yH} {h : zH} {fl : Nat → Int} {a : Nat → Nat → Int}
theorem yw_all (hN : 4000 ≤ N) (Y : yv0 G h (0, [], []) fl a) (T : yT (yX G) (yt_s (yX G) 0) fl) (h22 : fl 22 = 0) : (yz (yX G) = none ∧ yFr0 G h (fM_readsAll N 232 h)) ∨ (∃ A', yz (yX G) = some A' ∧ ∃ h' fl' a', fM_readsAll N 232 h = some (Int32.ofInt 1, h') ∧ yv G h' A' fl' a' ∧ zr_F h h') := by
  have eb := yt_eb (yt_sb (Nat.zero_le (yX G).length)).2
  have l6 := Y.2.2.2.2.1.1
  unfold fM_readsAll yz
  rw [yw_T Y, cond_true, yw_says (by omega) Y (Nat.zero_le _) T (b := yt_letters) yS_73 (by decide), b2]
  by_cases q : yt_q (yX G) (yt_s (yX G) 0) = 1 ∧ zw_p (yX G) (yt_s (yX G) 0) (yt_e (yX G) (yt_s (yX G) 0)) = yt_letters
  · rw [decide_eq_true q, cond_true, show z_cmp .ne (Int32.ofInt 1) (Int32.ofInt 0) = true from rfl, cond_true]
    obtain ⟨h1, f1, e1, Y1, F1, T1, k1⟩ := yw_next (N := N) (by omega) Y (p := yt_e (yX G) (yt_s (yX G) 0)) T.2.2.1 eb.2.1
    rw [e1, b2]
    have ez : yz_h (yX G) = (ym_num (yX G) (yt_e (yX G) (yt_s (yX G) 0)) 2 9).bind fun n => (ym_sem (yX G) n.2).bind fun e => some ((n.1, [], []), e) := if_pos q
    rw [ez]
    rcases yw_num (N := N) (by omega) Y1 eb.2.1 T1 0 (by decide) 2 9 (by decide) (by decide) with ⟨v, e, m1, h2, f2, a2, e2, Y2, F2, T2, x2, n2, k2, _⟩ | ⟨m1, h2, f2, e2, Y2, F2⟩
    · obtain ⟨_, _, _, pe, el, vl0, vl, _⟩ := ym_numb eb.2.1 m1
      have e2 : fM_number N 232 (Int32.ofInt 0) (Int32.ofInt 2) (Int32.ofInt 9) h1 = _ := e2
      have mi := yt_mi (q := yt_q (yX G) (yt_s (yX G) e))
      have mb := yt_mb (yt_q (yX G) (yt_s (yX G) e))
      have eb2 := yt_eb (yt_sb el).2
      rw [m1, e2, b2, show z_cmp .eq (Int32.ofInt 1) (Int32.ofInt 0) = false from rfl, cond_false]
      show ((((ym_sem (yX G) e).bind fun e => some (((v, [], []) : zA), e)).bind _) = none ∧ _) ∨ (∃ A', (((ym_sem (yX G) e).bind fun e => some (((v, [], []) : zA), e)).bind _) = some A' ∧ _)
      rcases yw_is (N := N) Y2 T2.1 mb 1 (by decide) with ⟨q1, e3⟩ | ⟨q1, h3, f3, e3, Y3, F3⟩
      · have sm : ym_sem (yX G) e = some (yt_e (yX G) (yt_s (yX G) e)) := if_pos (by omega)
        rw [sm, e3, b2, show z_cmp .ne (Int32.ofInt 1) (Int32.ofInt 0) = true from rfl, cond_true]
        have g0 : fAI h2 242 100 (Int32.ofInt 0) = some (Int32.ofInt (a2 242 0)) := zr_g Y2.1 242 0 (by decide) (by decide) (by decide)
        obtain ⟨h4, e4, H4, F4⟩ := zr_p Y2.1 233 0 (by decide) (by decide) (by decide) (v : Int)
        have e4 : fAS h2 233 100 (Int32.ofInt 0) (.int (Int32.ofInt (v : Int))) = some h4 := e4
        have Y4 : yv G h4 (v, [], []) f2 (zr_v a2 233 0 (v : Int)) := by
          obtain ⟨y1, R, y3, y4, y5, y6⟩ := Y2
          refine ⟨H4, zyR_a R (fun _ _ => rfl) (fun p i hp => zr_vn a2 _ (by omega)) ?_, ?_, ⟨y4.1, fun i hi => (zr_vn a2 _ (Or.inl (by decide))).trans (y4.2 i hi)⟩, y5, ⟨by show 2 ≤ v ∧ v ≤ 9; omega, Nat.zero_le _, (fun u hu => by cases hu), Nat.zero_le _, (fun w hw => by cases hw)⟩⟩
          · obtain ⟨r1, r2, r3, r4, r5⟩ := R.1
            exact ⟨zr_vs _ _ _ _, (zr_vn a2 _ (Or.inr (by decide))).trans r2, fun i (hi : i < 0) => absurd hi (Nat.not_lt_zero i), (zr_vn a2 _ (Or.inr (by decide))).trans r4, fun k (hk : k < 0) => absurd hk (Nat.not_lt_zero k)⟩
          · rw [show zr_v a2 233 0 (v : Int) 234 = a2 234 from funext fun i => zr_vn a2 _ (Or.inl (by decide))]
            exact y3
        obtain ⟨h5, f5, e5, Y5, F5, T5, k5⟩ := yv_next (N := N) (by omega) Y4 (p := yt_e (yX G) (yt_s (yX G) e)) T2.2.2.1 eb2.2.1
        rw [zr_r0 Y2.1, b1_s, zr_r23 Y2.1, b1_s, g0, b1_s, n2, e4, b1_s, e5, b2]
        show ((yL0 (yX G) (v, [], []) (yt_e (yX G) (yt_s (yX G) e))).bind _ = none ∧ _) ∨ (∃ A', (yL0 (yX G) (v, [], []) (yt_e (yX G) (yt_s (yX G) e))).bind _ = some A' ∧ _)
        have x5 : f5 22 = ((0 : Nat) : Int) := (k5 22 (by omega)).trans (x2.trans ((k1 22 (by omega)).trans h22))
        have FF := zr_Ft F1 (zr_Ft F2 (zr_Ft F4 F5))
        rcases yv_57 (N := N) hN ((yX G).length + 1) N h5 _ f5 _ 0 (yt_e (yX G) (yt_s (yX G) e)) Y5 eb2.2.1 (by omega) (by omega) T5 x5 (Nat.zero_le _) with ⟨o1, o2⟩ | ⟨x, o1, h', f', a', o2, o3, o4⟩
        · have o1 : yL0 (yX G) (v, [], []) (yt_e (yX G) (yt_s (yX G) e)) = none := o1
          exact Or.inl ⟨by rw [o1]; rfl, yFr0_of FF o2⟩
        · have o1 : yL0 (yX G) (v, [], []) (yt_e (yX G) (yt_s (yX G) e)) = some x := o1
          exact Or.inr ⟨x.1, by rw [o1]; rfl, h', f', a', o2, o3, zr_Ft FF o4⟩
      · have sm : ym_sem (yX G) e = none := if_neg (by omega)
        rw [sm]
        refine Or.inl ⟨rfl, h3, _, f3, a2, ?_, Y3, zr_Ft F1 (zr_Ft F2 F3)⟩
        rw [e3, b2, show z_cmp .ne (Int32.ofInt 0) (Int32.ofInt 0) = false from rfl, cond_false]
        rfl
    · have e2 : fM_number N 232 (Int32.ofInt 0) (Int32.ofInt 2) (Int32.ofInt 9) h1 = _ := e2
      rw [m1]
      refine Or.inl ⟨rfl, h2, _, f2, a, ?_, Y2, zr_Ft F1 F2⟩
      rw [e2, b2, show z_cmp .eq (Int32.ofInt 0) (Int32.ofInt 0) = true from rfl, cond_true]
      rfl
  · have ez : yz_h (yX G) = none := if_neg q
    obtain ⟨h1, f1, e1, Y1, F1⟩ := yw_fail (N := N) Y 1
    rw [ez]
    refine Or.inl ⟨rfl, h1, _, f1, a, ?_, Y1, F1⟩
    rw [decide_eq_false q, cond_false, show z_cmp .ne (Int32.ofInt 0) (Int32.ofInt 0) = false from rfl, cond_false, e1, b2]
    rfl
/-- w emptied -/
theorem zr_parses2 {fl : Nat → Int} : ∀ (c f i : Nat) (h : zH) (a : Nat → Nat → Int), zr h fl a → i + c = 451 → c < f → (∀ j, j < i → a 233 j = 0) → ∃ g h' a', fM_parses_2 N f 232 (Int32.ofInt (i : Int)) h = fM_parses_2 N (g + 1) 232 (Int32.ofInt 451) h' ∧ zr h' fl a' ∧ zr_F h h' ∧ (∀ p j, p ≠ 233 → a' p j = a p j) ∧ ∀ j, j < 451 → a' 233 j = 0 := by
  intro c
  induction c with
  | zero =>
    intro f i h a H h1 h2 h3
    obtain ⟨g, rfl⟩ : ∃ g, f = g + 1 := ⟨f - 1, by omega⟩
    have : i = 451 := by omega
    subst this
    exact ⟨g, h, a, rfl, H, zr_Fr h, fun _ _ _ => rfl, h3⟩
  | succ c ih =>
    intro f i h a H h1 h2 h3
    obtain ⟨g, rfl⟩ : ∃ g, f = g + 1 := ⟨f - 1, by omega⟩
    obtain ⟨h4, e4, H4, F4⟩ := zr_p H 233 i (by decide) (by decide) (by show i < 451; omega) 0
    have e4 : fAS h 233 100 (Int32.ofInt (i : Int)) (.int (Int32.ofInt 0)) = some h4 := e4
    obtain ⟨g', h5, a5, e5, H5, F5, p5, r5⟩ := ih g (i + 1) h4 _ H4 (by omega) (by omega) (fun j hj => by
      by_cases e : j = i
      · rw [e, zr_vs]
      · rw [zr_vn a _ (Or.inr e)]
        exact h3 j (by omega))
    refine ⟨g', h5, a5, ?_, H5, zr_Ft F4 F5, fun p j hp => (p5 p j hp).trans (zr_vn a _ (Or.inl hp)), r5⟩
    rw [fM_parses_2, zqo_ge _ _ (by omega) (by decide), decide_eq_false (by omega), cond_false, zr_r0 H, b1_s, e4, b1_s, zh_inc]
    exact e5
theorem yw_parses (hN : 4000 ≤ N) (H : zr h fl a) {A : zA} (R : zyR fl a A G.2.1 G.2.2.1 G.2.2.2.1 G.2.2.2.2.1 (G.2.2.2.2.2.1, fl 12, fl 13) G.2.2.2.2.2.2.1) (B : zy_is (a 234) G.1) (sx : fl 11 = ((yX G).length : Int) ∧ ∀ i, i < (yX G).length → a 238 i = ((yX G).getD i 0 : Int)) (sl : (yX G).length ≤ 600 ∧ ∀ v ∈ yX G, v < 256) : (yz (yX G) = none ∧ yFr0 G h (fM_parses N 232 h)) ∨ (∃ A', yz (yX G) = some A' ∧ ∃ h' fl' a', fM_parses N 232 h = some (Int32.ofInt 1, h') ∧ yv G h' A' fl' a' ∧ zr_F h h') := by
  obtain ⟨g, h1, a1, e1, H1, F1, p1, z1⟩ := zr_parses2 (N := N) 451 N 0 h a H rfl (by omega) (fun j hj => absurd hj (Nat.not_lt_zero j))
  have Y1 : yv0 G h1 (0, [], []) fl a1 := by
    refine ⟨H1, zyR_a R (fun _ _ => rfl) (fun p i hp => p1 p i (by omega)) ⟨z1 0 (by decide), z1 1 (by decide), fun i (hi : i < 0) => absurd hi (Nat.not_lt_zero i), z1 2 (by decide), fun k (hk : k < 0) => absurd hk (Nat.not_lt_zero k)⟩, ?_, ⟨sx.1, fun i hi => (p1 238 i (by decide)).trans (sx.2 i hi)⟩, sl, trivial⟩
    rw [show a1 234 = a 234 from funext fun i => p1 234 i (by decide)]
    exact B
  obtain ⟨h2, e2, Y2, F2⟩ := yw_s Y1 12 (by decide) 0
  obtain ⟨h3, e3, Y3, F3⟩ := yw_s Y2 13 (by decide) (-1)
  obtain ⟨h4, e4, Y4, F4⟩ := yw_s Y3 22 (by decide) 0
  obtain ⟨h5, e5, Y5, F5⟩ := yw_s Y4 20 (by decide) 0
  obtain ⟨h6, f6, e6, Y6, F6, T6, k6⟩ := yw_next (N := N) (by omega) Y5 (p := 0) (zr_us _ _ _) (Nat.zero_le _)
  have FF := zr_Ft F1 (zr_Ft F2 (zr_Ft F3 (zr_Ft F4 (zr_Ft F5 F6))))
  have x6 : f6 22 = 0 := (k6 22 (by omega)).trans ((zr_un _ _ (by decide)).trans (zr_us _ _ _))
  have s0 : fM_parses N 232 h = b2 (fM_readsAll N 232 h6) fun x7 h8 => cond (decide (x7 = Int32.ofInt 0) || decide (x7 = Int32.ofInt 1)) (some (x7, h8)) none := by
    unfold fM_parses
    have e1 : fM_parses_2 N N 232 (Int32.ofInt 0) h = fM_parses_2 N (g + 1) 232 (Int32.ofInt 451) h1 := e1
    rw [zr_T H, cond_true, e1, fM_parses_2, show z_cmp .ge (Int32.ofInt 451) (Int32.ofInt 451) = true from rfl, cond_true, e2, b1_s, e3, b1_s, e4, b1_s, e5, b1_s, e6, b2]
  rw [s0]
  rcases yw_all hN Y6 T6 x6 with ⟨o1, h', A', f', a', e, Y', F'⟩ | ⟨A', o1, h', f', a', e, Y', F'⟩
  · refine Or.inl ⟨o1, h', A', f', a', ?_, Y', zr_Ft FF F'⟩
    rw [e, b2]
    rfl
  · refine Or.inr ⟨A', o1, h', f', a', ?_, Y', zr_Ft FF F'⟩
    rw [e, b2]
    rfl
/-- w as it was -/
theorem zr_run59 {fl : Nat → Int} : ∀ (c f i : Nat) (h : zH) (a : Nat → Nat → Int), zr h fl a → i + c = 451 → c < f → (∀ j, j < i → a 233 j = a 234 j) → ∃ h' a', fM_runScript_59 N f 232 (Int32.ofInt (i : Int)) h = some (Int32.ofInt (-1), h') ∧ zr h' fl a' ∧ zr_F h h' ∧ (∀ p j, p ≠ 233 → a' p j = a p j) ∧ ∀ j, j < 451 → a' 233 j = a 234 j := by
  intro c
  induction c with
  | zero =>
    intro f i h a H h1 h2 h3
    obtain ⟨g, rfl⟩ : ∃ g, f = g + 1 := ⟨f - 1, by omega⟩
    refine ⟨h, a, ?_, H, zr_Fr h, fun _ _ _ => rfl, fun j hj => h3 j (by omega)⟩
    rw [fM_runScript_59, zqo_ge _ _ (by omega) (by decide), decide_eq_true (by omega), cond_true]
  | succ c ih =>
    intro f i h a H h1 h2 h3
    obtain ⟨g, rfl⟩ : ∃ g, f = g + 1 := ⟨f - 1, by omega⟩
    have g4 : fAI h 234 100 (Int32.ofInt (i : Int)) = some (Int32.ofInt (a 234 i)) := zr_g H 234 i (by decide) (by decide) (by show i < 451; omega)
    obtain ⟨h4, e4, H4, F4⟩ := zr_p H 233 i (by decide) (by decide) (by show i < 451; omega) (a 234 i)
    have e4 : fAS h 233 100 (Int32.ofInt (i : Int)) (.int (Int32.ofInt (a 234 i))) = some h4 := e4
    have n4 : ∀ j, zr_v a 233 i (a 234 i) 234 j = a 234 j := fun j => zr_vn a _ (Or.inl (by decide))
    obtain ⟨h5, a5, e5, H5, F5, p5, r5⟩ := ih g (i + 1) h4 _ H4 (by omega) (by omega) (fun j hj => by
      rw [n4]
      by_cases e : j = i
      · rw [e, zr_vs]
      · rw [zr_vn a _ (Or.inr e)]
        exact h3 j (by omega))
    refine ⟨h5, a5, ?_, H5, zr_Ft F4 F5, fun p j hp => (p5 p j hp).trans (zr_vn a _ (Or.inl hp)), fun j hj => (r5 j hj).trans (n4 j)⟩
    rw [fM_runScript_59, zqo_ge _ _ (by omega) (by decide), decide_eq_false (by omega), cond_false, zr_r0 H, b1_s, zr_r1 H, b1_s, g4, b1_s, e4, b1_s, zh_inc]
    exact e5
/-- the input becomes the source -/
theorem zr_run7 {fl : Nat → Int} {inp : List Nat} (hl : inp.length ≤ 600) (h10 : fl 10 = (inp.length : Int)) : ∀ (c f i : Nat) (h : zH) (a : Nat → Nat → Int), zr h fl a → i + c = inp.length → c < f → (∀ j, j < inp.length → a 237 j = (inp.getD j 0 : Int)) → (∀ j, j < i → a 238 j = (inp.getD j 0 : Int)) → ∃ g h' a', fM_runScript_7 N f 232 (Int32.ofInt (i : Int)) h = fM_runScript_7 N (g + 1) 232 (Int32.ofInt (inp.length : Int)) h' ∧ zr h' fl a' ∧ zr_F h h' ∧ (∀ p j, p ≠ 238 → a' p j = a p j) ∧ ∀ j, j < inp.length → a' 238 j = (inp.getD j 0 : Int) := by
  intro c
  induction c with
  | zero =>
    intro f i h a H h1 h2 h3 h4
    obtain ⟨g, rfl⟩ : ∃ g, f = g + 1 := ⟨f - 1, by omega⟩
    have : i = inp.length := by omega
    subst this
    exact ⟨g, h, a, rfl, H, zr_Fr h, fun _ _ _ => rfl, h4⟩
  | succ c ih =>
    intro f i h a H h1 h2 h3 h4
    obtain ⟨g, rfl⟩ : ∃ g, f = g + 1 := ⟨f - 1, by omega⟩
    have g7 : fAI h 237 100 (Int32.ofInt (i : Int)) = some (Int32.ofInt (a 237 i)) := zr_g H 237 i (by decide) (by decide) (by show i < 600; omega)
    obtain ⟨h5, e5, H5, F5⟩ := zr_p H 238 i (by decide) (by decide) (by show i < 600; omega) (a 237 i)
    have e5 : fAS h 238 100 (Int32.ofInt (i : Int)) (.int (Int32.ofInt (a 237 i))) = some h5 := e5
    obtain ⟨g', h6, a6, e6, H6, F6, p6, r6⟩ := ih g (i + 1) h5 _ H5 (by omega) (by omega) (fun j hj => (zr_vn a _ (Or.inl (by decide))).trans (h3 j hj)) (fun j hj => by
      by_cases e : j = i
      · rw [e, zr_vs]
        exact h3 i (by omega)
      · rw [zr_vn a _ (Or.inr e)]
        exact h4 j (by omega))
    refine ⟨g', h6, a6, ?_, H6, zr_Ft F5 F6, fun p j hp => (p6 p j hp).trans (zr_vn a _ (Or.inl hp)), r6⟩
    rw [fM_runScript_7, zr_i H 10 rfl, b1_s, h10, zqo_ge _ _ (by omega) (by omega), decide_eq_false (by omega), cond_false, zr_r7 H, b1_s, zr_r6 H, b1_s, g7, b1_s, e5, b1_s, zh_inc]
    exact e6
end YVG
section YVH
variable {N : Nat} {h : zH} {now snap : zA} {hist : List zA} {sv t : Int} {inp : List Nat} {rep : zvP}
theorem zn_runScript (Y : zy h now hist snap sv inp rep t) (o : zo now hist snap) (hN : 4000 ≤ N) (hl : inp.length ≤ 600) (hv : ∀ v ∈ inp, v < 256) : ∃ k q : Int, (yz inp = none ∧ ∃ h', fM_runScript N 232 h = some (Int32.ofInt (-1), h') ∧ zy h' now hist snap sv [] (rep.1, k, q) 0 ∧ zr_F h h') ∨ (∃ A, yz inp = some A ∧ ∃ h', fM_runScript N 232 h = some (Int32.ofInt (A.2.1.length : Int), h') ∧ zy h' A (zv_push hist now) snap sv [] (rep.1, k, q) 0 ∧ zr_F h h') := by
  obtain ⟨ok, okh, h8, oks⟩ := o
  obtain ⟨fl, a, H, R⟩ := Y
  obtain ⟨h1, e1, H1, F1⟩ := zr_s H 17 rfl 0
  have R1 := zyR_t R 0
  obtain ⟨g, h2, a2, e2, H2, F2, p2, s2⟩ := zr_run7 (N := N) hl (fl := zr_u fl 17 0) ((zr_un fl _ (by decide)).trans R.2.2.2.2.2.1.1) inp.length N 0 h1 a H1 (Nat.zero_add _) (by omega) R.2.2.2.2.2.1.2 (fun j hj => absurd hj (Nat.not_lt_zero j))
  have R2 : zyR (zr_u fl 17 0) a2 now hist snap sv inp rep 0 := by
    refine zyR_a R1 (fun _ _ => rfl) (fun p i hp => p2 p i (by omega)) ?_
    rw [show a2 233 = a 233 from funext fun i => p2 233 i (by decide)]
    exact R1.1
  obtain ⟨h3, e3, H3, F3⟩ := zr_s H2 11 rfl (inp.length : Int)
  obtain ⟨h4, e4, H4, F4⟩ := zr_s H3 10 rfl 0
  obtain ⟨h5, a5, e5, H5, F5, p5, q5⟩ := zr_begins (N := N) (by omega) H4
  generalize hf : zr_u (zr_u (zr_u fl 17 0) 11 (inp.length : Int)) 10 0 = f5 at H4 H5
  have n5 : ∀ k, k ≠ 10 → k ≠ 11 → f5 k = zr_u fl 17 0 k := fun k x y => by rw [← hf, zr_un _ _ x, zr_un _ _ y]
  have n10 : f5 10 = 0 := by rw [← hf, zr_us]
  have n11 : f5 11 = (inp.length : Int) := by rw [← hf, zr_un _ _ (by decide), zr_us]
  have i5 : zy_is (a5 233) now := zy_isC ok R2.1 (fun j _ => p5 233 j (by decide))
  have b5 : zy_is (a5 234) now := zy_isC ok R2.1 q5
  have R5 : zyR f5 a5 now hist snap sv [] (rep.1, f5 12, f5 13) 0 := by
    obtain ⟨r1, r2, r3, r4, r5, r6, r7, r8⟩ := R2
    have g3 : a5 235 = a2 235 := funext fun i => p5 235 i (by decide)
    have g6 : a5 236 = a2 236 := funext fun i => p5 236 i (by decide)
    have g8 : a5 241 = a2 241 := funext fun i => p5 241 i (by decide)
    refine ⟨i5, (n5 4 (by decide) (by decide)).trans r2, ?_, (n5 5 (by decide) (by decide)).trans r4, ?_, ⟨n10, fun i hi => by cases hi⟩, ⟨⟨(n5 16 (by decide) (by decide)).trans r7.1.1, rfl, rfl⟩, ?_⟩, (n5 17 (by decide) (by decide)).trans r8⟩
    · rw [g3]
      exact r3
    · rw [g6]
      exact r5
    · rw [g8]
      exact r7.2
  have F05 := zr_Ft F1 (zr_Ft F2 (zr_Ft F3 (zr_Ft F4 F5)))
  have s0 : ∀ (u : Int32 → zH → Option (Int32 × zH)), (b1 (fI h2 232 5 10) fun x3 => b1 (fS h2 232 5 11 (.int x3)) fun h4 => b1 (fS h4 232 5 10 (.int (Int32.ofInt 0))) fun h5 => b2 (fM_begins N 232 h5) fun _ h7 => b2 (fM_parses N 232 h7) u) = b2 (fM_parses N 232 h5) u := fun u => by
    rw [zr_i H2 10 rfl, b1_s, zr_un fl _ (show (10 : Nat) ≠ 17 by decide), R.2.2.2.2.2.1.1, e3, b1_s, e4, b1_s, e5, b2]
  have sA : fM_runScript N 232 h = b2 (fM_parses N 232 h5) fun x8 h9 => cond (z_cmp .ne x8 (Int32.ofInt 0)) (b1 (fR h9 232 5 0) fun x10 => b1 (fAI h9 x10 100 (Int32.ofInt 1)) fun x11 => b2 (fM_remember N 232 x11 h9) fun x12 h13 => some (x12, h13)) (fM_runScript_59 N N 232 (Int32.ofInt 0) h9) := by
    have e2 : fM_runScript_7 N N 232 (Int32.ofInt 0) h1 = _ := e2
    unfold fM_runScript
    rw [zr_T H, cond_true, e1, b1_s, e2, fM_runScript_7]
    have c1 : (b1 (fI h2 232 5 10) fun x2 => cond (z_cmp .ge (Int32.ofInt (inp.length : Int)) x2) (b1 (fI h2 232 5 10) fun x3 => b1 (fS h2 232 5 11 (.int x3)) fun h4 => b1 (fS h4 232 5 10 (.int (Int32.ofInt 0))) fun h5 => b2 (fM_begins N 232 h5) fun _ h7 => b2 (fM_parses N 232 h7) fun x8 h9 => cond (z_cmp .ne x8 (Int32.ofInt 0)) (b1 (fR h9 232 5 0) fun x10 => b1 (fAI h9 x10 100 (Int32.ofInt 1)) fun x11 => b2 (fM_remember N 232 x11 h9) fun x12 h13 => some (x12, h13)) (fM_runScript_59 N N 232 (Int32.ofInt 0) h9)) (b1 (fR h2 232 5 7) fun x14 => b1 (fR h2 232 5 6) fun x15 => b1 (fAI h2 x15 100 (Int32.ofInt (inp.length : Int))) fun x16 => b1 (fAS h2 x14 100 (Int32.ofInt (inp.length : Int)) (.int x16)) fun h17 => fM_runScript_7 N g 232 (Int32.ofInt (inp.length : Int) + Int32.ofInt 1) h17)) = b2 (fM_parses N 232 h5) fun x8 h9 => cond (z_cmp .ne x8 (Int32.ofInt 0)) (b1 (fR h9 232 5 0) fun x10 => b1 (fAI h9 x10 100 (Int32.ofInt 1)) fun x11 => b2 (fM_remember N 232 x11 h9) fun x12 h13 => some (x12, h13)) (fM_runScript_59 N N 232 (Int32.ofInt 0) h9) := by
      rw [zr_i H2 10 rfl, b1_s, zr_un fl _ (show (10 : Nat) ≠ 17 by decide), R.2.2.2.2.2.1.1, zqo_ge _ _ (by omega) (by omega), decide_eq_true (by omega), cond_true, b1_s, e3, b1_s, e4, b1_s, e5, b2]
    exact c1
  rw [sA]
  rcases yw_parses (N := N) (G := (now, hist, snap, sv, [], rep.1, 0, inp)) hN H5 R5 b5 ⟨n11, fun i hi => (p5 238 i (by decide)).trans (s2 i hi)⟩ ⟨hl, hv⟩ with ⟨z1, h6, A6, f6, a6, e6, Y6, F6⟩ | ⟨A6, z1, h6, f6, a6, e6, Y6, F6⟩
  · obtain ⟨y1, Ry, y3, _⟩ := Y6
    obtain ⟨h7, a7, e7, H7, F7, p7, q7⟩ := zr_run59 (N := N) 451 N 0 h6 a6 y1 rfl (by omega) (fun j hj => absurd hj (Nat.not_lt_zero j))
    have i7 : zy_is (a7 233) now := zy_isC ok y3 q7
    have e7 : fM_runScript_59 N N 232 (Int32.ofInt 0) h6 = _ := e7
    refine ⟨f6 12, f6 13, Or.inl ⟨z1, h7, ?_, ⟨f6, a7, H7, zyR_a Ry (fun _ _ => rfl) (fun p i hp => p7 p i (by omega)) i7⟩, zr_Ft F05 (zr_Ft F6 F7)⟩⟩
    rw [e6, b2, show z_cmp .ne (Int32.ofInt 0) (Int32.ofInt 0) = false from rfl, cond_false, e7]
  · obtain ⟨h7, e7, Y7, F7⟩ := zy_remember (N := N) hN (bef := now) ⟨f6, a6, Y6.1, Y6.2.1, Y6.2.2.1⟩ ok okh h8 (Int32.ofInt (A6.2.1.length : Int))
    refine ⟨f6 12, f6 13, Or.inr ⟨A6, z1, h7, ?_, Y7, zr_Ft F05 (zr_Ft F6 F7)⟩⟩
    rw [e6, b2, show z_cmp .ne (Int32.ofInt 1) (Int32.ofInt 0) = true from rfl, cond_true, zr_r0 Y6.1, b1_s, yv_w1 Y6, b1_s, e7, b2]
end YVH
