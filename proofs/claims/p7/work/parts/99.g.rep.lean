/-! THE CLASS'S SCRIPT: repeats, a command by its word. -/
/-- a repeat's head: how often, and where its commands begin -/
def ym_rep (s : List Nat) (p : Nat) : Option (Nat × Nat) := (ym_num s p 1 20).bind fun n => if yt_q s (yt_s s n.2) = 3 then some (n.1, yt_e s (yt_s s n.2)) else none
theorem ym_repb {s : List Nat} {p t b : Nat} (hp : p ≤ s.length) (h : ym_rep s p = some (t, b)) : 1 ≤ t ∧ t ≤ 20 ∧ p + 2 ≤ b ∧ b ≤ s.length := by
  unfold ym_rep at h
  cases e1 : ym_num s p 1 20 with
  | none => rw [e1] at h; cases h
  | some n =>
    rw [e1] at h
    change (if _ then _ else _) = _ at h
    obtain ⟨_, _, _, b4, b5, b6, b7, _⟩ := ym_numb hp e1
    split at h
    · next e2 =>
      cases h
      have c1 := yt_sb b5
      have c2 := yt_eb c1.2
      have : yt_s s n.2 ≠ s.length := fun x => by
        have := (yt_q0 c1.2).mpr x
        omega
      omega
    · cases h
section YCH
variable {N : Nat} {B : yB} {h : zH} {A : zA} {nu : Nat → Int}
theorem zc_r10 {sL : Nat → Nat} {sT : Nat → List Nat} {sS : Nat → Nat → List Nat} {sK : Nat → Nat} {wd : Nat → List Nat} {hs : Nat → Nat} (C : zc h sL sT sS sK wd nu hs) : fR h 203 2 10 = some 226 := zh_R (b := 10) (by decide) C.2.2.2.1 rfl
theorem zc_r11 {sL : Nat → Nat} {sT : Nat → List Nat} {sS : Nat → Nat → List Nat} {sK : Nat → Nat} {wd : Nat → List Nat} {hs : Nat → Nat} (C : zc h sL sT sS sK wd nu hs) : fR h 203 2 11 = some 227 := zh_R (b := 11) (by decide) C.2.2.2.1 rfl
theorem yc_r10 (Y : yc B h A nu) : fR h 203 2 10 = some 226 := by
  obtain ⟨S, C, _⟩ := Y
  exact zc_r10 C
theorem yc_r11 (Y : yc B h A nu) : fR h 203 2 11 = some 227 := by
  obtain ⟨S, C, _⟩ := Y
  exact zc_r11 C
theorem yc_n10 (Y : yc B h A nu) : fN h 226 100 = some (Int32.ofInt 2) := by
  obtain ⟨S, C, _⟩ := Y
  rw [zi_N (by decide) C.2.2.2.2.1]
  rfl
theorem yc_n11 (Y : yc B h A nu) : fN h 227 100 = some (Int32.ofInt 2) := by
  obtain ⟨S, C, _⟩ := Y
  rw [zi_N (by decide) C.2.2.2.2.2.1]
  rfl
theorem yc_a10 (Y : yc B h A nu) {k : Nat} (hk : k < 2) : fAI h 226 100 (Int32.ofInt (k : Int)) = some (Int32.ofInt (nu (10 + k))) := by
  obtain ⟨S, C, _⟩ := Y
  refine zh_AI (by decide) C.2.2.2.2.1 ?_ (by omega)
  have : k = 0 ∨ k = 1 := by omega
  rcases this with e | e <;> subst e <;> rfl
theorem yc_a11 (Y : yc B h A nu) {k : Nat} (hk : k < 2) : fAI h 227 100 (Int32.ofInt (k : Int)) = some (Int32.ofInt (nu (12 + k))) := by
  obtain ⟨S, C, _⟩ := Y
  refine zh_AI (by decide) C.2.2.2.2.2.1 ?_ (by omega)
  have : k = 0 ∨ k = 1 := by omega
  rcases this with e | e <;> subst e <;> rfl
theorem zc_as10 {sL : Nat → Nat} {sT : Nat → List Nat} {sS : Nat → Nat → List Nat} {sK : Nat → Nat} {wd : Nat → List Nat} {hs : Nat → Nat} (C : zc h sL sT sS sK wd nu hs) {k : Nat} (hk : k < 2) (x : Int) : ∃ h', fAS h 226 100 (Int32.ofInt (k : Int)) (.int (Int32.ofInt x)) = some h' ∧ zc h' sL sT sS sK wd (zc_u nu (10 + k) x) hs ∧ zc_F h h' := by
  obtain ⟨k7, k8, kF⟩ := zc_cells C (p := 226) (c := (100, [.int (Int32.ofInt (zc_u nu (10 + k) x 10)), .int (Int32.ofInt (zc_u nu (10 + k) x 11))])) (by omega)
  obtain ⟨c1, c2, c3, c4, c5, c6, c7, c8, c9⟩ := C
  refine ⟨h.set 226 (100, [.int (Int32.ofInt (zc_u nu (10 + k) x 10)), .int (Int32.ofInt (zc_u nu (10 + k) x 11))]), ?_, ⟨(zh_set (by decide)).trans ?_, (zh_set (by decide)).trans ?_, (zh_set (by decide)).trans c3, (zh_set (by decide)).trans ?_, List.getElem?_set_self (List.getElem?_eq_some_iff.mp c5).1, (zh_set (by decide)).trans ?_, k7, k8, c9⟩, kF⟩
  · rw [zh_AS c5 (show k < 2 from hk) (by omega)]
    have : k = 0 ∨ k = 1 := by omega
    rcases this with e | e <;> subst e <;> rfl
  · rw [c1]
    unfold zc_o0
    rw [zc_un _ _ (show (0 : Nat) ≠ 10 + k by omega)]
  · rw [c2]
    unfold zc_o1
    rw [zc_un _ _ (show (1 : Nat) ≠ 10 + k by omega)]
  · rw [c4]
    unfold zc_o2
    rw [zc_un _ _ (show (2 : Nat) ≠ 10 + k by omega), zc_un _ _ (show (3 : Nat) ≠ 10 + k by omega), zc_un _ _ (show (4 : Nat) ≠ 10 + k by omega), zc_un _ _ (show (5 : Nat) ≠ 10 + k by omega), zc_un _ _ (show (6 : Nat) ≠ 10 + k by omega), zc_un _ _ (show (7 : Nat) ≠ 10 + k by omega), zc_un _ _ (show (8 : Nat) ≠ 10 + k by omega), zc_un _ _ (show (9 : Nat) ≠ 10 + k by omega)]
  · rw [c6, zc_un _ _ (show (12 : Nat) ≠ 10 + k by omega), zc_un _ _ (show (13 : Nat) ≠ 10 + k by omega)]
theorem zc_as11 {sL : Nat → Nat} {sT : Nat → List Nat} {sS : Nat → Nat → List Nat} {sK : Nat → Nat} {wd : Nat → List Nat} {hs : Nat → Nat} (C : zc h sL sT sS sK wd nu hs) {k : Nat} (hk : k < 2) (x : Int) : ∃ h', fAS h 227 100 (Int32.ofInt (k : Int)) (.int (Int32.ofInt x)) = some h' ∧ zc h' sL sT sS sK wd (zc_u nu (12 + k) x) hs ∧ zc_F h h' := by
  obtain ⟨k7, k8, kF⟩ := zc_cells C (p := 227) (c := (100, [.int (Int32.ofInt (zc_u nu (12 + k) x 12)), .int (Int32.ofInt (zc_u nu (12 + k) x 13))])) (by omega)
  obtain ⟨c1, c2, c3, c4, c5, c6, c7, c8, c9⟩ := C
  refine ⟨h.set 227 (100, [.int (Int32.ofInt (zc_u nu (12 + k) x 12)), .int (Int32.ofInt (zc_u nu (12 + k) x 13))]), ?_, ⟨(zh_set (by decide)).trans ?_, (zh_set (by decide)).trans ?_, (zh_set (by decide)).trans c3, (zh_set (by decide)).trans ?_, (zh_set (by decide)).trans ?_, List.getElem?_set_self (List.getElem?_eq_some_iff.mp c6).1, k7, k8, c9⟩, kF⟩
  · rw [zh_AS c6 (show k < 2 from hk) (by omega)]
    have : k = 0 ∨ k = 1 := by omega
    rcases this with e | e <;> subst e <;> rfl
  · rw [c1]
    unfold zc_o0
    rw [zc_un _ _ (show (0 : Nat) ≠ 12 + k by omega)]
  · rw [c2]
    unfold zc_o1
    rw [zc_un _ _ (show (1 : Nat) ≠ 12 + k by omega)]
  · rw [c4]
    unfold zc_o2
    rw [zc_un _ _ (show (2 : Nat) ≠ 12 + k by omega), zc_un _ _ (show (3 : Nat) ≠ 12 + k by omega), zc_un _ _ (show (4 : Nat) ≠ 12 + k by omega), zc_un _ _ (show (5 : Nat) ≠ 12 + k by omega), zc_un _ _ (show (6 : Nat) ≠ 12 + k by omega), zc_un _ _ (show (7 : Nat) ≠ 12 + k by omega), zc_un _ _ (show (8 : Nat) ≠ 12 + k by omega), zc_un _ _ (show (9 : Nat) ≠ 12 + k by omega)]
  · rw [c5, zc_un _ _ (show (10 : Nat) ≠ 12 + k by omega), zc_un _ _ (show (11 : Nat) ≠ 12 + k by omega)]
theorem yc_s10 (Y : yc B h A nu) {k : Nat} (hk : k < 2) (x : Int) : ∃ h', fAS h 226 100 (Int32.ofInt (k : Int)) (.int (Int32.ofInt x)) = some h' ∧ yc B h' A (zc_u nu (10 + k) x) ∧ zc_F h h' := by
  obtain ⟨S, C, hS, ok⟩ := Y
  obtain ⟨h1, e1, C1, F1⟩ := zc_as10 C hk x
  exact ⟨h1, e1, ⟨S, C1, hS, ok⟩, F1⟩
theorem yc_s11 (Y : yc B h A nu) {k : Nat} (hk : k < 2) (x : Int) : ∃ h', fAS h 227 100 (Int32.ofInt (k : Int)) (.int (Int32.ofInt x)) = some h' ∧ yc B h' A (zc_u nu (12 + k) x) ∧ zc_F h h' := by
  obtain ⟨S, C, hS, ok⟩ := Y
  obtain ⟨h1, e1, C1, F1⟩ := zc_as11 C hk x
  exact ⟨h1, e1, ⟨S, C1, hS, ok⟩, F1⟩
/-- a repeat is opened -/
theorem yc_open (hN : 1000 ≤ N) (Y : yc B h A nu) {p k : Nat} (h6 : nu 6 = (p : Int)) (hp : p ≤ (yW B).length) (h9 : nu 9 = (k : Int)) (hk : k ≤ 2) : ((k = 2 ∨ ym_rep (yW B) p = none) ∧ ∃ h' nu', fC_openRepeat N 203 h = some (Int32.ofInt 0, h') ∧ yc B h' A nu' ∧ zc_F h h' ∧ yn nu nu') ∨ (k < 2 ∧ ∃ t b, ym_rep (yW B) p = some (t, b) ∧ ∃ h' nu', fC_openRepeat N 203 h = some (Int32.ofInt 1, h') ∧ yc B h' A nu' ∧ zc_F h h' ∧ nu' 6 = (b : Int) ∧ nu' 8 = nu 8 ∧ nu' 9 = (k : Int) + 1 ∧ nu' (10 + k) = (b : Int) ∧ nu' (12 + k) = (t : Int) ∧ ∀ i, (i < 2 ∨ 9 < i) → i ≠ 10 + k → i ≠ 12 + k → nu' i = nu i) := by
  unfold fC_openRepeat
  rw [yc_T Y, cond_true, yc_i Y 9 (by decide), b1_s, h9, zqo_lt _ _ (by omega) (by decide), decide_eq_false (by omega), cond_false, b1_s, yc_r10 Y, b1_s, yc_n10 Y, b1_s, zqo_ge _ _ (by omega) (by decide)]
  by_cases e0 : k = 2
  · obtain ⟨h1, n1, e1, Y1, F1, r1⟩ := yc_fail (N := N) Y 4
    refine Or.inl ⟨Or.inl e0, h1, n1, ?_, Y1, F1, fun i hi => r1 i (by omega) (by omega)⟩
    rw [decide_eq_true (by omega), cond_true]
    unfold fC_openRepeat_31
    rw [e1, b2]
    rfl
  · rw [decide_eq_false (by omega), cond_false, b1_s, yc_r11 Y, b1_s, yc_n11 Y, b1_s, zqo_lt _ _ (by omega) (by decide), decide_eq_true (by omega), cond_true]
    rcases yc_num (N := N) hN Y h6 hp 1 20 (by decide) (by decide) with ⟨v, e, m1, h1, n1, e1, Y1, F1, y1, p1, v1⟩ | ⟨m1, h1, n1, e1, Y1, F1, y1⟩
    · obtain ⟨_, _, _, pe, el, vl0, vl, _⟩ := ym_numb hp m1
      rw [e1, b2, show z_cmp .eq (Int32.ofInt 1) (Int32.ofInt 0) = false from rfl, cond_false]
      rcases yc_expect (N := N) hN Y1 p1 el 3 (by decide) with ⟨q2, h2, n2, e2, Y2, F2, K2⟩ | ⟨q2, h2, n2, e2, Y2, F2, y2⟩
      · rw [e2, b2, show z_cmp .ne (Int32.ofInt 1) (Int32.ofInt 0) = true from rfl, cond_true]
        have m29 : n2 9 = (k : Int) := (K2.2.2.2.2.2 9 (by omega)).trans ((y1 9 (by omega)).trans h9)
        have m27 : n2 7 = (v : Int) := (K2.2.2.2.2.1 (by omega)).trans v1
        obtain ⟨h3, e3, Y3, F3⟩ := yc_s10 Y2 (show k < 2 by omega) (yt_e (yW B) (yt_s (yW B) e) : Int)
        obtain ⟨h4, e4, Y4, F4⟩ := yc_s11 Y3 (show k < 2 by omega) (v : Int)
        obtain ⟨h5, e5, Y5, F5⟩ := yc_s Y4 9 (by decide) ((k : Int) + 1)
        refine Or.inr ⟨by omega, v, yt_e (yW B) (yt_s (yW B) e), ?_, h5, _, ?_, Y5, zc_Ft F1 (zc_Ft F2 (zc_Ft F3 (zc_Ft F4 F5))), ?_, ?_, zc_us _ _ _, ?_, ?_, fun i hi a b => ?_⟩
        · rw [ym_rep, m1]
          show (if yt_q (yW B) (yt_s (yW B) e) = 3 then some (v, yt_e (yW B) (yt_s (yW B) e)) else none) = _
          rw [if_pos (by omega)]
        · rw [yc_r10 Y2, b1_s, yc_i Y2 9 (by decide), b1_s, m29, yc_i Y2 6 (by decide), b1_s, K2.2.2.1, e3, b1_s, yc_r11 Y3, b1_s, yc_i Y3 9 (by decide), b1_s, zc_un _ _ (show (9 : Nat) ≠ 10 + k by omega), m29, yc_i Y3 7 (by decide), b1_s, zc_un _ _ (show (7 : Nat) ≠ 10 + k by omega), m27, e4, b1_s, yc_i Y4 9 (by decide), b1_s, zc_un _ _ (show (9 : Nat) ≠ 12 + k by omega), zc_un _ _ (show (9 : Nat) ≠ 10 + k by omega), m29, zw_add, e5, b1_s]
        · rw [zc_un _ _ (show (6 : Nat) ≠ 9 by omega), zc_un _ _ (show (6 : Nat) ≠ 12 + k by omega), zc_un _ _ (show (6 : Nat) ≠ 10 + k by omega)]
          exact K2.2.2.1
        · rw [zc_un _ _ (show (8 : Nat) ≠ 9 by omega), zc_un _ _ (show (8 : Nat) ≠ 12 + k by omega), zc_un _ _ (show (8 : Nat) ≠ 10 + k by omega)]
          exact (K2.2.2.2.2.2 8 (by omega)).trans (y1 8 (by omega))
        · rw [zc_un _ _ (show 10 + k ≠ 9 by omega), zc_un _ _ (show 10 + k ≠ 12 + k by omega), zc_us]
        · rw [zc_un _ _ (show 12 + k ≠ 9 by omega), zc_us]
        · rw [zc_un _ _ (show i ≠ 9 by omega), zc_un _ _ b, zc_un _ _ a]
          exact (K2.2.2.2.2.2 i (by omega)).trans (y1 i (by omega))
      · refine Or.inl ⟨Or.inr ?_, h2, n2, ?_, Y2, zc_Ft F1 F2, yn_t y1 y2⟩
        · rw [ym_rep, m1]
          show (if yt_q (yW B) (yt_s (yW B) e) = 3 then some (v, yt_e (yW B) (yt_s (yW B) e)) else none) = _
          rw [if_neg (by omega)]
        · rw [e2, b2, show z_cmp .ne (Int32.ofInt 0) (Int32.ofInt 0) = false from rfl, cond_false]
          rfl
    · refine Or.inl ⟨Or.inr ?_, h1, n1, ?_, Y1, F1, y1⟩
      · rw [ym_rep, m1]
        rfl
      · rw [e1, b2, show z_cmp .eq (Int32.ofInt 0) (Int32.ofInt 0) = true from rfl, cond_true]
        rfl
/-- a round ends; a further one follows -/
theorem yc_again (Y : yc B h A nu) {k b t : Nat} (h9 : nu 9 = (k : Int) + 1) (hk : k < 2) (hb : nu (10 + k) = (b : Int)) (ht : nu (12 + k) = (t : Int)) (h2 : 2 ≤ t ∧ t ≤ 20) : ∃ h' nu', fC_endRound N 203 h = some (Int32.ofInt 1, h') ∧ yc B h' A nu' ∧ zc_F h h' ∧ nu' 6 = (b : Int) ∧ nu' (12 + k) = (t : Int) - 1 ∧ ∀ i, i ≠ 6 → i ≠ 12 + k → nu' i = nu i := by
  obtain ⟨h1, e1, Y1, F1⟩ := yc_s11 Y hk ((t : Int) - 1)
  obtain ⟨h3, e3, Y3, F3⟩ := yc_s Y1 6 (by decide) (b : Int)
  refine ⟨h3, _, ?_, Y3, zc_Ft F1 F3, zc_us _ _ _, ?_, fun i a c => ?_⟩
  · unfold fC_endRound
    rw [yc_T Y, cond_true, yc_i Y 9 (by decide), b1_s, h9, zw_sub, show (k : Int) + 1 - 1 = (k : Int) by omega, zqo_lt _ _ (by omega) (by decide), decide_eq_false (by omega), cond_false, yc_r10 Y, b1_s, yc_n10 Y, b1_s, zqo_ge _ _ (by omega) (by decide), decide_eq_false (by omega), cond_false, yc_r11 Y, b1_s, yc_n11 Y, b1_s, zqo_lt _ _ (by omega) (by decide), decide_eq_true (by omega), cond_true, b1_s, yc_a11 Y hk, b1_s, ht, zw_sub, e1, b1_s, yc_r11 Y1, b1_s, yc_a11 Y1 hk, b1_s, zc_us, zqo_le _ _ (by omega) (by decide), decide_eq_false (by omega), cond_false, yc_r10 Y1, b1_s, yc_a10 Y1 hk, b1_s, zc_un _ _ (show 10 + k ≠ 12 + k by omega), hb, e3, b1_s]
  · rw [zc_un _ _ (show 12 + k ≠ 6 by omega), zc_us]
  · rw [zc_un _ _ a, zc_un _ _ c]
/-- the last round ends -/
theorem yc_last (hN : 1000 ≤ N) (Y : yc B h A nu) {p k : Nat} (h6 : nu 6 = (p : Int)) (hp : p ≤ (yW B).length) (h9 : nu 9 = (k : Int) + 1) (hk : k < 2) (ht : nu (12 + k) = 1) : (∃ e, ym_sem (yW B) p = some e ∧ ∃ h' nu', fC_endRound N 203 h = some (Int32.ofInt 1, h') ∧ yc B h' A nu' ∧ zc_F h h' ∧ nu' 6 = (e : Int) ∧ nu' 9 = (k : Int) ∧ ∀ i, (i < 2 ∨ 7 < i) → i ≠ 9 → i ≠ 12 + k → nu' i = nu i) ∨ (ym_sem (yW B) p = none ∧ ∃ h' nu', fC_endRound N 203 h = some (Int32.ofInt 0, h') ∧ yc B h' A nu' ∧ zc_F h h' ∧ ∀ i, i < 2 → nu' i = nu i) := by
  obtain ⟨h1, e1, Y1, F1⟩ := yc_s11 Y hk 0
  obtain ⟨h3, e3, Y3, F3⟩ := yc_s Y1 9 (by decide) (k : Int)
  have s0 : fC_endRound N 203 h = b2 (fC_expect N 203 (Int32.ofInt 5) h3) fun x12 h13 => cond (decide (x12 = Int32.ofInt 0) || decide (x12 = Int32.ofInt 1)) (some (x12, h13)) none := by
    unfold fC_endRound
    rw [yc_T Y, cond_true, yc_i Y 9 (by decide), b1_s, h9, zw_sub, show (k : Int) + 1 - 1 = (k : Int) by omega, zqo_lt _ _ (by omega) (by decide), decide_eq_false (by omega), cond_false, yc_r10 Y, b1_s, yc_n10 Y, b1_s, zqo_ge _ _ (by omega) (by decide), decide_eq_false (by omega), cond_false, yc_r11 Y, b1_s, yc_n11 Y, b1_s, zqo_lt _ _ (by omega) (by decide), decide_eq_true (by omega), cond_true, b1_s, yc_a11 Y hk, b1_s, ht, zw_sub, show (1 : Int) - 1 = 0 by decide, e1, b1_s, yc_r11 Y1, b1_s, yc_a11 Y1 hk, b1_s, zc_us, show z_cmp .le (Int32.ofInt 0) (Int32.ofInt 0) = true from rfl, cond_true, e3, b1_s]
  have n3 : ∀ i, i ≠ 9 → i ≠ 12 + k → zc_u (zc_u nu (12 + k) 0) 9 (k : Int) i = nu i := fun i a b => by rw [zc_un _ _ a, zc_un _ _ b]
  rcases yc_sem (N := N) hN Y3 (p := p) ((n3 6 (by omega) (by omega)).trans h6) hp with ⟨e, m2, h2, n2, e2, Y2, F2, y2, p2, v2⟩ | ⟨m2, h2, n2, e2, Y2, F2, y2⟩
  · refine Or.inl ⟨e, m2, h2, n2, ?_, Y2, zc_Ft F1 (zc_Ft F3 F2), p2, (y2 9 (by omega)).trans (zc_us _ _ _), fun i hi a b => (y2 i hi).trans (n3 i a b)⟩
    rw [s0, e2, b2]
    rfl
  · refine Or.inr ⟨m2, h2, n2, ?_, Y2, zc_Ft F1 (zc_Ft F3 F2), fun i hi => (y2 i (by omega)).trans (n3 i (by omega) (by omega))⟩
    rw [s0, e2, b2]
    rfl
theorem yO_w {r : Option (Int32 × zH)} {x : Option (zA × Nat)} (o : yO B h nu r x) : b2 r (fun a g => cond (decide (a = Int32.ofInt 0) || decide (a = Int32.ofInt 1)) (some (a, g)) none) = r := by
  rcases o with ⟨_, h', _, _, b, _⟩ | ⟨_, _, _, h', _, b, _⟩
  · rw [b, b2]
    rfl
  · rw [b, b2]
    rfl
/-- a command that is none of repeat, behind its word -/
theorem yc_run1 (hN : 3000 ≤ N) (Y : yc B h A nu) {p i ex : Nat} (h6 : nu 6 = (p : Int)) (hp : p ≤ (yW B).length) (h8 : nu 8 = (ex : Int)) (hx : ex < 200) (hi : i < 11) : ∃ h1, yc B h1 A (zc_u nu 8 ((ex : Int) + 1)) ∧ zc_F h h1 ∧ yO B h1 (zc_u nu 8 ((ex : Int) + 1)) (fC_runCommand_27 N 203 (some (1000000 + i)) h) (yx i (yW B) A p) := by
  have ok := yc_ok Y
  obtain ⟨h1, e1, Y1, F1⟩ := yc_s Y 8 (by decide) ((ex : Int) + 1)
  have n6 : zc_u nu 8 ((ex : Int) + 1) 6 = (p : Int) := (zc_un nu _ (by decide)).trans h6
  refine ⟨h1, Y1, F1, ?_⟩
  have hd : ∀ (g : Int32 → zH → Option (Int32 × zH)) (u : Option (Int32 × zH)), (b1 (fI h 203 2 8) fun x7 => cond (z_cmp .lt x7 (Int32.ofInt 200)) (b1 (fI h 203 2 8) fun x8 => b1 (fS h 203 2 8 (.int (x8 + (Int32.ofInt 1)))) fun h9 => b2 (fJ_ordinal N (1000000 + i) h9) g) u) = b2 (fJ_ordinal N (1000000 + i) h1) g := fun g u => by
    rw [yc_i Y 8 (by decide), b1_s, h8, zqo_lt _ _ (by omega) (by decide), decide_eq_true (by omega), cond_true, b1_s, zw_add, e1, b1_s]
  have c : i = 0 ∨ i = 1 ∨ i = 2 ∨ i = 3 ∨ i = 4 ∨ i = 5 ∨ i = 6 ∨ i = 7 ∨ i = 8 ∨ i = 9 ∨ i = 10 := by omega
  rcases c with c | c | c | c | c | c | c | c | c | c | c <;> subst c
  · have o := yc_word hN Y1 n6 hp 0 (T0 := []) rfl (Or.inl ⟨rfl, rfl⟩)
    have e : fC_runCommand_27 N 203 (some 1000000) h = b2 (fC_runText N 203 (Int32.ofInt 0) h1) (fun a g => cond (decide (a = Int32.ofInt 0) || decide (a = Int32.ofInt 1)) (some (a, g)) none) := (hd _ _).trans rfl
    rw [show (1000000 + 0 : Nat) = 1000000 from rfl, e, yO_w o]
    exact o
  · have o := yc_word hN Y1 n6 hp 1 (T0 := A.2.1) (List.take_of_length_le (Nat.le_refl _)) (Or.inr ⟨rfl, rfl⟩)
    have e : fC_runCommand_27 N 203 (some 1000001) h = b2 (fC_runText N 203 (Int32.ofInt 1) h1) (fun a g => cond (decide (a = Int32.ofInt 0) || decide (a = Int32.ofInt 1)) (some (a, g)) none) := (hd _ _).trans rfl
    rw [show (1000000 + 1 : Nat) = 1000001 from rfl, e, yO_w o]
    exact o
  · have o := yc_drop hN Y1 n6 hp
    have e : fC_runCommand_27 N 203 (some 1000002) h = b2 (fC_runDrop N 203 h1) (fun a g => cond (decide (a = Int32.ofInt 0) || decide (a = Int32.ofInt 1)) (some (a, g)) none) := (hd _ _).trans rfl
    rw [show (1000000 + 2 : Nat) = 1000002 from rfl, e, yO_w o]
    exact o
  · have o := yc_part hN Y1 n6 hp
    have e : fC_runCommand_27 N 203 (some 1000003) h = b2 (fC_runPart N 203 h1) (fun a g => cond (decide (a = Int32.ofInt 0) || decide (a = Int32.ofInt 1)) (some (a, g)) none) := (hd _ _).trans rfl
    rw [show (1000000 + 3 : Nat) = 1000003 from rfl, e, yO_w o]
    exact o
  · have o := yc_rotate hN Y1 n6 hp
    have e : fC_runCommand_27 N 203 (some 1000004) h = b2 (fC_runRotate N 203 h1) (fun a g => cond (decide (a = Int32.ofInt 0) || decide (a = Int32.ofInt 1)) (some (a, g)) none) := (hd _ _).trans rfl
    rw [show (1000000 + 4 : Nat) = 1000004 from rfl, e, yO_w o]
    exact o
  · have o := yc_reverse hN Y1 n6 hp
    have e : fC_runCommand_27 N 203 (some 1000005) h = b2 (fC_runReverse N 203 h1) (fun a g => cond (decide (a = Int32.ofInt 0) || decide (a = Int32.ofInt 1)) (some (a, g)) none) := (hd _ _).trans rfl
    rw [show (1000000 + 5 : Nat) = 1000005 from rfl, e, yO_w o]
    exact o
  · have o := yc_least hN Y1 n6 hp
    have e : fC_runCommand_27 N 203 (some 1000006) h = b2 (fC_runLeast N 203 h1) (fun a g => cond (decide (a = Int32.ofInt 0) || decide (a = Int32.ofInt 1)) (some (a, g)) none) := (hd _ _).trans rfl
    rw [show (1000000 + 6 : Nat) = 1000006 from rfl, e, yO_w o]
    exact o
  · have o := yc_next hN Y1 n6 hp
    have e : fC_runCommand_27 N 203 (some 1000007) h = b2 (fC_runNext N 203 h1) (fun a g => cond (decide (a = Int32.ofInt 0) || decide (a = Int32.ofInt 1)) (some (a, g)) none) := (hd _ _).trans rfl
    rw [show (1000000 + 7 : Nat) = 1000007 from rfl, e, yO_w o]
    exact o
  · have o := yc_keep hN Y1 n6 hp
    have e : fC_runCommand_27 N 203 (some 1000008) h = b2 (fC_runKeep N 203 h1) (fun a g => cond (decide (a = Int32.ofInt 0) || decide (a = Int32.ofInt 1)) (some (a, g)) none) := (hd _ _).trans rfl
    rw [show (1000000 + 8 : Nat) = 1000008 from rfl, e, yO_w o]
    exact o
  · have o := yc_remove hN Y1 n6 hp
    have e : fC_runCommand_27 N 203 (some 1000009) h = b2 (fC_runRemove N 203 h1) (fun a g => cond (decide (a = Int32.ofInt 0) || decide (a = Int32.ofInt 1)) (some (a, g)) none) := (hd _ _).trans rfl
    rw [show (1000000 + 9 : Nat) = 1000009 from rfl, e, yO_w o]
    exact o
  · have o := yc_join hN Y1 n6 hp
    have e : fC_runCommand_27 N 203 (some 1000010) h = b2 (fC_runJoin N 203 h1) (fun a g => cond (decide (a = Int32.ofInt 0) || decide (a = Int32.ofInt 1)) (some (a, g)) none) := (hd _ _).trans rfl
    rw [show (1000000 + 10 : Nat) = 1000010 from rfl, e, yO_w o]
    exact o
/-- a command by its word -/
theorem yc_cmd (hN : 3000 ≤ N) (Y : yc B h A nu) {a b : Nat} (h4 : nu 4 = 1) (h5 : nu 5 = (a : Int)) (h6 : nu 6 = (b : Int)) (hab : a ≤ b) (hb : b ≤ (yW B).length) : fC_runCommand N 203 h = fC_runCommand_27 N 203 (if yt_cmd (zw_p (yW B) a b) < 12 then some (1000000 + yt_cmd (zw_p (yW B) a b)) else none) h := by
  unfold fC_runCommand
  rw [yc_T Y, cond_true, yc_i Y 4 (by decide), b1_s, h4, show z_cmp .ne (Int32.ofInt 1) (Int32.ofInt 1) = false from rfl, cond_false, yc_r0 Y, b1_s, yc_i Y 5 (by decide), b1_s, h5, yc_i Y 6 (by decide), b1_s, h6, yD_find (yc_W Y) (by omega) hab hb, b2]
  split <;> next e => rw [e]
/-- what is no word -/
theorem yc_noword (Y : yc B h A nu) {q : Nat} (h4 : nu 4 = (q : Int)) (hq : q ≤ 7) (h1 : q ≠ 1) : ∃ h' nu', fC_runCommand N 203 h = some (Int32.ofInt 0, h') ∧ yc B h' A nu' ∧ zc_F h h' ∧ yn nu nu' := by
  obtain ⟨h2, n2, e2, Y2, F2, r2⟩ := yc_fail (N := N) Y 1
  refine ⟨h2, n2, ?_, Y2, F2, fun i hi => r2 i (by omega) (by omega)⟩
  unfold fC_runCommand
  rw [yc_T Y, cond_true, yc_i Y 4 (by decide), b1_s, h4, zqo_ne _ _ (by omega) (by decide), decide_eq_false (by omega), Bool.not_false, cond_true]
  show b2 (fC_fail N 203 (Int32.ofInt 1) h) _ = _
  rw [e2, b2]
  rfl
theorem yc_nocmd (Y : yc B h A nu) : ∃ h' nu', fC_runCommand_27 N 203 none h = some (Int32.ofInt 0, h') ∧ yc B h' A nu' ∧ zc_F h h' ∧ yn nu nu' := by
  obtain ⟨h2, n2, e2, Y2, F2, r2⟩ := yc_fail (N := N) Y 1
  refine ⟨h2, n2, ?_, Y2, F2, fun i hi => r2 i (by omega) (by omega)⟩
  show b2 (fC_fail N 203 (Int32.ofInt 1) h) _ = _
  rw [e2, b2]
  rfl
theorem yc_many (Y : yc B h A nu) {i ex : Nat} (h8 : nu 8 = (ex : Int)) (hx : 200 ≤ ex ∧ ex ≤ 1000) (hi : i < 11) : ∃ h' nu', fC_runCommand_27 N 203 (some (1000000 + i)) h = some (Int32.ofInt 0, h') ∧ yc B h' A nu' ∧ zc_F h h' ∧ yn nu nu' := by
  obtain ⟨h2, n2, e2, Y2, F2, r2⟩ := yc_fail (N := N) Y 5
  refine ⟨h2, n2, ?_, Y2, F2, fun i hi => r2 i (by omega) (by omega)⟩
  have hd : ∀ (v : Option (Int32 × zH)), (b1 (fI h 203 2 8) fun x7 => cond (z_cmp .lt x7 (Int32.ofInt 200)) v (b2 (fC_fail N 203 (Int32.ofInt 5) h) fun a g => cond (decide (a = Int32.ofInt 0) || decide (a = Int32.ofInt 1)) (some (a, g)) none)) = some (Int32.ofInt 0, h2) := fun v => by
    rw [yc_i Y 8 (by decide), b1_s, h8, zqo_lt _ _ (by omega) (by decide), decide_eq_false (by omega), cond_false, e2, b2]
    rfl
  have c : i = 0 ∨ i = 1 ∨ i = 2 ∨ i = 3 ∨ i = 4 ∨ i = 5 ∨ i = 6 ∨ i = 7 ∨ i = 8 ∨ i = 9 ∨ i = 10 := by omega
  rcases c with c | c | c | c | c | c | c | c | c | c | c <;> subst c <;> exact hd _
theorem yc_rep27 : fC_runCommand_27 N 203 (some 1000011) h = b2 (fC_openRepeat N 203 h) (fun a g => cond (decide (a = Int32.ofInt 0) || decide (a = Int32.ofInt 1)) (some (a, g)) none) := rfl
end YCH
