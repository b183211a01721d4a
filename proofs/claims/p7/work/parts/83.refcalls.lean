/-! THE REFERENCE'S setLetters, why AND THE NEXT WORD. -/
section ZYL
variable {N : Nat} {h : zH} {fl fl' : Nat → Int} {a a' : Nat → Nat → Int} {bef now snap : zA} {hist : List zA} {sv t : Int} {inp : List Nat} {rep : zvP} {T : List Nat}
theorem zn_setLetters (Y : zy h now hist snap sv inp rep t) (o : zo now hist snap) (hN : 4000 ≤ N) (x : Int) (hx : -2147483648 ≤ x ∧ x < 2147483648) : (¬ (2 ≤ x ∧ x ≤ 9) ∧ ∃ h', fM_setLetters N 232 (Int32.ofInt x) h = some (Int32.ofInt 0, h') ∧ zy h' now hist snap sv inp rep 1 ∧ zr_F h h') ∨ ((2 ≤ x ∧ x ≤ 9) ∧ zv_fit now x.toNat = false ∧ ∃ h', fM_setLetters N 232 (Int32.ofInt x) h = some (Int32.ofInt 0, h') ∧ zy h' now hist snap sv inp rep 2 ∧ zr_F h h') ∨ ((2 ≤ x ∧ x ≤ 9) ∧ zv_fit now x.toNat = true ∧ ∃ h', fM_setLetters N 232 (Int32.ofInt x) h = some (Int32.ofInt (now.1 : Int), h') ∧ zy h' (x.toNat, now.2.1, now.2.2) (zv_push hist now) snap sv inp rep 0 ∧ zr_F h h') := by
  obtain ⟨ok, okh, h8, oks⟩ := o
  obtain ⟨fl0, a0, H0, R0⟩ := id Y
  unfold fM_setLetters
  rw [zr_T H0, cond_true, zr_in N x 2 9 hx (by decide) (by decide), b2]
  by_cases e : 2 ≤ x ∧ x ≤ 9
  · rw [decide_eq_true e, cond_true]
    refine Or.inr ?_
    obtain ⟨v, rfl⟩ : ∃ v : Nat, x = (v : Int) := ⟨x.toNat, by omega⟩
    have ec : fM_setLetters_15 N 232 (Int32.ofInt (v : Int)) (Int32.ofInt 0) h = cond (zv_fit now v) (fM_setLetters_35 N 232 (Int32.ofInt (v : Int)) (Int32.ofInt 0) (Int32.ofInt 0) 232 h) (fM_setLetters_35 N 232 (Int32.ofInt (v : Int)) (Int32.ofInt 1) (Int32.ofInt 0) 232 h) := by
      unfold fM_setLetters_15
      show b2 (fM_canHave N 232 (Int32.ofInt (v : Int)) h) _ = _
      rw [zr_canHave H0 R0 ok hN (by omega), b2]
      cases zv_fit now v <;> rfl
    by_cases e2 : zv_fit now v = true
    · refine Or.inr ⟨e, e2, ?_⟩
      obtain ⟨h1, e1, Y1, F1⟩ := zy_two00 (N := N) Y
      obtain ⟨h2, e3, ⟨fl, a, H, R, B⟩, F2⟩ := zy_begins (N := N) (by omega) Y1 ok
      have g0 : fAI h2 233 100 (Int32.ofInt 0) = some (Int32.ofInt (a 233 0)) := zr_w H 0 (by decide)
      obtain ⟨h3, e4, H3, F3⟩ := zr_p H 233 0 (by decide) (by decide) (by decide) (v : Int)
      have n3 : zy_is (zr_v a 233 0 (v : Int) 233) (v, now.2.1, now.2.2) := ⟨zr_vs _ _ _ _, (zr_vn a _ (Or.inr (by decide))).trans R.1.2.1, fun i hi => (zr_vn a _ (Or.inr (by omega))).trans (R.1.2.2.1 i hi), (zr_vn a _ (Or.inr (by decide))).trans R.1.2.2.2.1, fun k hk => ⟨(zr_vn a _ (Or.inr (by omega))).trans (R.1.2.2.2.2 k hk).1, fun i hi => (zr_vn a _ (Or.inr (by omega))).trans ((R.1.2.2.2.2 k hk).2 i hi)⟩⟩
      have Y3 : zyp h3 now (v, now.2.1, now.2.2) hist snap sv inp rep 0 := by
        refine ⟨fl, _, H3, zyR_a R (fun _ _ => rfl) (fun p i hp => zr_vn a _ (Or.inl (by omega))) n3, ?_⟩
        rw [show zr_v a 233 0 (v : Int) 234 = a 234 from funext fun i => zr_vn a _ (Or.inl (by decide))]
        exact B
      obtain ⟨h4, e5, Y4, F4⟩ := zy_remember (N := N) hN Y3 ok okh h8 (Int32.ofInt (now.1 : Int))
      refine ⟨h4, ?_, Y4, zr_Ft F1 (zr_Ft F2 (zr_Ft F3 F4))⟩
      refine ec.trans ?_
      rw [e2, cond_true]
      unfold fM_setLetters_35
      rw [e1, b2]
      show b2 (fM_begins N 232 h1) _ = _
      have e4 : fAS h2 233 100 (Int32.ofInt 0) (.int (Int32.ofInt (v : Int))) = some h3 := e4
      rw [e3, b2, zr_r0 H, b1_s, g0, b1_s, b1_s, e4, b1_s, R.1.1, e5]
      rfl
    · have e2 : zv_fit now v = false := Bool.eq_false_iff.mpr e2
      refine Or.inl ⟨e, e2, ?_⟩
      obtain ⟨h1, e1, Y1, F1⟩ := zy_two01 (N := N) Y
      refine ⟨h1, ?_, Y1, F1⟩
      refine ec.trans ?_
      rw [e2, cond_false]
      unfold fM_setLetters_35
      rw [e1]
      rfl
  · rw [decide_eq_false e, cond_false]
    refine Or.inl ⟨e, ?_⟩
    obtain ⟨h1, e1, Y1, F1⟩ := zy_two1 (N := N) Y (Int32.ofInt 0)
    refine ⟨h1, ?_, Y1, F1⟩
    show fM_setLetters_35 N 232 (Int32.ofInt x) (Int32.ofInt 0) (Int32.ofInt 1) 232 h = _
    unfold fM_setLetters_35
    rw [e1]
    rfl
/-- the row against its turn -/
theorem zr_turned2 (H : zr h fl a) (r : zr_rw fl a T) (hT : T.length ≤ 120) (hv : ∀ v ∈ T, v < 256) {x : Nat} (hx : x ≤ 1000) : ∀ (c f i : Nat), i + c = T.length → c < f → fM_turned_2 N f 232 (Int32.ofInt (x : Int)) (Int32.ofInt (i : Int)) h = some (Int32.ofInt (zm_ro T x 0 c), h) := by
  intro c
  induction c with
  | zero =>
    intro f i h1 h2
    obtain ⟨g, rfl⟩ : ∃ g, f = g + 1 := ⟨f - 1, by omega⟩
    rw [fM_turned_2, zr_i H 14 rfl, b1_s, r.1, zqo_ge _ _ (by omega) (by omega), decide_eq_true (by omega), cond_true]
    rfl
  | succ c ih =>
    intro f i h1 h2
    obtain ⟨g, rfl⟩ : ∃ g, f = g + 1 := ⟨f - 1, by omega⟩
    have hn : 0 < T.length := by omega
    have m1 := Nat.mod_lt (i + x) hn
    have k1 : fAI h 239 100 (Int32.ofInt (((i + x) % T.length : Nat) : Int)) = some (Int32.ofInt ((zm_c T (x + i) : Int) - 97)) := by
      rw [zr_row H _ (by omega), r.2 _ m1, Nat.add_comm i x]
      rfl
    have k2 : fAI h 239 100 (Int32.ofInt (i : Int)) = some (Int32.ofInt ((zm_c T (0 + i) : Int) - 97)) := by
      rw [zr_row H _ (by omega), r.2 _ (by omega), Nat.zero_add]
      unfold zm_c
      rw [Nat.mod_eq_of_lt (by omega)]
    have c1 := zm_clt hv (x + i)
    have c2 := zm_clt hv (0 + i)
    rw [fM_turned_2, zr_i H 14 rfl, b1_s, r.1, zqo_ge _ _ (by omega) (by omega), decide_eq_false (by omega), cond_false, zr_r8 H, b1_s, b1_s, if_neg (zr_nz hn (by omega)), zw_add, show (i : Int) + (x : Int) = ((i + x : Nat) : Int) by omega, zw_modi _ _ (by omega) (by omega), k1, b1_s, b1_s, k2, b1_s, zqo_eq _ _ (by omega) (by omega), zm_ro, show T.length - (c + 1) = i by omega]
    by_cases e : zm_c T (x + i) = zm_c T (0 + i)
    · rw [decide_eq_true (by omega), cond_true, if_pos e, zh_inc]
      exact ih g (i + 1) (by omega) (by omega)
    · rw [decide_eq_false (by omega), cond_false, if_neg e, b1_s, k2, b1_s, zw_sub, show (zm_c T (x + i) : Int) - 97 - ((zm_c T (0 + i) : Int) - 97) = (zm_c T (x + i) : Int) - (zm_c T (0 + i) : Int) by omega]
theorem zr_turned (hN : 1000 ≤ N) (H : zr h fl a) (r : zr_rw fl a T) (hT : T.length ≤ 120) (hv : ∀ v ∈ T, v < 256) {x : Nat} (hx : x ≤ 1000) : fM_turned N 232 (Int32.ofInt (x : Int)) h = some (Int32.ofInt (zm_ro T x 0 T.length), h) := by
  unfold fM_turned
  rw [zr_T H, cond_true]
  exact zr_turned2 H r hT hv hx T.length N 0 (Nat.zero_add _) (by omega)
theorem zr_prim2 (hN : 1000 ≤ N) (H : zr h fl a) (r : zr_rw fl a T) (hT : T.length ≤ 120) (hv : ∀ v ∈ T, v < 256) (hn : 0 < T.length) : ∀ (c f i : Nat), i + c = T.length → c < f → ∃ b : Bool, fM_isPrimitiveRow_2 N f 232 (Int32.ofInt (i : Int)) h = some (cond b (Int32.ofInt 1) (Int32.ofInt 0), h) ∧ (b = true ↔ ∀ j, i ≤ j → j < T.length → ¬ zm_E T j 0) := by
  intro c
  induction c with
  | zero =>
    intro f i h1 h2
    obtain ⟨g, rfl⟩ : ∃ g, f = g + 1 := ⟨f - 1, by omega⟩
    refine ⟨true, ?_, ⟨fun _ j j1 j2 => absurd j2 (by omega), fun _ => rfl⟩⟩
    rw [fM_isPrimitiveRow_2, zr_i H 14 rfl, b1_s, r.1, zqo_ge _ _ (by omega) (by omega), decide_eq_true (by omega), cond_true, b1_s, zqo_le _ _ (by omega) (by decide), decide_eq_false (by omega)]
    rfl
  | succ c ih =>
    intro f i h1 h2
    obtain ⟨g, rfl⟩ : ∃ g, f = g + 1 := ⟨f - 1, by omega⟩
    have b := zm_rob hv i 0 T.length
    rw [fM_isPrimitiveRow_2, zr_i H 14 rfl, b1_s, r.1, zqo_ge _ _ (by omega) (by omega), decide_eq_false (by omega), cond_false, zr_turned hN H r hT hv (by omega), b2, zqo_ne _ _ (by omega) (by decide)]
    by_cases e : zm_ro T i 0 T.length = 0
    · refine ⟨false, ?_, ⟨fun x => absurd x (by decide), fun x => absurd (zm_ro0.mp e) (x i (Nat.le_refl _) (by omega))⟩⟩
      rw [decide_eq_true e]
      rfl
    · obtain ⟨q, e1, e2⟩ := ih g (i + 1) (by omega) (by omega)
      refine ⟨q, ?_, e2.trans ⟨fun x j j1 j2 => ?_, fun x j j1 j2 => x j (by omega) j2⟩⟩
      · rw [decide_eq_false e, zh_inc]
        exact e1
      · by_cases ej : j = i
        · rw [ej]
          exact fun x => e (zm_ro0.mpr x)
        · exact x j (by omega) j2
theorem zr_lea2 (hN : 1000 ≤ N) (H : zr h fl a) (r : zr_rw fl a T) (hT : T.length ≤ 120) (hv : ∀ v ∈ T, v < 256) (hn : 0 < T.length) : ∀ (c f i : Nat), i + c = T.length → c < f → ∃ b : Bool, fM_isLeastRow_2 N f 232 (Int32.ofInt (i : Int)) h = some (cond b (Int32.ofInt 1) (Int32.ofInt 0), h) ∧ (b = true ↔ ∀ j, i ≤ j → j < T.length → ¬ zm_R T j 0) := by
  intro c
  induction c with
  | zero =>
    intro f i h1 h2
    obtain ⟨g, rfl⟩ : ∃ g, f = g + 1 := ⟨f - 1, by omega⟩
    refine ⟨true, ?_, ⟨fun _ j j1 j2 => absurd j2 (by omega), fun _ => rfl⟩⟩
    rw [fM_isLeastRow_2, zr_i H 14 rfl, b1_s, r.1, zqo_ge _ _ (by omega) (by omega), decide_eq_true (by omega), cond_true, b1_s, zqo_le _ _ (by omega) (by decide), decide_eq_false (by omega)]
    rfl
  | succ c ih =>
    intro f i h1 h2
    obtain ⟨g, rfl⟩ : ∃ g, f = g + 1 := ⟨f - 1, by omega⟩
    have b := zm_rob hv i 0 T.length
    rw [fM_isLeastRow_2, zr_i H 14 rfl, b1_s, r.1, zqo_ge _ _ (by omega) (by omega), decide_eq_false (by omega), cond_false, zr_turned hN H r hT hv (by omega), b2, zqo_ge _ _ (by omega) (by decide)]
    by_cases e : zm_ro T i 0 T.length < 0
    · refine ⟨false, ?_, ⟨fun x => absurd x (by decide), fun x => absurd (zm_ro1.mp e) (x i (Nat.le_refl _) (by omega))⟩⟩
      rw [decide_eq_false (by omega)]
      rfl
    · obtain ⟨q, e1, e2⟩ := ih g (i + 1) (by omega) (by omega)
      refine ⟨q, ?_, e2.trans ⟨fun x j j1 j2 => ?_, fun x j j1 j2 => x j (by omega) j2⟩⟩
      · rw [decide_eq_true (by omega), cond_true, zh_inc]
        exact e1
      · by_cases ej : j = i
        · rw [ej]
          exact fun x => e (zm_ro1.mpr x)
        · exact x j (by omega) j2
theorem zm_tuE (hn : 0 < T.length) : zw_tu T < T.length ↔ ¬ ∀ j, 1 ≤ j → j < T.length → ¬ zm_E T j 0 := by
  rw [zm_tu hn]
  obtain ⟨t1, t2, t3, t4⟩ := zm_rtE (l := T) (T.length - 1) (by omega)
  constructor
  · intro x y
    exact y _ (by omega) x (t1 x)
  · intro x
    by_cases e : zm_rt T (T.length - 1) < T.length
    · exact e
    · exact absurd (fun j j1 j2 => t4 j (by omega) (by omega)) x
theorem zm_leE (hn : 0 < T.length) : zw_lT T = 0 ↔ ∀ j, 1 ≤ j → j < T.length → ¬ zm_R T j 0 := by
  rw [zm_lT hn]
  obtain ⟨m1, m2, m3⟩ := zm_leastM hn
  constructor
  · intro x j j1 j2
    have := m2 j j2
    rw [x] at this
    exact this
  · intro x
    by_cases e : zm_least T = 0
    · exact e
    · exact absurd (m3 0 (by omega)) (x _ (by omega) m1)
theorem zr_why (hN : 1000 ≤ N) (H : zr h fl a) (tx : zr_tx a T) (hT : T.length ≤ 120) (hv : ∀ v ∈ T, v < 256) : ∃ h' fl' a', fM_why N 232 h = some (Int32.ofInt (zc_why T), h') ∧ zr h' fl' a' ∧ zr_F h h' ∧ zr_Q fl a fl' a' ∧ zr_rw fl' a' T := by
  obtain ⟨h1, f1, a1, e1, H1, F1, Q1, r1⟩ := zr_loads hN H tx hT
  refine ⟨h1, f1, a1, ?_, H1, F1, Q1, r1⟩
  unfold fM_why zc_why
  rw [zr_T H, cond_true, e1, b2, zr_i H1 14 rfl, b1_s, r1.1, zqo_ne _ _ (by omega) (by decide)]
  by_cases e : T.length = 0
  · rw [decide_eq_true (by omega), if_pos e]
    rfl
  rw [decide_eq_false (by omega), if_neg e]
  show b2 (fM_isPrimitiveRow N 232 h1) _ = _
  obtain ⟨p, p1, p2⟩ := zr_prim2 (N := N) hN H1 r1 hT hv (by omega) (T.length - 1) N 1 (by omega) (by omega)
  obtain ⟨q, q1, q2⟩ := zr_lea2 (N := N) hN H1 r1 hT hv (by omega) (T.length - 1) N 1 (by omega) (by omega)
  unfold fM_isPrimitiveRow fM_isLeastRow
  have p1 : fM_isPrimitiveRow_2 N N 232 (Int32.ofInt 1) h1 = _ := p1
  have q1 : fM_isLeastRow_2 N N 232 (Int32.ofInt 1) h1 = _ := q1
  rw [zr_T H1, cond_true, p1, b2]
  cases p with
  | false =>
    rw [if_pos ((zm_tuE (by omega)).mpr (fun x => absurd (p2.mpr x) (by decide)))]
    rfl
  | true =>
    rw [if_neg (fun x => (zm_tuE (by omega)).mp x (p2.mp rfl))]
    show b2 (cond (fT h1 232 5) (fM_isLeastRow_2 N N 232 (Int32.ofInt 1) h1) none) _ = _
    rw [zr_T H1, cond_true, q1, b2]
    cases q with
    | false =>
      rw [if_neg (fun x => absurd (q2.mpr ((zm_leE (by omega)).mp x)) (by decide))]
      rfl
    | true =>
      rw [if_pos ((zm_leE (by omega)).mpr (q2.mp rfl))]
      rfl
/-- why not, and the factor at the begin -/
theorem zm_why0 : zc_why T = 0 ↔ 0 < T.length ∧ zw_lE T 0 = T.length := by
  unfold zc_why
  by_cases e : T.length = 0
  · rw [if_pos e]
    exact ⟨fun x => absurd x (by decide), fun x => absurd x.1 (by omega)⟩
  rw [if_neg e, zm_lyn (by omega)]
  have hn : 0 < T.length := by omega
  constructor
  · intro x
    refine ⟨hn, fun r r1 r2 => ?_⟩
    by_cases e2 : zw_tu T < T.length
    · rw [if_pos e2] at x
      exact absurd x (by decide)
    rw [if_neg e2] at x
    by_cases e3 : zw_lT T = 0
    · rcases zm_roC T r 0 with y | y | y
      · exact absurd y.2 ((zm_leE hn).mp e3 r r1 r2)
      · exact absurd ((zm_tuE hn).mpr (fun z => z r r1 r2 y.2)) e2
      · exact y.2
    · rw [if_neg e3] at x
      exact absurd x (by decide)
  · intro x
    rw [if_neg (fun y => (zm_tuE hn).mp y (fun j j1 j2 z => zm_RE (x.2 j j1 j2) (zm_Es z))), if_pos ((zm_leE hn).mpr (fun j j1 j2 z => zm_Ri (zm_Rt z (x.2 j j1 j2))))]
end ZYL
