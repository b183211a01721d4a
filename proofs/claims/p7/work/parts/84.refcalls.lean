/-! THE REFERENCE'S NEXT WORD. -/
theorem zw_sp0 {l : List Nat} {g : Nat} : ∀ c k, k ≤ c → (∀ j, j < k → l.getD j 0 = g) → zw_sp l g c k = 0 := by
  intro c
  induction c with
  | zero =>
    intro k h1 h2
    rw [zw_sp]
    omega
  | succ c ih =>
    intro k h1 h2
    rw [zw_sp]
    by_cases e : k = 0
    · rw [if_pos e]
    · rw [if_neg e, if_pos (h2 _ (by omega))]
      exact ih (k - 1) (by omega) (fun j hj => h2 j (by omega))
theorem zw_sp1 {l : List Nat} {g : Nat} (h0 : l.getD 0 0 ≠ g) : ∀ c k, 1 ≤ k → 1 ≤ zw_sp l g c k := by
  intro c
  induction c with
  | zero =>
    intro k h1
    rw [zw_sp]
    exact h1
  | succ c ih =>
    intro k h1
    rw [zw_sp, if_neg (by omega)]
    by_cases e : l.getD (k - 1) 0 = g
    · rw [if_pos e]
      by_cases e2 : k = 1
      · rw [e2] at e
        exact absurd e h0
      · exact ih (k - 1) (by omega)
    · rw [if_neg e]
      exact h1
theorem zw_upd {l : List Nat} {k i : Nat} (hk : k ≤ l.length) (hi : i < k) : (zw_up l k).getD i 0 = if i = k - 1 then l.getD (k - 1) 0 + 1 else l.getD i 0 := by
  unfold zw_up
  rw [zm_gs _ _ _ _ (by rw [List.length_take]; omega)]
  by_cases e : i = k - 1
  · rw [if_pos e, if_pos e]
  · rw [if_neg e, if_neg e, zr_tl _ hi]
theorem zw_upl' {l : List Nat} {k : Nat} (hk : k ≤ l.length) : (zw_up l k).length = k := by
  unfold zw_up
  rw [List.length_set, List.length_take]
  omega
section ZYM
variable {N : Nat} {h : zH} {fl fl' : Nat → Int} {a a' : Nat → Nat → Int} {bef now snap : zA} {hist : List zA} {sv t : Int} {inp : List Nat} {rep : zvP} {T : List Nat}
theorem zr_next7 {m : Nat} (hm : m ≤ 120) (tx0 : zr_tx a T) (hT : T.length ≤ 120) (hn : 0 < T.length) {fl : Nat → Int} : ∀ (c f i : Nat) (h : zH) (a1 : Nat → Nat → Int), zr h fl a1 → (∀ p j, p ≠ 239 → a1 p j = a p j) → i + c = m → c < f → (∀ j, j < i → a1 239 j = (zm_c T j : Int) - 97) → ∃ h' a', fM_nexts_7 N f 232 (Int32.ofInt (m : Int)) (Int32.ofInt (i : Int)) h = fM_nexts_39 N N 232 h' ∧ zr h' fl a' ∧ zr_F h h' ∧ (∀ p j, p ≠ 239 → a' p j = a p j) ∧ ∀ j, j < m → a' 239 j = (zm_c T j : Int) - 97 := by
  intro c
  induction c with
  | zero =>
    intro f i h a1 H h1 h2 h3 h4
    obtain ⟨g, rfl⟩ : ∃ g, f = g + 1 := ⟨f - 1, by omega⟩
    refine ⟨h, a1, ?_, H, zr_Fr h, h1, fun j hj => h4 j (by omega)⟩
    rw [fM_nexts_7, zqo_ge _ _ (by omega) (by omega), decide_eq_true (by omega), cond_true]
  | succ c ih =>
    intro f i h a1 H h1 h2 h3 h4
    obtain ⟨g, rfl⟩ : ∃ g, f = g + 1 := ⟨f - 1, by omega⟩
    have m1 := Nat.mod_lt i hn
    have g1 : fAI h 233 100 (Int32.ofInt 1) = some (Int32.ofInt (a1 233 1)) := zr_w H 1 (by decide)
    have t1 : a1 233 1 = (T.length : Int) := (h1 233 1 (by decide)).trans tx0.1
    have k1 : fAI h 233 100 (Int32.ofInt (3 + ((i % T.length : Nat) : Int))) = some (Int32.ofInt ((zm_c T i : Int) - 97)) := by
      rw [show 3 + ((i % T.length : Nat) : Int) = ((3 + i % T.length : Nat) : Int) by omega, zr_w H _ (by omega), h1 233 _ (by decide), tx0.2 _ m1]
      rfl
    obtain ⟨h5, e5, H5, F5⟩ := zr_p H 239 i (by decide) (by decide) (by show i < 130; omega) ((zm_c T i : Int) - 97)
    obtain ⟨h6, a6, e6, H6, F6, p6, r6⟩ := ih g (i + 1) h5 _ H5 (fun p j hp => (zr_vn a1 _ (Or.inl hp)).trans (h1 p j hp)) (by omega) (by omega) (fun j hj => by
      by_cases e : j = i
      · rw [e, zr_vs]
      · rw [zr_vn a1 _ (Or.inr e)]
        exact h4 j (by omega))
    refine ⟨h6, a6, ?_, H6, zr_Ft F5 F6, p6, r6⟩
    rw [fM_nexts_7, zqo_ge _ _ (by omega) (by omega), decide_eq_false (by omega), cond_false, zr_r8 H, b1_s, zr_r0 H, b1_s, b1_s, g1, b1_s, t1, if_neg (zr_nz hn (by omega)), zw_modi _ _ (by omega) (by omega), zw_add, k1, b1_s]
    have e5 : fAS h 239 100 (Int32.ofInt (i : Int)) (.int (Int32.ofInt ((zm_c T i : Int) - 97))) = some h5 := e5
    rw [e5, b1_s, zh_inc]
    exact e6
theorem zr_next39 {X : List Nat} (hX : X.length ≤ 120) (hv : ∀ j, X.getD j 0 < 256) {g : Nat} (hg : 2 ≤ g ∧ g ≤ 9) (a0 : a 233 0 = (g : Int)) (ar : ∀ j, j < X.length → a 239 j = (X.getD j 0 : Int) - 97) : ∀ (c f k : Nat) (h : zH) (fl : Nat → Int), zr h fl a → fl 14 = (k : Int) → k ≤ c → k ≤ X.length → c < f → ∃ h1 fl1, fM_nexts_39 N f 232 h = fM_nexts_81 N 232 h1 ∧ zr h1 fl1 a ∧ zr_F h h1 ∧ (∀ j, j ≠ 14 → fl1 j = fl j) ∧ fl1 14 = ((zw_sp X (97 + g - 1) c k : Nat) : Int) := by
  intro c
  induction c with
  | zero =>
    intro f k h fl H h1 h2 h3 h4
    obtain ⟨g', rfl⟩ : ∃ g, f = g + 1 := ⟨f - 1, by omega⟩
    refine ⟨h, fl, ?_, H, zr_Fr h, fun _ _ => rfl, h1⟩
    rw [fM_nexts_39, zr_i H 14 rfl, b1_s, h1, zqo_le _ _ (by omega) (by decide), decide_eq_true (by omega), cond_true]
  | succ c ih =>
    intro f k h fl H h1 h2 h3 h4
    obtain ⟨g', rfl⟩ : ∃ g, f = g + 1 := ⟨f - 1, by omega⟩
    rw [fM_nexts_39, zr_i H 14 rfl, b1_s, h1, zqo_le _ _ (by omega) (by decide), zw_sp]
    by_cases e : k = 0
    · rw [decide_eq_true (by omega), cond_true, if_pos e]
      exact ⟨h, fl, rfl, H, zr_Fr h, fun _ _ => rfl, by rw [h1, e]⟩
    rw [decide_eq_false (by omega), cond_false, if_neg e]
    have g0 : fAI h 233 100 (Int32.ofInt 0) = some (Int32.ofInt (a 233 0)) := zr_w H 0 (by decide)
    have v1 := hv (k - 1)
    rw [zr_r8 H, b1_s, b1_s, zw_sub, show (k : Int) - 1 = ((k - 1 : Nat) : Int) by omega, zr_row H _ (by omega), b1_s, zr_r0 H, b1_s, g0, b1_s, a0, ar _ (by omega), zw_sub, zqo_ne _ _ (by omega) (by omega)]
    by_cases e2 : X.getD (k - 1) 0 = 97 + g - 1
    · rw [if_pos e2, decide_eq_true (by omega)]
      obtain ⟨h5, e5, H5, F5⟩ := zr_s H 14 rfl ((k - 1 : Nat) : Int)
      obtain ⟨h6, f6, e6, H6, F6, p6, q6⟩ := ih g' (k - 1) h5 _ H5 rfl (by omega) (by omega) (by omega)
      refine ⟨h6, f6, ?_, H6, zr_Ft F5 F6, fun j hj => (p6 j hj).trans (if_neg hj), q6⟩
      rw [Bool.not_true, cond_false, b1_s, zw_sub, show (k : Int) - 1 = ((k - 1 : Nat) : Int) by omega, e5, b1_s]
      exact e6
    · rw [if_neg e2, decide_eq_false (by omega), Bool.not_false, cond_true]
      exact ⟨h, fl, rfl, H, zr_Fr h, fun _ _ => rfl, h1⟩
theorem zr_next81 {X : List Nat} (hX : X.length ≤ 120) (ar : ∀ j, j < X.length → a 239 j = (X.getD j 0 : Int) - 97) {k : Nat} (hk : k ≤ X.length) (H : zr h fl a) (h14 : fl 14 = (k : Int)) : ∃ h' a', fM_nexts_81 N 232 h = some ((), h') ∧ zr h' fl a' ∧ zr_F h h' ∧ (∀ p j, p ≠ 239 → a' p j = a p j) ∧ zr_rw fl a' (zw_up X k) := by
  unfold fM_nexts_81
  rw [zr_i H 14 rfl, b1_s, h14, zqo_le _ _ (by omega) (by decide)]
  by_cases e : k = 0
  · rw [decide_eq_true (by omega), cond_true]
    refine ⟨h, a, rfl, H, zr_Fr h, fun _ _ _ => rfl, by rw [zw_upl' hk, h14], fun i hi => ?_⟩
    rw [zw_upl' hk] at hi
    omega
  · obtain ⟨h5, e5, H5, F5⟩ := zr_p H 239 (k - 1) (by decide) (by decide) (by show k - 1 < 130; omega) ((X.getD (k - 1) 0 : Int) - 97 + 1)
    refine ⟨h5, _, ?_, H5, F5, fun p j hp => zr_vn a _ (Or.inl hp), by rw [zw_upl' hk, h14], fun i hi => ?_⟩
    · rw [decide_eq_false (by omega), cond_false, zr_r8 H, b1_s, b1_s, zw_sub, show (k : Int) - 1 = ((k - 1 : Nat) : Int) by omega, zr_row H _ (by omega), b1_s, ar _ (by omega), zw_add]
      have e5 : fAS h 239 100 (Int32.ofInt ((k - 1 : Nat) : Int)) (.int (Int32.ofInt ((X.getD (k - 1) 0 : Int) - 97 + 1))) = some h5 := e5
      rw [e5]
      rfl
    · rw [zw_upl' hk] at hi
      rw [zw_upd hk hi]
      by_cases e2 : i = k - 1
      · rw [if_pos e2, e2, zr_vs]
        omega
      · rw [if_neg e2, zr_vn a _ (Or.inr e2), ar _ (by omega)]
theorem zr_nexts (hN : 1000 ≤ N) (H : zr h fl a) (tx : zr_tx a T) (hT : T.length ≤ 120) (hv : ∀ v ∈ T, v < 256) (hn : 0 < T.length) {g : Nat} (hg : 2 ≤ g ∧ g ≤ 9) (a0 : a 233 0 = (g : Int)) {m : Nat} (hm : T.length ≤ m) (hm2 : m ≤ 120) : ∃ h' fl' a', fM_nexts N 232 (Int32.ofInt (m : Int)) h = some ((), h') ∧ zr h' fl' a' ∧ zr_F h h' ∧ zr_Q fl a fl' a' ∧ zr_rw fl' a' (zw_nx T m (97 + g - 1)) ∧ (zw_nx T m (97 + g - 1)).length = zw_sp (zw_xt T.length (m - T.length) T) (97 + g - 1) m m := by
  have xl : (zw_xt T.length (m - T.length) T).length = m := by
    rw [zw_xtl]
    omega
  have xd := zm_xt (T := T) hn (m - T.length) T (Nat.le_refl _) (fun j hj => by
    unfold zm_c
    rw [Nat.mod_eq_of_lt hj])
  obtain ⟨h1, e1, H1, F1⟩ := zr_s H 14 rfl (m : Int)
  obtain ⟨h2, a2, e2, H2, F2, p2, r2⟩ := zr_next7 (N := N) hm2 tx hT hn (fl := zr_u fl 14 (m : Int)) m N 0 h1 a H1 (fun _ _ _ => rfl) (Nat.zero_add _) (by omega) (fun j hj => absurd hj (Nat.not_lt_zero j))
  have ar : ∀ j, j < (zw_xt T.length (m - T.length) T).length → a2 239 j = ((zw_xt T.length (m - T.length) T).getD j 0 : Int) - 97 := fun j hj => by
    rw [xl] at hj
    rw [r2 j hj, xd j (by omega)]
  obtain ⟨h3, f3, e3, H3, F3, p3, q3⟩ := zr_next39 (N := N) (X := zw_xt T.length (m - T.length) T) (by omega) (fun j => by
    by_cases e : j < m
    · rw [xd j (by omega)]
      exact zm_clt hv j
    · rw [List.getD_eq_getElem?_getD, List.getElem?_eq_none (by omega)]
      exact (by decide : (0 : Nat) < 256)) hg ((p2 233 0 (by decide)).trans a0) ar m N m h2 _ H2 rfl (Nat.le_refl _) (by omega) (by omega)
  have hk := zw_spl (zw_xt T.length (m - T.length) T) (97 + g - 1) m m
  obtain ⟨h4, a4, e4, H4, F4, p4, r4⟩ := zr_next81 (N := N) (by omega) ar (k := zw_sp (zw_xt T.length (m - T.length) T) (97 + g - 1) m m) (by omega) H3 q3
  have en : zw_nx T m (97 + g - 1) = zw_up (zw_xt T.length (m - T.length) T) (zw_sp (zw_xt T.length (m - T.length) T) (97 + g - 1) m m) := by
    unfold zw_nx
    rw [if_neg (by omega), xl]
  refine ⟨h4, f3, a4, ?_, H4, zr_Ft F1 (zr_Ft F2 (zr_Ft F3 F4)), ⟨fun k hk => (p3 k hk).trans (if_neg hk), fun p i h3 h4 => (p4 p i h3).trans (p2 p i h3)⟩, by rw [en]; exact r4, by rw [en]; exact zw_upl' (by omega)⟩
  unfold fM_nexts
  rw [zr_T H, cond_true, e1, b1_s]
  have e2 : fM_nexts_7 N N 232 (Int32.ofInt (m : Int)) (Int32.ofInt 0) h1 = _ := e2
  rw [e2, e3, e4]
/-- whether a word follows, both ways -/
theorem zm_hn {g m : Nat} (hn : 0 < T.length) (hl : zw_lE T 0 = T.length) (hm : T.length ≤ m) (hv : ∀ v ∈ T, v < 97 + g) (hg : 2 ≤ g) : 0 < zw_sp (zw_xt T.length (m - T.length) T) (97 + g - 1) m m ↔ T.getD 0 0 ≠ 97 + g - 1 := by
  have xd := zm_xt (T := T) hn (m - T.length) T (Nat.le_refl _) (fun j hj => by
    unfold zm_c
    rw [Nat.mod_eq_of_lt hj])
  have c0 : zm_c T 0 = T.getD 0 0 := by
    unfold zm_c
    rw [Nat.mod_eq_of_lt hn]
  constructor
  · intro x y
    have ly := (zm_lyn hn).mp hl
    have all : ∀ j, zm_c T j = 97 + g - 1 := by
      intro j
      have ej : zm_c T j = zm_c T (j % T.length) := by
        unfold zm_c
        rw [Nat.mod_mod]
      rw [ej]
      have hj := Nat.mod_lt j hn
      by_cases e : j % T.length = 0
      · rw [e, c0, y]
      · obtain ⟨d, d1, d2, d3⟩ := ly _ (by omega) hj
        by_cases ed : d = 0
        · subst ed
          rw [Nat.add_zero, Nat.add_zero, c0, y] at d3
          have : zm_c T (j % T.length) < 97 + g := by
            unfold zm_c
            rw [Nat.mod_mod, List.getD_eq_getElem?_getD, List.getElem?_eq_getElem hj]
            exact hv _ (List.getElem_mem hj)
          omega
        · have := d2 0 (by omega)
          rw [Nat.add_zero, Nat.add_zero, c0, y] at this
          exact this.symm
    rw [zw_sp0 m m (Nat.le_refl _) (fun j hj => (xd j (by omega)).trans (all j))] at x
    exact absurd x (Nat.lt_irrefl _)
  · intro x
    exact zw_sp1 (by rw [xd 0 (by omega), c0]; exact x) m m (by omega)
theorem zy_hasNext (hN : 1000 ≤ N) (Y : zy h now hist snap sv inp rep t) (ok : zv_ok now) {m : Nat} (hm : m ≤ 120) : ∃ h', fM_hasNext N 232 (Int32.ofInt (m : Int)) h = some (cond (zs_hn now.1 now.2.1 (m : Int)) (Int32.ofInt 1) (Int32.ofInt 0), h') ∧ zy h' now hist snap sv inp rep t ∧ zr_F h h' := by
  obtain ⟨fl, a, H, R⟩ := Y
  have o2 := ok.2.1
  have o1 := ok.1
  obtain ⟨h1, f1, a1, e1, H1, F1, Q1, _⟩ := zr_why hN H (zyR_tx R) o2 (zv_256 ok)
  have R1 := zyR_Q R Q1
  have g1 : fAI h1 233 100 (Int32.ofInt 1) = some (Int32.ofInt (a1 233 1)) := zr_w H1 1 (by decide)
  have wb : zc_why now.2.1 = 0 ∨ zc_why now.2.1 = 1 ∨ zc_why now.2.1 = 2 ∨ zc_why now.2.1 = 3 := by
    unfold zc_why
    repeat' split
    all_goals omega
  unfold fM_hasNext
  rw [zr_T H, cond_true, e1, b2, zqo_ne _ _ (by omega) (by decide)]
  unfold zs_hn
  by_cases e : zc_why now.2.1 = 0
  · have w := zm_why0.mp e
    rw [decide_eq_true e, Bool.not_true, cond_false, zr_r0 H1, b1_s, g1, b1_s, R1.1.2.1, zqo_le _ _ (by omega) (by omega)]
    by_cases em : now.2.1.length ≤ m
    · obtain ⟨h2, f2, a2, e2, H2, F2, Q2, r2, l2⟩ := zr_nexts (N := N) hN H1 (zyR_tx R1) o2 (zv_256 ok) w.1 o1 R1.1.1 em hm
      have hb := zw_spl (zw_xt now.2.1.length (m - now.2.1.length) now.2.1) (97 + now.1 - 1) m m
      have hh := zm_hn (g := now.1) w.1 w.2 em (fun v hv => (ok.2.2.1 v hv).2) o1.1
      refine ⟨h2, ?_, ⟨f2, a2, H2, zyR_Q R1 Q2⟩, zr_Ft F1 F2⟩
      rw [decide_eq_true (by omega : (now.2.1.length : Int) ≤ (m : Int)), cond_true, e2, b2, zr_i H2 14 rfl, b1_s, r2.1, l2, zqo_le _ _ (by omega) (by decide), decide_eq_true w]
      by_cases e3 : now.2.1.getD 0 0 = 97 + now.1 - 1
      · have : ¬ 0 < zw_sp (zw_xt now.2.1.length (m - now.2.1.length) now.2.1) (97 + now.1 - 1) m m := fun x => hh.mp x e3
        rw [decide_eq_true (by omega), decide_eq_true e3]
        rfl
      · have := hh.mpr e3
        rw [decide_eq_false (by omega), decide_eq_false e3]
        rfl
    · refine ⟨h1, ?_, ⟨f1, a1, H1, R1⟩, F1⟩
      rw [decide_eq_false (by omega : ¬ (now.2.1.length : Int) ≤ (m : Int))]
      rfl
  · refine ⟨h1, ?_, ⟨f1, a1, H1, R1⟩, F1⟩
    rw [decide_eq_false e, decide_eq_false (fun x => e (zm_why0.mpr x)), Bool.not_false, cond_true, Bool.false_and, Bool.and_false]
    rfl
theorem zn_nextLyndon (Y : zy h now hist snap sv inp rep t) (o : zo now hist snap) (hN : 4000 ≤ N) (x : Int) (hx : -2147483648 ≤ x ∧ x < 2147483648) : (¬ (1 ≤ x ∧ x ≤ 120) ∧ ∃ h', fM_nextLyndon N 232 (Int32.ofInt x) h = some (Int32.ofInt 0, h') ∧ zy h' now hist snap sv inp rep 1 ∧ zr_F h h') ∨ ((1 ≤ x ∧ x ≤ 120) ∧ zs_hn now.1 now.2.1 x = false ∧ ∃ h', fM_nextLyndon N 232 (Int32.ofInt x) h = some (Int32.ofInt 0, h') ∧ zy h' now hist snap sv inp rep 2 ∧ zr_F h h') ∨ ((1 ≤ x ∧ x ≤ 120) ∧ zs_hn now.1 now.2.1 x = true ∧ ∃ h', fM_nextLyndon N 232 (Int32.ofInt x) h = some (Int32.ofInt ((zw_nx now.2.1 x.toNat (97 + now.1 - 1)).length : Int), h') ∧ zy h' (now.1, zw_nx now.2.1 x.toNat (97 + now.1 - 1), now.2.2) (zv_push hist now) snap sv inp rep 0 ∧ zr_F h h') := by
  obtain ⟨ok, okh, h8, oks⟩ := o
  have o1 := ok.1
  obtain ⟨fl0, a0, H0, R0⟩ := id Y
  unfold fM_nextLyndon
  rw [zr_T H0, cond_true, zr_in N x 1 120 hx (by decide) (by decide), b2]
  by_cases e : 1 ≤ x ∧ x ≤ 120
  · rw [decide_eq_true e, cond_true]
    refine Or.inr ?_
    obtain ⟨v, rfl⟩ : ∃ v : Nat, x = (v : Int) := ⟨x.toNat, by omega⟩
    obtain ⟨hh, eh, Yh, Fh⟩ := zy_hasNext (N := N) (by omega) Y ok (m := v) (by omega)
    have ec : fM_nextLyndon_15 N 232 (Int32.ofInt (v : Int)) (Int32.ofInt 0) h = cond (zs_hn now.1 now.2.1 (v : Int)) (fM_nextLyndon_35 N 232 (Int32.ofInt (v : Int)) (Int32.ofInt 0) (Int32.ofInt 0) 232 hh) (fM_nextLyndon_35 N 232 (Int32.ofInt (v : Int)) (Int32.ofInt 1) (Int32.ofInt 0) 232 hh) := by
      unfold fM_nextLyndon_15
      show b2 (fM_hasNext N 232 (Int32.ofInt (v : Int)) h) _ = _
      rw [eh, b2]
      cases zs_hn now.1 now.2.1 (v : Int) <;> rfl
    by_cases e2 : zs_hn now.1 now.2.1 (v : Int) = true
    · refine Or.inr ⟨e, e2, ?_⟩
      have e2' := e2
      unfold zs_hn at e2'
      rw [Bool.and_eq_true, Bool.and_eq_true] at e2'
      have q1 := of_decide_eq_true e2'.1
      have q2 := of_decide_eq_true e2'.2.1
      obtain ⟨h1, e1, Y1, F1⟩ := zy_two00 (N := N) Yh
      obtain ⟨h2, e3, ⟨fl, a, H, R, B⟩, F2⟩ := zy_begins (N := N) (by omega) Y1 ok
      obtain ⟨h3, f3, a3, e4, H3, F3, Q3, r3, l3⟩ := zr_nexts (N := N) (by omega) H (zyR_tx R) ok.2.1 (zv_256 ok) q2.1 o1 R.1.1 (m := v) (by omega) (by omega)
      have hb := zw_spl (zw_xt now.2.1.length (v - now.2.1.length) now.2.1) (97 + now.1 - 1) v v
      obtain ⟨h4, a4, e5, H4, F4, p4, t4⟩ := zr_takes (N := N) (by omega) H3 r3 (by omega)
      have R3 := zyR_Q R Q3
      have n4 : zy_is (a4 233) (now.1, zw_nx now.2.1 v (97 + now.1 - 1), now.2.2) := zy_isT R3.1 t4.1 t4.2 (fun j h3 h4 => p4 233 j (Or.inr ⟨h3, h4⟩))
      have Y4 : zyp h4 now (now.1, zw_nx now.2.1 v (97 + now.1 - 1), now.2.2) hist snap sv inp rep 0 := by
        refine ⟨f3, a4, H4, zyR_a R3 (fun _ _ => rfl) (fun p i hp => p4 p i (Or.inl (by omega))) n4, ?_⟩
        rw [show a4 234 = a 234 from funext fun i => (p4 234 i (Or.inl (by decide))).trans (Q3.2 234 i (by decide) (by decide))]
        exact B
      obtain ⟨h5, e6, Y5, F5⟩ := zy_remember (N := N) hN Y4 ok okh h8 (Int32.ofInt ((zw_nx now.2.1 v (97 + now.1 - 1)).length : Int))
      refine ⟨h5, ?_, Y5, zr_Ft Fh (zr_Ft F1 (zr_Ft F2 (zr_Ft F3 (zr_Ft F4 F5))))⟩
      refine ec.trans ?_
      rw [e2, cond_true]
      unfold fM_nextLyndon_35
      rw [e1, b2]
      show b2 (fM_begins N 232 h1) _ = _
      rw [e3, b2]
      unfold fM_goesOn
      rw [zr_T H, cond_true, e4, b2, e5, b2, b2, e6]
      rfl
    · have e2 : zs_hn now.1 now.2.1 (v : Int) = false := Bool.eq_false_iff.mpr e2
      refine Or.inl ⟨e, e2, ?_⟩
      obtain ⟨h1, e1, Y1, F1⟩ := zy_two01 (N := N) Yh
      refine ⟨h1, ?_, Y1, zr_Ft Fh F1⟩
      refine ec.trans ?_
      rw [e2, cond_false]
      unfold fM_nextLyndon_35
      rw [e1]
      rfl
  · rw [decide_eq_false e, cond_false]
    refine Or.inl ⟨e, ?_⟩
    obtain ⟨h1, e1, Y1, F1⟩ := zy_two1 (N := N) Y (Int32.ofInt 0)
    refine ⟨h1, ?_, Y1, F1⟩
    show fM_nextLyndon_35 N 232 (Int32.ofInt x) (Int32.ofInt 0) (Int32.ofInt 1) 232 h = _
    unfold fM_nextLyndon_35
    rw [e1]
    rfl
end ZYM
