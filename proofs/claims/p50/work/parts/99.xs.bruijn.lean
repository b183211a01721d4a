/-! bruijnLetter, exact on both sides. -/
theorem yf_call {L : Nat} (hL : 2 ≤ L ∧ L ≤ 9) : yf_chk L = true := by
  rcases (show L = 2 ∨ L = 3 ∨ L = 4 ∨ L = 5 ∨ L = 6 ∨ L = 7 ∨ L = 8 ∨ L = 9 by omega) with e | e | e | e | e | e | e | e
  · rw [e]; exact yf_c2
  · rw [e]; exact yf_c3
  · rw [e]; exact yf_c4
  · rw [e]; exact yf_c5
  · rw [e]; exact yf_c6
  · rw [e]; exact yf_c7
  · rw [e]; exact yf_c8
  · rw [e]; exact yf_c9
theorem yf_facts {L m : Nat} (hL : 2 ≤ L ∧ L ≤ 9) (hm : 1 ≤ m ∧ m ≤ 12) (hp : L ^ m ≤ 4096) : yf_C L m = yf_N L m 0 (L ^ m) ∧ (yf_C L m).flatten.length = L ^ m := by
  have c := yf_call hL
  unfold yf_chk at c
  have h : yf_ck L m = true := List.all_eq_true.mp c m (List.mem_range.mpr (by omega))
  unfold yf_ck at h
  rw [decide_eq_false (show ¬ m = 0 by omega), decide_eq_false (Nat.not_lt.mpr hp), Bool.false_or, Bool.false_or, Bool.and_eq_true, decide_eq_true_eq, decide_eq_true_eq] at h
  have c1 : yf_Cf L m = yf_C L m := by
    unfold yf_Cf yf_C
    rw [ye_Df_eq]
  have c2 : yf_Nf L m = yf_N L m 0 (L ^ m) := by
    unfold yf_Nf yf_N
    rw [show (fun j => yf_t (ye_sa L m j [])) = fun j => yf_t (ye_sp L m j) from funext fun j => congrArg yf_t (congrFun (ye_sa_nil L m) j)]
  rw [c1, c2] at h
  exact ⟨h.1, List.length_flatten.trans h.2⟩
theorem yf_ga (w l : List Nat) (i : Int) : (0 ≤ i → i < (w.length : Int) → zw_g (w ++ l) i = zw_g w i) ∧ ((w.length : Int) ≤ i → zw_g (w ++ l) i = zw_g l (i - (w.length : Int))) := by
  have al : (w ++ l).length = w.length + l.length := List.length_append
  constructor
  · intro h1 h2
    rw [zw_gi ⟨h1, by omega⟩, zw_gi ⟨h1, h2⟩, List.getD_eq_getElem?_getD, List.getElem?_append_left (by omega), List.getD_eq_getElem?_getD]
  · intro h1
    by_cases e : i < ((w ++ l).length : Int)
    · rw [zw_gi ⟨by omega, e⟩, zw_gi ⟨by omega, by omega⟩, List.getD_eq_getElem?_getD, List.getElem?_append_right (by omega), List.getD_eq_getElem?_getD, show (i - (w.length : Int)).toNat = i.toNat - w.length by omega]
    · rw [zw_go (Or.inr (by omega)), zw_go (Or.inr (by omega))]
theorem yf_cf (m : Nat) (x : Int) : ∀ (D : List (List Nat)) (p : Nat), (p : Int) ≤ x → yf_c m x D p = zw_g (D.filter (fun w => decide (m % w.length = 0))).flatten (x - (p : Int)) := by
  intro D
  induction D with
  | nil =>
    intro p hp
    rw [yf_c]
    exact (zw_go (Or.inr (by show (0 : Int) ≤ _; omega))).symm
  | cons w D ih =>
    intro p hp
    rw [yf_c]
    by_cases e : m % w.length = 0
    · have g := yf_ga w (D.filter (fun w => decide (m % w.length = 0))).flatten (x - (p : Int))
      rw [if_pos e, List.filter_cons_of_pos (p := fun w : List Nat => decide (m % w.length = 0)) (decide_eq_true e), List.flatten_cons]
      by_cases e2 : (p : Int) + (w.length : Int) ≤ x
      · rw [if_pos e2, ih _ (by omega), g.2 (by omega)]
        congr 1
        omega
      · rw [if_neg e2, g.1 (by omega) (by omega)]
    · rw [if_neg e, List.filter_cons_of_neg (p := fun w : List Nat => decide (m % w.length = 0)) (by rw [decide_eq_false e]; decide), ih _ hp]
theorem yf_nf (L m : Nat) : ∀ c k x, yf_n L m c k x = zw_g (yf_N L m k c).flatten (x : Int) := by
  intro c
  induction c with
  | zero =>
    intro k x
    exact (zw_go (Or.inr (by show (0 : Int) ≤ _; omega))).symm
  | succ c ih =>
    intro k x
    have u : yf_N L m k (c + 1) = yf_t (ye_sp L m k) ++ yf_N L m (k + 1) c := by
      unfold yf_N
      rw [List.range'_succ, List.map_cons, List.flatten_cons]
    rw [yf_n, u, List.flatten_append]
    have rl : yf_rt (ye_sp L m k) ≤ (ye_sp L m k).length := by
      rcases Nat.eq_zero_or_pos (ye_sp L m k).length with z | z
      · unfold yf_rt
        rw [z]
        show zm_rt _ 0 ≤ 0
        exact Nat.le_of_eq (by rw [zm_rt, z])
      · exact (zm_rtE (l := ye_sp L m k) ((ye_sp L m k).length - 1) (by omega)).2.1
    unfold yf_ma yf_t
    by_cases e : yf_le (ye_sp L m k) = true
    · have tl : ((ye_sp L m k).take (yf_rt (ye_sp L m k))).length = yf_rt (ye_sp L m k) := by
        rw [List.length_take]
        omega
      have g := yf_ga ((ye_sp L m k).take (yf_rt (ye_sp L m k))) (yf_N L m (k + 1) c).flatten (x : Int)
      rw [tl] at g
      rw [if_pos e, if_pos e, show [(ye_sp L m k).take (yf_rt (ye_sp L m k))].flatten = (ye_sp L m k).take (yf_rt (ye_sp L m k)) by rw [List.flatten_cons]; exact List.append_nil _]
      by_cases e2 : yf_rt (ye_sp L m k) ≤ x
      · rw [if_pos e2, ih, g.2 (by omega)]
        congr 1
        omega
      · rw [if_neg e2, g.1 (by omega) (by omega), zw_gi ⟨by omega, by omega⟩, show ((x : Int)).toNat = x from rfl, List.getD_eq_getElem?_getD, List.getD_eq_getElem?_getD, List.getElem?_take_of_lt (by omega)]
    · rw [if_neg e, if_neg e, if_pos (Nat.zero_le x), ih, Nat.sub_zero]
      rfl
theorem yf_eq {L m x : Nat} (hL : 2 ≤ L ∧ L ≤ 9) (hm : 1 ≤ m ∧ m ≤ 12) (hp : L ^ m ≤ 4096) : yf_c m (x : Int) (ye_D L m) 0 = yf_n L m (L ^ m) 0 x := by
  have a := yf_cf m (x : Int) (ye_D L m) 0 (by omega)
  rw [show (x : Int) - ((0 : Nat) : Int) = (x : Int) by omega] at a
  rw [a, yf_nf, ← (yf_facts hL hm hp).1]
  rfl
theorem yf_out {L m : Nat} (hL : 2 ≤ L ∧ L ≤ 9) (hm : 1 ≤ m ∧ m ≤ 12) (hp : L ^ m ≤ 4096) {x : Int} (hx : ((L ^ m : Nat) : Int) ≤ x) : yf_c m x (ye_D L m) 0 = -1 := by
  have hz : (0 : Int) ≤ ((L ^ m : Nat) : Int) := Int.natCast_nonneg _
  have a := yf_cf m x (ye_D L m) 0 (Int.le_trans hz hx)
  rw [show x - ((0 : Nat) : Int) = x by omega] at a
  rw [a]
  exact zw_go (Or.inr (by
    have := (yf_facts hL hm hp).2
    unfold yf_C at this
    omega))
theorem yf_b {L : Nat} (hL : 2 ≤ L ∧ L ≤ 9) (m : Nat) : ∀ c k x, -1 ≤ yf_n L m c k x ∧ yf_n L m c k x < 256 := by
  intro c
  induction c with
  | zero => intro k x; exact ⟨by show (-1 : Int) ≤ -1; omega, by show (-1 : Int) < 256; omega⟩
  | succ c ih =>
    intro k x
    rw [yf_n]
    have := zw_gD (l := ye_sp L m k) (fun v hv => by have := ye_spv hL m k v hv; omega) x
    split
    · exact ih _ _
    · omega
theorem yf_pos {L m x : Nat} (hL : 2 ≤ L ∧ L ≤ 9) (hm : 1 ≤ m ∧ m ≤ 12) (hp : L ^ m ≤ 4096) (hx : x < L ^ m) : 0 ≤ yf_n L m (L ^ m) 0 x := by
  have f := yf_facts hL hm hp
  rw [yf_nf, ← f.1, zw_gi ⟨by omega, by rw [f.2]; omega⟩]
  omega
section YFA
variable {N : Nat} {h : zH} {now snap : zA} {hist : List zA} {sv t : Int} {inp : List Nat} {rep : zvP}
theorem zk_find9E (hN : 3000 ≤ N) {m : Nat} (hm : 1 ≤ m ∧ m ≤ 12) {x : Int} (hx : 0 ≤ x ∧ x < 2147483648) : ∀ (c f i p : Nat) (h : zH) (w : List Nat), zv h now hist snap sv inp rep → zw_W h 230 121 w → (∀ v ∈ w, 97 ≤ v ∧ v < 97 + now.1) → w.length ≤ m → i + c = m * 4096 → c < f → p ≤ 12 * i → ∃ h', fB_findRowLetter_9 N f 0 (Int32.ofInt (m : Int)) (Int32.ofInt x) (Int32.ofInt (p : Int)) (Int32.ofInt (i : Int)) h = some (Int32.ofInt (yf_c m x (ye_l m (97 + now.1 - 1) c w) p), h') ∧ zv h' now hist snap sv inp rep ∧ zc_F h h' := by
  intro c
  induction c with
  | zero =>
    intro f i p h w V W hw hl h1 h2 hp
    obtain ⟨g, rfl⟩ : ∃ g, f = g + 1 := ⟨f - 1, by omega⟩
    refine ⟨h, ?_, V, zc_Fr h⟩
    rw [fB_findRowLetter_9, zw_mul, zqo_ge _ _ (by omega) (by omega), decide_eq_true (by omega), cond_true]
    rfl
  | succ c ih =>
    intro f i p h w V W hw hl h1 h2 hp
    obtain ⟨g, rfl⟩ : ∃ g, f = g + 1 := ⟨f - 1, by omega⟩
    have ok := (zv_open V).1
    have o1 := ok.1
    rw [fB_findRowLetter_9, zw_mul, zqo_ge _ _ (by omega) (by omega), decide_eq_false (by omega), cond_false, zv_r06 V, b1_s, zw_z W, b1_s, zqo_le _ _ (by omega) (by decide), ye_l]
    by_cases e0 : w.length = 0
    · refine ⟨h, ?_, V, zc_Fr h⟩
      rw [decide_eq_true (by omega), cond_true, if_pos e0]
      rfl
    · obtain ⟨h3, e3, V3, W3, F3⟩ := zv_step V hN W hm.2 hw
      have nx := yd_nxL (m := m) (by omega) hl (show 1 ≤ now.1 by omega) hw
      have s75 : ∀ q : Nat, fB_findRowLetter_75 N (fB_findRowLetter_9 N g) 0 (Int32.ofInt (m : Int)) (Int32.ofInt x) (Int32.ofInt (q : Int)) (Int32.ofInt (i : Int)) h = fB_findRowLetter_9 N g 0 (Int32.ofInt (m : Int)) (Int32.ofInt x) (Int32.ofInt (q : Int)) (Int32.ofInt ((i + 1 : Nat) : Int)) h3 := fun q => by
        unfold fB_findRowLetter_75
        rw [e3, zh_inc]
      rw [decide_eq_false (by omega), cond_false, b1_s, zw_z W, b1_s, if_neg (zw_n0 _ (by omega) (by omega)), zw_modi _ _ (by omega) (by omega), zqo_ne _ _ (by have := Nat.mod_lt m (show w.length > 0 by omega); omega) (by decide), s75 p, if_neg e0, yf_c]
      by_cases e4 : m % w.length = 0
      · rw [decide_eq_true (by omega), Bool.not_true, cond_false, b1_s, zw_z W, b1_s, zw_add, zqo_ge _ _ (by omega) (by omega), if_pos e4]
        by_cases e5 : (p : Int) + (w.length : Int) ≤ x
        · obtain ⟨h4, e6, V4, F4⟩ := ih g (i + 1) (p + w.length) h3 _ V3 W3 nx.2 nx.1 (by omega) (by omega) (by omega)
          refine ⟨h4, ?_, V4, zc_Ft F3 F4⟩
          rw [decide_eq_true e5, cond_true, b1_s, zw_z W, b1_s, zw_add, show (p : Int) + (w.length : Int) = ((p + w.length : Nat) : Int) by omega, s75, if_pos (by omega)]
          exact e6
        · refine ⟨h, ?_, V, zc_Fr h⟩
          rw [decide_eq_false e5, cond_false, b1_s, zw_sub, zw_at W _ (by omega), b2, if_neg e5]
      · obtain ⟨h4, e6, V4, F4⟩ := ih g (i + 1) p h3 _ V3 W3 nx.2 nx.1 (by omega) (by omega) (by omega)
        refine ⟨h4, ?_, V4, zc_Ft F3 F4⟩
        rw [decide_eq_false (by omega), Bool.not_false, cond_true, if_neg e4]
        exact e6
/-- which orders are counted -/
def yf_G (L : Nat) (x : Int) : Prop := (1 ≤ x ∧ x ≤ 12) ∧ L ^ x.toNat ≤ 4096
theorem zk_bruijnE (V : zv h now hist snap sv inp rep) (hN : 1000001 ≤ N) (x y : Int) (hx : -2147483648 ≤ x ∧ x < 2147483648) (hy : -2147483648 ≤ y ∧ y < 2147483648) : (¬ yf_G now.1 x ∧ fB_bruijnLetter N 0 (Int32.ofInt x) (Int32.ofInt y) h = some (.inr 0, h)) ∨ (yf_G now.1 x ∧ ¬ (0 ≤ y ∧ y < ((now.1 ^ x.toNat : Nat) : Int)) ∧ ∃ h', fB_bruijnLetter N 0 (Int32.ofInt x) (Int32.ofInt y) h = some (.inr 2, h') ∧ zv h' now hist snap sv inp rep ∧ zc_F h h') ∨ (yf_G now.1 x ∧ (0 ≤ y ∧ y < ((now.1 ^ x.toNat : Nat) : Int)) ∧ ∃ h', fB_bruijnLetter N 0 (Int32.ofInt x) (Int32.ofInt y) h = some (.inl (Int32.ofInt (yf_n now.1 x.toNat (now.1 ^ x.toNat) 0 y.toNat)), h') ∧ zv h' now hist snap sv inp rep ∧ zc_F h h') := by
  have ok := (zv_open V).1
  have o1 := ok.1
  unfold fB_bruijnLetter yf_G
  rw [zv_T0 V, cond_true, zqo_lt _ _ hx (by decide), zqo_gt _ _ hx (by decide)]
  by_cases e1 : x < 1
  · refine Or.inl ⟨by omega, ?_⟩
    rw [decide_eq_true e1, cond_true]
    rfl
  · rw [decide_eq_false e1, cond_false]
    by_cases e2 : 12 < x
    · refine Or.inl ⟨by omega, ?_⟩
      rw [decide_eq_true e2, cond_true]
      rfl
    · obtain ⟨m, rfl⟩ : ∃ v : Nat, x = (v : Int) := ⟨x.toNat, by omega⟩
      rw [decide_eq_false e2, cond_false, zv_r00 V, b1_s, zv_L1 V, b1_s, yd_fits (by omega) o1 (by omega), b2, show ((m : Int)).toNat = m from rfl]
      by_cases e3 : now.1 ^ m ≤ 4096
      · rw [decide_eq_true e3, cond_true, show z_cmp .ne (Int32.ofInt 1) (Int32.ofInt 0) = true from rfl, cond_true, zqo_ge _ _ hy (by decide)]
        have G : (1 ≤ (m : Int) ∧ (m : Int) ≤ 12) ∧ now.1 ^ m ≤ 4096 := ⟨by omega, e3⟩
        by_cases e4 : 0 ≤ y
        · obtain ⟨h1, e5, V1, W1, F1⟩ := zv_start (N := N) V
          obtain ⟨h2, e6, V2, F2⟩ := zk_find9E (N := N) (by omega) (m := m) (by omega) (x := y) (by omega) (m * 4096) N 0 0 h1 _ V1 W1 (fun v hv => by
            rw [List.mem_singleton] at hv
            omega) (by show 1 ≤ m; omega) (Nat.zero_add _) (by omega) (Nat.le_refl _)
          have e6 : fB_findRowLetter_9 N N 0 (Int32.ofInt (m : Int)) (Int32.ofInt y) (Int32.ofInt 0) (Int32.ofInt 0) h1 = some (Int32.ofInt (yf_c m y (ye_D now.1 m) 0), h2) := e6
          have s : ∀ g : Int32 → zH → Option ((Int32 ⊕ Nat) × zH), b2 (fB_findRowLetter N 0 (Int32.ofInt (m : Int)) (Int32.ofInt y) h) g = g (Int32.ofInt (yf_c m y (ye_D now.1 m) 0)) h2 := fun g => by
            unfold fB_findRowLetter
            rw [zv_T0 V, cond_true, e5, b2, e6, b2]
          rw [decide_eq_true e4, cond_true, s]
          unfold fB_bruijnLetter_50
          by_cases e7 : y < ((now.1 ^ m : Nat) : Int)
          · obtain ⟨v, rfl⟩ : ∃ v : Nat, y = (v : Int) := ⟨y.toNat, by omega⟩
            have p := yf_pos o1 (m := m) (x := v) (by omega) e3 (by omega)
            have b := yf_b o1 m (now.1 ^ m) 0 v
            refine Or.inr (Or.inr ⟨G, ⟨by omega, e7⟩, h2, ?_, V2, zc_Ft F1 F2⟩)
            rw [yf_eq o1 (by omega) e3, zqo_ne _ _ (by omega) (by decide), decide_eq_false (by omega), Bool.not_false, cond_true]
            rfl
          · refine Or.inr (Or.inl ⟨G, by omega, h2, ?_, V2, zc_Ft F1 F2⟩)
            rw [yf_out o1 (by omega) e3 (by omega)]
            rfl
        · refine Or.inr (Or.inl ⟨G, by omega, h, ?_, V, zc_Fr h⟩)
          rw [decide_eq_false e4, cond_false]
          rfl
      · refine Or.inl ⟨by omega, ?_⟩
        rw [decide_eq_false e3, cond_false, show z_cmp .ne (Int32.ofInt 0) (Int32.ofInt 0) = false from rfl, cond_false]
        rfl
theorem yf_leR {fl : Nat → Int} {a : Nat → Nat → Int} (hN : 2000 ≤ N) (H : zr h fl a) {T : List Nat} (r : zr_rw fl a T) (hT : 1 ≤ T.length ∧ T.length ≤ 120) (hv : ∀ v ∈ T, v < 256) : fM_isLeastRow N 232 h = some (cond (yf_le T) (Int32.ofInt 1) (Int32.ofInt 0), h) ∧ fM_rootLength N 232 h = some (Int32.ofInt (yf_rt T : Int), h) := by
  obtain ⟨c, e2, p2⟩ := zr_lea2 (N := N) (by omega) H r hT.2 hv (by omega) (T.length - 1) N 1 (by omega) (by omega)
  have hc : c = yf_le T := by
    unfold yf_le
    rw [Bool.eq_iff_iff, p2, List.all_eq_true]
    constructor
    · intro x j hj
      rw [List.mem_range] at hj
      rw [Bool.or_eq_true, decide_eq_true_eq]
      by_cases e : j = 0
      · exact Or.inl e
      · refine Or.inr ?_
        rw [decide_eq_false (fun z => x j (by omega) hj (zm_ro1.mp z))]
        rfl
    · intro x j j1 j2 z
      have := x j (List.mem_range.mpr j2)
      rw [decide_eq_false (by omega), Bool.false_or, decide_eq_true (zm_ro1.mpr z)] at this
      cases this
  have e := zr_root2 (N := N) (by omega) H r hT.2 hv (T.length - 1) N 1 (by omega) (by omega)
  constructor
  · unfold fM_isLeastRow
    rw [zr_T H, cond_true, ← hc]
    exact e2
  · unfold fM_rootLength
    rw [zr_T H, cond_true]
    exact e
theorem zn_bruijn67E (hN : 4100 ≤ N) (ok : zv_ok now) {m : Nat} (hm : 1 ≤ m ∧ m ≤ 12) (hp : now.1 ^ m ≤ 4096) : ∀ (c f k x : Nat) (h : zH) (fl : Nat → Int) (a : Nat → Nat → Int), zr h fl a → zyR fl a now hist snap sv inp rep t → k + c = now.1 ^ m → c < f → x ≤ 4096 → ∃ h' fl' a', fM_bruijnLetter_67 N f 232 (Int32.ofInt (m : Int)) (Int32.ofInt (x : Int)) (Int32.ofInt (k : Int)) h = some (Int32.ofInt (yf_n now.1 m c k x), h') ∧ zr h' fl' a' ∧ zyR fl' a' now hist snap sv inp rep t ∧ zr_F h h' := by
  have o1 := ok.1
  intro c
  induction c with
  | zero =>
    intro f k x h fl a H R h1 h2 hx
    obtain ⟨g, rfl⟩ : ∃ g, f = g + 1 := ⟨f - 1, by omega⟩
    obtain ⟨p, e2, p1, p2, p3⟩ := yd_power (N := N) (by omega) H R.1.1 o1 (len := m) (by omega)
    have pe := p3 (p2.mpr hp)
    refine ⟨h, fl, a, ?_, H, R, zr_Fr h⟩
    rw [fM_bruijnLetter_67, e2, b2, zqo_ge _ _ (by omega) (by omega), decide_eq_true (by omega), cond_true]
    rfl
  | succ c ih =>
    intro f k x h fl a H R h1 h2 hx
    obtain ⟨g, rfl⟩ : ∃ g, f = g + 1 := ⟨f - 1, by omega⟩
    obtain ⟨p, e2, p1, p2, p3⟩ := yd_power (N := N) (by omega) H R.1.1 o1 (len := m) (by omega)
    have pe := p3 (p2.mpr hp)
    obtain ⟨h3, f3, a3, e3, H3, F3, Q3, r3⟩ := ye_spells (N := N) (by omega) H R.1.1 ok.1 (k := k) (m := m) (by omega) (by omega)
    have l3 := ye_spl now.1 m k
    have v3 : ∀ v ∈ ye_sp now.1 m k, v < 256 := fun v hv => by
      have := ye_spv ok.1 m k v hv
      omega
    have R3 := zyR_Q R Q3
    obtain ⟨e5, e6⟩ := yf_leR (N := N) (by omega) H3 r3 (by omega) v3
    have q6 : yf_rt (ye_sp now.1 m k) ≤ m := by
      have := (zm_rtE (l := ye_sp now.1 m k) ((ye_sp now.1 m k).length - 1) (by omega)).2.1
      unfold yf_rt
      omega
    have fin : ∀ s0 : Nat, s0 ≤ m → s0 = yf_ma (ye_sp now.1 m k) → ∃ h' fl' a', fM_bruijnLetter_99 N (fM_bruijnLetter_67 N g) 232 (Int32.ofInt (m : Int)) (Int32.ofInt (x : Int)) (Int32.ofInt (k : Int)) (Int32.ofInt (s0 : Int)) h3 = some (Int32.ofInt (yf_n now.1 m (c + 1) k x), h') ∧ zr h' fl' a' ∧ zyR fl' a' now hist snap sv inp rep t ∧ zr_F h h' := fun s0 hs hm0 => by
      unfold fM_bruijnLetter_99
      rw [zqo_ge _ _ (by omega) (by omega), yf_n, ← hm0]
      by_cases e7 : s0 ≤ x
      · rw [decide_eq_true (by omega), cond_true, zw_sub, show (x : Int) - (s0 : Int) = ((x - s0 : Nat) : Int) by omega, zh_inc, if_pos e7]
        obtain ⟨h', f', a', e', H', R', F'⟩ := ih g (k + 1) (x - s0) h3 f3 a3 H3 R3 (by omega) (by omega) (by omega)
        exact ⟨h', f', a', e', H', R', zr_Ft F3 F'⟩
      · refine ⟨h3, f3, a3, ?_, H3, R3, F3⟩
        rw [decide_eq_false (by omega), cond_false, zr_r8 H3, b1_s, zr_row H3 x (by omega), b1_s, if_neg e7, r3.2 x (by omega), zw_add, show (97 : Int) + (((ye_sp now.1 m k).getD x 0 : Int) - 97) = ((ye_sp now.1 m k).getD x 0 : Int) by omega]
    rw [fM_bruijnLetter_67, e2, b2, zqo_ge _ _ (by omega) (by omega), decide_eq_false (by omega), cond_false, e3, b2, e5, b2]
    cases b5 : yf_le (ye_sp now.1 m k) with
    | false =>
      rw [cond_false, show z_cmp .eq (Int32.ofInt 0) (Int32.ofInt 0) = true from rfl, cond_true]
      exact fin 0 (Nat.zero_le m) (by unfold yf_ma; rw [if_neg (by rw [b5]; decide)])
    | true =>
      rw [cond_true, show z_cmp .eq (Int32.ofInt 1) (Int32.ofInt 0) = false from rfl, cond_false, e6, b2]
      exact fin _ q6 (by unfold yf_ma; rw [if_pos b5])
theorem zn_bruijnE (Y : zy h now hist snap sv inp rep t) (ok : zv_ok now) (hN : 4100 ≤ N) (x y : Int) (hx : -2147483648 ≤ x ∧ x < 2147483648) (hy : -2147483648 ≤ y ∧ y < 2147483648) : (¬ yf_G now.1 x ∧ ∃ h', fM_bruijnLetter N 232 (Int32.ofInt x) (Int32.ofInt y) h = some (Int32.ofInt 0, h') ∧ zy h' now hist snap sv inp rep 1 ∧ zr_F h h') ∨ (yf_G now.1 x ∧ ¬ (0 ≤ y ∧ y < ((now.1 ^ x.toNat : Nat) : Int)) ∧ ∃ h', fM_bruijnLetter N 232 (Int32.ofInt x) (Int32.ofInt y) h = some (Int32.ofInt 0, h') ∧ zy h' now hist snap sv inp rep 2 ∧ zr_F h h') ∨ (yf_G now.1 x ∧ (0 ≤ y ∧ y < ((now.1 ^ x.toNat : Nat) : Int)) ∧ ∃ h', fM_bruijnLetter N 232 (Int32.ofInt x) (Int32.ofInt y) h = some (Int32.ofInt (yf_n now.1 x.toNat (now.1 ^ x.toNat) 0 y.toNat), h') ∧ zy h' now hist snap sv inp rep 0 ∧ zr_F h h') := by
  have o1 := ok.1
  obtain ⟨fl0, a0, H0, R0⟩ := id Y
  have thr : ∃ h', fM_bruijnLetter_26 N 232 (Int32.ofInt x) (Int32.ofInt y) (Int32.ofInt 1) h = some (Int32.ofInt 0, h') ∧ zy h' now hist snap sv inp rep 1 ∧ zr_F h h' := by
    obtain ⟨h1, e1, Y1, F1⟩ := zy_two1 (N := N) Y (Int32.ofInt 0)
    refine ⟨h1, ?_, Y1, F1⟩
    show b2 (fM_throwsOne2 N 232 (Int32.ofInt 1) (Int32.ofInt 0) h) _ = _
    rw [e1, b2]
    rfl
  unfold fM_bruijnLetter yf_G
  rw [zr_T H0, cond_true, zr_in N x 1 12 hx (by decide) (by decide), b2]
  by_cases e1 : 1 ≤ x ∧ x ≤ 12
  · obtain ⟨m, rfl⟩ : ∃ v : Nat, x = (v : Int) := ⟨x.toNat, by omega⟩
    obtain ⟨p, e2, p1, p2, p3⟩ := yd_power (N := N) (by omega) H0 R0.1.1 o1 (len := m) (by omega)
    rw [decide_eq_true e1, cond_true, show z_cmp .eq (Int32.ofInt 1) (Int32.ofInt 0) = false from rfl, cond_false, e2, b2, zqo_le _ _ (by omega) (by decide), show ((m : Int)).toNat = m from rfl]
    by_cases e3 : p ≤ 4096
    · have pw := p2.mp e3
      have pe := p3 e3
      refine Or.inr ?_
      rw [decide_eq_true (by omega), cond_true]
      unfold fM_bruijnLetter_26
      rw [show z_cmp .ne (Int32.ofInt 0) (Int32.ofInt 0) = false from rfl, cond_false, e2, b2, zw_sub, zr_in N y 0 ((p : Int) - 1) hy (by decide) (by omega), b2]
      by_cases e4 : 0 ≤ y ∧ y ≤ (p : Int) - 1
      · obtain ⟨v, rfl⟩ : ∃ v : Nat, y = (v : Int) := ⟨y.toNat, by omega⟩
        refine Or.inr ⟨⟨e1, pw⟩, by omega, ?_⟩
        rw [decide_eq_true e4, cond_true, show z_cmp .ne (Int32.ofInt 1) (Int32.ofInt 0) = true from rfl, cond_true]
        unfold fM_bruijnLetter_52 fM_bruijnLetter_53
        obtain ⟨h1, e5, ⟨fl, a, H, R⟩, F1⟩ := zy_two00 (N := N) Y
        obtain ⟨h2, f2, a2, e6, H2, R2, F2⟩ := zn_bruijn67E (N := N) hN ok (m := m) (by omega) pw (now.1 ^ m) N 0 v h1 fl a H R (Nat.zero_add _) (by omega) (by omega)
        refine ⟨h2, ?_, ⟨f2, a2, H2, R2⟩, zr_Ft F1 F2⟩
        rw [e5, b2, show z_cmp .eq (Int32.ofInt 0) (Int32.ofInt 0) = true from rfl, cond_true]
        exact e6
      · refine Or.inl ⟨⟨e1, pw⟩, by omega, ?_⟩
        obtain ⟨h1, e5, Y1, F1⟩ := zy_two01 (N := N) Y
        refine ⟨h1, ?_, Y1, F1⟩
        rw [decide_eq_false e4, cond_false, show z_cmp .ne (Int32.ofInt 0) (Int32.ofInt 0) = false from rfl, cond_false]
        unfold fM_bruijnLetter_53
        rw [e5, b2]
        rfl
    · refine Or.inl ⟨fun z => e3 (p2.mpr z.2), ?_⟩
      rw [decide_eq_false (by omega), cond_false]
      exact thr
  · refine Or.inl ⟨fun z => e1 z.1, ?_⟩
    rw [decide_eq_false e1, cond_false, show z_cmp .eq (Int32.ofInt 0) (Int32.ofInt 0) = true from rfl, cond_true]
    exact thr
end YFA
/-- as yA_thr, where the class has changed its trial word -/
theorem yf_thr {h h1 : zH} {now snap : zA} {hist : List zA} {sv t : Int} {inp : List Nat} {rep rep' : zvP} {hs : List zX} {pc : Nat} {X : Option ((Int32 ⊕ Nat) × zH)} {G : Int32 → zH → Option (Int32 × zH)} {Q : zH → Option (Int32 × zH)} {k : Nat} (Y : zy h now hist snap sv inp rep' t) (o : ∃ o, h[243]? = some (103, [o])) (V : zv h1 now hist snap sv inp rep) (F : zc_F h h1) (e : X = some (.inr k, h1)) (c : Int) (hc : (z_catch za_nc hs pc k).map (fun w => w.2.2) = some (Int32.ofInt c)) (c1 : 1 ≤ c ∧ c ≤ 2) (r : ∀ g, zy g now hist snap sv inp rep' t → ∃ g', Q g = some (Int32.ofInt 0, g') ∧ zy g' now hist snap sv inp rep' c ∧ zr_F g g') (hsv : sv = 0 ∨ sv = 1) (hr : rep'.1 = rep.1) (hl : rep.1.length ≤ 240) : yA_T (bH hs pc X G) Q :=
  yA_thr (zy_frame Y F) (by rw [F.2 243 (by decide)]; exact o) V e c hc c1 r hsv hr hl
theorem yA_bruijnE {N : Nat} {h : zH} {c : Int} (J : yA h c) (hN : 1000001 ≤ N) (x : Int) (hx : -2147483648 ≤ x ∧ x < 2147483648) (y : Int) (hy : -2147483648 ≤ y ∧ y < 2147483648) : yA_T (fL_bruijnLetter N 0 (Int32.ofInt x) (Int32.ofInt y) 243 h) (fM_bruijnLetter N 232 (Int32.ofInt x) (Int32.ofInt y)) := by
  obtain ⟨now, hist, snap, sv, inp, rep, rep', V, Y, hsv, hr, hl, o⟩ := J
  have ok := (zv_open V).1
  rcases zk_bruijnE (N := N) V hN x y hx hy with ⟨p1, e⟩ | ⟨p1, p2, h1, e, V1, F1⟩ | ⟨p1, p2, h1, e, V1, F1⟩
  · exact yA_thr Y o V e 1 rfl (by decide) (fun g Yg => by
      rcases zn_bruijnE (N := N) Yg ok (by omega) x y hx hy with ⟨q1, q⟩ | ⟨q1, q2, q⟩ | ⟨q1, q2, q⟩
      · exact q
      · exact absurd q1 p1
      · exact absurd q1 p1) hsv hr hl
  · exact yf_thr Y o V1 F1 e 2 rfl (by decide) (fun g Yg => by
      rcases zn_bruijnE (N := N) Yg ok (by omega) x y hx hy with ⟨q1, q⟩ | ⟨q1, q2, q⟩ | ⟨q1, q2, q⟩
      · exact absurd p1 q1
      · exact q
      · exact absurd q2 p2) hsv hr hl
  · exact yA_ret Y o V1 F1 e (fun g Yg => by
      rcases zn_bruijnE (N := N) Yg ok (by omega) x y hx hy with ⟨q1, q⟩ | ⟨q1, q2, q⟩ | ⟨q1, q2, q⟩
      · exact absurd p1 q1
      · exact absurd p2 q2
      · exact q) hsv hr hl
