/-! rankOf, exact on both sides. -/
theorem ye_call {L : Nat} (hL : 2 ≤ L ∧ L ≤ 9) : ye_chk L = true := by
  rcases (show L = 2 ∨ L = 3 ∨ L = 4 ∨ L = 5 ∨ L = 6 ∨ L = 7 ∨ L = 8 ∨ L = 9 by omega) with e | e | e | e | e | e | e | e
  · rw [e]; exact ye_c2
  · rw [e]; exact ye_c3
  · rw [e]; exact ye_c4
  · rw [e]; exact ye_c5
  · rw [e]; exact ye_c6
  · rw [e]; exact ye_c7
  · rw [e]; exact ye_c8
  · rw [e]; exact ye_c9
theorem ye_facts {L m : Nat} (hL : 2 ≤ L ∧ L ≤ 9) (hm : 1 ≤ m ∧ m ≤ 12) (hp : L ^ m ≤ 4096) : ye_srt (ye_D L m) = true ∧ (ye_D L m).filter (fun w => decide (w.length = m)) = ((List.range (L ^ m)).map (ye_sp L m)).filter (ye_ly m) := by
  have c := ye_call hL
  unfold ye_chk at c
  have h : ye_ck L m = true := List.all_eq_true.mp c m (List.mem_range.mpr (by omega))
  unfold ye_ck at h
  rw [decide_eq_false (show ¬ m = 0 by omega), decide_eq_false (Nat.not_lt.mpr hp), Bool.false_or, Bool.false_or, Bool.and_eq_true, decide_eq_true_eq, ye_Df_eq, ye_sa_nil] at h
  exact h
theorem ye_hd {w : List Nat} : ∀ {D : List (List Nat)}, ye_srt (w :: D) = true → ∀ u ∈ D, zw_cmp w u = -1 := by
  intro D
  induction D generalizing w with
  | nil => intro _ u hu; cases hu
  | cons b D ih =>
    intro h u hu
    rw [ye_srt, Bool.and_eq_true, decide_eq_true_eq] at h
    rcases List.mem_cons.mp hu with e | e
    · rw [e]
      exact h.1
    · exact zm_tr w b u h.1 (ih h.2 u e)
theorem ye_tl {w : List Nat} {D : List (List Nat)} (h : ye_srt (w :: D) = true) : ye_srt D = true := by
  cases D with
  | nil => rfl
  | cons b D =>
    rw [ye_srt, Bool.and_eq_true] at h
    exact h.2
theorem ye_cf (W : List Nat) (m : Nat) : ∀ (D : List (List Nat)) (x : Nat), ye_srt D = true → ye_c W m D x = x + ((D.filter (fun w => decide (w.length = m))).filter (fun w => decide (zw_cmp w W < 0))).length := by
  intro D
  induction D with
  | nil => intro x _; rfl
  | cons w D ih =>
    intro x h
    rw [ye_c]
    by_cases e : zw_cmp w W < 0
    · rw [if_pos e, ih _ (ye_tl h)]
      by_cases e2 : w.length = m
      · rw [if_pos e2, List.filter_cons_of_pos (p := fun w : List Nat => decide (w.length = m)) (decide_eq_true e2), List.filter_cons_of_pos (p := fun w : List Nat => decide (zw_cmp w W < 0)) (decide_eq_true e), List.length_cons]
        omega
      · rw [if_neg e2, List.filter_cons_of_neg (p := fun w : List Nat => decide (w.length = m)) (by rw [decide_eq_false e2]; decide)]
    · rw [if_neg e]
      have z : ((w :: D).filter (fun w => decide (w.length = m))).filter (fun w => decide (zw_cmp w W < 0)) = [] := by
        rw [List.filter_eq_nil_iff]
        intro u hu
        rw [decide_eq_true_eq]
        intro hc
        have hu := (List.mem_filter.mp hu).1
        have cu : zw_cmp u W = -1 := by
          rcases zw_cmpb u W with y | y | y <;> omega
        rcases List.mem_cons.mp hu with y | y
        · rw [y] at hc
          exact e hc
        · have := zm_tr w u W (ye_hd h u y) cu
          omega
      rw [z]
      rfl
theorem ye_spl (L : Nat) : ∀ m k, (ye_sp L m k).length = m := by
  intro m
  induction m with
  | zero => intro k; rfl
  | succ m ih =>
    intro k
    rw [ye_sp, List.length_append, ih]
    rfl
theorem ye_spv {L : Nat} (hL : 2 ≤ L ∧ L ≤ 9) : ∀ m k, ∀ v ∈ ye_sp L m k, 97 ≤ v ∧ v < 97 + L := by
  intro m
  induction m with
  | zero => intro k v hv; cases hv
  | succ m ih =>
    intro k v hv
    rw [ye_sp, List.mem_append, List.mem_singleton] at hv
    have := Nat.mod_lt k (show L > 0 by omega)
    rcases hv with hv | hv
    · exact ih _ v hv
    · omega
theorem ye_ap : ∀ (u v : List Nat) (x y : Nat), u.length = v.length → zw_cmp (u ++ [x]) (v ++ [y]) = if u = v then (if x = y then 0 else if x < y then -1 else 1) else zw_cmp u v := by
  intro u
  induction u with
  | nil =>
    intro v x y h
    cases v with
    | nil =>
      rw [if_pos rfl]
      show (if x = y then zw_cmp [] [] else if x < y then -1 else 1) = _
      rfl
    | cons b v => cases h
  | cons a u ih =>
    intro v x y h
    cases v with
    | nil => cases h
    | cons b v =>
      have h : u.length = v.length := Nat.succ.inj h
      show (if a = b then zw_cmp (u ++ [x]) (v ++ [y]) else if a < b then -1 else 1) = _
      rw [ih v x y h, zw_cmp]
      by_cases e : a = b
      · rw [if_pos e, if_pos e, e]
        by_cases e2 : u = v
        · rw [if_pos e2, if_pos (show b :: u = b :: v by rw [e2])]
        · rw [if_neg e2, if_neg (show ¬ b :: u = b :: v from fun z => e2 (List.cons.inj z).2)]
      · rw [if_neg e, if_neg e, if_neg (show ¬ a :: u = b :: v from fun z => e (List.cons.inj z).1)]
theorem ye_div {L k q : Nat} (hL : 0 < L) : k < q ↔ k / L < q / L ∨ (k / L = q / L ∧ k % L < q % L) := by
  have a := Nat.div_add_mod k L
  have b := Nat.div_add_mod q L
  have c := Nat.mod_lt k hL
  have d := Nat.mod_lt q hL
  rcases Nat.lt_trichotomy (k / L) (q / L) with h | h | h
  · have : L * (k / L + 1) ≤ L * (q / L) := Nat.mul_le_mul_left L h
    rw [Nat.mul_add] at this
    exact ⟨fun _ => Or.inl h, fun _ => by omega⟩
  · rw [h] at a
    exact ⟨fun _ => Or.inr ⟨h, by omega⟩, fun _ => by omega⟩
  · have : L * (q / L + 1) ≤ L * (k / L) := Nat.mul_le_mul_left L h
    rw [Nat.mul_add] at this
    exact ⟨fun _ => by omega, fun x => by omega⟩
theorem ye_ord {L : Nat} (hL : 2 ≤ L) : ∀ m k q, k < L ^ m → q < L ^ m → (zw_cmp (ye_sp L m k) (ye_sp L m q) < 0 ↔ k < q) := by
  intro m
  induction m with
  | zero =>
    intro k q h1 h2
    have h1 : k < 1 := h1
    have h2 : q < 1 := h2
    exact ⟨fun x => absurd x (by show ¬ ((0 : Int) < 0); omega), fun x => by omega⟩
  | succ m ih =>
    intro k q h1 h2
    rw [Nat.pow_succ] at h1 h2
    have k1 : k / L < L ^ m := Nat.div_lt_of_lt_mul (by rw [Nat.mul_comm]; exact h1)
    have q1 : q / L < L ^ m := Nat.div_lt_of_lt_mul (by rw [Nat.mul_comm]; exact h2)
    have i1 := ih (k / L) (q / L) k1 q1
    have i2 := ih (q / L) (k / L) q1 k1
    rw [ye_sp, ye_sp, ye_ap _ _ _ _ (by rw [ye_spl, ye_spl]), ye_div (k := k) (q := q) (show 0 < L by omega)]
    by_cases e : ye_sp L m (k / L) = ye_sp L m (q / L)
    · have s0 := zm_self (ye_sp L m (q / L))
      have n1 : ¬ k / L < q / L := fun x => by
        have := i1.mpr x
        rw [e, s0] at this
        omega
      have n2 : ¬ q / L < k / L := fun x => by
        have := i2.mpr x
        rw [← e, zm_self] at this
        omega
      rw [if_pos e]
      by_cases e1 : k % L = q % L
      · rw [if_pos (by omega)]
        exact ⟨fun x => absurd x (by omega), fun x => by omega⟩
      · rw [if_neg (by omega)]
        by_cases e2 : k % L < q % L
        · rw [if_pos (by omega)]
          exact ⟨fun _ => Or.inr ⟨by omega, e2⟩, fun _ => by omega⟩
        · rw [if_neg (by omega)]
          exact ⟨fun x => absurd x (by omega), fun x => by omega⟩
    · rw [if_neg e, i1]
      constructor
      · exact Or.inl
      · intro x
        rcases x with x | x
        · exact x
        · exact absurd (by rw [x.1]) e
theorem ye_nf (L m : Nat) : ∀ c k x, ye_n L m c k x = x + ((List.range' k c).filter (fun j => ye_ly m (ye_sp L m j))).length := by
  intro c
  induction c with
  | zero => intro k x; rfl
  | succ c ih =>
    intro k x
    rw [ye_n, ih, List.range'_succ]
    by_cases e : ye_ly m (ye_sp L m k) = true
    · rw [if_pos e, List.filter_cons_of_pos (p := fun j => ye_ly m (ye_sp L m j)) e, List.length_cons]
      omega
    · rw [if_neg e, List.filter_cons_of_neg (p := fun j => ye_ly m (ye_sp L m j)) e]
theorem ye_cut (P : Nat → Bool) (q : Nat) : ∀ d, ((List.range (q + d)).filter (fun k => decide (k < q) && P k)).length = ((List.range q).filter P).length := by
  intro d
  induction d with
  | zero =>
    congr 1
    refine List.filter_congr (fun k hk => ?_)
    have hk : k < q := List.mem_range.mp hk
    show (decide (k < q) && P k) = P k
    rw [decide_eq_true hk, Bool.true_and]
  | succ d ih =>
    rw [← Nat.add_assoc, List.range_succ, List.filter_append, List.length_append, ih, List.filter_cons_of_neg (by rw [decide_eq_false (by omega), Bool.false_and]; decide)]
    rfl
/-- the two counts -/
theorem ye_eq {L m q : Nat} (hL : 2 ≤ L ∧ L ≤ 9) (hm : 1 ≤ m ∧ m ≤ 12) (hp : L ^ m ≤ 4096) (hq : q < L ^ m) : ye_c (ye_sp L m q) m (ye_D L m) 0 = ye_n L m q 0 0 := by
  obtain ⟨f1, f2⟩ := ye_facts hL hm hp
  rw [ye_cf _ _ _ _ f1, f2, ye_nf, ← List.range_eq_range', List.filter_filter, List.filter_map, List.length_map, ← ye_cut (fun j => ye_ly m (ye_sp L m j)) q (L ^ m - q), show q + (L ^ m - q) = L ^ m by omega]
  congr 2
  refine List.filter_congr (fun k hk => ?_)
  have hk := List.mem_range.mp hk
  show (decide (zw_cmp (ye_sp L m k) (ye_sp L m q) < 0) && ye_ly m (ye_sp L m k)) = (decide (k < q) && ye_ly m (ye_sp L m k))
  exact congrArg (fun z => z && ye_ly m (ye_sp L m k)) (decide_eq_decide.mpr (ye_ord hL.1 m k q hk hq))
section YEA
variable {N : Nat} {h : zH} {now snap : zA} {hist : List zA} {sv t : Int} {inp : List Nat} {rep : zvP}
theorem zk_small14E (hN : 3000 ≤ N) {b e m : Nat} (hbe : b ≤ e) (he : e ≤ now.2.1.length) (hm : 1 ≤ m ∧ m ≤ 12) : ∀ (c f i x : Nat) (h : zH) (w : List Nat), zv h now hist snap sv inp rep → zw_W h 230 121 w → (∀ v ∈ w, 97 ≤ v ∧ v < 97 + now.1) → w.length ≤ m → i + c = m * 4096 → c < f → ∃ h', fB_countSmaller_14 N f 0 (Int32.ofInt (b : Int)) (Int32.ofInt (e : Int)) (Int32.ofInt (m : Int)) (Int32.ofInt (x : Int)) (Int32.ofInt (i : Int)) h = some (Int32.ofInt (ye_c (zw_p now.2.1 b e) m (ye_l m (97 + now.1 - 1) c w) x : Int), h') ∧ zv h' now hist snap sv inp rep ∧ zc_F h h' := by
  intro c
  induction c with
  | zero =>
    intro f i x h w V W hw hl h1 h2
    obtain ⟨g, rfl⟩ : ∃ g, f = g + 1 := ⟨f - 1, by omega⟩
    refine ⟨h, ?_, V, zc_Fr h⟩
    rw [fB_countSmaller_14, zw_mul, zqo_ge _ _ (by omega) (by omega), decide_eq_true (by omega), cond_true]
    rfl
  | succ c ih =>
    intro f i x h w V W hw hl h1 h2
    obtain ⟨g, rfl⟩ : ∃ g, f = g + 1 := ⟨f - 1, by omega⟩
    have ok := (zv_open V).1
    have o1 := ok.1
    rw [fB_countSmaller_14, zw_mul, zqo_ge _ _ (by omega) (by omega), decide_eq_false (by omega), cond_false, zv_r06 V, b1_s, zw_z W, b1_s, zqo_le _ _ (by omega) (by decide), ye_l]
    by_cases e0 : w.length = 0
    · refine ⟨h, ?_, V, zc_Fr h⟩
      rw [decide_eq_true (by omega), cond_true, if_pos e0]
      rfl
    · have ord := zw_order (N := N) W (zv_txt V) (by omega) (Nat.le_refl w.length) he (Nat.zero_le w.length) hbe
      have ord : fW_order N 230 (Int32.ofInt 0) (Int32.ofInt (w.length : Int)) (1 + 1) (Int32.ofInt (b : Int)) (Int32.ofInt (e : Int)) h = _ := ord
      have cb := zw_cmpb (zw_p w 0 w.length) (zw_p now.2.1 b e)
      rw [decide_eq_false (by omega), cond_false, b1_s, b1_s, zw_z W, b1_s, zv_r00 V, b1_s, zv_t V, b1_s, ord, b2, zqo_lt _ _ (by omega) (by decide), zw_pall, if_neg e0, ye_c]
      by_cases e1 : zw_cmp w (zw_p now.2.1 b e) < 0
      · obtain ⟨h3, e3, V3, W3, F3⟩ := zv_step V hN W hm.2 hw
        have nx := yd_nxL (m := m) (by omega) hl (show 1 ≤ now.1 by omega) hw
        have s78 : ∀ z : Int32, fB_countSmaller_78 N (fB_countSmaller_14 N g) 0 (Int32.ofInt (b : Int)) (Int32.ofInt (e : Int)) (Int32.ofInt (m : Int)) z (Int32.ofInt (i : Int)) h = fB_countSmaller_14 N g 0 (Int32.ofInt (b : Int)) (Int32.ofInt (e : Int)) (Int32.ofInt (m : Int)) z (Int32.ofInt ((i + 1 : Nat) : Int)) h3 := fun z => by
          unfold fB_countSmaller_78
          rw [e3, zh_inc]
        rw [decide_eq_true e1, cond_true, zv_r06 V, b1_s, zw_z W, b1_s, s78, s78, zqo_ne _ _ (by omega) (by omega), if_pos e1]
        by_cases e2 : w.length = m
        · obtain ⟨h4, e4, V4, F4⟩ := ih g (i + 1) (x + 1) h3 _ V3 W3 nx.2 nx.1 (by omega) (by omega)
          refine ⟨h4, ?_, V4, zc_Ft F3 F4⟩
          rw [decide_eq_true (by omega), Bool.not_true, cond_false, if_pos e2, zh_inc]
          exact e4
        · obtain ⟨h4, e4, V4, F4⟩ := ih g (i + 1) x h3 _ V3 W3 nx.2 nx.1 (by omega) (by omega)
          refine ⟨h4, ?_, V4, zc_Ft F3 F4⟩
          rw [decide_eq_false (by omega), Bool.not_false, cond_true, if_neg e2]
          exact e4
      · refine ⟨h, ?_, V, zc_Fr h⟩
        rw [decide_eq_false e1, cond_false, if_neg e1]
/-- the class's answer -/
def ye_rk (L : Nat) (T : List Nat) (x : Int) : Int := if L ^ (zw_lE T (zw_bF T x).toNat - (zw_bF T x).toNat) ≤ 4096 then (ye_c (zw_p T (zw_bF T x).toNat (zw_lE T (zw_bF T x).toNat)) (zw_lE T (zw_bF T x).toNat - (zw_bF T x).toNat) (ye_D L (zw_lE T (zw_bF T x).toNat - (zw_bF T x).toNat)) 0 : Int) else -1
theorem zk_rankOfE (V : zv h now hist snap sv inp rep) (hN : 1000001 ≤ N) (x : Int) (hx : -2147483648 ≤ x ∧ x < 2147483648) : (zw_bF now.2.1 x = -1 ∧ fB_rankOf N 0 (Int32.ofInt x) h = some (.inr 2, h)) ∨ (zw_bF now.2.1 x ≠ -1 ∧ ∃ h', fB_rankOf N 0 (Int32.ofInt x) h = some (.inl (Int32.ofInt (ye_rk now.1 now.2.1 x)), h') ∧ zv h' now hist snap sv inp rep ∧ zc_F h h') := by
  have ok := (zv_open V).1
  have o1 := ok.1
  have o2 := ok.2.1
  have bb := zw_bFb now.2.1 x
  unfold fB_rankOf ye_rk
  rw [zv_T0 V, cond_true, zv_checked V (by omega) x hx]
  by_cases e0 : zw_bF now.2.1 x = -1
  · refine Or.inl ⟨e0, ?_⟩
    rw [if_pos e0]
    rfl
  · obtain ⟨b, hb⟩ : ∃ b : Nat, zw_bF now.2.1 x = (b : Int) := ⟨(zw_bF now.2.1 x).toNat, by omega⟩
    refine Or.inr ⟨e0, ?_⟩
    rw [if_neg e0]
    rw [hb] at bb ⊢
    have hbl : b < now.2.1.length := by omega
    have le := zw_lEb hbl
    rw [show ((b : Int)).toNat = b from rfl]
    show ∃ h', b1 (fR h 0 0 0) _ = _ ∧ _
    rw [zv_r00 V, b1_s, zv_t V, b1_s, zw_lyn (zv_txt V) (by omega) hbl, b2, zv_r00 V, b1_s, zv_L1 V, b1_s, zw_sub, show ((zw_lE now.2.1 b : Nat) : Int) - (b : Int) = ((zw_lE now.2.1 b - b : Nat) : Int) by omega, yd_fits (by omega) o1 (by omega), b2]
    by_cases e : now.1 ^ (zw_lE now.2.1 b - b) ≤ 4096
    · have m12 := yd_12 o1.1 e
      obtain ⟨h1, e1, V1, W1, F1⟩ := zv_start (N := N) V
      obtain ⟨h2, e2, V2, F2⟩ := zk_small14E (N := N) (by omega) (b := b) (e := zw_lE now.2.1 b) (m := zw_lE now.2.1 b - b) (by omega) le.2 (by omega) ((zw_lE now.2.1 b - b) * 4096) N 0 0 h1 _ V1 W1 (fun v hv => by
        rw [List.mem_singleton] at hv
        omega) (by show 1 ≤ zw_lE now.2.1 b - b; omega) (Nat.zero_add _) (by omega)
      have e2 : fB_countSmaller_14 N N 0 (Int32.ofInt (b : Int)) (Int32.ofInt ((zw_lE now.2.1 b : Nat) : Int)) (Int32.ofInt ((zw_lE now.2.1 b - b : Nat) : Int)) (Int32.ofInt 0) (Int32.ofInt 0) h1 = _ := e2
      refine ⟨h2, ?_, V2, zc_Ft F1 F2⟩
      rw [decide_eq_true e, cond_true, show z_cmp .ne (Int32.ofInt 1) (Int32.ofInt 0) = true from rfl, cond_true, if_pos e]
      unfold fB_countSmaller
      rw [zv_T0 V, cond_true, e1, b2, zw_sub, show ((zw_lE now.2.1 b : Nat) : Int) - (b : Int) = ((zw_lE now.2.1 b - b : Nat) : Int) by omega, e2, b2]
      rfl
    · refine ⟨h, ?_, V, zc_Fr h⟩
      rw [decide_eq_false e, cond_false, show z_cmp .ne (Int32.ofInt 0) (Int32.ofInt 0) = false from rfl, cond_false, if_neg e]
end YEA
section YEB
variable {N : Nat} {h : zH} {fl : Nat → Int} {a : Nat → Nat → Int} {L : Nat}
theorem ye_number5 (H : zr h fl a) (e : a 233 0 = (L : Int)) (hL : 2 ≤ L ∧ L ≤ 9) {T : List Nat} (tx : zr_tx a T) (hT : T.length ≤ 120) (hv : ∀ v ∈ T, 97 ≤ v ∧ v < 97 + L) {b m : Nat} (hb : b + m ≤ T.length) (hm : L ^ m ≤ 4096) : ∀ (c f i x : Nat), i + c = m → c < f → x + 1 ≤ L ^ i → ye_sp L i x = zw_p T b (b + i) → ∃ q : Nat, fM_numberOf_5 N f 232 (Int32.ofInt (b : Int)) (Int32.ofInt (m : Int)) (Int32.ofInt (x : Int)) (Int32.ofInt ((b + i : Nat) : Int)) h = some (Int32.ofInt (q : Int), h) ∧ q + 1 ≤ L ^ m ∧ ye_sp L m q = zw_p T b (b + m) := by
  intro c
  induction c with
  | zero =>
    intro f i x h1 h2 h3 h4
    obtain ⟨g, rfl⟩ : ∃ g, f = g + 1 := ⟨f - 1, by omega⟩
    have : i = m := by omega
    subst this
    refine ⟨x, ?_, h3, h4⟩
    rw [fM_numberOf_5, zw_add, zqo_ge _ _ (by omega) (by omega), decide_eq_true (by omega), cond_true]
  | succ c ih =>
    intro f i x h1 h2 h3 h4
    obtain ⟨g, rfl⟩ : ∃ g, f = g + 1 := ⟨f - 1, by omega⟩
    have vi := zm_get (P := fun v => 97 ≤ v ∧ v < 97 + L) hv (j := b + i) (by omega)
    have m2 : L ^ (i + 1) ≤ L ^ m := Nat.pow_le_pow_right (by omega) (by omega)
    have g3 : fAI h 233 100 (Int32.ofInt 3 + Int32.ofInt ((b + i : Nat) : Int)) = some (Int32.ofInt ((T.getD (b + i) 0 : Int) - 97)) := by
      rw [zw_add, show (3 : Int) + ((b + i : Nat) : Int) = ((3 + (b + i) : Nat) : Int) by omega, zr_w H _ (by omega), tx.2 _ (by omega)]
    have nx : (L : Int) * (x : Int) + ((T.getD (b + i) 0 : Int) - 97) = ((L * x + (T.getD (b + i) 0 - 97) : Nat) : Int) := by
      rw [Int.natCast_add, Int.natCast_mul]
      omega
    have lt : L * x + (T.getD (b + i) 0 - 97) + 1 ≤ L ^ (i + 1) := by
      rw [Nat.pow_succ, Nat.mul_comm (L ^ i) L]
      have : L * (x + 1) ≤ L * L ^ i := Nat.mul_le_mul_left _ h3
      rw [Nat.mul_add] at this
      omega
    have sp : ye_sp L (i + 1) (L * x + (T.getD (b + i) 0 - 97)) = zw_p T b (b + (i + 1)) := by
      have d1 : (L * x + (T.getD (b + i) 0 - 97)) / L = x := by
        rw [Nat.mul_add_div (by omega), Nat.div_eq_of_lt (by omega), Nat.add_zero]
      have d2 : (L * x + (T.getD (b + i) 0 - 97)) % L = T.getD (b + i) 0 - 97 := by
        rw [Nat.mul_add_mod, Nat.mod_eq_of_lt (by omega)]
      rw [ye_sp, d1, d2, h4, show 97 + (T.getD (b + i) 0 - 97) = T.getD (b + i) 0 by omega]
      unfold zw_p
      rw [show b + i - b = i by omega, show b + (i + 1) - b = i + 1 by omega, List.take_succ, List.getElem?_drop, List.getD_eq_getElem?_getD, List.getElem?_eq_getElem (show b + i < T.length by omega)]
      rfl
    rw [fM_numberOf_5, zw_add, zqo_ge _ _ (by omega) (by omega), decide_eq_false (by omega), cond_false, zr_r0 H, b1_s, yd_L H e, b1_s, b1_s, g3, b1_s, zw_mul, zw_add, nx, zh_inc]
    exact ih g (i + 1) _ (by omega) (by omega) lt sp
theorem ye_number (hN : 2000 ≤ N) (H : zr h fl a) (e : a 233 0 = (L : Int)) (hL : 2 ≤ L ∧ L ≤ 9) {T : List Nat} (tx : zr_tx a T) (hT : T.length ≤ 120) (hv : ∀ v ∈ T, 97 ≤ v ∧ v < 97 + L) {b m : Nat} (hb : b + m ≤ T.length) (hm : L ^ m ≤ 4096) : ∃ q : Nat, fM_numberOf N 232 (Int32.ofInt (b : Int)) (Int32.ofInt (m : Int)) h = some (Int32.ofInt (q : Int), h) ∧ q + 1 ≤ L ^ m ∧ ye_sp L m q = zw_p T b (b + m) := by
  obtain ⟨q, e1, q2⟩ := ye_number5 (N := N) H e hL tx hT hv hb hm m N 0 0 (Nat.zero_add _) (by omega) (by rw [Nat.pow_zero]; decide) (by rw [Nat.add_zero, zw_p0 (Nat.le_refl b)]; rfl)
  refine ⟨q, ?_, q2⟩
  unfold fM_numberOf
  rw [zr_T H, cond_true]
  exact e1
theorem ye_spells12 (hL : 2 ≤ L ∧ L ≤ 9) : ∀ (c f k : Nat) (h : zH) (a : Nat → Nat → Int), zr h fl a → a 233 0 = (L : Int) → c ≤ 120 → k ≤ 40000 → c < f → ∃ h' a', fM_spells_12 N f 232 (Int32.ofInt (k : Int)) (Int32.ofInt ((c : Int) - 1)) h = some ((), h') ∧ zr h' fl a' ∧ zr_F h h' ∧ (∀ p j, (p ≠ 239 ∨ c ≤ j) → a' p j = a p j) ∧ ∀ j, j < c → a' 239 j = ((ye_sp L c k).getD j 0 : Int) - 97 := by
  intro c
  induction c with
  | zero =>
    intro f k h a H e hc hk h2
    obtain ⟨g, rfl⟩ : ∃ g, f = g + 1 := ⟨f - 1, by omega⟩
    refine ⟨h, a, ?_, H, zr_Fr h, fun _ _ _ => rfl, fun j hj => absurd hj (Nat.not_lt_zero j)⟩
    rw [fM_spells_12, zqo_lt _ _ (by omega) (by decide), decide_eq_true (by omega), cond_true]
  | succ c ih =>
    intro f k h a H e hc hk h2
    obtain ⟨g, rfl⟩ : ∃ g, f = g + 1 := ⟨f - 1, by omega⟩
    have l1 := yd_L H e
    have ml := Nat.mod_lt k (show L > 0 by omega)
    have dl : k / L ≤ k := Nat.div_le_self _ _
    obtain ⟨h5, e5, H5, F5⟩ := zr_p H 239 c (by decide) (by decide) (by show c < 130; omega) ((k % L : Nat) : Int)
    have e5 : fAS h 239 100 (Int32.ofInt (c : Int)) (.int (Int32.ofInt ((k % L : Nat) : Int))) = some h5 := e5
    have l5 : fAI h5 233 100 (Int32.ofInt 0) = some (Int32.ofInt (L : Int)) := yd_L H5 ((zr_vn a _ (Or.inl (by decide))).trans e)
    obtain ⟨h6, a6, e6, H6, F6, p6, q6⟩ := ih g (k / L) h5 _ H5 ((zr_vn a _ (Or.inl (by decide))).trans e) (by omega) (by omega) (by omega)
    refine ⟨h6, a6, ?_, H6, zr_Ft F5 F6, fun p j hp => (p6 p j (by omega)).trans (zr_vn a _ (by omega)), fun j hj => ?_⟩
    · rw [fM_spells_12, zqo_lt _ _ (by omega) (by decide), decide_eq_false (by omega), cond_false, zr_r8 H, b1_s, zr_r0 H, b1_s, l1, b1_s, if_neg (zw_n0 _ (by omega) (by omega)), zw_modi _ _ (by omega) (by omega), show ((c + 1 : Nat) : Int) - 1 = (c : Int) by omega, e5, b1_s, zr_r0 H5, b1_s, l5, b1_s, if_neg (zw_n0 _ (by omega) (by omega)), zw_div _ _ (by omega) (by omega), zw_add, show (c : Int) + -1 = (c : Int) - 1 by omega]
      exact e6
    · have sl := ye_spl L c (k / L)
      by_cases ej : j = c
      · have gl : (ye_sp L (c + 1) k).getD c 0 = 97 + k % L := by
          have := yj_putl (ye_sp L c (k / L)) (97 + k % L)
          rw [sl] at this
          exact this
        rw [ej, p6 239 c (Or.inr (Nat.le_refl c)), zr_vs, gl]
        omega
      · have gl : (ye_sp L (c + 1) k).getD j 0 = (ye_sp L c (k / L)).getD j 0 := yj_put (ye_sp L c (k / L)) (97 + k % L) (by omega)
        rw [gl]
        exact q6 j (by omega)
/-- the row holds the number spelled -/
theorem ye_spells (hN : 2000 ≤ N) (H : zr h fl a) (e : a 233 0 = (L : Int)) (hL : 2 ≤ L ∧ L ≤ 9) {k m : Nat} (hm : 1 ≤ m ∧ m ≤ 120) (hk : k ≤ 40000) : ∃ h' fl' a', fM_spells N 232 (Int32.ofInt (k : Int)) (Int32.ofInt (m : Int)) h = some ((), h') ∧ zr h' fl' a' ∧ zr_F h h' ∧ zr_Q fl a fl' a' ∧ zr_rw fl' a' (ye_sp L m k) := by
  obtain ⟨h1, e1, H1, F1⟩ := zr_s H 14 rfl (m : Int)
  obtain ⟨h2, a2, e2, H2, F2, p2, q2⟩ := ye_spells12 (N := N) hL m N k h1 a H1 e (by omega) hk (by omega)
  have tl := ye_spl L m k
  refine ⟨h2, _, a2, ?_, H2, zr_Ft F1 F2, ⟨fun j hj => if_neg hj, fun p i h3 h4 => p2 p i (Or.inl h3)⟩, by rw [tl]; exact if_pos rfl, fun i hi => q2 i (by omega)⟩
  unfold fM_spells
  rw [zr_T H, cond_true, e1, b1_s, zw_sub]
  exact e2
/-- primitive and least: one factor -/
theorem ye_prle (hN : 2000 ≤ N) (H : zr h fl a) {T : List Nat} (r : zr_rw fl a T) (hT : 1 ≤ T.length ∧ T.length ≤ 120) (hv : ∀ v ∈ T, v < 256) : ∃ b c : Bool, fM_isPrimitiveRow N 232 h = some (cond b (Int32.ofInt 1) (Int32.ofInt 0), h) ∧ fM_isLeastRow N 232 h = some (cond c (Int32.ofInt 1) (Int32.ofInt 0), h) ∧ (b && c) = ye_ly T.length T := by
  obtain ⟨b, e, p⟩ := zr_prim2 (N := N) (by omega) H r hT.2 hv (by omega) (T.length - 1) N 1 (by omega) (by omega)
  obtain ⟨c, e2, p2⟩ := zr_lea2 (N := N) (by omega) H r hT.2 hv (by omega) (T.length - 1) N 1 (by omega) (by omega)
  refine ⟨b, c, ?_, ?_, ?_⟩
  · unfold fM_isPrimitiveRow
    rw [zr_T H, cond_true]
    exact e
  · unfold fM_isLeastRow
    rw [zr_T H, cond_true]
    exact e2
  · unfold ye_ly
    rw [Bool.eq_iff_iff, Bool.and_eq_true, decide_eq_true_eq, p, p2, zm_lyn (by omega)]
    constructor
    · rintro ⟨x, y⟩ j j1 j2
      rcases zm_roC T 0 j with z | z | z
      · exact z.2
      · exact absurd (zm_Es z.2) (x j j1 j2)
      · exact absurd z.2 (y j j1 j2)
    · intro x
      exact ⟨fun j j1 j2 z => zm_RE (x j j1 j2) (zm_Es z), fun j j1 j2 z => zm_Ri (zm_Rt z (x j j1 j2))⟩
end YEB
section YEC
variable {N : Nat} {h : zH} {now snap : zA} {hist : List zA} {sv t : Int} {inp : List Nat} {rep : zvP}
theorem zn_rank57E (hN : 3000 ≤ N) (ok : zv_ok now) {m q : Nat} (hm : 1 ≤ m ∧ m ≤ 12) (hq : q ≤ 4096) : ∀ (c f k x : Nat) (h : zH) (fl : Nat → Int) (a : Nat → Nat → Int), zr h fl a → zyR fl a now hist snap sv inp rep t → k + c = q → c < f → ∃ h' fl' a', fM_rankOf_57 N f 232 (Int32.ofInt (m : Int)) (Int32.ofInt (q : Int)) (Int32.ofInt (x : Int)) (Int32.ofInt (k : Int)) h = some (Int32.ofInt (ye_n now.1 m c k x : Int), h') ∧ zr h' fl' a' ∧ zyR fl' a' now hist snap sv inp rep t ∧ zr_F h h' := by
  intro c
  induction c with
  | zero =>
    intro f k x h fl a H R h1 h2
    obtain ⟨g, rfl⟩ : ∃ g, f = g + 1 := ⟨f - 1, by omega⟩
    refine ⟨h, fl, a, ?_, H, R, zr_Fr h⟩
    rw [fM_rankOf_57, zqo_ge _ _ (by omega) (by omega), decide_eq_true (by omega), cond_true]
    rfl
  | succ c ih =>
    intro f k x h fl a H R h1 h2
    obtain ⟨g, rfl⟩ : ∃ g, f = g + 1 := ⟨f - 1, by omega⟩
    obtain ⟨h3, f3, a3, e3, H3, F3, Q3, r3⟩ := ye_spells (N := N) (by omega) H R.1.1 ok.1 (k := k) (m := m) (by omega) (by omega)
    have l3 := ye_spl now.1 m k
    have v3 : ∀ v ∈ ye_sp now.1 m k, v < 256 := fun v hv => by
      have := ye_spv ok.1 m k v hv
      have := ok.1
      omega
    have R3 := zyR_Q R Q3
    obtain ⟨b4, b5, e4, e5, hb⟩ := ye_prle (N := N) (by omega) H3 r3 (by omega) v3
    rw [l3] at hb
    have fin : ∀ z : Nat, ∃ h' fl' a', fM_rankOf_57 N g 232 (Int32.ofInt (m : Int)) (Int32.ofInt (q : Int)) (Int32.ofInt (z : Int)) (Int32.ofInt ((k + 1 : Nat) : Int)) h3 = some (Int32.ofInt (ye_n now.1 m c (k + 1) z : Int), h') ∧ zr h' fl' a' ∧ zyR fl' a' now hist snap sv inp rep t ∧ zr_F h h' := fun z => by
      obtain ⟨h', f', a', e', H', R', F'⟩ := ih g (k + 1) z h3 f3 a3 H3 R3 (by omega) (by omega)
      exact ⟨h', f', a', e', H', R', zr_Ft F3 F'⟩
    rw [fM_rankOf_57, zqo_ge _ _ (by omega) (by omega), decide_eq_false (by omega), cond_false, e3, b2, e4, b2, ye_n, ← hb]
    cases b4 with
    | false =>
      rw [cond_false, show z_cmp .eq (Int32.ofInt 0) (Int32.ofInt 0) = true from rfl, cond_true, if_neg (by rw [Bool.false_and]; decide)]
      unfold fM_rankOf_90 fM_rankOf_91
      rw [zh_inc, zw_add, Int.add_zero]
      exact fin x
    | true =>
      rw [cond_true, show z_cmp .eq (Int32.ofInt 1) (Int32.ofInt 0) = false from rfl, cond_false, e5, b2]
      cases b5 with
      | false =>
        rw [cond_false, show z_cmp .eq (Int32.ofInt 0) (Int32.ofInt 0) = true from rfl, cond_true, if_neg (by decide)]
        unfold fM_rankOf_90 fM_rankOf_91
        rw [zh_inc, zw_add, Int.add_zero]
        exact fin x
      | true =>
        rw [cond_true, show z_cmp .eq (Int32.ofInt 1) (Int32.ofInt 0) = false from rfl, cond_false, if_pos (by decide)]
        unfold fM_rankOf_91
        rw [zh_inc, zh_inc]
        exact fin (x + 1)
theorem zn_rankOfE (Y : zy h now hist snap sv inp rep t) (ok : zv_ok now) (hN : 4100 ≤ N) (x : Int) (hx : -2147483648 ≤ x ∧ x < 2147483648) : (zw_bF now.2.1 x = -1 ∧ ∃ h', fM_rankOf N 232 (Int32.ofInt x) h = some (Int32.ofInt 0, h') ∧ zy h' now hist snap sv inp rep 1 ∧ zr_F h h') ∨ (zw_bF now.2.1 x ≠ -1 ∧ ∃ h', fM_rankOf N 232 (Int32.ofInt x) h = some (Int32.ofInt (ye_rk now.1 now.2.1 x), h') ∧ zy h' now hist snap sv inp rep 0 ∧ zr_F h h') := by
  have o1 := ok.1
  have o2 := ok.2.1
  have o5 := zm_fsl now.2.1
  obtain ⟨fl0, a0, H0, R0⟩ := id Y
  unfold fM_rankOf ye_rk
  rw [zr_T H0, cond_true]
  rcases zy_throwsFactor (N := N) Y ok (by omega) x hx with ⟨e, h1, e1, Y1, F1⟩ | ⟨k, b, ek, hk, eb, h1, fl, a, e1, H, R, a1, a2, F1⟩
  · refine Or.inl ⟨e, h1, ?_, Y1, F1⟩
    rw [e1, b2]
    rfl
  · have bb := zw_bFb now.2.1 x
    have hbl : b < now.2.1.length := by omega
    have le := zw_lEb hbl
    have g3 : fAI h1 240 100 (Int32.ofInt ((k : Int) + 1)) = some (Int32.ofInt (a 240 (k + 1))) := zr_st H (k + 1) (by omega)
    refine Or.inr ⟨by omega, ?_⟩
    rw [eb, show ((b : Int)).toNat = b from rfl]
    subst ek
    rw [e1, b2, show z_cmp .eq (Int32.ofInt 0) (Int32.ofInt 0) = true from rfl, cond_true, zr_r9 H, b1_s, zw_add, g3, b1_s, b1_s, zr_st H k (by omega), b1_s, a1, a2, zw_sub, show (zw_lE now.2.1 b : Int) - (b : Int) = ((zw_lE now.2.1 b - b : Nat) : Int) by omega]
    obtain ⟨p, e2, p1, p2, p3⟩ := yd_power (N := N) (by omega) H R.1.1 o1 (len := zw_lE now.2.1 b - b) (by omega)
    rw [e2, b2, zqo_le _ _ (by omega) (by decide)]
    by_cases e : p ≤ 4096
    · have pw := p2.mp e
      have m12 := yd_12 o1.1 pw
      obtain ⟨q, e3, q1, q2⟩ := ye_number (N := N) (by omega) H R.1.1 o1 (zyR_tx R) o2 ok.2.2.1 (b := b) (m := zw_lE now.2.1 b - b) (by omega) pw
      obtain ⟨h', f', a', e4, H', R', F'⟩ := zn_rank57E (N := N) (by omega) ok (m := zw_lE now.2.1 b - b) (q := q) (by omega) (by omega) q N 0 0 h1 fl a H R (Nat.zero_add _) (by omega)
      have eq := ye_eq o1 (m := zw_lE now.2.1 b - b) (by omega) pw (q := q) (by omega)
      rw [q2, show b + (zw_lE now.2.1 b - b) = zw_lE now.2.1 b by omega] at eq
      refine ⟨h', ?_, ⟨f', a', H', R'⟩, zr_Ft F1 F'⟩
      rw [decide_eq_true (by omega), cond_true, zr_r9 H, b1_s, zr_st H k (by omega), b1_s, a1, e3, b2, if_pos pw, eq]
      exact e4
    · refine ⟨h1, ?_, ⟨fl, a, H, R⟩, F1⟩
      rw [decide_eq_false (by omega), cond_false, if_neg (fun z => e (p2.mpr z))]
end YEC
theorem yA_rankE {N : Nat} {h : zH} {c : Int} (J : yA h c) (hN : 1000001 ≤ N) (x : Int) (hx : -2147483648 ≤ x ∧ x < 2147483648) : yA_T (fL_rankOf N 0 (Int32.ofInt x) 243 h) (fM_rankOf N 232 (Int32.ofInt x)) := by
  obtain ⟨now, hist, snap, sv, inp, rep, rep', V, Y, hsv, hr, hl, o⟩ := J
  have ok := (zv_open V).1
  rcases zk_rankOfE (N := N) V hN x hx with ⟨p1, e⟩ | ⟨p1, h1, e, V1, F1⟩
  · exact yA_thr Y o V e 1 rfl (by decide) (fun g Yg => by
      rcases zn_rankOfE (N := N) Yg ok (by omega) x hx with ⟨q1, q⟩ | ⟨q1, q⟩
      · exact q
      · exact absurd p1 q1) hsv hr hl
  · exact yA_ret Y o V1 F1 e (fun g Yg => by
      rcases zn_rankOfE (N := N) Yg ok (by omega) x hx with ⟨q1, q⟩ | ⟨q1, q⟩
      · exact absurd q1 p1
      · exact q) hsv hr hl
