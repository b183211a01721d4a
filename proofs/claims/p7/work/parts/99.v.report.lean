/-! THE REPORT: groups of equal factors; writeFactors, both sides. -/
def yu_m (T : List Nat) : Nat := (zw_fs T).length
def yu_s (T : List Nat) (i : Nat) : Nat := if i < yu_m T then ((zw_fs T).getD i (0, 0)).1 else T.length
def yu_w (T : List Nat) (i : Nat) : List Nat := zw_p T (yu_s T i) (yu_s T (i + 1))
theorem yu_f {T : List Nat} {i : Nat} (hi : i < yu_m T) : yu_s T i < T.length ∧ yu_s T (i + 1) = zw_lE T (yu_s T i) ∧ ((zw_fs T).getD i (0, 0)).1 = yu_s T i ∧ ((zw_fs T).getD i (0, 0)).2 = yu_s T (i + 1) := by
  have z := zm_itc (l := T) T.length 0 (Nat.zero_le _) (by omega)
  rw [← zm_fs] at z
  obtain ⟨z1, z2, z3, z4⟩ := z.1 i hi
  have e1 : yu_s T i = ((zw_fs T).getD i (0, 0)).1 := if_pos hi
  have e2 : yu_s T (i + 1) = ((zw_fs T).getD i (0, 0)).2 := by
    unfold yu_s
    by_cases c : i + 1 < yu_m T
    · rw [if_pos c]
      exact z3 c
    · rw [if_neg c]
      exact (z4 (by show i + 1 = yu_m T; omega)).symm
  exact ⟨by rw [e1]; exact z2, by rw [e1, e2]; exact z1, e1.symm, e2.symm⟩
theorem yu_0 (T : List Nat) : yu_s T 0 = 0 := by
  have z := zm_itc (l := T) T.length 0 (Nat.zero_le _) (by omega)
  rw [← zm_fs] at z
  unfold yu_s
  by_cases c : 0 < yu_m T
  · rw [if_pos c]
    have hl : 0 < T.length := by
      have := zm_fsl T
      have : 0 < (zw_fs T).length := c
      omega
    exact (z.2.1 hl).2
  · rw [if_neg c]
    rcases Nat.eq_zero_or_pos T.length with x | x
    · exact x
    · exact absurd (z.2.1 x).1 c
theorem yu_lt {T : List Nat} {i : Nat} (hi : i < yu_m T) : yu_s T i < yu_s T (i + 1) ∧ yu_s T (i + 1) ≤ T.length := by
  obtain ⟨f1, f2, _⟩ := yu_f hi
  have := zw_lEb f1
  rw [f2]
  omega
theorem yu_wl {T : List Nat} {i : Nat} (hi : i < yu_m T) : (yu_w T i).length = yu_s T (i + 1) - yu_s T i := zw_pl _ _ _ (yu_lt hi).2
theorem yu_end (T : List Nat) {i : Nat} (hi : yu_m T ≤ i) : yu_s T i = T.length := if_neg (by omega)
theorem yu_mle (T : List Nat) : yu_m T ≤ T.length := zm_fsl T
theorem yu_is (T : List Nat) : ∀ i, i ≤ yu_m T → i ≤ yu_s T i ∧ yu_s T i ≤ T.length := by
  intro i
  induction i with
  | zero => intro _; exact ⟨Nat.zero_le _, by rw [yu_0]; exact Nat.zero_le _⟩
  | succ i ih =>
    intro h
    have := ih (by omega)
    have := yu_lt (T := T) (i := i) (by omega)
    omega
theorem yu_tr {a b c : List Nat} (h1 : zw_cmp a b ≠ 1) (h2 : zw_cmp b c ≠ 1) : zw_cmp a c ≠ 1 := by
  rcases zw_cmpb a b with x | x | x
  · rcases zw_cmpb b c with y | y | y
    · rw [zm_tr a b c x y]
      decide
    · rw [← zm_eq b c y]
      exact h1
    · exact absurd y h2
  · rw [zm_eq a b x]
    exact h2
  · exact absurd x h1
theorem yu_fall {T : List Nat} {i : Nat} (hi : i + 1 < yu_m T) : zw_cmp (yu_w T (i + 1)) (yu_w T i) ≠ 1 := by
  obtain ⟨f1, f2, _⟩ := yu_f (T := T) (i := i) (by omega)
  obtain ⟨g1, g2, _⟩ := yu_f hi
  unfold yu_w
  rw [g2, f2]
  rw [f2] at g1
  exact zm_ffall f1 g1
theorem yu_le {T : List Nat} {i : Nat} : ∀ d, i + d < yu_m T → zw_cmp (yu_w T (i + d)) (yu_w T i) ≠ 1 := by
  intro d
  induction d with
  | zero =>
    intro _
    rw [Nat.add_zero, zm_self]
    decide
  | succ d ih =>
    intro h
    exact yu_tr (yu_fall (T := T) (i := i + d) (by omega)) (ih (by omega))
theorem yu_eq {a b : List Nat} (h1 : zw_cmp a b ≠ 1) (h2 : zw_cmp b a ≠ 1) : a = b := by
  rcases zw_cmpb a b with x | x | x
  · have := zm_anti a b
    rw [x] at this
    exact absurd (this.trans (by decide)) h2
  · exact zm_eq a b x
  · exact absurd x h1
/-- how many factors equal the i-th -/
def yu_c (T : List Nat) (i : Nat) : Nat := zw_like T (yu_s T i) (yu_s T (i + 1)) (zw_fs T)
/-- the i-th is the first of its group -/
def yu_1 (T : List Nat) (i : Nat) : Prop := i < yu_m T ∧ (i = 0 ∨ yu_w T (i - 1) ≠ yu_w T i)
theorem yu_run {T : List Nat} {i : Nat} : ∀ c k, i + k + c = yu_m T → (∀ j, j < k → yu_w T (i + j) = yu_w T i) → ∃ r, k ≤ r ∧ i + r ≤ yu_m T ∧ (∀ j, j < r → yu_w T (i + j) = yu_w T i) ∧ (i + r < yu_m T → yu_w T (i + r) ≠ yu_w T i) := by
  intro c
  induction c with
  | zero => intro k h1 h2; exact ⟨k, Nat.le_refl k, by omega, h2, fun x => by omega⟩
  | succ c ih =>
    intro k h1 h2
    by_cases e : yu_w T (i + k) = yu_w T i
    · obtain ⟨r, r1, r2⟩ := ih (k + 1) (by omega) (fun j hj => by
        by_cases ej : j = k
        · rw [ej]
          exact e
        · exact h2 j (by omega))
      exact ⟨r, by omega, r2⟩
    · exact ⟨k, Nat.le_refl k, by omega, h2, fun _ => e⟩
/-- which factors equal a group's -/
theorem yu_same {T : List Nat} {i r : Nat} (h1 : yu_1 T i) (hr : 1 ≤ r) (hm : i + r ≤ yu_m T) (hs : ∀ j, j < r → yu_w T (i + j) = yu_w T i) (hn : i + r < yu_m T → yu_w T (i + r) ≠ yu_w T i) {k : Nat} (hk : k < yu_m T) : yu_w T k = yu_w T i ↔ i ≤ k ∧ k < i + r := by
  constructor
  · intro e
    rcases Nat.lt_or_ge k i with x | x
    · exfalso
      rcases h1.2 with y | y
      · omega
      · -- k ≤ i - 1 < i
        have a1 := yu_le (T := T) (i := k) (i - 1 - k) (by have := h1.1; omega)
        have a2 := yu_fall (T := T) (i := i - 1) (by have := h1.1; omega)
        rw [show k + (i - 1 - k) = i - 1 by omega, e] at a1
        rw [show i - 1 + 1 = i by omega] at a2
        exact y (yu_eq a1 a2)
    · rcases Nat.lt_or_ge k (i + r) with y | y
      · exact ⟨x, y⟩
      · exfalso
        have a1 := yu_le (T := T) (i := i + r) (k - (i + r)) (by omega)
        have a2 := yu_le (T := T) (i := i) r (by omega)
        rw [show i + r + (k - (i + r)) = k by omega, e] at a1
        exact hn (by omega) (yu_eq a2 a1)
  · intro h
    have := hs (k - i) (by omega)
    rw [show i + (k - i) = k by omega] at this
    exact this
theorem yu_drop {T : List Nat} {k : Nat} (hk : k < yu_m T) : (zw_fs T).drop k = (yu_s T k, yu_s T (k + 1)) :: (zw_fs T).drop (k + 1) := by
  have hk' : k < (zw_fs T).length := hk
  obtain ⟨_, _, f3, f4⟩ := yu_f hk
  rw [List.drop_eq_getElem_cons hk', ← f3, ← f4, List.getD_eq_getElem?_getD, List.getElem?_eq_getElem hk']
  rfl
theorem yu_cnt {T : List Nat} {i r : Nat} (hm : i + r ≤ yu_m T) (hw : ∀ k, k < yu_m T → (yu_w T k = yu_w T i ↔ i ≤ k ∧ k < i + r)) : ∀ c k, k + c = yu_m T → zw_like T (yu_s T i) (yu_s T (i + 1)) ((zw_fs T).drop k) = (i + r) - max i k := by
  intro c
  induction c with
  | zero =>
    intro k hk
    rw [List.drop_of_length_le (show (zw_fs T).length ≤ k by show yu_m T ≤ k; omega)]
    show 0 = _
    omega
  | succ c ih =>
    intro k hk
    rw [yu_drop (by omega), zw_like, ih (k + 1) (by omega)]
    show (if zw_cmp (yu_w T k) (yu_w T i) = 0 then 1 else 0) + _ = _
    have w := hw k (by omega)
    by_cases e : yu_w T k = yu_w T i
    · have := w.mp e
      rw [e, if_pos (zm_self _)]
      omega
    · have : ¬ (i ≤ k ∧ k < i + r) := fun x => e (w.mpr x)
      rw [if_neg (fun x => e (zm_eq _ _ x))]
      omega
/-- a group: its size, the places of its factors, what comes behind it -/
theorem yu_grp {T : List Nat} {i : Nat} (h1 : yu_1 T i) : 1 ≤ yu_c T i ∧ i + yu_c T i ≤ yu_m T ∧ (∀ j, j < yu_c T i → yu_w T (i + j) = yu_w T i) ∧ (i + yu_c T i < yu_m T → yu_1 T (i + yu_c T i)) ∧ yu_s T (i + yu_c T i) = yu_s T i + yu_c T i * (yu_s T (i + 1) - yu_s T i) := by
  obtain ⟨r, r1, r2, r3, r4⟩ := yu_run (T := T) (i := i) (yu_m T - (i + 1)) 1 (by have := h1.1; omega) (fun j hj => by
    have : j = 0 := by omega
    rw [this, Nat.add_zero])
  have cr : yu_c T i = r := by
    have := yu_cnt r2 (fun k hk => yu_same h1 r1 r2 r3 r4 hk) (yu_m T) 0 (by omega)
    rw [List.drop_zero] at this
    unfold yu_c
    rw [this]
    omega
  rw [cr]
  refine ⟨r1, r2, r3, fun x => ⟨x, Or.inr ?_⟩, ?_⟩
  · have e := r3 (r - 1) (by omega)
    rw [show i + r - 1 = i + (r - 1) by omega, e]
    exact fun z => r4 x z.symm
  · have st : ∀ j, j ≤ r → yu_s T (i + j) = yu_s T i + j * (yu_s T (i + 1) - yu_s T i) := by
      intro j
      induction j with
      | zero => intro _; rw [Nat.zero_mul, Nat.add_zero, Nat.add_zero]
      | succ j ih =>
        intro hj
        have a1 := ih (by omega)
        have a2 := yu_wl (T := T) (i := i + j) (by omega)
        have a3 := yu_wl (T := T) (i := i) h1.1
        have a4 := yu_lt (T := T) (i := i + j) (by omega)
        rw [r3 j (by omega), a3] at a2
        rw [Nat.succ_mul]
        show yu_s T (i + j + 1) = _
        omega
    exact st r (Nat.le_refl r)
/-- a number's digits -/
def yu_d (p : Nat) : List Nat := (if 100 ≤ p then [48 + p / 100 % 10] else []) ++ ((if 10 ≤ p then [48 + p / 10 % 10] else []) ++ [48 + p % 10])
/-- what is written of a group -/
def yu_g (T : List Nat) (i : Nat) : List Nat := (if 0 < i then [124] else []) ++ (yu_w T i ++ (if 1 < yu_c T i then 94 :: yu_d (yu_c T i) else []))
/-- the report from a group on -/
def yu_r (T : List Nat) : Nat → Nat → List Nat
  | 0, _ => []
  | c + 1, i => if i < yu_m T then yu_g T i ++ yu_r T c (i + yu_c T i) else []
def yu_rep (T : List Nat) : List Nat := yu_r T (yu_m T) 0
theorem yu_dl (p : Nat) : (yu_d p).length = (if 100 ≤ p then 1 else 0) + ((if 10 ≤ p then 1 else 0) + 1) := by
  unfold yu_d
  rw [List.length_append, List.length_append]
  congr 1
  · split <;> rfl
  · congr 1
    split <;> rfl
theorem yu_d256 {p : Nat} : ∀ v ∈ yu_d p, v < 256 := by
  intro v hv
  unfold yu_d at hv
  rw [List.mem_append, List.mem_append] at hv
  have m1 := Nat.mod_lt (p / 100) (show 10 > 0 by decide)
  have m2 := Nat.mod_lt (p / 10) (show 10 > 0 by decide)
  have m3 := Nat.mod_lt p (show 10 > 0 by decide)
  rcases hv with hv | hv | hv
  · split at hv
    · rw [List.mem_singleton] at hv
      omega
    · cases hv
  · split at hv
    · rw [List.mem_singleton] at hv
      omega
    · cases hv
  · rw [List.mem_singleton] at hv
    omega
theorem yu_gl {T : List Nat} {i : Nat} (h1 : yu_1 T i) (hT : T.length ≤ 120) : (yu_g T i).length ≤ 2 * (yu_s T (i + yu_c T i) - yu_s T i) := by
  obtain ⟨g1, g2, g3, g4, g5⟩ := yu_grp h1
  have wl := yu_wl h1.1
  have lt := yu_lt h1.1
  have mle := yu_mle T
  unfold yu_g
  rw [g5, List.length_append, List.length_append, wl]
  have d1 : 1 ≤ yu_s T (i + 1) - yu_s T i := by omega
  generalize yu_s T (i + 1) - yu_s T i = d at *
  have a1 : (if 0 < i then [124] else ([] : List Nat)).length ≤ 1 := by split <;> decide
  have k2 : 2 ≤ yu_c T i → 2 * d ≤ yu_c T i * d := fun x => Nat.mul_le_mul_right d x
  have k10 : 10 ≤ yu_c T i → 10 * d ≤ yu_c T i * d := fun x => Nat.mul_le_mul_right d x
  have k1 : 1 * d ≤ yu_c T i * d := Nat.mul_le_mul_right d g1
  have a2 : (if 1 < yu_c T i then 94 :: yu_d (yu_c T i) else ([] : List Nat)).length ≤ (if 1 < yu_c T i then 1 + ((if 100 ≤ yu_c T i then 1 else 0) + ((if 10 ≤ yu_c T i then 1 else 0) + 1)) else 0) := by
    by_cases e : 1 < yu_c T i
    · rw [if_pos e, if_pos e, List.length_cons, yu_dl]
      omega
    · rw [if_neg e, if_neg e]
      exact Nat.le_refl 0
  refine Nat.le_trans (Nat.add_le_add a1 (Nat.add_le_add_left a2 d)) ?_
  rw [Nat.add_sub_cancel_left]
  by_cases e1 : 1 < yu_c T i
  · rw [if_pos e1]
    have := k2 (by omega)
    by_cases e2 : 10 ≤ yu_c T i
    · have := k10 e2
      rw [if_pos e2]
      split <;> omega
    · rw [if_neg e2, if_neg (by omega)]
      omega
  · rw [if_neg e1]
    omega
theorem yu_g256 {T : List Nat} {i : Nat} (hv : ∀ v ∈ T, v < 256) : ∀ v ∈ yu_g T i, v < 256 := by
  intro v h
  unfold yu_g at h
  rw [List.mem_append, List.mem_append] at h
  rcases h with h | h | h
  · split at h
    · rw [List.mem_singleton] at h
      omega
    · cases h
  · exact hv v (List.mem_of_mem_drop (List.mem_of_mem_take h))
  · split at h
    · rw [List.mem_cons] at h
      rcases h with h | h
      · omega
      · exact yu_d256 v h
    · cases h
section YUA
variable {N : Nat} {h : zH} {now snap : zA} {hist : List zA} {sv t : Int} {inp : List Nat} {rep : zvP}
theorem zv_report (V : zv h now hist snap sv inp rep) : zw_W h 228 240 rep.1 ∧ ∀ h' l, zw_W h' 228 240 l → zw_F h h' 228 → zv h' now hist snap sv inp (l, rep.2) ∧ zc_F h h' := by
  obtain ⟨sL, sT, sS, sK, wd, nu, hs, C, v1, v2, v3, v4, v5, v6, v7, v8, v9⟩ := V
  have W := zc_wd C (o := 228) (n := 240) (Or.inr (Or.inl ⟨rfl, rfl⟩))
  rw [v8.1] at W
  refine ⟨W, fun h' l W' F => ?_⟩
  obtain ⟨C2, F2⟩ := zc_word C (Or.inr (Or.inl ⟨rfl, rfl⟩)) W' F
  exact ⟨⟨_, _, _, _, _, _, _, C2, v1, v2, v3, v4, v5, v6, by rw [zc_un _ _ (show (204 : Nat) ≠ 228 by decide)]; exact v7, ⟨zc_us _ _ _, v8.2⟩, v9⟩, F2⟩
theorem zv_r05 (V : zv h now hist snap sv inp rep) : fR h 0 0 5 = some 228 := by
  obtain ⟨sL, sT, sS, sK, wd, nu, hs, C, _⟩ := V
  exact zc_r05 C
/-- one byte written -/
theorem zv_put (V : zv h now hist snap sv inp rep) (v : Nat) (hv : v < 256) (hl : rep.1.length < 240) : ∃ h', fW_add N 228 (Int32.ofInt (v : Int)) h = some ((), h') ∧ zv h' now hist snap sv inp (rep.1 ++ [v], rep.2) ∧ zc_F h h' := by
  obtain ⟨W, cl⟩ := zv_report V
  obtain ⟨h1, e1, W1, F1⟩ := zw_addN (N := N) W v hv hl
  obtain ⟨V1, G1⟩ := cl h1 _ W1 F1
  exact ⟨h1, e1, V1, G1⟩
theorem zv_puts (V : zv h now hist snap sv inp rep) {l : List Nat} (he : l = rep.1) : zv h now hist snap sv inp (l, rep.2) := by
  rw [he]
  exact V
theorem yu_dig (p : Nat) (hp : p ≤ 999) : Int32.ofInt 48 + (Int32.ofInt (p : Int) - Int32.ofInt (p : Int) / Int32.ofInt 10 * Int32.ofInt 10) = Int32.ofInt ((48 + p % 10 : Nat) : Int) := by
  have := zw_modi p 10 (by omega) (by decide)
  have e : Int32.ofInt (p : Int) - Int32.ofInt (p : Int) / Int32.ofInt 10 * Int32.ofInt 10 = Int32.ofInt ((p % 10 : Nat) : Int) := this
  rw [e, zw_add]
  rfl
theorem yu_div (p : Nat) (hp : p ≤ 999) (d : Nat) (hd : 1 ≤ d ∧ d ≤ 100) : Int32.ofInt (p : Int) / Int32.ofInt (d : Int) = Int32.ofInt ((p / d : Nat) : Int) := zw_div p d (by omega) (by omega)
/-- a number written -/
theorem zv_number (V : zv h now hist snap sv inp rep) (p : Nat) (hp : p ≤ 999) (hl : rep.1.length + (yu_d p).length ≤ 240) : ∃ h', fW_addNumber N 228 (Int32.ofInt (p : Int)) h = some ((), h') ∧ zv h' now hist snap sv inp (rep.1 ++ yu_d p, rep.2) ∧ zc_F h h' := by
  have n10 : ¬ Int32.ofInt 10 = Int32.ofInt 0 := by decide
  have n100 : ¬ Int32.ofInt 100 = Int32.ofInt 0 := by decide
  have m1 := Nat.mod_lt (p / 100) (show 10 > 0 by decide)
  have m2 := Nat.mod_lt (p / 10) (show 10 > 0 by decide)
  have m3 := Nat.mod_lt p (show 10 > 0 by decide)
  have d1 : Int32.ofInt (p : Int) / Int32.ofInt 100 = Int32.ofInt ((p / 100 : Nat) : Int) := yu_div p hp 100 (by decide)
  have d2 : Int32.ofInt (p : Int) / Int32.ofInt 10 = Int32.ofInt ((p / 10 : Nat) : Int) := yu_div p hp 10 (by decide)
  rw [yu_dl] at hl
  have s40 : ∀ (h : zH) (l : List Nat), zv h now hist snap sv inp (l, rep.2) → l.length < 240 → ∃ h', fW_addNumber_40 N 228 (Int32.ofInt (p : Int)) h = some ((), h') ∧ zv h' now hist snap sv inp (l ++ [48 + p % 10], rep.2) ∧ zc_F h h' := by
    intro h l V hl
    obtain ⟨h1, e1, V1, F1⟩ := zv_put (N := N) V (48 + p % 10) (by omega) hl
    refine ⟨h1, ?_, V1, F1⟩
    unfold fW_addNumber_40
    rw [if_neg n10, yu_dig p hp, e1, b2]
  have s20 : ∀ (h : zH) (l : List Nat), zv h now hist snap sv inp (l, rep.2) → l.length + ((if 10 ≤ p then 1 else 0) + 1) ≤ 240 → ∃ h', fW_addNumber_20 N 228 (Int32.ofInt (p : Int)) h = some ((), h') ∧ zv h' now hist snap sv inp (l ++ ((if 10 ≤ p then [48 + p / 10 % 10] else []) ++ [48 + p % 10]), rep.2) ∧ zc_F h h' := by
    intro h l V hl
    unfold fW_addNumber_20
    rw [zqo_lt _ _ (by omega) (by decide)]
    by_cases e : 10 ≤ p
    · rw [if_pos e] at hl
      obtain ⟨h1, e1, V1, F1⟩ := zv_put (N := N) V (48 + p / 10 % 10) (by omega) (by show l.length < 240; omega)
      obtain ⟨h2, e2, V2, F2⟩ := s40 h1 _ V1 (by rw [List.length_append]; show l.length + 1 < 240; omega)
      rw [List.append_assoc] at V2
      refine ⟨h2, ?_, by rw [if_pos e]; exact V2, zc_Ft F1 F2⟩
      rw [decide_eq_false (by omega), cond_false, if_neg n10, if_neg n10, d2, yu_dig (p / 10) (by omega), e1, b2]
      exact e2
    · rw [if_neg e] at hl ⊢
      obtain ⟨h2, e2, V2, F2⟩ := s40 h l V (by omega)
      refine ⟨h2, ?_, V2, F2⟩
      rw [decide_eq_true (by omega), cond_true]
      exact e2
  unfold fW_addNumber yu_d
  rw [zw_T (zv_report V).1, cond_true, zqo_lt _ _ (by omega) (by decide)]
  by_cases e : 100 ≤ p
  · rw [if_pos e] at hl
    obtain ⟨h1, e1, V1, F1⟩ := zv_put (N := N) V (48 + p / 100 % 10) (by omega) (by omega)
    obtain ⟨h2, e2, V2, F2⟩ := s20 h1 _ V1 (by rw [List.length_append]; show rep.1.length + 1 + _ ≤ 240; omega)
    rw [List.append_assoc] at V2
    refine ⟨h2, ?_, by rw [if_pos e]; exact V2, zc_Ft F1 F2⟩
    rw [decide_eq_false (by omega), cond_false, if_neg n100, if_neg n10, d1, yu_dig (p / 100) (by omega), e1, b2]
    exact e2
  · rw [if_neg e] at hl ⊢
    obtain ⟨h2, e2, V2, F2⟩ := s20 h rep.1 V (by omega)
    refine ⟨h2, ?_, V2, F2⟩
    rw [decide_eq_true (by omega), cond_true]
    exact e2
/-- a part of the text written -/
theorem zv_wpart (V : zv h now hist snap sv inp rep) (hN : 1000 ≤ N) {a b : Nat} (hab : a ≤ b) (hb : b ≤ now.2.1.length) (hl : rep.1.length + (b - a) ≤ 240) : ∃ h', fW_addPart N 228 (1 + 1) (Int32.ofInt (a : Int)) (Int32.ofInt (b : Int)) h = some ((), h') ∧ zv h' now hist snap sv inp (rep.1 ++ zw_p now.2.1 a b, rep.2) ∧ zc_F h h' := by
  have o2 := (zv_open V).1.2.1
  obtain ⟨W, cl⟩ := zv_report V
  obtain ⟨h1, e1, W1, F1⟩ := zw_addPart (N := N) (show zw_d (1 + 1) 228 by unfold zw_d; omega) W (zv_txt V) a (b - a) (by omega) hl (by omega)
  rw [show a + (b - a) = b by omega] at e1
  obtain ⟨V1, G1⟩ := cl h1 _ W1 F1
  exact ⟨h1, e1, V1, G1⟩
/-- the groups written, from one on -/
theorem zk_wf19 (hN : 3000 ≤ N) : ∀ (c f i k : Nat) (h : zH) (l : List Nat), zv h now hist snap sv inp (l, rep.2) → (i = yu_m now.2.1 ∨ yu_1 now.2.1 i) → yu_m now.2.1 ≤ i + c → c < f → k ≤ i → l.length ≤ 2 * yu_s now.2.1 i → ∃ h', fB_writeFactors_19 N f 0 (1 + 1) (Int32.ofInt (yu_s now.2.1 i : Int)) (Int32.ofInt (k : Int)) h = some (Int32.ofInt ((l ++ yu_r now.2.1 c i).length : Int), h') ∧ zv h' now hist snap sv inp (l ++ yu_r now.2.1 c i, rep.2) ∧ zc_F h h' := by
  have fin : ∀ (f i k : Nat) (h : zH) (l : List Nat), zv h now hist snap sv inp (l, rep.2) → i = yu_m now.2.1 → fB_writeFactors_19 N (f + 1) 0 (1 + 1) (Int32.ofInt (yu_s now.2.1 i : Int)) (Int32.ofInt (k : Int)) h = some (Int32.ofInt (l.length : Int), h) := by
    intro f i k h l V hi
    have o2 := (zv_open V).1.2.1
    have s115 : fB_writeFactors_115 N 0 h = some (Int32.ofInt (l.length : Int), h) := by
      unfold fB_writeFactors_115
      rw [zv_r05 V, b1_s, zw_z (zv_report V).1, b1_s]
    rw [fB_writeFactors_19, zw_z (zv_txt V), b1_s, yu_end _ (by omega)]
    cases z_cmp .ge (Int32.ofInt (k : Int)) (Int32.ofInt (now.2.1.length : Int)) with
    | true => exact s115
    | false =>
      rw [cond_false, b1_s, zqo_ge _ _ (by omega) (by omega), decide_eq_true (by omega), cond_true]
      exact s115
  intro c
  induction c with
  | zero =>
    intro f i k h l V hi hm hf hk hl
    obtain ⟨g, rfl⟩ : ∃ g, f = g + 1 := ⟨f - 1, by omega⟩
    have hi' : i = yu_m now.2.1 := by
      rcases hi with x | x
      · exact x
      · have := x.1
        omega
    refine ⟨h, ?_, ?_, zc_Fr h⟩
    · rw [fin g i k h l V hi']
      show _ = some (Int32.ofInt ((l ++ []).length : Int), h)
      rw [List.append_nil]
    · show zv h now hist snap sv inp (l ++ [], rep.2)
      rw [List.append_nil]
      exact V
  | succ c ih =>
    intro f i k h l V hi hm hf hk hl
    obtain ⟨g, rfl⟩ : ∃ g, f = g + 1 := ⟨f - 1, by omega⟩
    by_cases ei : i = yu_m now.2.1
    · have er : yu_r now.2.1 (c + 1) i = [] := if_neg (by omega)
      refine ⟨h, ?_, ?_, zc_Fr h⟩
      · rw [fin g i k h l V ei, er, List.append_nil]
      · rw [er, List.append_nil]
        exact V
    · have h1 : yu_1 now.2.1 i := hi.resolve_left ei
      have ok := (zv_open V).1
      have o2 := ok.2.1
      have v256 := zv_256 ok
      obtain ⟨q1, q2, q3, q4, q5⟩ := yu_grp h1
      have gl := yu_gl h1 o2
      have lt := yu_lt h1.1
      have fx := yu_f h1.1
      have sle := yu_is now.2.1 (i + yu_c now.2.1 i) (by omega)
      have sle1 := yu_is now.2.1 i (by omega)
      have wl := yu_wl h1.1
      have cl : yu_c now.2.1 i ≤ 120 := by
        have := yu_mle now.2.1
        omega
      have er : yu_r now.2.1 (c + 1) i = yu_g now.2.1 i ++ yu_r now.2.1 c (i + yu_c now.2.1 i) := if_pos h1.1
      have gl2 : l.length + (yu_g now.2.1 i).length ≤ 240 := by omega
      -- behind the separator
      have s64 : ∀ (h : zH) (l2 : List Nat), zv h now hist snap sv inp (l2, rep.2) → l2.length + ((yu_w now.2.1 i).length + (if 1 < yu_c now.2.1 i then 94 :: yu_d (yu_c now.2.1 i) else ([] : List Nat)).length) ≤ 240 → ∃ h', fB_writeFactors_64 N (fB_writeFactors_19 N g) 0 (1 + 1) (Int32.ofInt (yu_s now.2.1 i : Int)) (Int32.ofInt (k : Int)) (Int32.ofInt (yu_s now.2.1 (i + 1) : Int)) (Int32.ofInt (yu_c now.2.1 i : Int)) h = fB_writeFactors_19 N g 0 (1 + 1) (Int32.ofInt (yu_s now.2.1 (i + yu_c now.2.1 i) : Int)) (Int32.ofInt ((k + 1 : Nat) : Int)) h' ∧ zv h' now hist snap sv inp (l2 ++ (yu_w now.2.1 i ++ (if 1 < yu_c now.2.1 i then 94 :: yu_d (yu_c now.2.1 i) else [])), rep.2) ∧ zc_F h h' := by
        intro h l2 V hl2
        have s99 : ∀ h3 : zH, fB_writeFactors_99 N (fB_writeFactors_19 N g) 0 (1 + 1) (Int32.ofInt (yu_s now.2.1 i : Int)) (Int32.ofInt (k : Int)) (Int32.ofInt (yu_s now.2.1 (i + 1) : Int)) (Int32.ofInt (yu_c now.2.1 i : Int)) h3 = fB_writeFactors_19 N g 0 (1 + 1) (Int32.ofInt (yu_s now.2.1 (i + yu_c now.2.1 i) : Int)) (Int32.ofInt ((k + 1 : Nat) : Int)) h3 := fun h3 => by
          unfold fB_writeFactors_99
          rw [zw_sub, zw_mul, zw_add, zh_inc, q5, show ((yu_s now.2.1 i + yu_c now.2.1 i * (yu_s now.2.1 (i + 1) - yu_s now.2.1 i) : Nat) : Int) = (yu_s now.2.1 i : Int) + (yu_c now.2.1 i : Int) * ((yu_s now.2.1 (i + 1) : Int) - (yu_s now.2.1 i : Int)) by
            rw [Int.natCast_add, Int.natCast_mul, show ((yu_s now.2.1 (i + 1) - yu_s now.2.1 i : Nat) : Int) = (yu_s now.2.1 (i + 1) : Int) - (yu_s now.2.1 i : Int) by omega]]
        obtain ⟨h3, e3, V3, F3⟩ := zv_wpart (N := N) V (by omega) (a := yu_s now.2.1 i) (b := yu_s now.2.1 (i + 1)) (by omega) lt.2 (by show l2.length + _ ≤ 240; omega)
        unfold fB_writeFactors_64
        rw [zv_r05 V, b1_s, e3, b2, zqo_le _ _ (by omega) (by decide)]
        by_cases e1 : 1 < yu_c now.2.1 i
        · rw [if_pos e1] at hl2 ⊢
          rw [List.length_cons] at hl2
          obtain ⟨h4, e4, V4, F4⟩ := zv_put (N := N) V3 94 (by decide) (by show (l2 ++ yu_w now.2.1 i).length < 240; rw [List.length_append]; omega)
          obtain ⟨h5, e5, V5, F5⟩ := zv_number (N := N) V4 (yu_c now.2.1 i) (by omega) (by show (l2 ++ yu_w now.2.1 i ++ [94]).length + _ ≤ 240; rw [List.length_append, List.length_append]; show l2.length + (yu_w now.2.1 i).length + 1 + _ ≤ 240; omega)
          have e4 : fW_add N 228 (Int32.ofInt 94) h3 = some ((), h4) := e4
          refine ⟨h5, ?_, ?_, zc_Ft F3 (zc_Ft F4 F5)⟩
          · rw [decide_eq_false (by omega), cond_false, zv_r05 V3, b1_s, e4, b2, zv_r05 V4, b1_s, e5, b2, s99]
          · have V5 : zv h5 now hist snap sv inp ((l2 ++ yu_w now.2.1 i) ++ [94] ++ yu_d (yu_c now.2.1 i), rep.2) := V5
            rw [List.append_assoc, List.append_assoc] at V5
            exact V5
        · rw [if_neg e1]
          refine ⟨h3, ?_, ?_, F3⟩
          · rw [decide_eq_true (by omega), cond_true, s99]
          · rw [List.append_nil]
            exact V3
      have glw : (yu_g now.2.1 i).length = (if 0 < i then [124] else ([] : List Nat)).length + ((yu_w now.2.1 i).length + (if 1 < yu_c now.2.1 i then 94 :: yu_d (yu_c now.2.1 i) else ([] : List Nat)).length) := by
        unfold yu_g
        rw [List.length_append, List.length_append]
      have hd : ∀ (u : Option (Int32 × zH)) (G : Int32 → Int32 → zH → Option (Int32 × zH)), (b1 (fI h (1 + 1) 4 1) fun x6 => cond (z_cmp .ge (Int32.ofInt (k : Int)) x6) u (b1 (fI h (1 + 1) 4 1) fun x7 => cond (z_cmp .ge (Int32.ofInt (yu_s now.2.1 i : Int)) x7) u (b2 (fW_lyndonEnd N (1 + 1) (Int32.ofInt (yu_s now.2.1 i : Int)) h) fun x8 h9 => b2 (fW_countFactorsLike N (1 + 1) (Int32.ofInt (yu_s now.2.1 i : Int)) x8 h9) fun x10 h11 => G x8 x10 h11))) = G (Int32.ofInt (yu_s now.2.1 (i + 1) : Int)) (Int32.ofInt (yu_c now.2.1 i : Int)) h := fun u G => by
        have lk := zw_likes (N := N) (zv_txt V) (by omega) (x := yu_s now.2.1 i) (y := yu_s now.2.1 (i + 1)) (by omega) lt.2
        rw [zw_z (zv_txt V), b1_s, zqo_ge _ _ (by omega) (by omega), decide_eq_false (by omega), cond_false, b1_s, zqo_ge _ _ (by omega) (by omega), decide_eq_false (by omega), cond_false, zw_lyn (zv_txt V) (by omega) fx.1, b2, ← fx.2.1, lk, b2]
        rfl
      have next : ∀ (h3 : zH), zv h3 now hist snap sv inp (l ++ yu_g now.2.1 i, rep.2) → zc_F h h3 → ∃ h', fB_writeFactors_19 N g 0 (1 + 1) (Int32.ofInt (yu_s now.2.1 (i + yu_c now.2.1 i) : Int)) (Int32.ofInt ((k + 1 : Nat) : Int)) h3 = some (Int32.ofInt ((l ++ yu_r now.2.1 (c + 1) i).length : Int), h') ∧ zv h' now hist snap sv inp (l ++ yu_r now.2.1 (c + 1) i, rep.2) ∧ zc_F h h' := by
        intro h3 V3 F3
        obtain ⟨h', e', V', F'⟩ := ih g (i + yu_c now.2.1 i) (k + 1) h3 _ V3 (by
          by_cases x : i + yu_c now.2.1 i < yu_m now.2.1
          · exact Or.inr (q4 x)
          · exact Or.inl (by omega)) (by omega) (by omega) (by omega) (by rw [List.length_append]; omega)
        rw [List.append_assoc, ← er] at e' V'
        exact ⟨h', e', V', zc_Ft F3 F'⟩
      rw [fB_writeFactors_19, hd (fB_writeFactors_115 N 0 h) (fun x8 x10 h11 => cond (z_cmp .le (Int32.ofInt (yu_s now.2.1 i : Int)) (Int32.ofInt 0)) (fB_writeFactors_64 N (fB_writeFactors_19 N g) 0 (1 + 1) (Int32.ofInt (yu_s now.2.1 i : Int)) (Int32.ofInt (k : Int)) x8 x10 h11) (b1 (fR h11 0 0 5) fun x12 => b2 (fW_add N x12 (Int32.ofInt 124) h11) fun _ h14 => fB_writeFactors_64 N (fB_writeFactors_19 N g) 0 (1 + 1) (Int32.ofInt (yu_s now.2.1 i : Int)) (Int32.ofInt (k : Int)) x8 x10 h14)), zqo_le _ _ (by omega) (by decide)]
      by_cases e0 : i = 0
      · have s0 : yu_s now.2.1 i = 0 := by rw [e0, yu_0]
        rw [decide_eq_true (by omega), cond_true]
        obtain ⟨h3, e3, V3, F3⟩ := s64 h l V (by omega)
        rw [e3]
        refine next h3 ?_ F3
        unfold yu_g
        rw [if_neg (by omega : ¬ 0 < i), List.nil_append]
        exact V3
      · rw [if_pos (by omega : 0 < i)] at glw
        have glw : (yu_g now.2.1 i).length = 1 + _ := glw
        obtain ⟨h2, e2, V2, F2⟩ := zv_put (N := N) V 124 (by decide) (by show l.length < 240; omega)
        have e2 : fW_add N 228 (Int32.ofInt 124) h = some ((), h2) := e2
        obtain ⟨h3, e3, V3, F3⟩ := s64 h2 _ V2 (by rw [List.length_append]; show l.length + 1 + _ ≤ 240; omega)
        rw [decide_eq_false (by omega), cond_false, zv_r05 V, b1_s, e2, b2, e3]
        refine next h3 ?_ (zc_Ft F2 F3)
        unfold yu_g
        rw [if_pos (by omega : 0 < i)]
        rw [List.append_assoc] at V3
        exact V3
theorem zk_writeFactors (V : zv h now hist snap sv inp rep) (hN : 3000 ≤ N) : ∃ h', fB_writeFactors N 0 h = some (Int32.ofInt ((yu_rep now.2.1).length : Int), h') ∧ zv h' now hist snap sv inp (yu_rep now.2.1, rep.2) ∧ zc_F h h' := by
  have ok := (zv_open V).1
  have o2 := ok.2.1
  have ml := yu_mle now.2.1
  obtain ⟨W, cl⟩ := zv_report V
  obtain ⟨h1, e1, W1, F1⟩ := zw_clear (N := N) W
  obtain ⟨V1, G1⟩ := cl h1 _ W1 F1
  obtain ⟨h2, e2, V2, F2⟩ := zk_wf19 (N := N) hN (rep := rep) (yu_m now.2.1) N 0 0 h1 [] V1 (by
    by_cases x : yu_m now.2.1 = 0
    · exact Or.inl x.symm
    · exact Or.inr ⟨by omega, Or.inl rfl⟩) (by omega) (by omega) (Nat.le_refl 0) (Nat.zero_le _)
  rw [yu_0] at e2
  have e2 : fB_writeFactors_19 N N 0 (1 + 1) (Int32.ofInt 0) (Int32.ofInt 0) h1 = some (Int32.ofInt ((yu_rep now.2.1).length : Int), h2) := e2
  refine ⟨h2, ?_, V2, zc_Ft G1 F2⟩
  unfold fB_writeFactors
  rw [zv_T0 V, cond_true, zv_r00 V, b1_s, zv_t V, b1_s, zv_r05 V, b1_s, e1, b2]
  exact e2
end YUA
