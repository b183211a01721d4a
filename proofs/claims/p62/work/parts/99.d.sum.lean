/-! p62: THE LAW'S SUMS: what they are is told by the state alone. -/
section YSS
variable {N : Nat} {A : zA}
theorem yS_68 (hN : 3000 ≤ N) {j : Nat} : ∀ c f i : Nat, ∀ acc : Int64, i + c = (A.2.2.getD j []).length → c < f → ∃ v : Int64, ∀ (k57 : Nat → Int64 → Int32 → zH → Option (Int64 × zH)) (h : zH) (snap : zA) (hist : List zA) (sv : Int) (inp : List Nat) (rep : zvP), zv h A hist snap sv inp rep → j < A.2.2.length → fL_sum_68 N f k57 0 acc (Int32.ofInt (j : Int)) (Int32.ofInt (i : Int)) h = k57 0 v (Int32.ofInt ((j + 1 : Nat) : Int)) h := by
  intro c
  induction c with
  | zero =>
    intro f i acc h1 h2
    obtain ⟨f, rfl⟩ : ∃ f', f = f' + 1 := ⟨f - 1, by omega⟩
    refine ⟨acc, fun k57 h snap hist sv inp rep V hj => ?_⟩
    have ok := (zv_open V).1
    have o8 := ok.2.2.2.1
    have ow := ok.2.2.2.2 (A.2.2.getD j []) (by rw [List.getD_eq_getElem?_getD, List.getElem?_eq_getElem hj]; exact List.getElem_mem hj)
    rw [fL_sum_68, zV_keptLength V hj (by omega), bN_s, zqo_ge _ _ (by omega) (by omega), decide_eq_true (by omega), cond_true, zw_add]
    rfl
  | succ c ih =>
    intro f i acc h1 h2
    obtain ⟨f, rfl⟩ : ∃ f', f = f' + 1 := ⟨f - 1, by omega⟩
    obtain ⟨v, hv⟩ := ih f (i + 1) ((37 : Int64) * acc + (Int32.ofInt (zw_g (A.2.2.getD j []) (i : Int))).toInt64) (by omega) (by omega)
    refine ⟨v, fun k57 h snap hist sv inp rep V hj => ?_⟩
    have ok := (zv_open V).1
    have o8 := ok.2.2.2.1
    have ow := ok.2.2.2.2 (A.2.2.getD j []) (by rw [List.getD_eq_getElem?_getD, List.getElem?_eq_getElem hj]; exact List.getElem_mem hj)
    rw [fL_sum_68, zV_keptLength V hj (by omega), bN_s, zqo_ge _ _ (by omega) (by omega), decide_eq_false (by omega), cond_false, zV_keptLetter V hj (by omega) (i : Int) (by omega), bN_s, zw_add]
    exact hv k57 h snap hist sv inp rep V hj
theorem yS_57 (hN : 3000 ≤ N) (h40 : ∀ w ∈ A.2.2, w.length ≤ 40) : ∀ c f j : Nat, ∀ acc : Int64, j + c = A.2.2.length → c < f → ∃ v : Int64, ∀ (h : zH) (snap : zA) (hist : List zA) (sv : Int) (inp : List Nat) (rep : zvP), zv h A hist snap sv inp rep → fL_sum_57 N f 0 acc (Int32.ofInt (j : Int)) h = some (v, h) := by
  intro c
  induction c with
  | zero =>
    intro f j acc h1 h2
    obtain ⟨f, rfl⟩ : ∃ f', f = f' + 1 := ⟨f - 1, by omega⟩
    refine ⟨acc, fun h snap hist sv inp rep V => ?_⟩
    have o8 := (zv_open V).1.2.2.2.1
    rw [fL_sum_57, zV_keptCount V, b2_s, zqo_ge _ _ (by omega) (by omega), decide_eq_true (by omega), cond_true]
  | succ c ih =>
    intro f j acc h1 h2
    obtain ⟨f, rfl⟩ : ∃ f', f = f' + 1 := ⟨f - 1, by omega⟩
    have hj : j < A.2.2.length := by omega
    have ow := h40 (A.2.2.getD j []) (by rw [List.getD_eq_getElem?_getD, List.getElem?_eq_getElem hj]; exact List.getElem_mem hj)
    obtain ⟨v1, hv1⟩ := yS_68 (N := N) (A := A) hN (j := j) (A.2.2.getD j []).length N 0 acc (by omega) (by omega)
    obtain ⟨v, hv⟩ := ih f (j + 1) v1 (by omega) (by omega)
    refine ⟨v, fun h snap hist sv inp rep V => ?_⟩
    have o8 := (zv_open V).1.2.2.2.1
    rw [fL_sum_57, zV_keptCount V, b2_s, zqo_ge _ _ (by omega) (by omega), decide_eq_false (by omega), cond_false]
    have e := hv1 (fL_sum_57 N f) h snap hist sv inp rep V hj
    exact e.trans (hv h snap hist sv inp rep V)
theorem yS_28 (hN : 3000 ≤ N) (h40 : ∀ w ∈ A.2.2, w.length ≤ 40) (h8 : A.2.2.length ≤ 8) : ∀ c f i : Nat, ∀ acc : Int64, i + c = A.2.1.length → c < f → ∃ v : Int64, ∀ (h : zH) (snap : zA) (hist : List zA) (sv : Int) (inp : List Nat) (rep : zvP), zv h A hist snap sv inp rep → fL_sum_28 N f 0 acc (Int32.ofInt (i : Int)) h = some (v, h) := by
  intro c
  induction c with
  | zero =>
    intro f i acc h1 h2
    obtain ⟨f, rfl⟩ : ∃ f', f = f' + 1 := ⟨f - 1, by omega⟩
    obtain ⟨v, hv⟩ := yS_57 (N := N) (A := A) hN h40 A.2.2.length N 0 acc (by omega) (by omega)
    refine ⟨v, fun h snap hist sv inp rep V => ?_⟩
    have ok := (zv_open V).1.2.1
    rw [fL_sum_28, zV_length V, b2_s, zqo_ge _ _ (by omega) (by omega), decide_eq_true (by omega), cond_true]
    exact hv h snap hist sv inp rep V
  | succ c ih =>
    intro f i acc h1 h2
    obtain ⟨f, rfl⟩ : ∃ f', f = f' + 1 := ⟨f - 1, by omega⟩
    obtain ⟨v, hv⟩ := ih f (i + 1) ((31 : Int64) * acc + (Int32.ofInt (zw_g A.2.1 (i : Int))).toInt64) (by omega) (by omega)
    refine ⟨v, fun h snap hist sv inp rep V => ?_⟩
    have ok := (zv_open V).1.2.1
    rw [fL_sum_28, zV_length V, b2_s, zqo_ge _ _ (by omega) (by omega), decide_eq_false (by omega), cond_false, zV_letterAt V (i : Int) (by omega), b2_s, zw_add]
    exact hv h snap hist sv inp rep V
theorem yS_sum (hN : 3000 ≤ N) (ok : zv_ok A) : ∃ v : Int64, ∀ (h : zH) (snap : zA) (hist : List zA) (sv : Int) (inp : List Nat) (rep : zvP), zv h A hist snap sv inp rep → fL_sum N 0 h = some (v, h) := by
  obtain ⟨v, hv⟩ := yS_28 (N := N) (A := A) hN (fun w hw => (ok.2.2.2.2 w hw).2.1) ok.2.2.2.1 A.2.1.length N 0 ((Int32.ofInt (A.1 : Int)).toInt64 + (10 : Int64) * (Int32.ofInt (A.2.1.length : Int)).toInt64 + (2000 : Int64) * (Int32.ofInt (A.2.2.length : Int)).toInt64) (by omega) (by have := ok.2.1; omega)
  refine ⟨v, fun h snap hist sv inp rep V => ?_⟩
  unfold fL_sum
  rw [zV_letters V, b2_s, zV_length V, b2_s, zV_keptCount V, b2_s]
  exact hv h snap hist sv inp rep V
/-- the lengths of all kept words together -/
theorem yH_4 {h : zH} {snap : zA} {hist : List zA} {sv : Int} {inp : List Nat} {rep : zvP} (V : zv h A hist snap sv inp rep) : ∀ c f k acc : Nat, k + c = A.2.2.length → c < f → acc + c * 40 ≤ 400 → fL_shelf_4 N f 0 (Int32.ofInt (acc : Int)) (Int32.ofInt (k : Int)) h = some (Int32.ofInt ((acc + ((A.2.2.drop k).map List.length).sum : Nat) : Int), h) := by
  have ok := (zv_open V).1
  have o8 := ok.2.2.2.1
  intro c
  induction c with
  | zero =>
    intro f k acc h1 h2 h3
    obtain ⟨f, rfl⟩ : ∃ f', f = f' + 1 := ⟨f - 1, by omega⟩
    rw [fL_shelf_4, zV_keptCount V, b2_s, zqo_ge _ _ (by omega) (by omega), decide_eq_true (by omega), cond_true, List.drop_eq_nil_of_le (by omega)]
    rfl
  | succ c ih =>
    intro f k acc h1 h2 h3
    obtain ⟨f, rfl⟩ : ∃ f', f = f' + 1 := ⟨f - 1, by omega⟩
    have hk : k < A.2.2.length := by omega
    have ow := ok.2.2.2.2 (A.2.2.getD k []) (by rw [List.getD_eq_getElem?_getD, List.getElem?_eq_getElem hk]; exact List.getElem_mem hk)
    rw [fL_shelf_4, zV_keptCount V, b2_s, zqo_ge _ _ (by omega) (by omega), decide_eq_false (by omega), cond_false, zV_keptLength V hk (by omega), bN_s, zw_add, zw_add, show (acc : Int) + ((A.2.2.getD k []).length : Int) = ((acc + (A.2.2.getD k []).length : Nat) : Int) by omega, show (k : Int) + 1 = ((k + 1 : Nat) : Int) by omega, ih f (k + 1) _ (by omega) (by omega) (by omega), List.drop_eq_getElem_cons hk, List.map_cons, List.sum_cons, List.getD_eq_getElem?_getD, List.getElem?_eq_getElem hk, Option.getD_some, Nat.add_assoc]
theorem yH_shelf {h : zH} {snap : zA} {hist : List zA} {sv : Int} {inp : List Nat} {rep : zvP} (V : zv h A hist snap sv inp rep) (hN : 3000 ≤ N) : fL_shelf N 0 h = some (Int32.ofInt (((A.2.2.map List.length).sum : Nat) : Int), h) := by
  have o8 := (zv_open V).1.2.2.2.1
  unfold fL_shelf
  have e := yH_4 (N := N) V A.2.2.length N 0 0 (by omega) (by omega) (by omega)
  rw [Nat.zero_add, List.drop_zero] at e
  exact e
/-- is the text the last letter alone -/
theorem yH_greatest {h : zH} {snap : zA} {hist : List zA} {sv : Int} {inp : List Nat} {rep : zvP} (V : zv h A hist snap sv inp rep) : fL_isGreatest N 0 h = some (Int32.ofInt (if A.2.1.length = 1 ∧ A.2.1.getD 0 0 = 96 + A.1 then 1 else 0), h) := by
  have ok := (zv_open V).1
  have o1 := ok.1
  have o2 := ok.2.1
  unfold fL_isGreatest
  rw [zV_length V, b2_s, zqo_ne _ _ (by omega) (by omega)]
  by_cases h1 : A.2.1.length = 1
  · have hv := zm_get ok.2.2.1 (j := 0) (by omega)
    rw [decide_eq_true (by omega), Bool.not_true, cond_false, zV_letterAt V 0 (by omega), b2_s, zw_gi (by omega), show Int.toNat 0 = 0 from rfl, zV_letters V, b2_s, zw_add, zqo_ne _ _ (by omega) (by omega)]
    by_cases h2 : A.2.1.getD 0 0 = 96 + A.1
    · rw [decide_eq_true (by omega), Bool.not_true, cond_false, if_pos ⟨h1, h2⟩]
      rfl
    · rw [decide_eq_false (by omega), Bool.not_false, cond_true, if_neg (fun z => h2 z.2)]
      rfl
  · rw [decide_eq_false (by omega), Bool.not_false, cond_true, if_neg (fun z => h1 z.1)]
    rfl
end YSS
