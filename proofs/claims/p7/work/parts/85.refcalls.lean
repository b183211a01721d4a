/-! THE REFERENCE'S joinKept. -/
theorem zs_one0 : ∀ c i, zs_us (fun _ => [0]) 0 c i = c := by
  intro c
  induction c with
  | zero => intro i; rfl
  | succ c ih =>
    intro i
    rw [zs_us, ih, if_neg (by rw [Nat.zero_testBit]; decide)]
    show 1 + c = c + 1
    omega
theorem zs_none {S : Nat → List Nat} {m : Nat} : ∀ c i g, zs_g S m c i g = none → g = none ∧ zs_us (fun _ => [0]) m c i = 0 := by
  intro c
  induction c with
  | zero => intro i g h; exact ⟨h, rfl⟩
  | succ c ih =>
    intro i g h
    rw [zs_g] at h
    obtain ⟨h1, h2⟩ := ih _ _ h
    cases hb : m.testBit i with
    | true =>
      rw [hb, if_pos rfl] at h1
      exact ⟨h1, by rw [zs_us, hb, if_pos rfl, h2]⟩
    | false =>
      rw [hb, if_neg (by decide)] at h1
      cases g with
      | none => cases h1
      | some x =>
        rw [zs_st] at h1
        split at h1 <;> cases h1
section ZYN
variable {N : Nat} {h : zH} {fl fl' : Nat → Int} {a a' : Nat → Nat → Int} {bef now snap : zA} {hist : List zA} {sv t : Int} {inp : List Nat} {rep : zvP} {T : List Nat}
theorem zr_shelfLength4 (H : zr h fl a) (R : zyR fl a now hist snap sv inp rep t) (ok : zv_ok now) : ∀ (c f i s : Nat), i + c = now.2.2.length → c < f → s + 40 * c ≤ 1000 → fM_shelfLength_4 N f 232 (Int32.ofInt (s : Int)) (Int32.ofInt (i : Int)) h = some (Int32.ofInt ((s + ((now.2.2.drop i).map List.length).sum : Nat) : Int), h) := by
  have o4 := ok.2.2.2.1
  have g2 : fAI h 233 100 (Int32.ofInt 2) = some (Int32.ofInt (a 233 2)) := zr_w H 2 (by decide)
  intro c
  induction c with
  | zero =>
    intro f i s h1 h2 h3
    obtain ⟨g, rfl⟩ : ∃ g, f = g + 1 := ⟨f - 1, by omega⟩
    rw [fM_shelfLength_4, zr_r0 H, b1_s, g2, b1_s, R.1.2.2.2.1, zqo_ge _ _ (by omega) (by omega), decide_eq_true (by omega), cond_true, List.drop_eq_nil_of_le (by omega)]
    rfl
  | succ c ih =>
    intro f i s h1 h2 h3
    obtain ⟨g, rfl⟩ : ∃ g, f = g + 1 := ⟨f - 1, by omega⟩
    have hi : i < now.2.2.length := by omega
    have ei : now.2.2.getD i [] = now.2.2[i] := by
      rw [List.getD_eq_getElem?_getD, List.getElem?_eq_getElem hi]
      rfl
    have o5 := (ok.2.2.2.2 _ (List.getElem_mem hi)).2.1
    have g3 : fAI h 233 100 (Int32.ofInt (123 + (i : Int))) = some (Int32.ofInt ((now.2.2[i].length : Nat) : Int)) := by
      rw [show 123 + (i : Int) = ((123 + i : Nat) : Int) by omega, zr_w H _ (by omega), (R.1.2.2.2.2 i hi).1, ei]
    rw [fM_shelfLength_4, zr_r0 H, b1_s, g2, b1_s, R.1.2.2.2.1, zqo_ge _ _ (by omega) (by omega), decide_eq_false (by omega), cond_false, b1_s, zw_add, g3, b1_s, zw_add, zh_inc, show (s : Int) + (now.2.2[i].length : Int) = ((s + now.2.2[i].length : Nat) : Int) by omega, ih g (i + 1) _ (by omega) (by omega) (by omega), List.drop_eq_getElem_cons hi, List.map_cons, List.sum_cons, Nat.add_assoc]
theorem zv_sumb (ok : zv_ok now) : ∀ l : List (List Nat), (∀ w ∈ l, w ∈ now.2.2) → (l.map List.length).sum ≤ 40 * l.length := by
  intro l
  induction l with
  | nil => intro h; exact Nat.le_refl _
  | cons w l ih =>
    intro h
    have := ih (fun x hx => h x (List.mem_cons_of_mem _ hx))
    have o5 := (ok.2.2.2.2 w (h w (List.mem_cons_self ..))).2.1
    rw [List.map_cons, List.sum_cons, List.length_cons]
    omega
theorem zr_canJoin (hN : 1000 ≤ N) (H : zr h fl a) (R : zyR fl a now hist snap sv inp rep t) (ok : zv_ok now) : fM_canJoin N 232 h = some (cond (decide (0 < now.2.2.length ∧ (now.2.2.map List.length).sum ≤ 120)) (Int32.ofInt 1) (Int32.ofInt 0), h) := by
  have o4 := ok.2.2.2.1
  have sb := zv_sumb ok now.2.2 (fun _ h => h)
  have g2 : fAI h 233 100 (Int32.ofInt 2) = some (Int32.ofInt (a 233 2)) := zr_w H 2 (by decide)
  have e := zr_shelfLength4 (N := N) H R ok now.2.2.length N 0 0 (Nat.zero_add _) (by omega) (by omega)
  rw [List.drop_zero, Nat.zero_add] at e
  have e : fM_shelfLength_4 N N 232 (Int32.ofInt 0) (Int32.ofInt 0) h = _ := e
  unfold fM_canJoin
  rw [zr_T H, cond_true, zr_r0 H, b1_s, g2, b1_s, R.1.2.2.2.1, zqo_le _ _ (by omega) (by decide)]
  by_cases e1 : now.2.2.length = 0
  · rw [decide_eq_true (by omega), cond_true, decide_eq_false (by omega)]
    rfl
  · rw [decide_eq_false (by omega), cond_false]
    unfold fM_shelfLength
    rw [zr_T H, cond_true, e, b2, zqo_gt _ _ (by omega) (by decide)]
    by_cases e2 : (now.2.2.map List.length).sum ≤ 120
    · rw [decide_eq_false (by omega), cond_false, decide_eq_true (by omega)]
      rfl
    · rw [decide_eq_true (by omega), cond_true, decide_eq_false (by omega)]
      rfl
/-- two rows of letters -/
theorem zr_compares3 (H : zr h fl a) {u v : List Nat} {p q : Nat} (hu : u.length ≤ 130) (hv : v.length ≤ 130) (hp : p + u.length ≤ 451) (hq : q + v.length ≤ 451) (u2 : ∀ i, u.getD i 0 < 256) (v2 : ∀ i, v.getD i 0 < 256) (au : ∀ i, i < u.length → a 233 (p + i) = (u.getD i 0 : Int) - 97) (av : ∀ i, i < v.length → a 233 (q + i) = (v.getD i 0 : Int) - 97) : ∀ (c f i : Nat), i + c = u.length → i ≤ v.length → c < f → ∃ z : Int, fM_compares_3 N f 232 (Int32.ofInt (p : Int)) (Int32.ofInt (u.length : Int)) (Int32.ofInt (q : Int)) (Int32.ofInt (v.length : Int)) (Int32.ofInt (i : Int)) h = some (Int32.ofInt z, h) ∧ (-1000 ≤ z ∧ z ≤ 1000) ∧ (z < 0 ↔ zw_cmp (zw_p u i u.length) (zw_p v i v.length) = -1) ∧ (z = 0 ↔ zw_cmp (zw_p u i u.length) (zw_p v i v.length) = 0) := by
  intro c
  induction c with
  | zero =>
    intro f i h1 h2 h3
    obtain ⟨g, rfl⟩ : ∃ g, f = g + 1 := ⟨f - 1, by omega⟩
    refine ⟨(u.length : Int) - (v.length : Int), ?_, by omega, ?_⟩
    · rw [fM_compares_3, zqo_ge _ _ (by omega) (by omega), decide_eq_true (by omega), cond_true]
      unfold fM_compares_63
      rw [zw_sub]
    · rw [zw_p0 (l := u) (show u.length ≤ i by omega)]
      by_cases e : v.length ≤ i
      · rw [zw_p0 (l := v) e, zw_cmp]
        omega
      · rw [zw_pc (l := v) (show i < v.length by omega) (Nat.le_refl _), zw_cmp]
        omega
  | succ c ih =>
    intro f i h1 h2 h3
    obtain ⟨g, rfl⟩ : ∃ g, f = g + 1 := ⟨f - 1, by omega⟩
    rw [fM_compares_3, zqo_ge _ _ (by omega) (by omega), decide_eq_false (by omega), cond_false, zqo_ge _ _ (by omega) (by omega), zw_pc (l := u) (show i < u.length by omega) (Nat.le_refl _)]
    by_cases e : v.length ≤ i
    · refine ⟨(u.length : Int) - (v.length : Int), ?_, by omega, ?_⟩
      · rw [decide_eq_true (by omega), cond_true]
        unfold fM_compares_63
        rw [zw_sub]
      · rw [zw_p0 (l := v) e, zw_cmp]
        omega
    · have x1 := u2 i
      have x2 := v2 i
      have g1 : fAI h 233 100 (Int32.ofInt ((p : Int) + (i : Int))) = some (Int32.ofInt ((u.getD i 0 : Int) - 97)) := by
        rw [show (p : Int) + (i : Int) = ((p + i : Nat) : Int) by omega, zr_w H _ (by omega), au i (by omega)]
      have g2 : fAI h 233 100 (Int32.ofInt ((q : Int) + (i : Int))) = some (Int32.ofInt ((v.getD i 0 : Int) - 97)) := by
        rw [show (q : Int) + (i : Int) = ((q + i : Nat) : Int) by omega, zr_w H _ (by omega), av i (by omega)]
      rw [decide_eq_false (by omega), cond_false, zr_r0 H, b1_s, zw_add, g1, b1_s, b1_s, zw_add, g2, b1_s, zqo_eq _ _ (by omega) (by omega), zw_pc (l := v) (show i < v.length by omega) (Nat.le_refl _), zw_cmp]
      by_cases e2 : u.getD i 0 = v.getD i 0
      · obtain ⟨z, z1, z2, z3⟩ := ih g (i + 1) (by omega) (by omega) (by omega)
        refine ⟨z, ?_, z2, by rw [if_pos e2]; exact z3⟩
        rw [decide_eq_true (by omega), cond_true, zh_inc]
        exact z1
      · refine ⟨(u.getD i 0 : Int) - (v.getD i 0 : Int), ?_, by omega, ?_⟩
        · rw [decide_eq_false (by omega), cond_false, b1_s, g1, b1_s, b1_s, g2, b1_s, zw_sub, show (u.getD i 0 : Int) - 97 - ((v.getD i 0 : Int) - 97) = (u.getD i 0 : Int) - (v.getD i 0 : Int) by omega]
        · rw [if_neg e2]
          by_cases e3 : u.getD i 0 < v.getD i 0
          · rw [if_pos e3]
            omega
          · rw [if_neg e3]
            omega
theorem zv_kmem {k : Nat} (hk : k < now.2.2.length) : now.2.2.getD k [] ∈ now.2.2 := by
  rw [List.getD_eq_getElem?_getD, List.getElem?_eq_getElem hk]
  exact List.getElem_mem hk
theorem zr_shelved (hN : 1000 ≤ N) (H : zr h fl a) (R : zyR fl a now hist snap sv inp rep t) (ok : zv_ok now) {j k : Nat} (hj : j < now.2.2.length) (hk : k < now.2.2.length) : ∃ z : Int, fM_shelved N 232 (Int32.ofInt (j : Int)) (Int32.ofInt (k : Int)) h = some (Int32.ofInt z, h) ∧ (-1000 ≤ z ∧ z ≤ 1000) ∧ (z < 0 ↔ zw_cmp (now.2.2.getD j []) (now.2.2.getD k []) = -1) ∧ (z = 0 ↔ zw_cmp (now.2.2.getD j []) (now.2.2.getD k []) = 0) := by
  have o4 := ok.2.2.2.1
  have o1 := ok.1.2
  have wj := ok.2.2.2.2 _ (zv_kmem hj)
  have wk := ok.2.2.2.2 _ (zv_kmem hk)
  have bj := R.1.2.2.2.2 j hj
  have bk := R.1.2.2.2.2 k hk
  obtain ⟨z, z1, z2, z3⟩ := zr_compares3 (N := N) H (u := now.2.2.getD j []) (v := now.2.2.getD k []) (p := 131 + 40 * j) (q := 131 + 40 * k) (by omega) (by omega) (by omega) (by omega) (zd_lt (fun x hx => by have := wj.2.2 x hx; omega)) (zd_lt (fun x hx => by have := wk.2.2 x hx; omega)) bj.2 bk.2 (now.2.2.getD j []).length N 0 (Nat.zero_add _) (Nat.zero_le _) (by omega)
  rw [zw_pall, zw_pall] at z3
  refine ⟨z, ?_, z2, z3⟩
  have g1 : fAI h 233 100 (Int32.ofInt (123 + (j : Int))) = some (Int32.ofInt ((now.2.2.getD j []).length : Int)) := by
    rw [show 123 + (j : Int) = ((123 + j : Nat) : Int) by omega, zr_w H _ (by omega), bj.1]
  have g2 : fAI h 233 100 (Int32.ofInt (123 + (k : Int))) = some (Int32.ofInt ((now.2.2.getD k []).length : Int)) := by
    rw [show 123 + (k : Int) = ((123 + k : Nat) : Int) by omega, zr_w H _ (by omega), bk.1]
  have c1 : ∀ i : Nat, Int32.ofInt 131 + Int32.ofInt 40 * Int32.ofInt (i : Int) = Int32.ofInt ((131 + 40 * i : Nat) : Int) := fun i => by
    rw [← Int32.ofInt_mul, ← Int32.ofInt_add]
    rfl
  have z1 : fM_compares_3 N N 232 (Int32.ofInt ((131 + 40 * j : Nat) : Int)) (Int32.ofInt ((now.2.2.getD j []).length : Int)) (Int32.ofInt ((131 + 40 * k : Nat) : Int)) (Int32.ofInt ((now.2.2.getD k []).length : Int)) (Int32.ofInt 0) h = _ := z1
  unfold fM_shelved
  rw [zr_T H, cond_true, zr_r0 H, b1_s, zw_add, g1, b1_s, b1_s, zw_add, g2, b1_s, c1, c1]
  unfold fM_compares
  rw [zr_T H, cond_true, z1]
  rfl
theorem zr_great4 (hN : 1000 ≤ N) (H : zr h fl a) (R : zyR fl a now hist snap sv inp rep t) (ok : zv_ok now) {m : Nat} (hm : m < 256) : ∀ (c f i : Nat) (g : Option Nat), i + c = now.2.2.length → c < f → (∀ j, g = some j → j < i) → fM_greatestBeside_4 N f 232 (Int32.ofInt (m : Int)) (Int32.ofInt (zs_gi g)) (Int32.ofInt (i : Int)) h = some (Int32.ofInt (zs_gi (zs_g (fun j => now.2.2.getD j []) m c i g)), h) := by
  have o4 := ok.2.2.2.1
  have g2 : fAI h 233 100 (Int32.ofInt 2) = some (Int32.ofInt (a 233 2)) := zr_w H 2 (by decide)
  intro c
  induction c with
  | zero =>
    intro f i g h1 h2 h3
    obtain ⟨y, rfl⟩ : ∃ y, f = y + 1 := ⟨f - 1, by omega⟩
    rw [fM_greatestBeside_4, zr_r0 H, b1_s, g2, b1_s, R.1.2.2.2.1, zqo_ge _ _ (by omega) (by omega), decide_eq_true (by omega), cond_true]
    rfl
  | succ c ih =>
    intro f i g h1 h2 h3
    obtain ⟨y, rfl⟩ : ∃ y, f = y + 1 := ⟨f - 1, by omega⟩
    rw [fM_greatestBeside_4, zr_r0 H, b1_s, g2, b1_s, R.1.2.2.2.1, zqo_ge _ _ (by omega) (by omega), decide_eq_false (by omega), cond_false, zs_bit m i hm (by omega), zs_g]
    unfold fM_greatestBeside_36 fM_greatestBeside_38
    cases hb : m.testBit i with
    | true =>
      rw [cond_true, if_pos rfl, zh_inc]
      exact ih y (i + 1) g (by omega) (by omega) (fun j hj => by have := h3 j hj; omega)
    | false =>
      rw [cond_false, if_neg (by decide), zh_inc]
      cases g with
      | none =>
        rw [show zs_gi none = -1 from rfl, zqo_eq _ _ (by decide) (by decide), decide_eq_true rfl, cond_true]
        exact ih y (i + 1) (some i) (by omega) (by omega) (fun j hj => by cases hj; omega)
      | some x =>
        have hx := h3 x rfl
        obtain ⟨z, z1, z2, z3, z4⟩ := zr_shelved (N := N) hN H R ok (j := i) (k := x) (by omega) (by omega)
        rw [show zs_gi (some x) = (x : Int) from rfl, zqo_eq _ _ (by omega) (by decide), decide_eq_false (by omega), cond_false, z1, b2, zqo_le _ _ (by omega) (by decide), zs_st]
        rcases zw_cmpb (now.2.2.getD i []) (now.2.2.getD x []) with w | w | w
        · have := z3.mpr w
          rw [decide_eq_true (by omega), cond_true, if_neg (by rw [w]; decide)]
          exact ih y (i + 1) (some x) (by omega) (by omega) (fun j hj => by cases hj; omega)
        · have := z4.mpr w
          rw [decide_eq_true (by omega), cond_true, if_neg (by rw [w]; decide)]
          exact ih y (i + 1) (some x) (by omega) (by omega) (fun j hj => by cases hj; omega)
        · have n1 : ¬ z < 0 := fun y => by rw [z3.mp y] at w; exact absurd w (by decide)
          have n2 : ¬ z = 0 := fun y => by rw [z4.mp y] at w; exact absurd w (by decide)
          rw [decide_eq_false (by omega), cond_false, if_pos w]
          exact ih y (i + 1) (some i) (by omega) (by omega) (fun j hj => by cases hj; omega)
end ZYN
