/-! THE FIRST STATE: the reference out of its constructor, by what is proved of every script; the class out of its own. -/
def za_src : List Nat := [108, 101, 116, 116, 101, 114, 115, 32, 51, 59, 32, 116, 101, 120, 116, 32, 97, 98, 97, 99, 97, 98, 97, 97, 98, 97, 99, 99, 59, 32, 107, 101, 101, 112, 32, 48, 59, 32, 107, 101, 101, 112, 32, 49, 59, 32, 97, 112, 112, 101, 110, 100, 32, 97, 98, 59, 32, 114, 111, 116, 97, 116, 101, 32, 50, 59]
def za_A0 : zA := (3, [97, 99, 97, 98, 97, 97, 98, 97, 99, 99, 97, 98, 97, 98], [[97, 98, 97, 99], [97, 98]])
def za_f1 (k : Nat) : Int := if k = 11 then 66 else if k = 13 then -1 else 0
def za_a1 (p i : Nat) : Int := if p = 238 then (za_src.getD i 0 : Int) else 0
theorem za_yz : yz za_src = some za_A0 := by decide +kernel
theorem za_c232 : za_m1[232]? = some (5, zr_o za_f1) := by decide +kernel
theorem za_rep {h : zH} {p t n : Nat} {g : Nat → Int} (e : h[p]? = some (t, List.replicate n (.int 0))) (z : ∀ i, g i = 0) : zr_A h p t n g := ⟨_, e, List.length_replicate, fun i hi => by
  rw [List.getElem?_replicate, if_pos hi, z i]
  rfl⟩
def za_r1 : List Value := za_src.map (fun v : Nat => Value.int (Int32.ofInt (v : Int))) ++ List.replicate 534 (.int 0)
theorem za_c238 : za_m1[238]? = some (100, za_r1) := by decide +kernel
theorem za_l238 : za_r1.length = 600 := by decide +kernel
theorem za_v238 : ∀ i : Nat, i < 600 → za_r1[i]? = some (.int (Int32.ofInt (za_a1 238 i))) := by decide +kernel
theorem za_c233 : za_m1[233]? = some (100, List.replicate 451 (.int 0)) := by decide +kernel
theorem za_c234 : za_m1[234]? = some (100, List.replicate 451 (.int 0)) := by decide +kernel
theorem za_c235 : za_m1[235]? = some (100, List.replicate 3608 (.int 0)) := by decide +kernel
theorem za_c236 : za_m1[236]? = some (100, List.replicate 451 (.int 0)) := by decide +kernel
theorem za_c237 : za_m1[237]? = some (100, List.replicate 600 (.int 0)) := by decide +kernel
theorem za_c239 : za_m1[239]? = some (100, List.replicate 130 (.int 0)) := by decide +kernel
theorem za_c240 : za_m1[240]? = some (100, List.replicate 130 (.int 0)) := by decide +kernel
theorem za_c241 : za_m1[241]? = some (102, List.replicate 400 (.int 0)) := by decide +kernel
theorem za_c242 : za_m1[242]? = some (100, List.replicate 2 (.int 0)) := by decide +kernel
theorem za_zr : zr za_m1 za_f1 za_a1 := by
  refine ⟨za_c232, fun p h1 h2 => ?_⟩
  have c : p = 233 ∨ p = 234 ∨ p = 235 ∨ p = 236 ∨ p = 237 ∨ p = 238 ∨ p = 239 ∨ p = 240 ∨ p = 241 ∨ p = 242 := by omega
  rcases c with e | e | e | e | e | e | e | e | e | e <;> subst e
  · exact za_rep za_c233 (fun _ => rfl)
  · exact za_rep za_c234 (fun _ => rfl)
  · exact za_rep za_c235 (fun _ => rfl)
  · exact za_rep za_c236 (fun _ => rfl)
  · exact za_rep za_c237 (fun _ => rfl)
  · exact ⟨za_r1, za_c238, za_l238, za_v238⟩
  · exact za_rep za_c239 (fun _ => rfl)
  · exact za_rep za_c240 (fun _ => rfl)
  · exact za_rep za_c241 (fun _ => rfl)
  · exact za_rep za_c242 (fun _ => rfl)
theorem za_is0 {g : Nat → Int} (z : ∀ i, g i = 0) : zy_is g (0, [], []) := ⟨z 0, z 1, fun i (hi : i < 0) => absurd hi (Nat.not_lt_zero i), z 2, fun k (hk : k < 0) => absurd hk (Nat.not_lt_zero k)⟩
theorem za_R1 : zyR za_f1 za_a1 (0, [], []) [] (2, [], []) 0 [] ([], za_f1 12, za_f1 13) 0 := ⟨za_is0 (fun _ => rfl), rfl, fun i A hA => (by rw [List.getElem?_nil] at hA; cases hA), rfl, fun x => absurd x (by decide), ⟨rfl, fun i (hi : i < 0) => absurd hi (Nat.not_lt_zero i)⟩, ⟨⟨rfl, rfl, rfl⟩, fun i (hi : i < 0) => absurd hi (Nat.not_lt_zero i)⟩, rfl⟩
theorem za_parse : ∃ m2 : zH, (b2 (fM_parses 4000 232 za_m1) fun _ h4 => b1 (fS h4 232 5 17 (.int (Int32.ofInt 0))) fun h5 => some ((), h5)) = some ((), m2) ∧ (∃ rep : zvP, zy m2 za_A0 [] (2, [], []) 0 [] rep 0 ∧ rep.1 = []) ∧ zr_F za_m1 m2 := by
  rcases yw_parses (N := 4000) (G := ((0, [], []), [], (2, [], []), 0, [], [], 0, za_src)) (Nat.le_refl _) za_zr za_R1 (za_is0 (fun _ => rfl)) ⟨by decide, fun i _ => rfl⟩ ⟨by decide, by decide +kernel⟩ with ⟨z1, _⟩ | ⟨A', z1, h', fl', a', e, Y', F'⟩
  · have z1 : yz za_src = none := z1
    rw [za_yz] at z1
    cases z1
  · have z1 : yz za_src = some A' := z1
    rw [za_yz] at z1
    cases z1
    obtain ⟨h2, e2, Y2, F2⟩ := zy_throw ⟨fl', a', Y'.1, Y'.2.1⟩ 0
    exact ⟨h2, by rw [e, b2, e2, b1_s], ⟨_, Y2, rfl⟩, zr_Ft F' F2⟩
noncomputable def za_m2 : zH := Classical.choose za_parse
theorem za_m2e : (b2 (fM_parses 4000 232 za_m1) fun _ h4 => b1 (fS h4 232 5 17 (.int (Int32.ofInt 0))) fun h5 => some ((), h5)) = some ((), za_m2) := (Classical.choose_spec za_parse).1
theorem za_m2y : (∃ rep : zvP, zy za_m2 za_A0 [] (2, [], []) 0 [] rep 0 ∧ rep.1 = []) ∧ zr_F za_m1 za_m2 := (Classical.choose_spec za_parse).2
theorem za_m1len : za_m1.length = 243 := by decide +kernel
theorem za_m2len : za_m2.length = 243 := za_m2y.2.1.trans za_m1len
/-! The class. -/
def zb_L (q : Nat) : Nat := if q = 1 then 3 else 2
def zb_T (q : Nat) : List Nat := if q = 1 then [97, 99, 97, 98, 97, 97, 98, 97, 99, 99, 97, 98, 97, 98] else []
def zb_S (q k : Nat) : List Nat := if q = 1 then ([[97, 98, 97, 99], [97, 98]] : List (List Nat)).getD k [] else []
def zb_K (q : Nat) : Nat := if q = 1 then 2 else 0
def zb_w (o : Nat) : List Nat := if o = 230 then [97, 98, 97, 99, 97, 98] else []
def zb_n (k : Nat) : Int := if k = 3 then -1 else 0
def zb_h (i : Nat) : Nat := 23 + 20 * i
def zb_ck (q n : Nat) (l : List Nat) : Bool := decide (za_h1[q]? = some (4, [.ref (q + 1), .int (Int32.ofInt (l.length : Int))])) && (decide (za_h1[q + 1]? = some (101, l.map (fun v => Value.int (zw_b v)) ++ List.replicate (n - l.length) (.int 0))) && (decide (q + 1 < 1000000) && (decide (l.length ≤ n) && (decide (n ≤ 600) && decide (∀ v ∈ l, v < 256)))))
theorem zb_W {q n : Nat} {l : List Nat} (c : zb_ck q n l = true) : zw_W za_h1 q n l := by
  unfold zb_ck at c
  rw [Bool.and_eq_true, Bool.and_eq_true, Bool.and_eq_true, Bool.and_eq_true, Bool.and_eq_true, decide_eq_true_eq, decide_eq_true_eq, decide_eq_true_eq, decide_eq_true_eq, decide_eq_true_eq, decide_eq_true_eq] at c
  obtain ⟨c1, c2, c3, c4, c5, c6⟩ := c
  refine ⟨c3, c1, ⟨_, c2, ?_, fun i hi => ?_⟩, c4, c5, c6⟩
  · rw [List.length_append, List.length_map, List.length_replicate]
    omega
  · rw [List.getElem?_append_left (by rw [List.length_map]; exact hi), List.getElem?_map, List.getD_eq_getElem?_getD, List.getElem?_eq_getElem hi]
    rfl
theorem zb_all : (([1, 23, 43, 63, 83, 103, 123, 143, 163, 183, 206] : List Nat).all fun q => decide (za_h1[q]? = some (3, [.int (Int32.ofInt (zb_L q : Int)), .ref (q + 1), .ref (q + 3), .int (Int32.ofInt (zb_K q : Int))])) && (decide (za_h1[q + 3]? = some (104, zs_a q)) && (zb_ck (q + 1) 120 (zb_T q) && (List.range 8).all fun i => zb_ck (q + 4 + 2 * i) 40 (zb_S q i)))) = true := by decide +kernel
theorem zb_st {q : Nat} (hq : zc_Q q) : zs_S za_h1 q (zb_L q) (zb_T q) (zb_S q) (zb_K q) := by
  have hm : q ∈ ([1, 23, 43, 63, 83, 103, 123, 143, 163, 183, 206] : List Nat) := by
    have c : q = 1 ∨ q = 23 ∨ q = 43 ∨ q = 63 ∨ q = 83 ∨ q = 103 ∨ q = 123 ∨ q = 143 ∨ q = 163 ∨ q = 183 ∨ q = 206 := by
      rcases hq with h | ⟨k, k1, h⟩ | h <;> omega
    rcases c with e | e | e | e | e | e | e | e | e | e | e <;> subst e <;> decide
  have c := List.all_eq_true.mp zb_all q hm
  rw [Bool.and_eq_true, Bool.and_eq_true, Bool.and_eq_true, decide_eq_true_eq, decide_eq_true_eq] at c
  obtain ⟨c1, c2, c3, c4⟩ := c
  have b := zc_Qb hq
  refine ⟨by omega, c1, c2, zb_W c3, fun i hi => zb_W (List.all_eq_true.mp c4 i (List.mem_range.mpr hi)), ?_, ?_⟩
  · unfold zb_K
    split <;> decide
  · unfold zb_L
    split <;> decide
theorem zb_o0 : za_h1[0]? = some (0, zc_o0 zb_n) := by decide +kernel
theorem zb_o1 : za_h1[21]? = some (1, zc_o1 zb_n) := by decide +kernel
theorem zb_ha : za_h1[22]? = some (105, zc_ha zb_h) := by decide +kernel
theorem zb_o2 : za_h1[203]? = some (2, zc_o2 zb_n) := by decide +kernel
theorem zb_ba : za_h1[226]? = some (100, [.int (Int32.ofInt (zb_n 10)), .int (Int32.ofInt (zb_n 11))]) := by decide +kernel
theorem zb_bb : za_h1[227]? = some (100, [.int (Int32.ofInt (zb_n 12)), .int (Int32.ofInt (zb_n 13))]) := by decide +kernel
theorem zb_w1 : zb_ck 204 600 (zb_w 204) = true := by decide +kernel
theorem zb_w2 : zb_ck 228 240 (zb_w 228) = true := by decide +kernel
theorem zb_w3 : zb_ck 230 121 (zb_w 230) = true := by decide +kernel
theorem zb_zc : zc za_h1 zb_L zb_T zb_S zb_K zb_w zb_n zb_h := by
  refine ⟨zb_o0, zb_o1, zb_ha, zb_o2, zb_ba, zb_bb, fun q hq => zb_st hq, ?_, fun i hi => ⟨i, hi, rfl⟩, fun i j h1 h2 h3 => by unfold zb_h; omega⟩
  intro o n ho
  rcases ho with ⟨e1, e2⟩ | ⟨e1, e2⟩ | ⟨e1, e2⟩ <;> subst e1 <;> subst e2
  · exact zb_W zb_w1
  · exact zb_W zb_w2
  · exact zb_W zb_w3
theorem zb_ok0 : zv_ok za_A0 := by
  unfold zv_ok
  decide
theorem zb_ok2 : zv_ok (2, [], []) := by
  unfold zv_ok
  decide
theorem zb_now : zv_a zb_L zb_T zb_S zb_K 1 = za_A0 := by decide +kernel
theorem zb_not {q : Nat} (e : q ≠ 1) : zv_a zb_L zb_T zb_S zb_K q = (2, [], []) := by
  unfold zv_a zb_L zb_T zb_K
  rw [if_neg e, if_neg e, if_neg e]
  rfl
theorem za_zv : zv za_h1 za_A0 [] (2, [], []) 0 [] ([], 0, -1) := by
  refine ⟨zb_L, zb_T, zb_S, zb_K, zb_w, zb_n, zb_h, zb_zc, zb_now, rfl, Nat.zero_le _, fun i (hi : i < 0) => absurd hi (Nat.not_lt_zero i), zb_not (by decide), rfl, rfl, ⟨rfl, rfl, rfl⟩, fun q hq => ?_⟩
  by_cases e : q = 1
  · rw [e, zb_now]
    exact zb_ok0
  · rw [zb_not e]
    exact zb_ok2
