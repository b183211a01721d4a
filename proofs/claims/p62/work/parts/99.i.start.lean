/-! p62: THE FRESH OBJECT: the constructor's run, by the kernel. -/
def za_h1 : zH := [(0, [.ref 1, .ref 21, .ref 183, .int 0, .ref 203, .ref 228, .ref 230]),
  (3, [.int 3, .ref 2, .ref 4, .int 2]),
  (4, [.ref 3, .int 14]),
  (101, [.int 97, .int 99, .int 97, .int 98, .int 97, .int 97, .int 98, .int 97, .int 99, .int 99, .int 97, .int 98, .int 97, .int 98] ++ List.replicate 106 (.int 0)),
  (104, [.ref 5, .ref 7, .ref 9, .ref 11, .ref 13, .ref 15, .ref 17, .ref 19]),
  (4, [.ref 6, .int 4]),
  (101, [.int 97, .int 98, .int 97, .int 99] ++ List.replicate 36 (.int 0)),
  (4, [.ref 8, .int 2]),
  (101, [.int 97, .int 98] ++ List.replicate 38 (.int 0)),
  (4, [.ref 10, .int 0]),
  (101, List.replicate 40 (.int 0)),
  (4, [.ref 12, .int 0]),
  (101, List.replicate 40 (.int 0)),
  (4, [.ref 14, .int 0]),
  (101, List.replicate 40 (.int 0)),
  (4, [.ref 16, .int 0]),
  (101, List.replicate 40 (.int 0)),
  (4, [.ref 18, .int 0]),
  (101, List.replicate 40 (.int 0)),
  (4, [.ref 20, .int 0]),
  (101, List.replicate 40 (.int 0)),
  (1, [.ref 22, .int 0]),
  (105, [.ref 23, .ref 43, .ref 63, .ref 83, .ref 103, .ref 123, .ref 143, .ref 163]),
  (3, [.int 2, .ref 24, .ref 26, .int 0]),
  (4, [.ref 25, .int 0]),
  (101, List.replicate 120 (.int 0)),
  (104, [.ref 27, .ref 29, .ref 31, .ref 33, .ref 35, .ref 37, .ref 39, .ref 41]),
  (4, [.ref 28, .int 0]),
  (101, List.replicate 40 (.int 0)),
  (4, [.ref 30, .int 0]),
  (101, List.replicate 40 (.int 0)),
  (4, [.ref 32, .int 0]),
  (101, List.replicate 40 (.int 0)),
  (4, [.ref 34, .int 0]),
  (101, List.replicate 40 (.int 0)),
  (4, [.ref 36, .int 0]),
  (101, List.replicate 40 (.int 0)),
  (4, [.ref 38, .int 0]),
  (101, List.replicate 40 (.int 0)),
  (4, [.ref 40, .int 0]),
  (101, List.replicate 40 (.int 0)),
  (4, [.ref 42, .int 0]),
  (101, List.replicate 40 (.int 0)),
  (3, [.int 2, .ref 44, .ref 46, .int 0]),
  (4, [.ref 45, .int 0]),
  (101, List.replicate 120 (.int 0)),
  (104, [.ref 47, .ref 49, .ref 51, .ref 53, .ref 55, .ref 57, .ref 59, .ref 61]),
  (4, [.ref 48, .int 0]),
  (101, List.replicate 40 (.int 0)),
  (4, [.ref 50, .int 0]),
  (101, List.replicate 40 (.int 0)),
  (4, [.ref 52, .int 0]),
  (101, List.replicate 40 (.int 0)),
  (4, [.ref 54, .int 0]),
  (101, List.replicate 40 (.int 0)),
  (4, [.ref 56, .int 0]),
  (101, List.replicate 40 (.int 0)),
  (4, [.ref 58, .int 0]),
  (101, List.replicate 40 (.int 0)),
  (4, [.ref 60, .int 0]),
  (101, List.replicate 40 (.int 0)),
  (4, [.ref 62, .int 0]),
  (101, List.replicate 40 (.int 0)),
  (3, [.int 2, .ref 64, .ref 66, .int 0]),
  (4, [.ref 65, .int 0]),
  (101, List.replicate 120 (.int 0)),
  (104, [.ref 67, .ref 69, .ref 71, .ref 73, .ref 75, .ref 77, .ref 79, .ref 81]),
  (4, [.ref 68, .int 0]),
  (101, List.replicate 40 (.int 0)),
  (4, [.ref 70, .int 0]),
  (101, List.replicate 40 (.int 0)),
  (4, [.ref 72, .int 0]),
  (101, List.replicate 40 (.int 0)),
  (4, [.ref 74, .int 0]),
  (101, List.replicate 40 (.int 0)),
  (4, [.ref 76, .int 0]),
  (101, List.replicate 40 (.int 0)),
  (4, [.ref 78, .int 0]),
  (101, List.replicate 40 (.int 0)),
  (4, [.ref 80, .int 0]),
  (101, List.replicate 40 (.int 0)),
  (4, [.ref 82, .int 0]),
  (101, List.replicate 40 (.int 0)),
  (3, [.int 2, .ref 84, .ref 86, .int 0]),
  (4, [.ref 85, .int 0]),
  (101, List.replicate 120 (.int 0)),
  (104, [.ref 87, .ref 89, .ref 91, .ref 93, .ref 95, .ref 97, .ref 99, .ref 101]),
  (4, [.ref 88, .int 0]),
  (101, List.replicate 40 (.int 0)),
  (4, [.ref 90, .int 0]),
  (101, List.replicate 40 (.int 0)),
  (4, [.ref 92, .int 0]),
  (101, List.replicate 40 (.int 0)),
  (4, [.ref 94, .int 0]),
  (101, List.replicate 40 (.int 0)),
  (4, [.ref 96, .int 0]),
  (101, List.replicate 40 (.int 0)),
  (4, [.ref 98, .int 0]),
  (101, List.replicate 40 (.int 0)),
  (4, [.ref 100, .int 0]),
  (101, List.replicate 40 (.int 0)),
  (4, [.ref 102, .int 0]),
  (101, List.replicate 40 (.int 0)),
  (3, [.int 2, .ref 104, .ref 106, .int 0]),
  (4, [.ref 105, .int 0]),
  (101, List.replicate 120 (.int 0)),
  (104, [.ref 107, .ref 109, .ref 111, .ref 113, .ref 115, .ref 117, .ref 119, .ref 121]),
  (4, [.ref 108, .int 0]),
  (101, List.replicate 40 (.int 0)),
  (4, [.ref 110, .int 0]),
  (101, List.replicate 40 (.int 0)),
  (4, [.ref 112, .int 0]),
  (101, List.replicate 40 (.int 0)),
  (4, [.ref 114, .int 0]),
  (101, List.replicate 40 (.int 0)),
  (4, [.ref 116, .int 0]),
  (101, List.replicate 40 (.int 0)),
  (4, [.ref 118, .int 0]),
  (101, List.replicate 40 (.int 0)),
  (4, [.ref 120, .int 0]),
  (101, List.replicate 40 (.int 0)),
  (4, [.ref 122, .int 0]),
  (101, List.replicate 40 (.int 0)),
  (3, [.int 2, .ref 124, .ref 126, .int 0]),
  (4, [.ref 125, .int 0]),
  (101, List.replicate 120 (.int 0)),
  (104, [.ref 127, .ref 129, .ref 131, .ref 133, .ref 135, .ref 137, .ref 139, .ref 141]),
  (4, [.ref 128, .int 0]),
  (101, List.replicate 40 (.int 0)),
  (4, [.ref 130, .int 0]),
  (101, List.replicate 40 (.int 0)),
  (4, [.ref 132, .int 0]),
  (101, List.replicate 40 (.int 0)),
  (4, [.ref 134, .int 0]),
  (101, List.replicate 40 (.int 0)),
  (4, [.ref 136, .int 0]),
  (101, List.replicate 40 (.int 0)),
  (4, [.ref 138, .int 0]),
  (101, List.replicate 40 (.int 0)),
  (4, [.ref 140, .int 0]),
  (101, List.replicate 40 (.int 0)),
  (4, [.ref 142, .int 0]),
  (101, List.replicate 40 (.int 0)),
  (3, [.int 2, .ref 144, .ref 146, .int 0]),
  (4, [.ref 145, .int 0]),
  (101, List.replicate 120 (.int 0)),
  (104, [.ref 147, .ref 149, .ref 151, .ref 153, .ref 155, .ref 157, .ref 159, .ref 161]),
  (4, [.ref 148, .int 0]),
  (101, List.replicate 40 (.int 0)),
  (4, [.ref 150, .int 0]),
  (101, List.replicate 40 (.int 0)),
  (4, [.ref 152, .int 0]),
  (101, List.replicate 40 (.int 0)),
  (4, [.ref 154, .int 0]),
  (101, List.replicate 40 (.int 0)),
  (4, [.ref 156, .int 0]),
  (101, List.replicate 40 (.int 0)),
  (4, [.ref 158, .int 0]),
  (101, List.replicate 40 (.int 0)),
  (4, [.ref 160, .int 0]),
  (101, List.replicate 40 (.int 0)),
  (4, [.ref 162, .int 0]),
  (101, List.replicate 40 (.int 0)),
  (3, [.int 2, .ref 164, .ref 166, .int 0]),
  (4, [.ref 165, .int 0]),
  (101, List.replicate 120 (.int 0)),
  (104, [.ref 167, .ref 169, .ref 171, .ref 173, .ref 175, .ref 177, .ref 179, .ref 181]),
  (4, [.ref 168, .int 0]),
  (101, List.replicate 40 (.int 0)),
  (4, [.ref 170, .int 0]),
  (101, List.replicate 40 (.int 0)),
  (4, [.ref 172, .int 0]),
  (101, List.replicate 40 (.int 0)),
  (4, [.ref 174, .int 0]),
  (101, List.replicate 40 (.int 0)),
  (4, [.ref 176, .int 0]),
  (101, List.replicate 40 (.int 0)),
  (4, [.ref 178, .int 0]),
  (101, List.replicate 40 (.int 0)),
  (4, [.ref 180, .int 0]),
  (101, List.replicate 40 (.int 0)),
  (4, [.ref 182, .int 0]),
  (101, List.replicate 40 (.int 0)),
  (3, [.int 2, .ref 184, .ref 186, .int 0]),
  (4, [.ref 185, .int 0]),
  (101, List.replicate 120 (.int 0)),
  (104, [.ref 187, .ref 189, .ref 191, .ref 193, .ref 195, .ref 197, .ref 199, .ref 201]),
  (4, [.ref 188, .int 0]),
  (101, List.replicate 40 (.int 0)),
  (4, [.ref 190, .int 0]),
  (101, List.replicate 40 (.int 0)),
  (4, [.ref 192, .int 0]),
  (101, List.replicate 40 (.int 0)),
  (4, [.ref 194, .int 0]),
  (101, List.replicate 40 (.int 0)),
  (4, [.ref 196, .int 0]),
  (101, List.replicate 40 (.int 0)),
  (4, [.ref 198, .int 0]),
  (101, List.replicate 40 (.int 0)),
  (4, [.ref 200, .int 0]),
  (101, List.replicate 40 (.int 0)),
  (4, [.ref 202, .int 0]),
  (101, List.replicate 40 (.int 0)),
  (2, [.ref 204, .ref 206, .int 0, .int (-1), .int 0, .int 0, .int 0, .int 0, .int 0, .int 0, .ref 226, .ref 227]),
  (4, [.ref 205, .int 0]),
  (101, List.replicate 600 (.int 0)),
  (3, [.int 2, .ref 207, .ref 209, .int 0]),
  (4, [.ref 208, .int 0]),
  (101, List.replicate 120 (.int 0)),
  (104, [.ref 210, .ref 212, .ref 214, .ref 216, .ref 218, .ref 220, .ref 222, .ref 224]),
  (4, [.ref 211, .int 0]),
  (101, List.replicate 40 (.int 0)),
  (4, [.ref 213, .int 0]),
  (101, List.replicate 40 (.int 0)),
  (4, [.ref 215, .int 0]),
  (101, List.replicate 40 (.int 0)),
  (4, [.ref 217, .int 0]),
  (101, List.replicate 40 (.int 0)),
  (4, [.ref 219, .int 0]),
  (101, List.replicate 40 (.int 0)),
  (4, [.ref 221, .int 0]),
  (101, List.replicate 40 (.int 0)),
  (4, [.ref 223, .int 0]),
  (101, List.replicate 40 (.int 0)),
  (4, [.ref 225, .int 0]),
  (101, List.replicate 40 (.int 0)),
  (100, List.replicate 2 (.int 0)),
  (100, List.replicate 2 (.int 0)),
  (4, [.ref 229, .int 0]),
  (101, List.replicate 240 (.int 0)),
  (4, [.ref 231, .int 6]),
  (101, [.int 97, .int 98, .int 97, .int 99, .int 97, .int 98] ++ List.replicate 115 (.int 0))]
theorem z_init1 : z_run za_Tb za_P 8000 7 44 0 [(0, .ref 0)] [] [(0, za_fresh 0)] 0 0 = some (.inl none, za_h1, 231, 6163) := by decide +kernel
def za_A0 : zA := (3, [97, 99, 97, 98, 97, 97, 98, 97, 99, 99, 97, 98, 97, 98], [[97, 98, 97, 99], [97, 98]])
/-! The class. -/
def zb_L (q : Nat) : Nat := if q = 1 then 3 else 2
def zb_T (q : Nat) : List Nat := if q = 1 then [97, 99, 97, 98, 97, 97, 98, 97, 99, 99, 97, 98, 97, 98] else []
def zb_S (q k : Nat) : List Nat := if q = 1 then ([[97, 98, 97, 99], [97, 98]] : List (List Nat)).getD k [] else []
def zb_K (q : Nat) : Nat := if q = 1 then 2 else 0
def zb_w (o : Nat) : List Nat := if o = 230 then [97, 98, 97, 99, 97, 98] else []
def zb_n (k : Nat) : Int := if k = 3 then -1 else 0
def zb_h (i : Nat) : Nat := 23 + 20 * i
def zb_ck (q n : Nat) (l : List Nat) : Bool := decide (za_h1[q]? = some (4, [.ref (q + 1), .int (Int32.ofInt (l.length : Int))])) && (decide (za_h1[q + 1]? = some (101, l.map (fun v => Value.int (zw_b v)) ++ List.replicate (n - l.length) (.int 0))) && (decide (q + 1 < 1000000) && (decide (l.length ≤ n) && (decide (n ≤ 600) && decide (∀ v ∈ l, v < 256)))))
theorem zb_W {q n : Nat} {l : List Nat} (c : zb_ck q n l = true) : zw_W za_h1 q n l := by
  unfold zb_ck at c
  rw [Bool.and_eq_true, Bool.and_eq_true, Bool.and_eq_true, Bool.and_eq_true, Bool.and_eq_true, decide_eq_true_eq, decide_eq_true_eq, decide_eq_true_eq, decide_eq_true_eq, decide_eq_true_eq, decide_eq_true_eq] at c
  obtain ⟨c1, c2, c3, c4, c5, c6⟩ := c
  refine ⟨c3, c1, ⟨_, c2, ?_, fun i hi => ?_⟩, c4, c5, c6⟩
  · rw [List.length_append, List.length_map, List.length_replicate]
    omega
  · rw [List.getElem?_append_left (by rw [List.length_map]; exact hi), List.getElem?_map, List.getD_eq_getElem?_getD, List.getElem?_eq_getElem hi]
    rfl
theorem zb_all : (([1, 23, 43, 63, 83, 103, 123, 143, 163, 183, 206] : List Nat).all fun q => decide (za_h1[q]? = some (3, [.int (Int32.ofInt (zb_L q : Int)), .ref (q + 1), .ref (q + 3), .int (Int32.ofInt (zb_K q : Int))])) && (decide (za_h1[q + 3]? = some (104, zs_a q)) && (zb_ck (q + 1) 120 (zb_T q) && (List.range 8).all fun i => zb_ck (q + 4 + 2 * i) 40 (zb_S q i)))) = true := by decide +kernel
theorem zb_st {q : Nat} (hq : zc_Q q) : zs_S za_h1 q (zb_L q) (zb_T q) (zb_S q) (zb_K q) := by
  have hm : q ∈ ([1, 23, 43, 63, 83, 103, 123, 143, 163, 183, 206] : List Nat) := by
    have c : q = 1 ∨ q = 23 ∨ q = 43 ∨ q = 63 ∨ q = 83 ∨ q = 103 ∨ q = 123 ∨ q = 143 ∨ q = 163 ∨ q = 183 ∨ q = 206 := by
      rcases hq with h | ⟨k, k1, h⟩ | h <;> omega
    rcases c with e | e | e | e | e | e | e | e | e | e | e <;> subst e <;> decide
  have c := List.all_eq_true.mp zb_all q hm
  rw [Bool.and_eq_true, Bool.and_eq_true, Bool.and_eq_true, decide_eq_true_eq, decide_eq_true_eq] at c
  obtain ⟨c1, c2, c3, c4⟩ := c
  have b := zc_Qb hq
  refine ⟨by omega, c1, c2, zb_W c3, fun i hi => zb_W (List.all_eq_true.mp c4 i (List.mem_range.mpr hi)), ?_, ?_⟩
  · unfold zb_K
    split <;> decide
  · unfold zb_L
    split <;> decide
theorem zb_o0 : za_h1[0]? = some (0, zc_o0 zb_n) := by decide +kernel
theorem zb_o1 : za_h1[21]? = some (1, zc_o1 zb_n) := by decide +kernel
theorem zb_ha : za_h1[22]? = some (105, zc_ha zb_h) := by decide +kernel
theorem zb_o2 : za_h1[203]? = some (2, zc_o2 zb_n) := by decide +kernel
theorem zb_ba : za_h1[226]? = some (100, [.int (Int32.ofInt (zb_n 10)), .int (Int32.ofInt (zb_n 11))]) := by decide +kernel
theorem zb_bb : za_h1[227]? = some (100, [.int (Int32.ofInt (zb_n 12)), .int (Int32.ofInt (zb_n 13))]) := by decide +kernel
theorem zb_w1 : zb_ck 204 600 (zb_w 204) = true := by decide +kernel
theorem zb_w2 : zb_ck 228 240 (zb_w 228) = true := by decide +kernel
theorem zb_w3 : zb_ck 230 121 (zb_w 230) = true := by decide +kernel
theorem zb_zc : zc za_h1 zb_L zb_T zb_S zb_K zb_w zb_n zb_h := by
  refine ⟨zb_o0, zb_o1, zb_ha, zb_o2, zb_ba, zb_bb, fun q hq => zb_st hq, ?_, fun i hi => ⟨i, hi, rfl⟩, fun i j h1 h2 h3 => by unfold zb_h; omega⟩
  intro o n ho
  rcases ho with ⟨e1, e2⟩ | ⟨e1, e2⟩ | ⟨e1, e2⟩ <;> subst e1 <;> subst e2
  · exact zb_W zb_w1
  · exact zb_W zb_w2
  · exact zb_W zb_w3
theorem zb_ok0 : zv_ok za_A0 := by
  unfold zv_ok
  decide
theorem zb_ok2 : zv_ok (2, [], []) := by
  unfold zv_ok
  decide
theorem zb_now : zv_a zb_L zb_T zb_S zb_K 1 = za_A0 := by decide +kernel
theorem zb_not {q : Nat} (e : q ≠ 1) : zv_a zb_L zb_T zb_S zb_K q = (2, [], []) := by
  unfold zv_a zb_L zb_T zb_K
  rw [if_neg e, if_neg e, if_neg e]
  rfl
theorem za_zv : zv za_h1 za_A0 [] (2, [], []) 0 [] ([], 0, -1) := by
  refine ⟨zb_L, zb_T, zb_S, zb_K, zb_w, zb_n, zb_h, zb_zc, zb_now, rfl, Nat.zero_le _, fun i (hi : i < 0) => absurd hi (Nat.not_lt_zero i), zb_not (by decide), rfl, rfl, ⟨rfl, rfl, rfl⟩, fun q hq => ?_⟩
  by_cases e : q = 1
  · rw [e, zb_now]
    exact zb_ok0
  · rw [zb_not e]
    exact zb_ok2
