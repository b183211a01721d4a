/-! The check of the tables, methods 0 to 95. -/
theorem zdd_0 : ∀ q ∈ zc_0, decode prog_4_method_1_code q.1 = Except.ok (q.2.1, q.2.2.1) := zdw (by decide +kernel)
theorem zk_0 (xs : List Int32) : z_okm (za_T xs) za_P za_M 0 := z_okm_of ⟨"LyndonBench$History", "<init>", "()V"⟩ prog_4_method_1_code zc_0 _ rfl rfl rfl rfl
  (z_bulk (own := "LyndonBench$History") (TB := zTB_0) (H := [(10, .putfield 11, 3, 1, 0)]) (zTBk_0 xs) rfl zdd_0 (by decide +kernel)
    (z_fc (zo_h (by decide +kernel) rfl ⟨rfl, Nat.le_of_ble_eq_true rfl, _, _, _, rfl, Nat.le_of_ble_eq_true rfl, zw_85, Or.inr ⟨rfl, rfl, rfl⟩⟩) <|
    z_fn))
  (z_fn)
theorem zdd_1 : ∀ q ∈ zc_1, decode prog_4_method_2_code q.1 = Except.ok (q.2.1, q.2.2.1) := zdw (by decide +kernel)
theorem zk_1 (xs : List Int32) : z_okm (za_T xs) za_P za_M 1 := z_okm_of ⟨"LyndonBench$History", "remember", "(LLyndonBench$State;)V"⟩ prog_4_method_2_code zc_1 _ rfl rfl rfl rfl
  (z_bulk0 (own := "LyndonBench$History") (TB := zTB_0) (zTBk_0 xs) rfl zdd_1 (by decide +kernel))
  (z_fn)
theorem zdd_2 : ∀ q ∈ zc_2, decode prog_4_method_3_code q.1 = Except.ok (q.2.1, q.2.2.1) := zdw (by decide +kernel)
theorem zk_2 (xs : List Int32) : z_okm (za_T xs) za_P za_M 2 := z_okm_of ⟨"LyndonBench$History", "forgetOldest", "()V"⟩ prog_4_method_3_code zc_2 _ rfl rfl rfl rfl
  (z_bulk0 (own := "LyndonBench$History") (TB := zTB_0) (zTBk_0 xs) rfl zdd_2 (by decide +kernel))
  (z_fn)
theorem zdd_3 : ∀ q ∈ zc_3, decode prog_4_method_4_code q.1 = Except.ok (q.2.1, q.2.2.1) := zdw (by decide +kernel)
theorem zk_3 (xs : List Int32) : z_okm (za_T xs) za_P za_M 3 := z_okm_of ⟨"LyndonBench$History", "bringBack", "(LLyndonBench$State;)Z"⟩ prog_4_method_4_code zc_3 _ rfl rfl rfl rfl
  (z_bulk0 (own := "LyndonBench$History") (TB := zTB_0) (zTBk_0 xs) rfl zdd_3 (by decide +kernel))
  (z_fn)
theorem zdd_4 : ∀ q ∈ zc_4, decode prog_5_method_1_code q.1 = Except.ok (q.2.1, q.2.2.1) := zdd_of (by decide +kernel)
theorem zk_4 (xs : List Int32) : z_okm (za_T xs) za_P za_M 4 := z_okm_of ⟨"LyndonBench$Script", "<init>", "()V"⟩ prog_5_method_1_code zc_4 _ rfl rfl rfl rfl
  (z_bulk (own := "LyndonBench$Script") (TB := zTB_1) (H := [(15, .putfield 14, 3, 2, 0), (26, .putfield 23, 3, 2, 1), (73, .putfield 52, 3, 2, 10), (80, .putfield 56, 3, 2, 11)]) (zTBk_1 xs) rfl zdd_4 (by decide +kernel)
    (z_fc (zo_h (by decide +kernel) rfl ⟨rfl, Nat.le_of_ble_eq_true rfl, _, _, _, rfl, Nat.le_of_ble_eq_true rfl, zw_103, Or.inr ⟨rfl, rfl, rfl⟩⟩) <|
    z_fc (zo_h (by decide +kernel) rfl ⟨rfl, Nat.le_of_ble_eq_true rfl, _, _, _, rfl, Nat.le_of_ble_eq_true rfl, zw_104, Or.inr ⟨rfl, rfl, rfl⟩⟩) <|
    z_fc (zo_h (by decide +kernel) rfl ⟨rfl, Nat.le_of_ble_eq_true rfl, _, _, _, rfl, Nat.le_of_ble_eq_true rfl, zw_113, Or.inr ⟨rfl, rfl, rfl⟩⟩) <|
    z_fc (zo_h (by decide +kernel) rfl ⟨rfl, Nat.le_of_ble_eq_true rfl, _, _, _, rfl, Nat.le_of_ble_eq_true rfl, zw_114, Or.inr ⟨rfl, rfl, rfl⟩⟩) <|
    z_fn))
  (z_fn)
theorem zdd_5 : ∀ q ∈ zc_5, decode prog_6_method_1_code q.1 = Except.ok (q.2.1, q.2.2.1) := zdw (by decide +kernel)
theorem zk_5 (xs : List Int32) : z_okm (za_T xs) za_P za_M 5 := z_okm_of ⟨"LyndonBench$State", "<init>", "()V"⟩ prog_6_method_1_code zc_5 _ rfl rfl rfl rfl
  (z_bulk (own := "LyndonBench$State") (TB := zTB_2) (H := [(19, .putfield 20, 3, 3, 1), (28, .putfield 24, 3, 3, 2)]) (zTBk_2 xs) rfl zdd_5 (by decide +kernel)
    (z_fc (zo_h (by decide +kernel) rfl ⟨rfl, Nat.le_of_ble_eq_true rfl, _, _, _, rfl, Nat.le_of_ble_eq_true rfl, zw_62, Or.inr ⟨rfl, rfl, rfl⟩⟩) <|
    z_fc (zo_h (by decide +kernel) rfl ⟨rfl, Nat.le_of_ble_eq_true rfl, _, _, _, rfl, Nat.le_of_ble_eq_true rfl, zw_64, Or.inr ⟨rfl, rfl, rfl⟩⟩) <|
    z_fn))
  (z_fn)
theorem zdd_6 : ∀ q ∈ zc_6, decode prog_6_method_2_code q.1 = Except.ok (q.2.1, q.2.2.1) := zdw (by decide +kernel)
theorem zk_6 (xs : List Int32) : z_okm (za_T xs) za_P za_M 6 := z_okm_of ⟨"LyndonBench$State", "clear", "(I)V"⟩ prog_6_method_2_code zc_6 _ rfl rfl rfl rfl
  (z_bulk0 (own := "LyndonBench$State") (TB := zTB_2) (zTBk_2 xs) rfl zdd_6 (by decide +kernel))
  (z_fn)
theorem zdd_7 : ∀ q ∈ zc_7, decode prog_6_method_3_code q.1 = Except.ok (q.2.1, q.2.2.1) := zdw (by decide +kernel)
theorem zk_7 (xs : List Int32) : z_okm (za_T xs) za_P za_M 7 := z_okm_of ⟨"LyndonBench$State", "copyFrom", "(LLyndonBench$State;)V"⟩ prog_6_method_3_code zc_7 _ rfl rfl rfl rfl
  (z_bulk0 (own := "LyndonBench$State") (TB := zTB_2) (zTBk_2 xs) rfl zdd_7 (by decide +kernel))
  (z_fn)
theorem zdd_8 : ∀ q ∈ zc_8, decode prog_6_method_4_code q.1 = Except.ok (q.2.1, q.2.2.1) := zdw (by decide +kernel)
theorem zk_8 (xs : List Int32) : z_okm (za_T xs) za_P za_M 8 := z_okm_of ⟨"LyndonBench$State", "isLetter", "(I)Z"⟩ prog_6_method_4_code zc_8 _ rfl rfl rfl rfl
  (z_bulk0 (own := "LyndonBench$State") (TB := zTB_2) (zTBk_2 xs) rfl zdd_8 (by decide +kernel))
  (z_fn)
theorem zdd_9 : ∀ q ∈ zc_9, decode prog_6_method_5_code q.1 = Except.ok (q.2.1, q.2.2.1) := zdw (by decide +kernel)
theorem zk_9 (xs : List Int32) : z_okm (za_T xs) za_P za_M 9 := z_okm_of ⟨"LyndonBench$State", "greatestLetter", "()I"⟩ prog_6_method_5_code zc_9 _ rfl rfl rfl rfl
  (z_bulk0 (own := "LyndonBench$State") (TB := zTB_2) (zTBk_2 xs) rfl zdd_9 (by decide +kernel))
  (z_fn)
theorem zdd_10 : ∀ q ∈ zc_10, decode prog_6_method_6_code q.1 = Except.ok (q.2.1, q.2.2.1) := zdw (by decide +kernel)
theorem zk_10 (xs : List Int32) : z_okm (za_T xs) za_P za_M 10 := z_okm_of ⟨"LyndonBench$State", "fitsLetters", "(I)Z"⟩ prog_6_method_6_code zc_10 _ rfl rfl rfl rfl
  (z_bulk0 (own := "LyndonBench$State") (TB := zTB_2) (zTBk_2 xs) rfl zdd_10 (by decide +kernel))
  (z_fn)
theorem zdd_11 : ∀ q ∈ zc_11, decode prog_6_method_7_code q.1 = Except.ok (q.2.1, q.2.2.1) := zdw (by decide +kernel)
theorem zk_11 (xs : List Int32) : z_okm (za_T xs) za_P za_M 11 := z_okm_of ⟨"LyndonBench$State", "keptAt", "(I)LLyndonBench$Word;"⟩ prog_6_method_7_code zc_11 _ rfl rfl rfl rfl
  (z_bulk0 (own := "LyndonBench$State") (TB := zTB_2) (zTBk_2 xs) rfl zdd_11 (by decide +kernel))
  (z_fn)
theorem zdd_12 : ∀ q ∈ zc_12, decode prog_6_method_8_code q.1 = Except.ok (q.2.1, q.2.2.1) := zdw (by decide +kernel)
theorem zk_12 (xs : List Int32) : z_okm (za_T xs) za_P za_M 12 := z_okm_of ⟨"LyndonBench$State", "canKeep", "(I)Z"⟩ prog_6_method_8_code zc_12 _ rfl rfl rfl rfl
  (z_bulk0 (own := "LyndonBench$State") (TB := zTB_2) (zTBk_2 xs) rfl zdd_12 (by decide +kernel))
  (z_fn)
theorem zdd_13 : ∀ q ∈ zc_13, decode prog_6_method_9_code q.1 = Except.ok (q.2.1, q.2.2.1) := zdw (by decide +kernel)
theorem zk_13 (xs : List Int32) : z_okm (za_T xs) za_P za_M 13 := z_okm_of ⟨"LyndonBench$State", "keep", "(LLyndonBench$Word;II)V"⟩ prog_6_method_9_code zc_13 _ rfl rfl rfl rfl
  (z_bulk0 (own := "LyndonBench$State") (TB := zTB_2) (zTBk_2 xs) rfl zdd_13 (by decide +kernel))
  (z_fn)
theorem zdd_14 : ∀ q ∈ zc_14, decode prog_6_method_10_code q.1 = Except.ok (q.2.1, q.2.2.1) := zdw (by decide +kernel)
theorem zk_14 (xs : List Int32) : z_okm (za_T xs) za_P za_M 14 := z_okm_of ⟨"LyndonBench$State", "takeFromShelf", "(I)V"⟩ prog_6_method_10_code zc_14 _ rfl rfl rfl rfl
  (z_bulk0 (own := "LyndonBench$State") (TB := zTB_2) (zTBk_2 xs) rfl zdd_14 (by decide +kernel))
  (z_fn)
theorem zdd_15 : ∀ q ∈ zc_15, decode prog_6_method_11_code q.1 = Except.ok (q.2.1, q.2.2.1) := zdw (by decide +kernel)
theorem zk_15 (xs : List Int32) : z_okm (za_T xs) za_P za_M 15 := z_okm_of ⟨"LyndonBench$State", "greatestOfShelf", "(I)I"⟩ prog_6_method_11_code zc_15 _ rfl rfl rfl rfl
  (z_bulk0 (own := "LyndonBench$State") (TB := zTB_2) (zTBk_2 xs) rfl zdd_15 (by decide +kernel))
  (z_fn)
theorem zdd_16 : ∀ q ∈ zc_16, decode prog_6_method_12_code q.1 = Except.ok (q.2.1, q.2.2.1) := zdw (by decide +kernel)
theorem zk_16 (xs : List Int32) : z_okm (za_T xs) za_P za_M 16 := z_okm_of ⟨"LyndonBench$State", "canJoin", "()Z"⟩ prog_6_method_12_code zc_16 _ rfl rfl rfl rfl
  (z_bulk0 (own := "LyndonBench$State") (TB := zTB_2) (zTBk_2 xs) rfl zdd_16 (by decide +kernel))
  (z_fn)
theorem zdd_17 : ∀ q ∈ zc_17, decode prog_6_method_13_code q.1 = Except.ok (q.2.1, q.2.2.1) := zdw (by decide +kernel)
theorem zk_17 (xs : List Int32) : z_okm (za_T xs) za_P za_M 17 := z_okm_of ⟨"LyndonBench$State", "joinShelf", "()V"⟩ prog_6_method_13_code zc_17 _ rfl rfl rfl rfl
  (z_bulk0 (own := "LyndonBench$State") (TB := zTB_2) (zTBk_2 xs) rfl zdd_17 (by decide +kernel))
  (z_fn)
theorem zdd_18 : ∀ q ∈ zc_18, decode prog_6_method_14_code q.1 = Except.ok (q.2.1, q.2.2.1) := zdw (by decide +kernel)
theorem zk_18 (xs : List Int32) : z_okm (za_T xs) za_P za_M 18 := z_okm_of ⟨"LyndonBench$State", "hasNext", "(I)Z"⟩ prog_6_method_14_code zc_18 _ rfl rfl rfl rfl
  (z_bulk0 (own := "LyndonBench$State") (TB := zTB_2) (zTBk_2 xs) rfl zdd_18 (by decide +kernel))
  (z_fn)
theorem zdd_19 : ∀ q ∈ zc_19, decode prog_7_method_1_code q.1 = Except.ok (q.2.1, q.2.2.1) := zdd_of (by decide +kernel)
theorem zk_19 (xs : List Int32) : z_okm (za_T xs) za_P za_M 19 := z_okm_of ⟨"LyndonBench$Word", "<init>", "(I)V"⟩ prog_7_method_1_code zc_19 _ rfl rfl rfl rfl
  (z_bulk (own := "LyndonBench$Word") (TB := zTB_3) (H := [(17, .putfield 21, 3, 4, 0)]) (zTBk_3 xs) rfl zdd_19 (by decide +kernel)
    (z_fc (zo_h (by decide +kernel) rfl ⟨rfl, Nat.le_of_ble_eq_true rfl, _, _, _, rfl, Nat.le_of_ble_eq_true rfl, zw_49, Or.inr ⟨rfl, rfl, rfl⟩⟩) <|
    z_fn))
  (z_fn)
theorem zdd_20 : ∀ q ∈ zc_20, decode prog_7_method_2_code q.1 = Except.ok (q.2.1, q.2.2.1) := zdw (by decide +kernel)
theorem zk_20 (xs : List Int32) : z_okm (za_T xs) za_P za_M 20 := z_okm_of ⟨"LyndonBench$Word", "at", "(I)I"⟩ prog_7_method_2_code zc_20 _ rfl rfl rfl rfl
  (z_bulk0 (own := "LyndonBench$Word") (TB := zTB_3) (zTBk_3 xs) rfl zdd_20 (by decide +kernel))
  (z_fn)
theorem zdd_21 : ∀ q ∈ zc_21, decode prog_7_method_3_code q.1 = Except.ok (q.2.1, q.2.2.1) := zdw (by decide +kernel)
theorem zk_21 (xs : List Int32) : z_okm (za_T xs) za_P za_M 21 := z_okm_of ⟨"LyndonBench$Word", "put", "(II)V"⟩ prog_7_method_3_code zc_21 _ rfl rfl rfl rfl
  (z_bulk0 (own := "LyndonBench$Word") (TB := zTB_3) (zTBk_3 xs) rfl zdd_21 (by decide +kernel))
  (z_fn)
theorem zdd_22 : ∀ q ∈ zc_22, decode prog_7_method_4_code q.1 = Except.ok (q.2.1, q.2.2.1) := zdw (by decide +kernel)
theorem zk_22 (xs : List Int32) : z_okm (za_T xs) za_P za_M 22 := z_okm_of ⟨"LyndonBench$Word", "clear", "()V"⟩ prog_7_method_4_code zc_22 _ rfl rfl rfl rfl
  (z_bulk0 (own := "LyndonBench$Word") (TB := zTB_3) (zTBk_3 xs) rfl zdd_22 (by decide +kernel))
  (z_fn)
theorem zdd_23 : ∀ q ∈ zc_23, decode prog_7_method_5_code q.1 = Except.ok (q.2.1, q.2.2.1) := zdw (by decide +kernel)
theorem zk_23 (xs : List Int32) : z_okm (za_T xs) za_P za_M 23 := z_okm_of ⟨"LyndonBench$Word", "add", "(I)V"⟩ prog_7_method_5_code zc_23 _ rfl rfl rfl rfl
  (z_bulk0 (own := "LyndonBench$Word") (TB := zTB_3) (zTBk_3 xs) rfl zdd_23 (by decide +kernel))
  (z_fn)
theorem zdd_24 : ∀ q ∈ zc_24, decode prog_7_method_7_code q.1 = Except.ok (q.2.1, q.2.2.1) := zdw (by decide +kernel)
theorem zk_24 (xs : List Int32) : z_okm (za_T xs) za_P za_M 24 := z_okm_of ⟨"LyndonBench$Word", "addString", "(Ljava/lang/String;)V"⟩ prog_7_method_7_code zc_24 _ rfl rfl rfl rfl
  (z_bulk0 (own := "LyndonBench$Word") (TB := zTB_3) (zTBk_3 xs) rfl zdd_24 (by decide +kernel))
  (z_fn)
theorem zdd_25 : ∀ q ∈ zc_25, decode prog_7_method_8_code q.1 = Except.ok (q.2.1, q.2.2.1) := zdw (by decide +kernel)
theorem zk_25 (xs : List Int32) : z_okm (za_T xs) za_P za_M 25 := z_okm_of ⟨"LyndonBench$Word", "addPart", "(LLyndonBench$Word;II)V"⟩ prog_7_method_8_code zc_25 _ rfl rfl rfl rfl
  (z_bulk0 (own := "LyndonBench$Word") (TB := zTB_3) (zTBk_3 xs) rfl zdd_25 (by decide +kernel))
  (z_fn)
theorem zdd_26 : ∀ q ∈ zc_26, decode prog_7_method_10_code q.1 = Except.ok (q.2.1, q.2.2.1) := zdw (by decide +kernel)
theorem zk_26 (xs : List Int32) : z_okm (za_T xs) za_P za_M 26 := z_okm_of ⟨"LyndonBench$Word", "copyFrom", "(LLyndonBench$Word;)V"⟩ prog_7_method_10_code zc_26 _ rfl rfl rfl rfl
  (z_bulk0 (own := "LyndonBench$Word") (TB := zTB_3) (zTBk_3 xs) rfl zdd_26 (by decide +kernel))
  (z_fn)
theorem zdd_27 : ∀ q ∈ zc_27, decode prog_7_method_11_code q.1 = Except.ok (q.2.1, q.2.2.1) := zdw (by decide +kernel)
theorem zk_27 (xs : List Int32) : z_okm (za_T xs) za_P za_M 27 := z_okm_of ⟨"LyndonBench$Word", "shortenTo", "(I)V"⟩ prog_7_method_11_code zc_27 _ rfl rfl rfl rfl
  (z_bulk0 (own := "LyndonBench$Word") (TB := zTB_3) (zTBk_3 xs) rfl zdd_27 (by decide +kernel))
  (z_fn)
theorem zdd_28 : ∀ q ∈ zc_28, decode prog_7_method_12_code q.1 = Except.ok (q.2.1, q.2.2.1) := zdw (by decide +kernel)
theorem zk_28 (xs : List Int32) : z_okm (za_T xs) za_P za_M 28 := z_okm_of ⟨"LyndonBench$Word", "cutTo", "(II)V"⟩ prog_7_method_12_code zc_28 _ rfl rfl rfl rfl
  (z_bulk0 (own := "LyndonBench$Word") (TB := zTB_3) (zTBk_3 xs) rfl zdd_28 (by decide +kernel))
  (z_fn)
theorem zdd_29 : ∀ q ∈ zc_29, decode prog_7_method_13_code q.1 = Except.ok (q.2.1, q.2.2.1) := zdw (by decide +kernel)
theorem zk_29 (xs : List Int32) : z_okm (za_T xs) za_P za_M 29 := z_okm_of ⟨"LyndonBench$Word", "mirror", "(II)V"⟩ prog_7_method_13_code zc_29 _ rfl rfl rfl rfl
  (z_bulk0 (own := "LyndonBench$Word") (TB := zTB_3) (zTBk_3 xs) rfl zdd_29 (by decide +kernel))
  (z_fn)
theorem zdd_30 : ∀ q ∈ zc_30, decode prog_7_method_14_code q.1 = Except.ok (q.2.1, q.2.2.1) := zdw (by decide +kernel)
theorem zk_30 (xs : List Int32) : z_okm (za_T xs) za_P za_M 30 := z_okm_of ⟨"LyndonBench$Word", "turn", "(I)V"⟩ prog_7_method_14_code zc_30 _ rfl rfl rfl rfl
  (z_bulk0 (own := "LyndonBench$Word") (TB := zTB_3) (zTBk_3 xs) rfl zdd_30 (by decide +kernel))
  (z_fn)
theorem zdd_31 : ∀ q ∈ zc_31, decode prog_7_method_15_code q.1 = Except.ok (q.2.1, q.2.2.1) := zdw (by decide +kernel)
theorem zk_31 (xs : List Int32) : z_okm (za_T xs) za_P za_M 31 := z_okm_of ⟨"LyndonBench$Word", "fitsLetters", "(I)Z"⟩ prog_7_method_15_code zc_31 _ rfl rfl rfl rfl
  (z_bulk0 (own := "LyndonBench$Word") (TB := zTB_3) (zTBk_3 xs) rfl zdd_31 (by decide +kernel))
  (z_fn)
theorem zdd_32 : ∀ q ∈ zc_32, decode prog_7_method_17_code q.1 = Except.ok (q.2.1, q.2.2.1) := zdw (by decide +kernel)
theorem zk_32 (xs : List Int32) : z_okm (za_T xs) za_P za_M 32 := z_okm_of ⟨"LyndonBench$Word", "order", "(IILLyndonBench$Word;II)I"⟩ prog_7_method_17_code zc_32 _ rfl rfl rfl rfl
  (z_bulk0 (own := "LyndonBench$Word") (TB := zTB_3) (zTBk_3 xs) rfl zdd_32 (by decide +kernel))
  (z_fn)
theorem zdd_33 : ∀ q ∈ zc_33, decode prog_7_method_18_code q.1 = Except.ok (q.2.1, q.2.2.1) := zdw (by decide +kernel)
theorem zk_33 (xs : List Int32) : z_okm (za_T xs) za_P za_M 33 := z_okm_of ⟨"LyndonBench$Word", "lyndonEnd", "(I)I"⟩ prog_7_method_18_code zc_33 _ rfl rfl rfl rfl
  (z_bulk0 (own := "LyndonBench$Word") (TB := zTB_3) (zTBk_3 xs) rfl zdd_33 (by decide +kernel))
  (z_fn)
theorem zdd_34 : ∀ q ∈ zc_34, decode prog_7_method_19_code q.1 = Except.ok (q.2.1, q.2.2.1) := zdw (by decide +kernel)
theorem zk_34 (xs : List Int32) : z_okm (za_T xs) za_P za_M 34 := z_okm_of ⟨"LyndonBench$Word", "factorEnd", "(II)I"⟩ prog_7_method_19_code zc_34 _ rfl rfl rfl rfl
  (z_bulk0 (own := "LyndonBench$Word") (TB := zTB_3) (zTBk_3 xs) rfl zdd_34 (by decide +kernel))
  (z_fn)
theorem zdd_35 : ∀ q ∈ zc_35, decode prog_7_method_20_code q.1 = Except.ok (q.2.1, q.2.2.1) := zdw (by decide +kernel)
theorem zk_35 (xs : List Int32) : z_okm (za_T xs) za_P za_M 35 := z_okm_of ⟨"LyndonBench$Word", "countFactors", "()I"⟩ prog_7_method_20_code zc_35 _ rfl rfl rfl rfl
  (z_bulk0 (own := "LyndonBench$Word") (TB := zTB_3) (zTBk_3 xs) rfl zdd_35 (by decide +kernel))
  (z_fn)
theorem zdd_36 : ∀ q ∈ zc_36, decode prog_7_method_21_code q.1 = Except.ok (q.2.1, q.2.2.1) := zdw (by decide +kernel)
theorem zk_36 (xs : List Int32) : z_okm (za_T xs) za_P za_M 36 := z_okm_of ⟨"LyndonBench$Word", "isOneFactor", "()Z"⟩ prog_7_method_21_code zc_36 _ rfl rfl rfl rfl
  (z_bulk0 (own := "LyndonBench$Word") (TB := zTB_3) (zTBk_3 xs) rfl zdd_36 (by decide +kernel))
  (z_fn)
theorem zdd_37 : ∀ q ∈ zc_37, decode prog_7_method_22_code q.1 = Except.ok (q.2.1, q.2.2.1) := zdw (by decide +kernel)
theorem zk_37 (xs : List Int32) : z_okm (za_T xs) za_P za_M 37 := z_okm_of ⟨"LyndonBench$Word", "beginOfFactor", "(I)I"⟩ prog_7_method_22_code zc_37 _ rfl rfl rfl rfl
  (z_bulk0 (own := "LyndonBench$Word") (TB := zTB_3) (zTBk_3 xs) rfl zdd_37 (by decide +kernel))
  (z_fn)
theorem zdd_38 : ∀ q ∈ zc_38, decode prog_7_method_23_code q.1 = Except.ok (q.2.1, q.2.2.1) := zdw (by decide +kernel)
theorem zk_38 (xs : List Int32) : z_okm (za_T xs) za_P za_M 38 := z_okm_of ⟨"LyndonBench$Word", "factorWith", "(I)I"⟩ prog_7_method_23_code zc_38 _ rfl rfl rfl rfl
  (z_bulk0 (own := "LyndonBench$Word") (TB := zTB_3) (zTBk_3 xs) rfl zdd_38 (by decide +kernel))
  (z_fn)
theorem zdd_39 : ∀ q ∈ zc_39, decode prog_7_method_26_code q.1 = Except.ok (q.2.1, q.2.2.1) := zdw (by decide +kernel)
theorem zk_39 (xs : List Int32) : z_okm (za_T xs) za_P za_M 39 := z_okm_of ⟨"LyndonBench$Word", "isLyndonPart", "(II)Z"⟩ prog_7_method_26_code zc_39 _ rfl rfl rfl rfl
  (z_bulk0 (own := "LyndonBench$Word") (TB := zTB_3) (zTBk_3 xs) rfl zdd_39 (by decide +kernel))
  (z_fn)
theorem zdd_40 : ∀ q ∈ zc_40, decode prog_7_method_31_code q.1 = Except.ok (q.2.1, q.2.2.1) := zdw (by decide +kernel)
theorem zk_40 (xs : List Int32) : z_okm (za_T xs) za_P za_M 40 := z_okm_of ⟨"LyndonBench$Word", "leastTurn", "()I"⟩ prog_7_method_31_code zc_40 _ rfl rfl rfl rfl
  (z_bulk0 (own := "LyndonBench$Word") (TB := zTB_3) (zTBk_3 xs) rfl zdd_40 (by decide +kernel))
  (z_fn)
theorem zdd_41 : ∀ q ∈ zc_41, decode prog_7_method_32_code q.1 = Except.ok (q.2.1, q.2.2.1) := zdw (by decide +kernel)
theorem zk_41 (xs : List Int32) : z_okm (za_T xs) za_P za_M 41 := z_okm_of ⟨"LyndonBench$Word", "atAround", "(I)I"⟩ prog_7_method_32_code zc_41 _ rfl rfl rfl rfl
  (z_bulk0 (own := "LyndonBench$Word") (TB := zTB_3) (zTBk_3 xs) rfl zdd_41 (by decide +kernel))
  (z_fn)
theorem zdd_42 : ∀ q ∈ zc_42, decode prog_7_method_33_code q.1 = Except.ok (q.2.1, q.2.2.1) := zdw (by decide +kernel)
theorem zk_42 (xs : List Int32) : z_okm (za_T xs) za_P za_M 42 := z_okm_of ⟨"LyndonBench$Word", "extremeEnding", "(I)I"⟩ prog_7_method_33_code zc_42 _ rfl rfl rfl rfl
  (z_bulk0 (own := "LyndonBench$Word") (TB := zTB_3) (zTBk_3 xs) rfl zdd_42 (by decide +kernel))
  (z_fn)
theorem zdd_43 : ∀ q ∈ zc_43, decode prog_7_method_34_code q.1 = Except.ok (q.2.1, q.2.2.1) := zdw (by decide +kernel)
theorem zk_43 (xs : List Int32) : z_okm (za_T xs) za_P za_M 43 := z_okm_of ⟨"LyndonBench$Word", "stepLyndon", "(II)V"⟩ prog_7_method_34_code zc_43 _ rfl rfl rfl rfl
  (z_bulk0 (own := "LyndonBench$Word") (TB := zTB_3) (zTBk_3 xs) rfl zdd_43 (by decide +kernel))
  (z_fn)
theorem zdd_44 : ∀ q ∈ zc_44, decode prog_1_method_1_code q.1 = Except.ok (q.2.1, q.2.2.1) := zdw (by decide +kernel)
theorem zk_44 (xs : List Int32) : z_okm (za_T xs) za_P za_M 44 := z_okm_of ⟨"LyndonBench", "<init>", "()V"⟩ prog_1_method_1_code zc_44 _ rfl rfl rfl rfl
  (z_bulk (own := "LyndonBench") (TB := zTB_4) (H := [(12, .putfield 12, 3, 0, 0), (23, .putfield 19, 3, 0, 1), (34, .putfield 23, 3, 0, 2), (50, .putfield 33, 3, 0, 4), (64, .putfield 42, 3, 0, 5), (77, .putfield 46, 3, 0, 6)]) (zTBk_4 xs) rfl zdd_44 (by decide +kernel)
    (z_fc (zo_h (by decide +kernel) rfl ⟨rfl, Nat.le_of_ble_eq_true rfl, _, _, _, rfl, Nat.le_of_ble_eq_true rfl, zw_221, Or.inr ⟨rfl, rfl, rfl⟩⟩) <|
    z_fc (zo_h (by decide +kernel) rfl ⟨rfl, Nat.le_of_ble_eq_true rfl, _, _, _, rfl, Nat.le_of_ble_eq_true rfl, zw_222, Or.inr ⟨rfl, rfl, rfl⟩⟩) <|
    z_fc (zo_h (by decide +kernel) rfl ⟨rfl, Nat.le_of_ble_eq_true rfl, _, _, _, rfl, Nat.le_of_ble_eq_true rfl, zw_223, Or.inr ⟨rfl, rfl, rfl⟩⟩) <|
    z_fc (zo_h (by decide +kernel) rfl ⟨rfl, Nat.le_of_ble_eq_true rfl, _, _, _, rfl, Nat.le_of_ble_eq_true rfl, zw_225, Or.inr ⟨rfl, rfl, rfl⟩⟩) <|
    z_fc (zo_h (by decide +kernel) rfl ⟨rfl, Nat.le_of_ble_eq_true rfl, _, _, _, rfl, Nat.le_of_ble_eq_true rfl, zw_226, Or.inr ⟨rfl, rfl, rfl⟩⟩) <|
    z_fc (zo_h (by decide +kernel) rfl ⟨rfl, Nat.le_of_ble_eq_true rfl, _, _, _, rfl, Nat.le_of_ble_eq_true rfl, zw_227, Or.inr ⟨rfl, rfl, rfl⟩⟩) <|
    z_fn))
  (z_fn)
theorem zdd_45 : ∀ q ∈ zc_45, decode prog_1_method_5_code q.1 = Except.ok (q.2.1, q.2.2.1) := zdw (by decide +kernel)
theorem zk_45 (xs : List Int32) : z_okm (za_T xs) za_P za_M 45 := z_okm_of ⟨"LyndonBench", "setLetters", "(I)I"⟩ prog_1_method_5_code zc_45 _ rfl rfl rfl rfl
  (z_bulk0 (own := "LyndonBench") (TB := zTB_4) (zTBk_4 xs) rfl zdd_45 (by decide +kernel))
  (z_fn)
theorem zdd_46 : ∀ q ∈ zc_46, decode prog_1_method_7_code q.1 = Except.ok (q.2.1, q.2.2.1) := zdw (by decide +kernel)
theorem zk_46 (xs : List Int32) : z_okm (za_T xs) za_P za_M 46 := z_okm_of ⟨"LyndonBench", "appendLetter", "(I)I"⟩ prog_1_method_7_code zc_46 _ rfl rfl rfl rfl
  (z_bulk0 (own := "LyndonBench") (TB := zTB_4) (zTBk_4 xs) rfl zdd_46 (by decide +kernel))
  (z_fn)
theorem zdd_47 : ∀ q ∈ zc_47, decode prog_1_method_8_code q.1 = Except.ok (q.2.1, q.2.2.1) := zdw (by decide +kernel)
theorem zk_47 (xs : List Int32) : z_okm (za_T xs) za_P za_M 47 := z_okm_of ⟨"LyndonBench", "dropLast", "(I)I"⟩ prog_1_method_8_code zc_47 _ rfl rfl rfl rfl
  (z_bulk0 (own := "LyndonBench") (TB := zTB_4) (zTBk_4 xs) rfl zdd_47 (by decide +kernel))
  (z_fn)
theorem zdd_48 : ∀ q ∈ zc_48, decode prog_1_method_9_code q.1 = Except.ok (q.2.1, q.2.2.1) := zdw (by decide +kernel)
theorem zk_48 (xs : List Int32) : z_okm (za_T xs) za_P za_M 48 := z_okm_of ⟨"LyndonBench", "cutPart", "(II)I"⟩ prog_1_method_9_code zc_48 _ rfl rfl rfl rfl
  (z_bulk0 (own := "LyndonBench") (TB := zTB_4) (zTBk_4 xs) rfl zdd_48 (by decide +kernel))
  (z_fn)
theorem zdd_49 : ∀ q ∈ zc_49, decode prog_1_method_10_code q.1 = Except.ok (q.2.1, q.2.2.1) := zdw (by decide +kernel)
theorem zk_49 (xs : List Int32) : z_okm (za_T xs) za_P za_M 49 := z_okm_of ⟨"LyndonBench", "rotate", "(I)I"⟩ prog_1_method_10_code zc_49 _ rfl rfl rfl rfl
  (z_bulk0 (own := "LyndonBench") (TB := zTB_4) (zTBk_4 xs) rfl zdd_49 (by decide +kernel))
  (z_fn)
theorem zdd_50 : ∀ q ∈ zc_50, decode prog_1_method_11_code q.1 = Except.ok (q.2.1, q.2.2.1) := zdw (by decide +kernel)
theorem zk_50 (xs : List Int32) : z_okm (za_T xs) za_P za_M 50 := z_okm_of ⟨"LyndonBench", "reverse", "()I"⟩ prog_1_method_11_code zc_50 _ rfl rfl rfl rfl
  (z_bulk0 (own := "LyndonBench") (TB := zTB_4) (zTBk_4 xs) rfl zdd_50 (by decide +kernel))
  (z_fn)
theorem zdd_51 : ∀ q ∈ zc_51, decode prog_1_method_12_code q.1 = Except.ok (q.2.1, q.2.2.1) := zdw (by decide +kernel)
theorem zk_51 (xs : List Int32) : z_okm (za_T xs) za_P za_M 51 := z_okm_of ⟨"LyndonBench", "rotateToLeast", "()I"⟩ prog_1_method_12_code zc_51 _ rfl rfl rfl rfl
  (z_bulk0 (own := "LyndonBench") (TB := zTB_4) (zTBk_4 xs) rfl zdd_51 (by decide +kernel))
  (z_fn)
theorem zdd_52 : ∀ q ∈ zc_52, decode prog_1_method_13_code q.1 = Except.ok (q.2.1, q.2.2.1) := zdw (by decide +kernel)
theorem zk_52 (xs : List Int32) : z_okm (za_T xs) za_P za_M 52 := z_okm_of ⟨"LyndonBench", "nextLyndon", "(I)I"⟩ prog_1_method_13_code zc_52 _ rfl rfl rfl rfl
  (z_bulk0 (own := "LyndonBench") (TB := zTB_4) (zTBk_4 xs) rfl zdd_52 (by decide +kernel))
  (z_fn)
theorem zdd_53 : ∀ q ∈ zc_53, decode prog_1_method_14_code q.1 = Except.ok (q.2.1, q.2.2.1) := zdw (by decide +kernel)
theorem zk_53 (xs : List Int32) : z_okm (za_T xs) za_P za_M 53 := z_okm_of ⟨"LyndonBench", "keepFactor", "(I)I"⟩ prog_1_method_14_code zc_53 _ rfl rfl rfl rfl
  (z_bulk0 (own := "LyndonBench") (TB := zTB_4) (zTBk_4 xs) rfl zdd_53 (by decide +kernel))
  (z_fn)
theorem zdd_54 : ∀ q ∈ zc_54, decode prog_1_method_15_code q.1 = Except.ok (q.2.1, q.2.2.1) := zdw (by decide +kernel)
theorem zk_54 (xs : List Int32) : z_okm (za_T xs) za_P za_M 54 := z_okm_of ⟨"LyndonBench", "keepText", "()I"⟩ prog_1_method_15_code zc_54 _ rfl rfl rfl rfl
  (z_bulk0 (own := "LyndonBench") (TB := zTB_4) (zTBk_4 xs) rfl zdd_54 (by decide +kernel))
  (z_fn)
theorem zdd_55 : ∀ q ∈ zc_55, decode prog_1_method_16_code q.1 = Except.ok (q.2.1, q.2.2.1) := zdw (by decide +kernel)
theorem zk_55 (xs : List Int32) : z_okm (za_T xs) za_P za_M 55 := z_okm_of ⟨"LyndonBench", "removeKept", "(I)I"⟩ prog_1_method_16_code zc_55 _ rfl rfl rfl rfl
  (z_bulk0 (own := "LyndonBench") (TB := zTB_4) (zTBk_4 xs) rfl zdd_55 (by decide +kernel))
  (z_fn)
theorem zdd_56 : ∀ q ∈ zc_56, decode prog_1_method_17_code q.1 = Except.ok (q.2.1, q.2.2.1) := zdw (by decide +kernel)
theorem zk_56 (xs : List Int32) : z_okm (za_T xs) za_P za_M 56 := z_okm_of ⟨"LyndonBench", "joinKept", "()I"⟩ prog_1_method_17_code zc_56 _ rfl rfl rfl rfl
  (z_bulk0 (own := "LyndonBench") (TB := zTB_4) (zTBk_4 xs) rfl zdd_56 (by decide +kernel))
  (z_fn)
theorem zdd_57 : ∀ q ∈ zc_57, decode prog_1_method_18_code q.1 = Except.ok (q.2.1, q.2.2.1) := zdw (by decide +kernel)
theorem zk_57 (xs : List Int32) : z_okm (za_T xs) za_P za_M 57 := z_okm_of ⟨"LyndonBench", "undo", "()I"⟩ prog_1_method_18_code zc_57 _ rfl rfl rfl rfl
  (z_bulk0 (own := "LyndonBench") (TB := zTB_4) (zTBk_4 xs) rfl zdd_57 (by decide +kernel))
  (z_fn)
theorem zdd_58 : ∀ q ∈ zc_58, decode prog_1_method_19_code q.1 = Except.ok (q.2.1, q.2.2.1) := zdw (by decide +kernel)
theorem zk_58 (xs : List Int32) : z_okm (za_T xs) za_P za_M 58 := z_okm_of ⟨"LyndonBench", "undoCount", "()I"⟩ prog_1_method_19_code zc_58 _ rfl rfl rfl rfl
  (z_bulk0 (own := "LyndonBench") (TB := zTB_4) (zTBk_4 xs) rfl zdd_58 (by decide +kernel))
  (z_fn)
theorem zdd_59 : ∀ q ∈ zc_59, decode prog_1_method_24_code q.1 = Except.ok (q.2.1, q.2.2.1) := zdw (by decide +kernel)
theorem zk_59 (xs : List Int32) : z_okm (za_T xs) za_P za_M 59 := z_okm_of ⟨"LyndonBench", "letters", "()I"⟩ prog_1_method_24_code zc_59 _ rfl rfl rfl rfl
  (z_bulk0 (own := "LyndonBench") (TB := zTB_4) (zTBk_4 xs) rfl zdd_59 (by decide +kernel))
  (z_fn)
theorem zdd_60 : ∀ q ∈ zc_60, decode prog_1_method_25_code q.1 = Except.ok (q.2.1, q.2.2.1) := zdw (by decide +kernel)
theorem zk_60 (xs : List Int32) : z_okm (za_T xs) za_P za_M 60 := z_okm_of ⟨"LyndonBench", "length", "()I"⟩ prog_1_method_25_code zc_60 _ rfl rfl rfl rfl
  (z_bulk0 (own := "LyndonBench") (TB := zTB_4) (zTBk_4 xs) rfl zdd_60 (by decide +kernel))
  (z_fn)
theorem zdd_61 : ∀ q ∈ zc_61, decode prog_1_method_26_code q.1 = Except.ok (q.2.1, q.2.2.1) := zdw (by decide +kernel)
theorem zk_61 (xs : List Int32) : z_okm (za_T xs) za_P za_M 61 := z_okm_of ⟨"LyndonBench", "letterAt", "(I)I"⟩ prog_1_method_26_code zc_61 _ rfl rfl rfl rfl
  (z_bulk0 (own := "LyndonBench") (TB := zTB_4) (zTBk_4 xs) rfl zdd_61 (by decide +kernel))
  (z_fn)
theorem zdd_62 : ∀ q ∈ zc_62, decode prog_1_method_28_code q.1 = Except.ok (q.2.1, q.2.2.1) := zdw (by decide +kernel)
theorem zk_62 (xs : List Int32) : z_okm (za_T xs) za_P za_M 62 := z_okm_of ⟨"LyndonBench", "factorCount", "()I"⟩ prog_1_method_28_code zc_62 _ rfl rfl rfl rfl
  (z_bulk0 (own := "LyndonBench") (TB := zTB_4) (zTBk_4 xs) rfl zdd_62 (by decide +kernel))
  (z_fn)
theorem zdd_63 : ∀ q ∈ zc_63, decode prog_1_method_29_code q.1 = Except.ok (q.2.1, q.2.2.1) := zdw (by decide +kernel)
theorem zk_63 (xs : List Int32) : z_okm (za_T xs) za_P za_M 63 := z_okm_of ⟨"LyndonBench", "factorStart", "(I)I"⟩ prog_1_method_29_code zc_63 _ rfl rfl rfl rfl
  (z_bulk0 (own := "LyndonBench") (TB := zTB_4) (zTBk_4 xs) rfl zdd_63 (by decide +kernel))
  (z_fn)
theorem zdd_64 : ∀ q ∈ zc_64, decode prog_1_method_30_code q.1 = Except.ok (q.2.1, q.2.2.1) := zdw (by decide +kernel)
theorem zk_64 (xs : List Int32) : z_okm (za_T xs) za_P za_M 64 := z_okm_of ⟨"LyndonBench", "factorLength", "(I)I"⟩ prog_1_method_30_code zc_64 _ rfl rfl rfl rfl
  (z_bulk0 (own := "LyndonBench") (TB := zTB_4) (zTBk_4 xs) rfl zdd_64 (by decide +kernel))
  (z_fn)
theorem zdd_65 : ∀ q ∈ zc_65, decode prog_1_method_32_code q.1 = Except.ok (q.2.1, q.2.2.1) := zdw (by decide +kernel)
theorem zk_65 (xs : List Int32) : z_okm (za_T xs) za_P za_M 65 := z_okm_of ⟨"LyndonBench", "factorOf", "(I)I"⟩ prog_1_method_32_code zc_65 _ rfl rfl rfl rfl
  (z_bulk0 (own := "LyndonBench") (TB := zTB_4) (zTBk_4 xs) rfl zdd_65 (by decide +kernel))
  (z_fn)
theorem zdd_66 : ∀ q ∈ zc_66, decode prog_1_method_34_code q.1 = Except.ok (q.2.1, q.2.2.1) := zdw (by decide +kernel)
theorem zk_66 (xs : List Int32) : z_okm (za_T xs) za_P za_M 66 := z_okm_of ⟨"LyndonBench", "factorsIfAppended", "(I)I"⟩ prog_1_method_34_code zc_66 _ rfl rfl rfl rfl
  (z_bulk0 (own := "LyndonBench") (TB := zTB_4) (zTBk_4 xs) rfl zdd_66 (by decide +kernel))
  (z_fn)
theorem zdd_67 : ∀ q ∈ zc_67, decode prog_1_method_37_code q.1 = Except.ok (q.2.1, q.2.2.1) := zdw (by decide +kernel)
theorem zk_67 (xs : List Int32) : z_okm (za_T xs) za_P za_M 67 := z_okm_of ⟨"LyndonBench", "isLyndon", "()Z"⟩ prog_1_method_37_code zc_67 _ rfl rfl rfl rfl
  (z_bulk0 (own := "LyndonBench") (TB := zTB_4) (zTBk_4 xs) rfl zdd_67 (by decide +kernel))
  (z_fn)
theorem zdd_68 : ∀ q ∈ zc_68, decode prog_1_method_46_code q.1 = Except.ok (q.2.1, q.2.2.1) := zdw (by decide +kernel)
theorem zk_68 (xs : List Int32) : z_okm (za_T xs) za_P za_M 68 := z_okm_of ⟨"LyndonBench", "leastSuffix", "()I"⟩ prog_1_method_46_code zc_68 _ rfl rfl rfl rfl
  (z_bulk0 (own := "LyndonBench") (TB := zTB_4) (zTBk_4 xs) rfl zdd_68 (by decide +kernel))
  (z_fn)
theorem zdd_69 : ∀ q ∈ zc_69, decode prog_1_method_51_code q.1 = Except.ok (q.2.1, q.2.2.1) := zdw (by decide +kernel)
theorem zk_69 (xs : List Int32) : z_okm (za_T xs) za_P za_M 69 := z_okm_of ⟨"LyndonBench", "keptCount", "()I"⟩ prog_1_method_51_code zc_69 _ rfl rfl rfl rfl
  (z_bulk0 (own := "LyndonBench") (TB := zTB_4) (zTBk_4 xs) rfl zdd_69 (by decide +kernel))
  (z_fn)
theorem zdd_70 : ∀ q ∈ zc_70, decode prog_1_method_52_code q.1 = Except.ok (q.2.1, q.2.2.1) := zdw (by decide +kernel)
theorem zk_70 (xs : List Int32) : z_okm (za_T xs) za_P za_M 70 := z_okm_of ⟨"LyndonBench", "keptLength", "(I)I"⟩ prog_1_method_52_code zc_70 _ rfl rfl rfl rfl
  (z_bulk0 (own := "LyndonBench") (TB := zTB_4) (zTBk_4 xs) rfl zdd_70 (by decide +kernel))
  (z_fn)
theorem zdd_71 : ∀ q ∈ zc_71, decode prog_1_method_53_code q.1 = Except.ok (q.2.1, q.2.2.1) := zdw (by decide +kernel)
theorem zk_71 (xs : List Int32) : z_okm (za_T xs) za_P za_M 71 := z_okm_of ⟨"LyndonBench", "keptLetter", "(II)I"⟩ prog_1_method_53_code zc_71 _ rfl rfl rfl rfl
  (z_bulk0 (own := "LyndonBench") (TB := zTB_4) (zTBk_4 xs) rfl zdd_71 (by decide +kernel))
  (z_fn)
theorem zdd_72 : ∀ q ∈ zc_72, decode prog_1_method_58_code q.1 = Except.ok (q.2.1, q.2.2.1) := zdw (by decide +kernel)
theorem zk_72 (xs : List Int32) : z_okm (za_T xs) za_P za_M 72 := z_okm_of ⟨"LyndonBench", "violations", "()I"⟩ prog_1_method_58_code zc_72 _ rfl rfl rfl rfl
  (z_bulk0 (own := "LyndonBench") (TB := zTB_4) (zTBk_4 xs) rfl zdd_72 (by decide +kernel))
  (z_fn)
theorem zdd_73 : ∀ q ∈ zc_73, decode prog_1_method_61_code q.1 = Except.ok (q.2.1, q.2.2.1) := zdw (by decide +kernel)
theorem zk_73 (xs : List Int32) : z_okm (za_T xs) za_P za_M 73 := z_okm_of ⟨"LyndonBench", "checkLetter", "(I)V"⟩ prog_1_method_61_code zc_73 _ rfl rfl rfl rfl
  (z_bulk0 (own := "LyndonBench") (TB := zTB_4) (zTBk_4 xs) rfl zdd_73 (by decide +kernel))
  (z_fn)
theorem zdd_74 : ∀ q ∈ zc_74, decode prog_1_method_62_code q.1 = Except.ok (q.2.1, q.2.2.1) := zdw (by decide +kernel)
theorem zk_74 (xs : List Int32) : z_okm (za_T xs) za_P za_M 74 := z_okm_of ⟨"LyndonBench", "checkCount", "(I)V"⟩ prog_1_method_62_code zc_74 _ rfl rfl rfl rfl
  (z_bulk0 (own := "LyndonBench") (TB := zTB_4) (zTBk_4 xs) rfl zdd_74 (by decide +kernel))
  (z_fn)
theorem zdd_75 : ∀ q ∈ zc_75, decode prog_1_method_63_code q.1 = Except.ok (q.2.1, q.2.2.1) := zdw (by decide +kernel)
theorem zk_75 (xs : List Int32) : z_okm (za_T xs) za_P za_M 75 := z_okm_of ⟨"LyndonBench", "checkPart", "(II)V"⟩ prog_1_method_63_code zc_75 _ rfl rfl rfl rfl
  (z_bulk0 (own := "LyndonBench") (TB := zTB_4) (zTBk_4 xs) rfl zdd_75 (by decide +kernel))
  (z_fn)
theorem zdd_76 : ∀ q ∈ zc_76, decode prog_1_method_65_code q.1 = Except.ok (q.2.1, q.2.2.1) := zdw (by decide +kernel)
theorem zk_76 (xs : List Int32) : z_okm (za_T xs) za_P za_M 76 := z_okm_of ⟨"LyndonBench", "checkedBegin", "(I)I"⟩ prog_1_method_65_code zc_76 _ rfl rfl rfl rfl
  (z_bulk0 (own := "LyndonBench") (TB := zTB_4) (zTBk_4 xs) rfl zdd_76 (by decide +kernel))
  (z_fn)
theorem zdd_77 : ∀ q ∈ zc_77, decode prog_14_method_40_code q.1 = Except.ok (q.2.1, q.2.2.1) := zdw (by decide +kernel)
theorem zk_77 (xs : List Int32) : z_okm (za_T xs) za_P za_M 77 := z_okm_of ⟨"java/lang/Integer", "compare", "(II)I"⟩ prog_14_method_40_code zc_77 _ rfl rfl rfl rfl
  (z_bulk0 (own := "java/lang/Integer") (TB := []) z_fn rfl zdd_77 (by decide +kernel))
  (z_fn)
theorem zdd_78 : ∀ q ∈ zc_78, decode prog_17_method_54_code q.1 = Except.ok (q.2.1, q.2.2.1) := zdw (by decide +kernel)
theorem zk_78 (xs : List Int32) : z_okm (za_T xs) za_P za_M 78 := z_okm_of ⟨"java/lang/String", "length", "()I"⟩ prog_17_method_54_code zc_78 _ rfl rfl rfl rfl
  (z_bulk0 (own := "java/lang/String") (TB := zTB_5) (zTBk_5 xs) rfl zdd_78 (by decide +kernel))
  (z_fn)
theorem zdd_79 : ∀ q ∈ zc_79, decode prog_17_method_56_code q.1 = Except.ok (q.2.1, q.2.2.1) := zdw (by decide +kernel)
theorem zk_79 (xs : List Int32) : z_okm (za_T xs) za_P za_M 79 := z_okm_of ⟨"java/lang/String", "charAt", "(I)C"⟩ prog_17_method_56_code zc_79 _ rfl rfl rfl rfl
  (z_bulk0 (own := "java/lang/String") (TB := zTB_5) (zTBk_5 xs) rfl zdd_79 (by decide +kernel))
  (z_fn)
theorem zdd_80 : ∀ q ∈ zc_80, decode prog_17_method_152_code q.1 = Except.ok (q.2.1, q.2.2.1) := zdw (by decide +kernel)
theorem zk_80 (xs : List Int32) : z_okm (za_T xs) za_P za_M 80 := z_okm_of ⟨"java/lang/String", "coder", "()B"⟩ prog_17_method_152_code zc_80 _ rfl rfl rfl rfl
  (z_bulk0 (own := "java/lang/String") (TB := zTB_5) (zTBk_5 xs) rfl zdd_80 (by decide +kernel))
  (z_fn)
theorem zdd_81 : ∀ q ∈ zc_81, decode prog_17_method_154_code q.1 = Except.ok (q.2.1, q.2.2.1) := zdw (by decide +kernel)
theorem zk_81 (xs : List Int32) : z_okm (za_T xs) za_P za_M 81 := z_okm_of ⟨"java/lang/String", "isLatin1", "()Z"⟩ prog_17_method_154_code zc_81 _ rfl rfl rfl rfl
  (z_bulk0 (own := "java/lang/String") (TB := zTB_5) (zTBk_5 xs) rfl zdd_81 (by decide +kernel))
  (z_fn)
theorem zdd_82 : ∀ q ∈ zc_82, decode prog_17_method_155_code q.1 = Except.ok (q.2.1, q.2.2.1) := zdw (by decide +kernel)
theorem zk_82 (xs : List Int32) : z_okm (za_T xs) za_P za_M 82 := z_okm_of ⟨"java/lang/String", "checkIndex", "(II)V"⟩ prog_17_method_155_code zc_82 _ rfl rfl rfl rfl
  (z_bulk0 (own := "java/lang/String") (TB := zTB_5) (zTBk_5 xs) rfl zdd_82 (by decide +kernel))
  (z_fn)
theorem zdd_83 : ∀ q ∈ zc_83, decode prog_18_method_2_code q.1 = Except.ok (q.2.1, q.2.2.1) := zdw (by decide +kernel)
theorem zk_83 (xs : List Int32) : z_okm (za_T xs) za_P za_M 83 := z_okm_of ⟨"java/lang/StringLatin1", "charAt", "([BI)C"⟩ prog_18_method_2_code zc_83 _ rfl rfl rfl rfl
  (z_bulk0 (own := "java/lang/StringLatin1") (TB := zTB_6) (zTBk_6 xs) rfl zdd_83 (by decide +kernel))
  (z_fn)
theorem zdd_84 : ∀ q ∈ zc_84, decode prog_21_method_11_code q.1 = Except.ok (q.2.1, q.2.2.1) := zdw (by decide +kernel)
theorem zk_84 (xs : List Int32) : z_okm (za_T xs) za_P za_M 84 := z_okm_of ⟨"jdk/internal/util/Preconditions", "checkIndex", "(IILjava/util/function/BiFunction;)I"⟩ prog_21_method_11_code zc_84 _ rfl rfl rfl rfl
  (z_bulk0 (own := "jdk/internal/util/Preconditions") (TB := []) z_fn rfl zdd_84 (by decide +kernel))
  (z_fn)
theorem zdd_85 : ∀ q ∈ zc_85, decode method_2_code q.1 = Except.ok (q.2.1, q.2.2.1) := zdw (by decide +kernel)
theorem zk_85 (xs : List Int32) : z_okm (za_T xs) za_P za_M 85 := z_okm_of ⟨"LyndonBenchLaw", "cell", "([II)I"⟩ method_2_code zc_85 _ rfl rfl rfl rfl
  (z_bulk0 (own := "LyndonBenchLaw") (TB := zTB_7) (zTBk_7 xs) rfl zdd_85 (by decide +kernel))
  (z_fn)
theorem zdd_86 : ∀ q ∈ zc_86, decode method_3_code q.1 = Except.ok (q.2.1, q.2.2.1) := zdd_of (by decide +kernel)
theorem zk_86 (xs : List Int32) : z_okm (za_T xs) za_P za_M 86 := z_okm_of ⟨"LyndonBenchLaw", "deed", "(LLyndonBench;I)V"⟩ method_3_code zc_86 _ rfl rfl rfl rfl
  (z_bulk0 (own := "LyndonBenchLaw") (TB := zTB_7) (zTBk_7 xs) rfl zdd_86 (by decide +kernel))
  (z_fn)
theorem zdd_87 : ∀ q ∈ zc_87, decode method_4_code q.1 = Except.ok (q.2.1, q.2.2.1) := zdw (by decide +kernel)
theorem zk_87 (xs : List Int32) : z_okm (za_T xs) za_P za_M 87 := z_okm_of ⟨"LyndonBenchLaw", "shelf", "(LLyndonBench;)I"⟩ method_4_code zc_87 _ rfl rfl rfl rfl
  (z_bulk0 (own := "LyndonBenchLaw") (TB := zTB_7) (zTBk_7 xs) rfl zdd_87 (by decide +kernel))
  (z_fn)
theorem zdd_88 : ∀ q ∈ zc_88, decode method_5_code q.1 = Except.ok (q.2.1, q.2.2.1) := zdw (by decide +kernel)
theorem zk_88 (xs : List Int32) : z_okm (za_T xs) za_P za_M 88 := z_okm_of ⟨"LyndonBenchLaw", "isGreatest", "(LLyndonBench;)Z"⟩ method_5_code zc_88 _ rfl rfl rfl rfl
  (z_bulk0 (own := "LyndonBenchLaw") (TB := zTB_7) (zTBk_7 xs) rfl zdd_88 (by decide +kernel))
  (z_fn)
theorem zdd_89 : ∀ q ∈ zc_89, decode method_6_code q.1 = Except.ok (q.2.1, q.2.2.1) := zdd_of (by decide +kernel)
theorem zk_89 (xs : List Int32) : z_okm (za_T xs) za_P za_M 89 := z_okm_of ⟨"LyndonBenchLaw", "word", "(LLyndonBench;)[I"⟩ method_6_code zc_89 _ rfl rfl rfl rfl
  (z_bulk0 (own := "LyndonBenchLaw") (TB := zTB_7) (zTBk_7 xs) rfl zdd_89 (by decide +kernel))
  (z_fn)
theorem zdd_90 : ∀ q ∈ zc_90, decode method_7_code q.1 = Except.ok (q.2.1, q.2.2.1) := zdw (by decide +kernel)
theorem zk_90 (xs : List Int32) : z_okm (za_T xs) za_P za_M 90 := z_okm_of ⟨"LyndonBenchLaw", "order", "([III[III)I"⟩ method_7_code zc_90 _ rfl rfl rfl rfl
  (z_bulk0 (own := "LyndonBenchLaw") (TB := zTB_7) (zTBk_7 xs) rfl zdd_90 (by decide +kernel))
  (z_fn)
theorem zdd_91 : ∀ q ∈ zc_91, decode method_8_code q.1 = Except.ok (q.2.1, q.2.2.1) := zdw (by decide +kernel)
theorem zk_91 (xs : List Int32) : z_okm (za_T xs) za_P za_M 91 := z_okm_of ⟨"LyndonBenchLaw", "isLyndon", "([III)Z"⟩ method_8_code zc_91 _ rfl rfl rfl rfl
  (z_bulk0 (own := "LyndonBenchLaw") (TB := zTB_7) (zTBk_7 xs) rfl zdd_91 (by decide +kernel))
  (z_fn)
theorem zdd_92 : ∀ q ∈ zc_92, decode method_9_code q.1 = Except.ok (q.2.1, q.2.2.1) := zdw (by decide +kernel)
theorem zk_92 (xs : List Int32) : z_okm (za_T xs) za_P za_M 92 := z_okm_of ⟨"LyndonBenchLaw", "holds", "(LLyndonBench;)Z"⟩ method_9_code zc_92 _ rfl rfl rfl rfl
  (z_bulk0 (own := "LyndonBenchLaw") (TB := zTB_7) (zTBk_7 xs) rfl zdd_92 (by decide +kernel))
  (z_fn)
theorem zdd_93 : ∀ q ∈ zc_93, decode method_10_code q.1 = Except.ok (q.2.1, q.2.2.1) := zdw (by decide +kernel)
theorem zk_93 (xs : List Int32) : z_okm (za_T xs) za_P za_M 93 := z_okm_of ⟨"LyndonBenchLaw", "sum", "(LLyndonBench;)J"⟩ method_10_code zc_93 _ rfl rfl rfl rfl
  (z_bulk0 (own := "LyndonBenchLaw") (TB := zTB_7) (zTBk_7 xs) rfl zdd_93 (by decide +kernel))
  (z_fn)
theorem zdd_94 : ∀ q ∈ zc_94, decode method_11_code q.1 = Except.ok (q.2.1, q.2.2.1) := zdd_of (by decide +kernel)
theorem zk_94 (xs : List Int32) : z_okm (za_T xs) za_P za_M 94 := z_okm_of ⟨"LyndonBenchLaw", "isAppended", "(LLyndonBench;I)Z"⟩ method_11_code zc_94 _ rfl rfl rfl rfl
  (z_bulk0 (own := "LyndonBenchLaw") (TB := zTB_7) (zTBk_7 xs) rfl zdd_94 (by decide +kernel))
  (z_fn)
theorem zdd_95_0 : ∀ q ∈ zc_95_0, decode code q.1 = Except.ok (q.2.1, q.2.2.1) := zdw (by decide +kernel)
theorem zdd_95_1 : ∀ q ∈ zc_95_1, decode code q.1 = Except.ok (q.2.1, q.2.2.1) := zdw (by decide +kernel)
theorem zdd_95_2 : ∀ q ∈ zc_95_2, decode code q.1 = Except.ok (q.2.1, q.2.2.1) := zdw (by decide +kernel)
theorem zdd_95 : ∀ q ∈ zc_95, decode code q.1 = Except.ok (q.2.1, q.2.2.1) := z_fap zdd_95_0 (z_fap zdd_95_1 (z_fap zdd_95_2 (z_fn)))
theorem zk_95 (xs : List Int32) : z_okm (za_T xs) za_P za_M 95 := z_okm_of ⟨"LyndonBenchLaw", "law", "([I)Z"⟩ code zc_95 _ rfl rfl rfl rfl
  (z_bulk0 (own := "LyndonBenchLaw") (TB := zTB_7) (zTBk_7 xs) rfl zdd_95 (by decide +kernel))
  (z_fn)
