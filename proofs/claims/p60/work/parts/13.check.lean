section
/-! The check of the tables, methods 0 to 182. -/
theorem zdd_0 : ∀ q ∈ zc_0, decode prog_3_method_4_code q.1 = Except.ok (q.2.1, q.2.2.1) := zdw (by decide +kernel)
theorem zk_0 (xs : List Int32) : z_okm (za_T xs) za_P za_M 0 := z_okm_of ⟨"LyndonBench$Command", "find", "(LLyndonBench$Word;II)LLyndonBench$Command;"⟩ prog_3_method_4_code zc_0 _ rfl rfl rfl rfl
  (z_bulk0 (own := "LyndonBench$Command") (TB := zTB_0) (zTBk_0 xs) rfl zdd_0 (by decide +kernel))
  (z_fn)
theorem zdd_1 : ∀ q ∈ zc_1, decode prog_4_method_1_code q.1 = Except.ok (q.2.1, q.2.2.1) := zdw (by decide +kernel)
theorem zk_1 (xs : List Int32) : z_okm (za_T xs) za_P za_M 1 := z_okm_of ⟨"LyndonBench$History", "<init>", "()V"⟩ prog_4_method_1_code zc_1 _ rfl rfl rfl rfl
  (z_bulk (own := "LyndonBench$History") (TB := zTB_1) (H := [(10, .putfield 11, 3, 1, 0)]) (zTBk_1 xs) rfl zdd_1 (by decide +kernel)
    (z_fc (zo_h (by decide +kernel) rfl ⟨rfl, Nat.le_of_ble_eq_true rfl, _, _, _, rfl, Nat.le_of_ble_eq_true rfl, zw_201, Or.inr ⟨rfl, rfl, rfl⟩⟩) <|
    z_fn))
  (z_fn)
theorem zdd_2 : ∀ q ∈ zc_2, decode prog_4_method_2_code q.1 = Except.ok (q.2.1, q.2.2.1) := zdw (by decide +kernel)
theorem zk_2 (xs : List Int32) : z_okm (za_T xs) za_P za_M 2 := z_okm_of ⟨"LyndonBench$History", "remember", "(LLyndonBench$State;)V"⟩ prog_4_method_2_code zc_2 _ rfl rfl rfl rfl
  (z_bulk0 (own := "LyndonBench$History") (TB := zTB_1) (zTBk_1 xs) rfl zdd_2 (by decide +kernel))
  (z_fn)
theorem zdd_3 : ∀ q ∈ zc_3, decode prog_4_method_3_code q.1 = Except.ok (q.2.1, q.2.2.1) := zdw (by decide +kernel)
theorem zk_3 (xs : List Int32) : z_okm (za_T xs) za_P za_M 3 := z_okm_of ⟨"LyndonBench$History", "forgetOldest", "()V"⟩ prog_4_method_3_code zc_3 _ rfl rfl rfl rfl
  (z_bulk0 (own := "LyndonBench$History") (TB := zTB_1) (zTBk_1 xs) rfl zdd_3 (by decide +kernel))
  (z_fn)
theorem zdd_4 : ∀ q ∈ zc_4, decode prog_4_method_4_code q.1 = Except.ok (q.2.1, q.2.2.1) := zdw (by decide +kernel)
theorem zk_4 (xs : List Int32) : z_okm (za_T xs) za_P za_M 4 := z_okm_of ⟨"LyndonBench$History", "bringBack", "(LLyndonBench$State;)Z"⟩ prog_4_method_4_code zc_4 _ rfl rfl rfl rfl
  (z_bulk0 (own := "LyndonBench$History") (TB := zTB_1) (zTBk_1 xs) rfl zdd_4 (by decide +kernel))
  (z_fn)
theorem zdd_5 : ∀ q ∈ zc_5, decode prog_5_method_1_code q.1 = Except.ok (q.2.1, q.2.2.1) := zdd_of (by decide +kernel)
theorem zk_5 (xs : List Int32) : z_okm (za_T xs) za_P za_M 5 := z_okm_of ⟨"LyndonBench$Script", "<init>", "()V"⟩ prog_5_method_1_code zc_5 _ rfl rfl rfl rfl
  (z_bulk (own := "LyndonBench$Script") (TB := zTB_2) (H := [(15, .putfield 14, 3, 2, 0), (26, .putfield 23, 3, 2, 1), (73, .putfield 52, 3, 2, 10), (80, .putfield 56, 3, 2, 11)]) (zTBk_2 xs) rfl zdd_5 (by decide +kernel)
    (z_fc (zo_h (by decide +kernel) rfl ⟨rfl, Nat.le_of_ble_eq_true rfl, _, _, _, rfl, Nat.le_of_ble_eq_true rfl, zw_219, Or.inr ⟨rfl, rfl, rfl⟩⟩) <|
    z_fc (zo_h (by decide +kernel) rfl ⟨rfl, Nat.le_of_ble_eq_true rfl, _, _, _, rfl, Nat.le_of_ble_eq_true rfl, zw_221, Or.inr ⟨rfl, rfl, rfl⟩⟩) <|
    z_fc (zo_h (by decide +kernel) rfl ⟨rfl, Nat.le_of_ble_eq_true rfl, _, _, _, rfl, Nat.le_of_ble_eq_true rfl, zw_233, Or.inr ⟨rfl, rfl, rfl⟩⟩) <|
    z_fc (zo_h (by decide +kernel) rfl ⟨rfl, Nat.le_of_ble_eq_true rfl, _, _, _, rfl, Nat.le_of_ble_eq_true rfl, zw_234, Or.inr ⟨rfl, rfl, rfl⟩⟩) <|
    z_fn))
  (z_fn)
theorem zdd_6 : ∀ q ∈ zc_6, decode prog_5_method_2_code q.1 = Except.ok (q.2.1, q.2.2.1) := zdw (by decide +kernel)
theorem zk_6 (xs : List Int32) : z_okm (za_T xs) za_P za_M 6 := z_okm_of ⟨"LyndonBench$Script", "run", "()Z"⟩ prog_5_method_2_code zc_6 _ rfl rfl rfl rfl
  (z_bulk0 (own := "LyndonBench$Script") (TB := zTB_2) (zTBk_2 xs) rfl zdd_6 (by decide +kernel))
  (z_fn)
theorem zdd_7 : ∀ q ∈ zc_7, decode prog_5_method_3_code q.1 = Except.ok (q.2.1, q.2.2.1) := zdw (by decide +kernel)
theorem zk_7 (xs : List Int32) : z_okm (za_T xs) za_P za_M 7 := z_okm_of ⟨"LyndonBench$Script", "runHead", "()Z"⟩ prog_5_method_3_code zc_7 _ rfl rfl rfl rfl
  (z_bulk0 (own := "LyndonBench$Script") (TB := zTB_2) (zTBk_2 xs) rfl zdd_7 (by decide +kernel))
  (z_fn)
theorem zdd_8 : ∀ q ∈ zc_8, decode prog_5_method_4_code q.1 = Except.ok (q.2.1, q.2.2.1) := zdd_of (by decide +kernel)
theorem zk_8 (xs : List Int32) : z_okm (za_T xs) za_P za_M 8 := z_okm_of ⟨"LyndonBench$Script", "runCommand", "()Z"⟩ prog_5_method_4_code zc_8 _ rfl rfl rfl rfl
  (z_bulk0 (own := "LyndonBench$Script") (TB := zTB_2) (zTBk_2 xs) rfl zdd_8 (by decide +kernel))
  (z_fn)
theorem zdd_9 : ∀ q ∈ zc_9, decode prog_5_method_5_code q.1 = Except.ok (q.2.1, q.2.2.1) := zdw (by decide +kernel)
theorem zk_9 (xs : List Int32) : z_okm (za_T xs) za_P za_M 9 := z_okm_of ⟨"LyndonBench$Script", "openRepeat", "()Z"⟩ prog_5_method_5_code zc_9 _ rfl rfl rfl rfl
  (z_bulk0 (own := "LyndonBench$Script") (TB := zTB_2) (zTBk_2 xs) rfl zdd_9 (by decide +kernel))
  (z_fn)
theorem zdd_10 : ∀ q ∈ zc_10, decode prog_5_method_6_code q.1 = Except.ok (q.2.1, q.2.2.1) := zdw (by decide +kernel)
theorem zk_10 (xs : List Int32) : z_okm (za_T xs) za_P za_M 10 := z_okm_of ⟨"LyndonBench$Script", "endRound", "()Z"⟩ prog_5_method_6_code zc_10 _ rfl rfl rfl rfl
  (z_bulk0 (own := "LyndonBench$Script") (TB := zTB_2) (zTBk_2 xs) rfl zdd_10 (by decide +kernel))
  (z_fn)
theorem zdd_11 : ∀ q ∈ zc_11, decode prog_5_method_7_code q.1 = Except.ok (q.2.1, q.2.2.1) := zdw (by decide +kernel)
theorem zk_11 (xs : List Int32) : z_okm (za_T xs) za_P za_M 11 := z_okm_of ⟨"LyndonBench$Script", "runText", "(Z)Z"⟩ prog_5_method_7_code zc_11 _ rfl rfl rfl rfl
  (z_bulk0 (own := "LyndonBench$Script") (TB := zTB_2) (zTBk_2 xs) rfl zdd_11 (by decide +kernel))
  (z_fn)
theorem zdd_12 : ∀ q ∈ zc_12, decode prog_5_method_8_code q.1 = Except.ok (q.2.1, q.2.2.1) := zdw (by decide +kernel)
theorem zk_12 (xs : List Int32) : z_okm (za_T xs) za_P za_M 12 := z_okm_of ⟨"LyndonBench$Script", "runDrop", "()Z"⟩ prog_5_method_8_code zc_12 _ rfl rfl rfl rfl
  (z_bulk0 (own := "LyndonBench$Script") (TB := zTB_2) (zTBk_2 xs) rfl zdd_12 (by decide +kernel))
  (z_fn)
theorem zdd_13 : ∀ q ∈ zc_13, decode prog_5_method_9_code q.1 = Except.ok (q.2.1, q.2.2.1) := zdw (by decide +kernel)
theorem zk_13 (xs : List Int32) : z_okm (za_T xs) za_P za_M 13 := z_okm_of ⟨"LyndonBench$Script", "runPart", "()Z"⟩ prog_5_method_9_code zc_13 _ rfl rfl rfl rfl
  (z_bulk0 (own := "LyndonBench$Script") (TB := zTB_2) (zTBk_2 xs) rfl zdd_13 (by decide +kernel))
  (z_fn)
theorem zdd_14 : ∀ q ∈ zc_14, decode prog_5_method_10_code q.1 = Except.ok (q.2.1, q.2.2.1) := zdw (by decide +kernel)
theorem zk_14 (xs : List Int32) : z_okm (za_T xs) za_P za_M 14 := z_okm_of ⟨"LyndonBench$Script", "runRotate", "()Z"⟩ prog_5_method_10_code zc_14 _ rfl rfl rfl rfl
  (z_bulk0 (own := "LyndonBench$Script") (TB := zTB_2) (zTBk_2 xs) rfl zdd_14 (by decide +kernel))
  (z_fn)
theorem zdd_15 : ∀ q ∈ zc_15, decode prog_5_method_11_code q.1 = Except.ok (q.2.1, q.2.2.1) := zdw (by decide +kernel)
theorem zk_15 (xs : List Int32) : z_okm (za_T xs) za_P za_M 15 := z_okm_of ⟨"LyndonBench$Script", "runReverse", "()Z"⟩ prog_5_method_11_code zc_15 _ rfl rfl rfl rfl
  (z_bulk0 (own := "LyndonBench$Script") (TB := zTB_2) (zTBk_2 xs) rfl zdd_15 (by decide +kernel))
  (z_fn)
theorem zdd_16 : ∀ q ∈ zc_16, decode prog_5_method_12_code q.1 = Except.ok (q.2.1, q.2.2.1) := zdw (by decide +kernel)
theorem zk_16 (xs : List Int32) : z_okm (za_T xs) za_P za_M 16 := z_okm_of ⟨"LyndonBench$Script", "runLeast", "()Z"⟩ prog_5_method_12_code zc_16 _ rfl rfl rfl rfl
  (z_bulk0 (own := "LyndonBench$Script") (TB := zTB_2) (zTBk_2 xs) rfl zdd_16 (by decide +kernel))
  (z_fn)
theorem zdd_17 : ∀ q ∈ zc_17, decode prog_5_method_13_code q.1 = Except.ok (q.2.1, q.2.2.1) := zdw (by decide +kernel)
theorem zk_17 (xs : List Int32) : z_okm (za_T xs) za_P za_M 17 := z_okm_of ⟨"LyndonBench$Script", "runNext", "()Z"⟩ prog_5_method_13_code zc_17 _ rfl rfl rfl rfl
  (z_bulk0 (own := "LyndonBench$Script") (TB := zTB_2) (zTBk_2 xs) rfl zdd_17 (by decide +kernel))
  (z_fn)
theorem zdd_18 : ∀ q ∈ zc_18, decode prog_5_method_14_code q.1 = Except.ok (q.2.1, q.2.2.1) := zdw (by decide +kernel)
theorem zk_18 (xs : List Int32) : z_okm (za_T xs) za_P za_M 18 := z_okm_of ⟨"LyndonBench$Script", "runKeep", "()Z"⟩ prog_5_method_14_code zc_18 _ rfl rfl rfl rfl
  (z_bulk0 (own := "LyndonBench$Script") (TB := zTB_2) (zTBk_2 xs) rfl zdd_18 (by decide +kernel))
  (z_fn)
theorem zdd_19 : ∀ q ∈ zc_19, decode prog_5_method_15_code q.1 = Except.ok (q.2.1, q.2.2.1) := zdw (by decide +kernel)
theorem zk_19 (xs : List Int32) : z_okm (za_T xs) za_P za_M 19 := z_okm_of ⟨"LyndonBench$Script", "runRemove", "()Z"⟩ prog_5_method_15_code zc_19 _ rfl rfl rfl rfl
  (z_bulk0 (own := "LyndonBench$Script") (TB := zTB_2) (zTBk_2 xs) rfl zdd_19 (by decide +kernel))
  (z_fn)
theorem zdd_20 : ∀ q ∈ zc_20, decode prog_5_method_16_code q.1 = Except.ok (q.2.1, q.2.2.1) := zdw (by decide +kernel)
theorem zk_20 (xs : List Int32) : z_okm (za_T xs) za_P za_M 20 := z_okm_of ⟨"LyndonBench$Script", "runJoin", "()Z"⟩ prog_5_method_16_code zc_20 _ rfl rfl rfl rfl
  (z_bulk0 (own := "LyndonBench$Script") (TB := zTB_2) (zTBk_2 xs) rfl zdd_20 (by decide +kernel))
  (z_fn)
theorem zdd_21 : ∀ q ∈ zc_21, decode prog_5_method_17_code q.1 = Except.ok (q.2.1, q.2.2.1) := zdw (by decide +kernel)
theorem zk_21 (xs : List Int32) : z_okm (za_T xs) za_P za_M 21 := z_okm_of ⟨"LyndonBench$Script", "expect", "(I)Z"⟩ prog_5_method_17_code zc_21 _ rfl rfl rfl rfl
  (z_bulk0 (own := "LyndonBench$Script") (TB := zTB_2) (zTBk_2 xs) rfl zdd_21 (by decide +kernel))
  (z_fn)
theorem zdd_22 : ∀ q ∈ zc_22, decode prog_5_method_18_code q.1 = Except.ok (q.2.1, q.2.2.1) := zdw (by decide +kernel)
theorem zk_22 (xs : List Int32) : z_okm (za_T xs) za_P za_M 22 := z_okm_of ⟨"LyndonBench$Script", "expectNumber", "(II)Z"⟩ prog_5_method_18_code zc_22 _ rfl rfl rfl rfl
  (z_bulk0 (own := "LyndonBench$Script") (TB := zTB_2) (zTBk_2 xs) rfl zdd_22 (by decide +kernel))
  (z_fn)
theorem zdd_23 : ∀ q ∈ zc_23, decode prog_5_method_19_code q.1 = Except.ok (q.2.1, q.2.2.1) := zdw (by decide +kernel)
theorem zk_23 (xs : List Int32) : z_okm (za_T xs) za_P za_M 23 := z_okm_of ⟨"LyndonBench$Script", "expectEnd", "(Z)Z"⟩ prog_5_method_19_code zc_23 _ rfl rfl rfl rfl
  (z_bulk0 (own := "LyndonBench$Script") (TB := zTB_2) (zTBk_2 xs) rfl zdd_23 (by decide +kernel))
  (z_fn)
theorem zdd_24 : ∀ q ∈ zc_24, decode prog_5_method_20_code q.1 = Except.ok (q.2.1, q.2.2.1) := zdw (by decide +kernel)
theorem zk_24 (xs : List Int32) : z_okm (za_T xs) za_P za_M 24 := z_okm_of ⟨"LyndonBench$Script", "fail", "(I)Z"⟩ prog_5_method_20_code zc_24 _ rfl rfl rfl rfl
  (z_bulk0 (own := "LyndonBench$Script") (TB := zTB_2) (zTBk_2 xs) rfl zdd_24 (by decide +kernel))
  (z_fn)
theorem zdd_25 : ∀ q ∈ zc_25, decode prog_5_method_21_code q.1 = Except.ok (q.2.1, q.2.2.1) := zdw (by decide +kernel)
theorem zk_25 (xs : List Int32) : z_okm (za_T xs) za_P za_M 25 := z_okm_of ⟨"LyndonBench$Script", "readToken", "()V"⟩ prog_5_method_21_code zc_25 _ rfl rfl rfl rfl
  (z_bulk0 (own := "LyndonBench$Script") (TB := zTB_2) (zTBk_2 xs) rfl zdd_25 (by decide +kernel))
  (z_fn)
theorem zdd_26 : ∀ q ∈ zc_26, decode prog_5_method_22_code q.1 = Except.ok (q.2.1, q.2.2.1) := zdw (by decide +kernel)
theorem zk_26 (xs : List Int32) : z_okm (za_T xs) za_P za_M 26 := z_okm_of ⟨"LyndonBench$Script", "readNumber", "()V"⟩ prog_5_method_22_code zc_26 _ rfl rfl rfl rfl
  (z_bulk0 (own := "LyndonBench$Script") (TB := zTB_2) (zTBk_2 xs) rfl zdd_26 (by decide +kernel))
  (z_fn)
theorem zdd_27 : ∀ q ∈ zc_27, decode prog_5_method_23_code q.1 = Except.ok (q.2.1, q.2.2.1) := zdd_of (by decide +kernel)
theorem zk_27 (xs : List Int32) : z_okm (za_T xs) za_P za_M 27 := z_okm_of ⟨"LyndonBench$Script", "kindOf", "(I)I"⟩ prog_5_method_23_code zc_27 _ rfl rfl rfl rfl
  (z_bulk0 (own := "LyndonBench$Script") (TB := zTB_2) (zTBk_2 xs) rfl zdd_27 (by decide +kernel))
  (z_fn)
theorem zdd_28 : ∀ q ∈ zc_28, decode prog_6_method_1_code q.1 = Except.ok (q.2.1, q.2.2.1) := zdw (by decide +kernel)
theorem zk_28 (xs : List Int32) : z_okm (za_T xs) za_P za_M 28 := z_okm_of ⟨"LyndonBench$State", "<init>", "()V"⟩ prog_6_method_1_code zc_28 _ rfl rfl rfl rfl
  (z_bulk (own := "LyndonBench$State") (TB := zTB_3) (H := [(19, .putfield 20, 3, 3, 1), (28, .putfield 24, 3, 3, 2)]) (zTBk_3 xs) rfl zdd_28 (by decide +kernel)
    (z_fc (zo_h (by decide +kernel) rfl ⟨rfl, Nat.le_of_ble_eq_true rfl, _, _, _, rfl, Nat.le_of_ble_eq_true rfl, zw_176, Or.inr ⟨rfl, rfl, rfl⟩⟩) <|
    z_fc (zo_h (by decide +kernel) rfl ⟨rfl, Nat.le_of_ble_eq_true rfl, _, _, _, rfl, Nat.le_of_ble_eq_true rfl, zw_179, Or.inr ⟨rfl, rfl, rfl⟩⟩) <|
    z_fn))
  (z_fn)
theorem zdd_29 : ∀ q ∈ zc_29, decode prog_6_method_2_code q.1 = Except.ok (q.2.1, q.2.2.1) := zdw (by decide +kernel)
theorem zk_29 (xs : List Int32) : z_okm (za_T xs) za_P za_M 29 := z_okm_of ⟨"LyndonBench$State", "clear", "(I)V"⟩ prog_6_method_2_code zc_29 _ rfl rfl rfl rfl
  (z_bulk0 (own := "LyndonBench$State") (TB := zTB_3) (zTBk_3 xs) rfl zdd_29 (by decide +kernel))
  (z_fn)
theorem zdd_30 : ∀ q ∈ zc_30, decode prog_6_method_3_code q.1 = Except.ok (q.2.1, q.2.2.1) := zdw (by decide +kernel)
theorem zk_30 (xs : List Int32) : z_okm (za_T xs) za_P za_M 30 := z_okm_of ⟨"LyndonBench$State", "copyFrom", "(LLyndonBench$State;)V"⟩ prog_6_method_3_code zc_30 _ rfl rfl rfl rfl
  (z_bulk0 (own := "LyndonBench$State") (TB := zTB_3) (zTBk_3 xs) rfl zdd_30 (by decide +kernel))
  (z_fn)
theorem zdd_31 : ∀ q ∈ zc_31, decode prog_6_method_4_code q.1 = Except.ok (q.2.1, q.2.2.1) := zdw (by decide +kernel)
theorem zk_31 (xs : List Int32) : z_okm (za_T xs) za_P za_M 31 := z_okm_of ⟨"LyndonBench$State", "isLetter", "(I)Z"⟩ prog_6_method_4_code zc_31 _ rfl rfl rfl rfl
  (z_bulk0 (own := "LyndonBench$State") (TB := zTB_3) (zTBk_3 xs) rfl zdd_31 (by decide +kernel))
  (z_fn)
theorem zdd_32 : ∀ q ∈ zc_32, decode prog_6_method_5_code q.1 = Except.ok (q.2.1, q.2.2.1) := zdw (by decide +kernel)
theorem zk_32 (xs : List Int32) : z_okm (za_T xs) za_P za_M 32 := z_okm_of ⟨"LyndonBench$State", "greatestLetter", "()I"⟩ prog_6_method_5_code zc_32 _ rfl rfl rfl rfl
  (z_bulk0 (own := "LyndonBench$State") (TB := zTB_3) (zTBk_3 xs) rfl zdd_32 (by decide +kernel))
  (z_fn)
theorem zdd_33 : ∀ q ∈ zc_33, decode prog_6_method_6_code q.1 = Except.ok (q.2.1, q.2.2.1) := zdw (by decide +kernel)
theorem zk_33 (xs : List Int32) : z_okm (za_T xs) za_P za_M 33 := z_okm_of ⟨"LyndonBench$State", "fitsLetters", "(I)Z"⟩ prog_6_method_6_code zc_33 _ rfl rfl rfl rfl
  (z_bulk0 (own := "LyndonBench$State") (TB := zTB_3) (zTBk_3 xs) rfl zdd_33 (by decide +kernel))
  (z_fn)
theorem zdd_34 : ∀ q ∈ zc_34, decode prog_6_method_7_code q.1 = Except.ok (q.2.1, q.2.2.1) := zdw (by decide +kernel)
theorem zk_34 (xs : List Int32) : z_okm (za_T xs) za_P za_M 34 := z_okm_of ⟨"LyndonBench$State", "keptAt", "(I)LLyndonBench$Word;"⟩ prog_6_method_7_code zc_34 _ rfl rfl rfl rfl
  (z_bulk0 (own := "LyndonBench$State") (TB := zTB_3) (zTBk_3 xs) rfl zdd_34 (by decide +kernel))
  (z_fn)
theorem zdd_35 : ∀ q ∈ zc_35, decode prog_6_method_8_code q.1 = Except.ok (q.2.1, q.2.2.1) := zdw (by decide +kernel)
theorem zk_35 (xs : List Int32) : z_okm (za_T xs) za_P za_M 35 := z_okm_of ⟨"LyndonBench$State", "canKeep", "(I)Z"⟩ prog_6_method_8_code zc_35 _ rfl rfl rfl rfl
  (z_bulk0 (own := "LyndonBench$State") (TB := zTB_3) (zTBk_3 xs) rfl zdd_35 (by decide +kernel))
  (z_fn)
theorem zdd_36 : ∀ q ∈ zc_36, decode prog_6_method_9_code q.1 = Except.ok (q.2.1, q.2.2.1) := zdw (by decide +kernel)
theorem zk_36 (xs : List Int32) : z_okm (za_T xs) za_P za_M 36 := z_okm_of ⟨"LyndonBench$State", "keep", "(LLyndonBench$Word;II)V"⟩ prog_6_method_9_code zc_36 _ rfl rfl rfl rfl
  (z_bulk0 (own := "LyndonBench$State") (TB := zTB_3) (zTBk_3 xs) rfl zdd_36 (by decide +kernel))
  (z_fn)
theorem zdd_37 : ∀ q ∈ zc_37, decode prog_6_method_10_code q.1 = Except.ok (q.2.1, q.2.2.1) := zdw (by decide +kernel)
theorem zk_37 (xs : List Int32) : z_okm (za_T xs) za_P za_M 37 := z_okm_of ⟨"LyndonBench$State", "takeFromShelf", "(I)V"⟩ prog_6_method_10_code zc_37 _ rfl rfl rfl rfl
  (z_bulk0 (own := "LyndonBench$State") (TB := zTB_3) (zTBk_3 xs) rfl zdd_37 (by decide +kernel))
  (z_fn)
theorem zdd_38 : ∀ q ∈ zc_38, decode prog_6_method_11_code q.1 = Except.ok (q.2.1, q.2.2.1) := zdw (by decide +kernel)
theorem zk_38 (xs : List Int32) : z_okm (za_T xs) za_P za_M 38 := z_okm_of ⟨"LyndonBench$State", "greatestOfShelf", "(I)I"⟩ prog_6_method_11_code zc_38 _ rfl rfl rfl rfl
  (z_bulk0 (own := "LyndonBench$State") (TB := zTB_3) (zTBk_3 xs) rfl zdd_38 (by decide +kernel))
  (z_fn)
theorem zdd_39 : ∀ q ∈ zc_39, decode prog_6_method_12_code q.1 = Except.ok (q.2.1, q.2.2.1) := zdw (by decide +kernel)
theorem zk_39 (xs : List Int32) : z_okm (za_T xs) za_P za_M 39 := z_okm_of ⟨"LyndonBench$State", "canJoin", "()Z"⟩ prog_6_method_12_code zc_39 _ rfl rfl rfl rfl
  (z_bulk0 (own := "LyndonBench$State") (TB := zTB_3) (zTBk_3 xs) rfl zdd_39 (by decide +kernel))
  (z_fn)
theorem zdd_40 : ∀ q ∈ zc_40, decode prog_6_method_13_code q.1 = Except.ok (q.2.1, q.2.2.1) := zdw (by decide +kernel)
theorem zk_40 (xs : List Int32) : z_okm (za_T xs) za_P za_M 40 := z_okm_of ⟨"LyndonBench$State", "joinShelf", "()V"⟩ prog_6_method_13_code zc_40 _ rfl rfl rfl rfl
  (z_bulk0 (own := "LyndonBench$State") (TB := zTB_3) (zTBk_3 xs) rfl zdd_40 (by decide +kernel))
  (z_fn)
theorem zdd_41 : ∀ q ∈ zc_41, decode prog_6_method_14_code q.1 = Except.ok (q.2.1, q.2.2.1) := zdw (by decide +kernel)
theorem zk_41 (xs : List Int32) : z_okm (za_T xs) za_P za_M 41 := z_okm_of ⟨"LyndonBench$State", "hasNext", "(I)Z"⟩ prog_6_method_14_code zc_41 _ rfl rfl rfl rfl
  (z_bulk0 (own := "LyndonBench$State") (TB := zTB_3) (zTBk_3 xs) rfl zdd_41 (by decide +kernel))
  (z_fn)
theorem zdd_42 : ∀ q ∈ zc_42, decode prog_7_method_1_code q.1 = Except.ok (q.2.1, q.2.2.1) := zdd_of (by decide +kernel)
theorem zk_42 (xs : List Int32) : z_okm (za_T xs) za_P za_M 42 := z_okm_of ⟨"LyndonBench$Word", "<init>", "(I)V"⟩ prog_7_method_1_code zc_42 _ rfl rfl rfl rfl
  (z_bulk (own := "LyndonBench$Word") (TB := zTB_4) (H := [(17, .putfield 21, 3, 4, 0)]) (zTBk_4 xs) rfl zdd_42 (by decide +kernel)
    (z_fc (zo_h (by decide +kernel) rfl ⟨rfl, Nat.le_of_ble_eq_true rfl, _, _, _, rfl, Nat.le_of_ble_eq_true rfl, zw_162, Or.inr ⟨rfl, rfl, rfl⟩⟩) <|
    z_fn))
  (z_fn)
theorem zdd_43 : ∀ q ∈ zc_43, decode prog_7_method_2_code q.1 = Except.ok (q.2.1, q.2.2.1) := zdw (by decide +kernel)
theorem zk_43 (xs : List Int32) : z_okm (za_T xs) za_P za_M 43 := z_okm_of ⟨"LyndonBench$Word", "at", "(I)I"⟩ prog_7_method_2_code zc_43 _ rfl rfl rfl rfl
  (z_bulk0 (own := "LyndonBench$Word") (TB := zTB_4) (zTBk_4 xs) rfl zdd_43 (by decide +kernel))
  (z_fn)
theorem zdd_44 : ∀ q ∈ zc_44, decode prog_7_method_3_code q.1 = Except.ok (q.2.1, q.2.2.1) := zdw (by decide +kernel)
theorem zk_44 (xs : List Int32) : z_okm (za_T xs) za_P za_M 44 := z_okm_of ⟨"LyndonBench$Word", "put", "(II)V"⟩ prog_7_method_3_code zc_44 _ rfl rfl rfl rfl
  (z_bulk0 (own := "LyndonBench$Word") (TB := zTB_4) (zTBk_4 xs) rfl zdd_44 (by decide +kernel))
  (z_fn)
theorem zdd_45 : ∀ q ∈ zc_45, decode prog_7_method_4_code q.1 = Except.ok (q.2.1, q.2.2.1) := zdw (by decide +kernel)
theorem zk_45 (xs : List Int32) : z_okm (za_T xs) za_P za_M 45 := z_okm_of ⟨"LyndonBench$Word", "clear", "()V"⟩ prog_7_method_4_code zc_45 _ rfl rfl rfl rfl
  (z_bulk0 (own := "LyndonBench$Word") (TB := zTB_4) (zTBk_4 xs) rfl zdd_45 (by decide +kernel))
  (z_fn)
theorem zdd_46 : ∀ q ∈ zc_46, decode prog_7_method_5_code q.1 = Except.ok (q.2.1, q.2.2.1) := zdw (by decide +kernel)
theorem zk_46 (xs : List Int32) : z_okm (za_T xs) za_P za_M 46 := z_okm_of ⟨"LyndonBench$Word", "add", "(I)V"⟩ prog_7_method_5_code zc_46 _ rfl rfl rfl rfl
  (z_bulk0 (own := "LyndonBench$Word") (TB := zTB_4) (zTBk_4 xs) rfl zdd_46 (by decide +kernel))
  (z_fn)
theorem zdd_47 : ∀ q ∈ zc_47, decode prog_7_method_6_code q.1 = Except.ok (q.2.1, q.2.2.1) := zdw (by decide +kernel)
theorem zk_47 (xs : List Int32) : z_okm (za_T xs) za_P za_M 47 := z_okm_of ⟨"LyndonBench$Word", "addFourBytes", "(I)V"⟩ prog_7_method_6_code zc_47 _ rfl rfl rfl rfl
  (z_bulk0 (own := "LyndonBench$Word") (TB := zTB_4) (zTBk_4 xs) rfl zdd_47 (by decide +kernel))
  (z_fn)
theorem zdd_48 : ∀ q ∈ zc_48, decode prog_7_method_7_code q.1 = Except.ok (q.2.1, q.2.2.1) := zdw (by decide +kernel)
theorem zk_48 (xs : List Int32) : z_okm (za_T xs) za_P za_M 48 := z_okm_of ⟨"LyndonBench$Word", "addString", "(Ljava/lang/String;)V"⟩ prog_7_method_7_code zc_48 _ rfl rfl rfl rfl
  (z_bulk0 (own := "LyndonBench$Word") (TB := zTB_4) (zTBk_4 xs) rfl zdd_48 (by decide +kernel))
  (z_fn)
theorem zdd_49 : ∀ q ∈ zc_49, decode prog_7_method_8_code q.1 = Except.ok (q.2.1, q.2.2.1) := zdw (by decide +kernel)
theorem zk_49 (xs : List Int32) : z_okm (za_T xs) za_P za_M 49 := z_okm_of ⟨"LyndonBench$Word", "addPart", "(LLyndonBench$Word;II)V"⟩ prog_7_method_8_code zc_49 _ rfl rfl rfl rfl
  (z_bulk0 (own := "LyndonBench$Word") (TB := zTB_4) (zTBk_4 xs) rfl zdd_49 (by decide +kernel))
  (z_fn)
theorem zdd_50 : ∀ q ∈ zc_50, decode prog_7_method_9_code q.1 = Except.ok (q.2.1, q.2.2.1) := zdw (by decide +kernel)
theorem zk_50 (xs : List Int32) : z_okm (za_T xs) za_P za_M 50 := z_okm_of ⟨"LyndonBench$Word", "addNumber", "(I)V"⟩ prog_7_method_9_code zc_50 _ rfl rfl rfl rfl
  (z_bulk0 (own := "LyndonBench$Word") (TB := zTB_4) (zTBk_4 xs) rfl zdd_50 (by decide +kernel))
  (z_fn)
theorem zdd_51 : ∀ q ∈ zc_51, decode prog_7_method_10_code q.1 = Except.ok (q.2.1, q.2.2.1) := zdw (by decide +kernel)
theorem zk_51 (xs : List Int32) : z_okm (za_T xs) za_P za_M 51 := z_okm_of ⟨"LyndonBench$Word", "copyFrom", "(LLyndonBench$Word;)V"⟩ prog_7_method_10_code zc_51 _ rfl rfl rfl rfl
  (z_bulk0 (own := "LyndonBench$Word") (TB := zTB_4) (zTBk_4 xs) rfl zdd_51 (by decide +kernel))
  (z_fn)
theorem zdd_52 : ∀ q ∈ zc_52, decode prog_7_method_11_code q.1 = Except.ok (q.2.1, q.2.2.1) := zdw (by decide +kernel)
theorem zk_52 (xs : List Int32) : z_okm (za_T xs) za_P za_M 52 := z_okm_of ⟨"LyndonBench$Word", "shortenTo", "(I)V"⟩ prog_7_method_11_code zc_52 _ rfl rfl rfl rfl
  (z_bulk0 (own := "LyndonBench$Word") (TB := zTB_4) (zTBk_4 xs) rfl zdd_52 (by decide +kernel))
  (z_fn)
theorem zdd_53 : ∀ q ∈ zc_53, decode prog_7_method_12_code q.1 = Except.ok (q.2.1, q.2.2.1) := zdw (by decide +kernel)
theorem zk_53 (xs : List Int32) : z_okm (za_T xs) za_P za_M 53 := z_okm_of ⟨"LyndonBench$Word", "cutTo", "(II)V"⟩ prog_7_method_12_code zc_53 _ rfl rfl rfl rfl
  (z_bulk0 (own := "LyndonBench$Word") (TB := zTB_4) (zTBk_4 xs) rfl zdd_53 (by decide +kernel))
  (z_fn)
theorem zdd_54 : ∀ q ∈ zc_54, decode prog_7_method_13_code q.1 = Except.ok (q.2.1, q.2.2.1) := zdw (by decide +kernel)
theorem zk_54 (xs : List Int32) : z_okm (za_T xs) za_P za_M 54 := z_okm_of ⟨"LyndonBench$Word", "mirror", "(II)V"⟩ prog_7_method_13_code zc_54 _ rfl rfl rfl rfl
  (z_bulk0 (own := "LyndonBench$Word") (TB := zTB_4) (zTBk_4 xs) rfl zdd_54 (by decide +kernel))
  (z_fn)
theorem zdd_55 : ∀ q ∈ zc_55, decode prog_7_method_14_code q.1 = Except.ok (q.2.1, q.2.2.1) := zdw (by decide +kernel)
theorem zk_55 (xs : List Int32) : z_okm (za_T xs) za_P za_M 55 := z_okm_of ⟨"LyndonBench$Word", "turn", "(I)V"⟩ prog_7_method_14_code zc_55 _ rfl rfl rfl rfl
  (z_bulk0 (own := "LyndonBench$Word") (TB := zTB_4) (zTBk_4 xs) rfl zdd_55 (by decide +kernel))
  (z_fn)
theorem zdd_56 : ∀ q ∈ zc_56, decode prog_7_method_15_code q.1 = Except.ok (q.2.1, q.2.2.1) := zdw (by decide +kernel)
theorem zk_56 (xs : List Int32) : z_okm (za_T xs) za_P za_M 56 := z_okm_of ⟨"LyndonBench$Word", "fitsLetters", "(I)Z"⟩ prog_7_method_15_code zc_56 _ rfl rfl rfl rfl
  (z_bulk0 (own := "LyndonBench$Word") (TB := zTB_4) (zTBk_4 xs) rfl zdd_56 (by decide +kernel))
  (z_fn)
theorem zdd_57 : ∀ q ∈ zc_57, decode prog_7_method_16_code q.1 = Except.ok (q.2.1, q.2.2.1) := zdw (by decide +kernel)
theorem zk_57 (xs : List Int32) : z_okm (za_T xs) za_P za_M 57 := z_okm_of ⟨"LyndonBench$Word", "equalsString", "(IILjava/lang/String;)Z"⟩ prog_7_method_16_code zc_57 _ rfl rfl rfl rfl
  (z_bulk0 (own := "LyndonBench$Word") (TB := zTB_4) (zTBk_4 xs) rfl zdd_57 (by decide +kernel))
  (z_fn)
theorem zdd_58 : ∀ q ∈ zc_58, decode prog_7_method_17_code q.1 = Except.ok (q.2.1, q.2.2.1) := zdw (by decide +kernel)
theorem zk_58 (xs : List Int32) : z_okm (za_T xs) za_P za_M 58 := z_okm_of ⟨"LyndonBench$Word", "order", "(IILLyndonBench$Word;II)I"⟩ prog_7_method_17_code zc_58 _ rfl rfl rfl rfl
  (z_bulk0 (own := "LyndonBench$Word") (TB := zTB_4) (zTBk_4 xs) rfl zdd_58 (by decide +kernel))
  (z_fn)
theorem zdd_59 : ∀ q ∈ zc_59, decode prog_7_method_18_code q.1 = Except.ok (q.2.1, q.2.2.1) := zdw (by decide +kernel)
theorem zk_59 (xs : List Int32) : z_okm (za_T xs) za_P za_M 59 := z_okm_of ⟨"LyndonBench$Word", "lyndonEnd", "(I)I"⟩ prog_7_method_18_code zc_59 _ rfl rfl rfl rfl
  (z_bulk0 (own := "LyndonBench$Word") (TB := zTB_4) (zTBk_4 xs) rfl zdd_59 (by decide +kernel))
  (z_fn)
theorem zdd_60 : ∀ q ∈ zc_60, decode prog_7_method_19_code q.1 = Except.ok (q.2.1, q.2.2.1) := zdw (by decide +kernel)
theorem zk_60 (xs : List Int32) : z_okm (za_T xs) za_P za_M 60 := z_okm_of ⟨"LyndonBench$Word", "factorEnd", "(II)I"⟩ prog_7_method_19_code zc_60 _ rfl rfl rfl rfl
  (z_bulk0 (own := "LyndonBench$Word") (TB := zTB_4) (zTBk_4 xs) rfl zdd_60 (by decide +kernel))
  (z_fn)
theorem zdd_61 : ∀ q ∈ zc_61, decode prog_7_method_20_code q.1 = Except.ok (q.2.1, q.2.2.1) := zdw (by decide +kernel)
theorem zk_61 (xs : List Int32) : z_okm (za_T xs) za_P za_M 61 := z_okm_of ⟨"LyndonBench$Word", "countFactors", "()I"⟩ prog_7_method_20_code zc_61 _ rfl rfl rfl rfl
  (z_bulk0 (own := "LyndonBench$Word") (TB := zTB_4) (zTBk_4 xs) rfl zdd_61 (by decide +kernel))
  (z_fn)
theorem zdd_62 : ∀ q ∈ zc_62, decode prog_7_method_21_code q.1 = Except.ok (q.2.1, q.2.2.1) := zdw (by decide +kernel)
theorem zk_62 (xs : List Int32) : z_okm (za_T xs) za_P za_M 62 := z_okm_of ⟨"LyndonBench$Word", "isOneFactor", "()Z"⟩ prog_7_method_21_code zc_62 _ rfl rfl rfl rfl
  (z_bulk0 (own := "LyndonBench$Word") (TB := zTB_4) (zTBk_4 xs) rfl zdd_62 (by decide +kernel))
  (z_fn)
theorem zdd_63 : ∀ q ∈ zc_63, decode prog_7_method_22_code q.1 = Except.ok (q.2.1, q.2.2.1) := zdw (by decide +kernel)
theorem zk_63 (xs : List Int32) : z_okm (za_T xs) za_P za_M 63 := z_okm_of ⟨"LyndonBench$Word", "beginOfFactor", "(I)I"⟩ prog_7_method_22_code zc_63 _ rfl rfl rfl rfl
  (z_bulk0 (own := "LyndonBench$Word") (TB := zTB_4) (zTBk_4 xs) rfl zdd_63 (by decide +kernel))
  (z_fn)
theorem zdd_64 : ∀ q ∈ zc_64, decode prog_7_method_23_code q.1 = Except.ok (q.2.1, q.2.2.1) := zdw (by decide +kernel)
theorem zk_64 (xs : List Int32) : z_okm (za_T xs) za_P za_M 64 := z_okm_of ⟨"LyndonBench$Word", "factorWith", "(I)I"⟩ prog_7_method_23_code zc_64 _ rfl rfl rfl rfl
  (z_bulk0 (own := "LyndonBench$Word") (TB := zTB_4) (zTBk_4 xs) rfl zdd_64 (by decide +kernel))
  (z_fn)
theorem zdd_65 : ∀ q ∈ zc_65, decode prog_7_method_24_code q.1 = Except.ok (q.2.1, q.2.2.1) := zdw (by decide +kernel)
theorem zk_65 (xs : List Int32) : z_okm (za_T xs) za_P za_M 65 := z_okm_of ⟨"LyndonBench$Word", "firstLongestFactor", "()I"⟩ prog_7_method_24_code zc_65 _ rfl rfl rfl rfl
  (z_bulk0 (own := "LyndonBench$Word") (TB := zTB_4) (zTBk_4 xs) rfl zdd_65 (by decide +kernel))
  (z_fn)
theorem zdd_66 : ∀ q ∈ zc_66, decode prog_7_method_25_code q.1 = Except.ok (q.2.1, q.2.2.1) := zdw (by decide +kernel)
theorem zk_66 (xs : List Int32) : z_okm (za_T xs) za_P za_M 66 := z_okm_of ⟨"LyndonBench$Word", "countFactorsLike", "(II)I"⟩ prog_7_method_25_code zc_66 _ rfl rfl rfl rfl
  (z_bulk0 (own := "LyndonBench$Word") (TB := zTB_4) (zTBk_4 xs) rfl zdd_66 (by decide +kernel))
  (z_fn)
theorem zdd_67 : ∀ q ∈ zc_67, decode prog_7_method_26_code q.1 = Except.ok (q.2.1, q.2.2.1) := zdw (by decide +kernel)
theorem zk_67 (xs : List Int32) : z_okm (za_T xs) za_P za_M 67 := z_okm_of ⟨"LyndonBench$Word", "isLyndonPart", "(II)Z"⟩ prog_7_method_26_code zc_67 _ rfl rfl rfl rfl
  (z_bulk0 (own := "LyndonBench$Word") (TB := zTB_4) (zTBk_4 xs) rfl zdd_67 (by decide +kernel))
  (z_fn)
theorem zdd_68 : ∀ q ∈ zc_68, decode prog_7_method_27_code q.1 = Except.ok (q.2.1, q.2.2.1) := zdw (by decide +kernel)
theorem zk_68 (xs : List Int32) : z_okm (za_T xs) za_P za_M 68 := z_okm_of ⟨"LyndonBench$Word", "beginsNecklace", "()Z"⟩ prog_7_method_27_code zc_68 _ rfl rfl rfl rfl
  (z_bulk0 (own := "LyndonBench$Word") (TB := zTB_4) (zTBk_4 xs) rfl zdd_68 (by decide +kernel))
  (z_fn)
theorem zdd_69 : ∀ q ∈ zc_69, decode prog_7_method_28_code q.1 = Except.ok (q.2.1, q.2.2.1) := zdw (by decide +kernel)
theorem zk_69 (xs : List Int32) : z_okm (za_T xs) za_P za_M 69 := z_okm_of ⟨"LyndonBench$Word", "hasPeriod", "(I)Z"⟩ prog_7_method_28_code zc_69 _ rfl rfl rfl rfl
  (z_bulk0 (own := "LyndonBench$Word") (TB := zTB_4) (zTBk_4 xs) rfl zdd_69 (by decide +kernel))
  (z_fn)
theorem zdd_70 : ∀ q ∈ zc_70, decode prog_7_method_29_code q.1 = Except.ok (q.2.1, q.2.2.1) := zdw (by decide +kernel)
theorem zk_70 (xs : List Int32) : z_okm (za_T xs) za_P za_M 70 := z_okm_of ⟨"LyndonBench$Word", "leastPeriod", "()I"⟩ prog_7_method_29_code zc_70 _ rfl rfl rfl rfl
  (z_bulk0 (own := "LyndonBench$Word") (TB := zTB_4) (zTBk_4 xs) rfl zdd_70 (by decide +kernel))
  (z_fn)
theorem zdd_71 : ∀ q ∈ zc_71, decode prog_7_method_30_code q.1 = Except.ok (q.2.1, q.2.2.1) := zdw (by decide +kernel)
theorem zk_71 (xs : List Int32) : z_okm (za_T xs) za_P za_M 71 := z_okm_of ⟨"LyndonBench$Word", "countTurns", "()I"⟩ prog_7_method_30_code zc_71 _ rfl rfl rfl rfl
  (z_bulk0 (own := "LyndonBench$Word") (TB := zTB_4) (zTBk_4 xs) rfl zdd_71 (by decide +kernel))
  (z_fn)
theorem zdd_72 : ∀ q ∈ zc_72, decode prog_7_method_31_code q.1 = Except.ok (q.2.1, q.2.2.1) := zdw (by decide +kernel)
theorem zk_72 (xs : List Int32) : z_okm (za_T xs) za_P za_M 72 := z_okm_of ⟨"LyndonBench$Word", "leastTurn", "()I"⟩ prog_7_method_31_code zc_72 _ rfl rfl rfl rfl
  (z_bulk0 (own := "LyndonBench$Word") (TB := zTB_4) (zTBk_4 xs) rfl zdd_72 (by decide +kernel))
  (z_fn)
theorem zdd_73 : ∀ q ∈ zc_73, decode prog_7_method_32_code q.1 = Except.ok (q.2.1, q.2.2.1) := zdw (by decide +kernel)
theorem zk_73 (xs : List Int32) : z_okm (za_T xs) za_P za_M 73 := z_okm_of ⟨"LyndonBench$Word", "atAround", "(I)I"⟩ prog_7_method_32_code zc_73 _ rfl rfl rfl rfl
  (z_bulk0 (own := "LyndonBench$Word") (TB := zTB_4) (zTBk_4 xs) rfl zdd_73 (by decide +kernel))
  (z_fn)
theorem zdd_74 : ∀ q ∈ zc_74, decode prog_7_method_33_code q.1 = Except.ok (q.2.1, q.2.2.1) := zdw (by decide +kernel)
theorem zk_74 (xs : List Int32) : z_okm (za_T xs) za_P za_M 74 := z_okm_of ⟨"LyndonBench$Word", "extremeEnding", "(I)I"⟩ prog_7_method_33_code zc_74 _ rfl rfl rfl rfl
  (z_bulk0 (own := "LyndonBench$Word") (TB := zTB_4) (zTBk_4 xs) rfl zdd_74 (by decide +kernel))
  (z_fn)
theorem zdd_75 : ∀ q ∈ zc_75, decode prog_7_method_34_code q.1 = Except.ok (q.2.1, q.2.2.1) := zdw (by decide +kernel)
theorem zk_75 (xs : List Int32) : z_okm (za_T xs) za_P za_M 75 := z_okm_of ⟨"LyndonBench$Word", "stepLyndon", "(II)V"⟩ prog_7_method_34_code zc_75 _ rfl rfl rfl rfl
  (z_bulk0 (own := "LyndonBench$Word") (TB := zTB_4) (zTBk_4 xs) rfl zdd_75 (by decide +kernel))
  (z_fn)
theorem zdd_76 : ∀ q ∈ zc_76, decode prog_1_method_1_code q.1 = Except.ok (q.2.1, q.2.2.1) := zdw (by decide +kernel)
theorem zk_76 (xs : List Int32) : z_okm (za_T xs) za_P za_M 76 := z_okm_of ⟨"LyndonBench", "<init>", "()V"⟩ prog_1_method_1_code zc_76 _ rfl rfl rfl rfl
  (z_bulk (own := "LyndonBench") (TB := zTB_5) (H := [(12, .putfield 12, 3, 0, 0), (23, .putfield 19, 3, 0, 1), (34, .putfield 23, 3, 0, 2), (50, .putfield 33, 3, 0, 4), (64, .putfield 42, 3, 0, 5), (77, .putfield 46, 3, 0, 6)]) (zTBk_5 xs) rfl zdd_76 (by decide +kernel)
    (z_fc (zo_h (by decide +kernel) rfl ⟨rfl, Nat.le_of_ble_eq_true rfl, _, _, _, rfl, Nat.le_of_ble_eq_true rfl, zw_341, Or.inr ⟨rfl, rfl, rfl⟩⟩) <|
    z_fc (zo_h (by decide +kernel) rfl ⟨rfl, Nat.le_of_ble_eq_true rfl, _, _, _, rfl, Nat.le_of_ble_eq_true rfl, zw_342, Or.inr ⟨rfl, rfl, rfl⟩⟩) <|
    z_fc (zo_h (by decide +kernel) rfl ⟨rfl, Nat.le_of_ble_eq_true rfl, _, _, _, rfl, Nat.le_of_ble_eq_true rfl, zw_343, Or.inr ⟨rfl, rfl, rfl⟩⟩) <|
    z_fc (zo_h (by decide +kernel) rfl ⟨rfl, Nat.le_of_ble_eq_true rfl, _, _, _, rfl, Nat.le_of_ble_eq_true rfl, zw_345, Or.inr ⟨rfl, rfl, rfl⟩⟩) <|
    z_fc (zo_h (by decide +kernel) rfl ⟨rfl, Nat.le_of_ble_eq_true rfl, _, _, _, rfl, Nat.le_of_ble_eq_true rfl, zw_346, Or.inr ⟨rfl, rfl, rfl⟩⟩) <|
    z_fc (zo_h (by decide +kernel) rfl ⟨rfl, Nat.le_of_ble_eq_true rfl, _, _, _, rfl, Nat.le_of_ble_eq_true rfl, zw_347, Or.inr ⟨rfl, rfl, rfl⟩⟩) <|
    z_fn))
  (z_fn)
theorem zdd_77 : ∀ q ∈ zc_77, decode prog_1_method_2_code q.1 = Except.ok (q.2.1, q.2.2.1) := zdw (by decide +kernel)
theorem zk_77 (xs : List Int32) : z_okm (za_T xs) za_P za_M 77 := z_okm_of ⟨"LyndonBench", "append", "(IIIII)I"⟩ prog_1_method_2_code zc_77 _ rfl rfl rfl rfl
  (z_bulk0 (own := "LyndonBench") (TB := zTB_5) (zTBk_5 xs) rfl zdd_77 (by decide +kernel))
  (z_fn)
theorem zdd_78 : ∀ q ∈ zc_78, decode prog_1_method_3_code q.1 = Except.ok (q.2.1, q.2.2.1) := zdw (by decide +kernel)
theorem zk_78 (xs : List Int32) : z_okm (za_T xs) za_P za_M 78 := z_okm_of ⟨"LyndonBench", "truncateInput", "(I)I"⟩ prog_1_method_3_code zc_78 _ rfl rfl rfl rfl
  (z_bulk (own := "LyndonBench") (TB := zTB_5) (H := [(18, .new 77, 3, 0, 1000)]) (zTBk_5 xs) rfl zdd_78 (by decide +kernel)
    (z_fc (zo_t (by decide +kernel) rfl ⟨["java/lang/RuntimeException", "java/lang/Exception"], 79, 81, 2, _, none, by decide +kernel, by decide +kernel, by decide, zw_804, zw_132, rfl, rfl, rfl, zt_0a, zt_0b, zt_0c_77, trivial, by decide +kernel, by decide +kernel, Or.inl ⟨by decide +kernel, by decide +kernel, by decide +kernel⟩⟩) <|
    z_fn))
  (z_fn)
theorem zdd_79 : ∀ q ∈ zc_79, decode prog_1_method_4_code q.1 = Except.ok (q.2.1, q.2.2.1) := zdw (by decide +kernel)
theorem zk_79 (xs : List Int32) : z_okm (za_T xs) za_P za_M 79 := z_okm_of ⟨"LyndonBench", "runScript", "()I"⟩ prog_1_method_4_code zc_79 _ rfl rfl rfl rfl
  (z_bulk0 (own := "LyndonBench") (TB := zTB_5) (zTBk_5 xs) rfl zdd_79 (by decide +kernel))
  (z_fn)
theorem zdd_80 : ∀ q ∈ zc_80, decode prog_1_method_5_code q.1 = Except.ok (q.2.1, q.2.2.1) := zdw (by decide +kernel)
theorem zk_80 (xs : List Int32) : z_okm (za_T xs) za_P za_M 80 := z_okm_of ⟨"LyndonBench", "setLetters", "(I)I"⟩ prog_1_method_5_code zc_80 _ rfl rfl rfl rfl
  (z_bulk (own := "LyndonBench") (TB := zTB_5) (H := [(11, .new 77, 3, 0, 1000), (32, .new 108, 3, 1, 1000)]) (zTBk_5 xs) rfl zdd_80 (by decide +kernel)
    (z_fc (zo_t (by decide +kernel) rfl ⟨["java/lang/RuntimeException", "java/lang/Exception"], 102, 81, 3, _, none, by decide +kernel, by decide +kernel, by decide, zw_804, zw_132, rfl, rfl, rfl, zt_0a, zt_0b, zt_0c_77, trivial, by decide +kernel, by decide +kernel, Or.inl ⟨by decide +kernel, by decide +kernel, by decide +kernel⟩⟩) <|
    z_fc (zo_t (by decide +kernel) rfl ⟨["java/lang/RuntimeException", "java/lang/Exception"], 110, 112, 4, _, none, by decide +kernel, by decide +kernel, by decide, zw_890, zw_136, rfl, rfl, rfl, zt_2a, zt_2b, zt_2c_108, trivial, by decide +kernel, by decide +kernel, Or.inl ⟨by decide +kernel, by decide +kernel, by decide +kernel⟩⟩) <|
    z_fn))
  (z_fn)
theorem zdd_81 : ∀ q ∈ zc_81, decode prog_1_method_6_code q.1 = Except.ok (q.2.1, q.2.2.1) := zdw (by decide +kernel)
theorem zk_81 (xs : List Int32) : z_okm (za_T xs) za_P za_M 81 := z_okm_of ⟨"LyndonBench", "readText", "()I"⟩ prog_1_method_6_code zc_81 _ rfl rfl rfl rfl
  (z_bulk (own := "LyndonBench") (TB := zTB_5) (H := [(51, .new 108, 3, 1, 1000)]) (zTBk_5 xs) rfl zdd_81 (by decide +kernel)
    (z_fc (zo_t (by decide +kernel) rfl ⟨["java/lang/RuntimeException", "java/lang/Exception"], 123, 112, 5, _, none, by decide +kernel, by decide +kernel, by decide, zw_890, zw_136, rfl, rfl, rfl, zt_2a, zt_2b, zt_2c_108, trivial, by decide +kernel, by decide +kernel, Or.inl ⟨by decide +kernel, by decide +kernel, by decide +kernel⟩⟩) <|
    z_fn))
  (z_fn)
theorem zdd_82 : ∀ q ∈ zc_82, decode prog_1_method_7_code q.1 = Except.ok (q.2.1, q.2.2.1) := zdw (by decide +kernel)
theorem zk_82 (xs : List Int32) : z_okm (za_T xs) za_P za_M 82 := z_okm_of ⟨"LyndonBench", "appendLetter", "(I)I"⟩ prog_1_method_7_code zc_82 _ rfl rfl rfl rfl
  (z_bulk (own := "LyndonBench") (TB := zTB_5) (H := [(20, .new 108, 3, 1, 1000)]) (zTBk_5 xs) rfl zdd_82 (by decide +kernel)
    (z_fc (zo_t (by decide +kernel) rfl ⟨["java/lang/RuntimeException", "java/lang/Exception"], 123, 112, 5, _, none, by decide +kernel, by decide +kernel, by decide, zw_890, zw_136, rfl, rfl, rfl, zt_2a, zt_2b, zt_2c_108, trivial, by decide +kernel, by decide +kernel, Or.inl ⟨by decide +kernel, by decide +kernel, by decide +kernel⟩⟩) <|
    z_fn))
  (z_fn)
theorem zdd_83 : ∀ q ∈ zc_83, decode prog_1_method_8_code q.1 = Except.ok (q.2.1, q.2.2.1) := zdw (by decide +kernel)
theorem zk_83 (xs : List Int32) : z_okm (za_T xs) za_P za_M 83 := z_okm_of ⟨"LyndonBench", "dropLast", "(I)I"⟩ prog_1_method_8_code zc_83 _ rfl rfl rfl rfl
  (z_bulk0 (own := "LyndonBench") (TB := zTB_5) (zTBk_5 xs) rfl zdd_83 (by decide +kernel))
  (z_fn)
theorem zdd_84 : ∀ q ∈ zc_84, decode prog_1_method_9_code q.1 = Except.ok (q.2.1, q.2.2.1) := zdw (by decide +kernel)
theorem zk_84 (xs : List Int32) : z_okm (za_T xs) za_P za_M 84 := z_okm_of ⟨"LyndonBench", "cutPart", "(II)I"⟩ prog_1_method_9_code zc_84 _ rfl rfl rfl rfl
  (z_bulk0 (own := "LyndonBench") (TB := zTB_5) (zTBk_5 xs) rfl zdd_84 (by decide +kernel))
  (z_fn)
theorem zdd_85 : ∀ q ∈ zc_85, decode prog_1_method_10_code q.1 = Except.ok (q.2.1, q.2.2.1) := zdw (by decide +kernel)
theorem zk_85 (xs : List Int32) : z_okm (za_T xs) za_P za_M 85 := z_okm_of ⟨"LyndonBench", "rotate", "(I)I"⟩ prog_1_method_10_code zc_85 _ rfl rfl rfl rfl
  (z_bulk0 (own := "LyndonBench") (TB := zTB_5) (zTBk_5 xs) rfl zdd_85 (by decide +kernel))
  (z_fn)
theorem zdd_86 : ∀ q ∈ zc_86, decode prog_1_method_11_code q.1 = Except.ok (q.2.1, q.2.2.1) := zdw (by decide +kernel)
theorem zk_86 (xs : List Int32) : z_okm (za_T xs) za_P za_M 86 := z_okm_of ⟨"LyndonBench", "reverse", "()I"⟩ prog_1_method_11_code zc_86 _ rfl rfl rfl rfl
  (z_bulk0 (own := "LyndonBench") (TB := zTB_5) (zTBk_5 xs) rfl zdd_86 (by decide +kernel))
  (z_fn)
theorem zdd_87 : ∀ q ∈ zc_87, decode prog_1_method_12_code q.1 = Except.ok (q.2.1, q.2.2.1) := zdw (by decide +kernel)
theorem zk_87 (xs : List Int32) : z_okm (za_T xs) za_P za_M 87 := z_okm_of ⟨"LyndonBench", "rotateToLeast", "()I"⟩ prog_1_method_12_code zc_87 _ rfl rfl rfl rfl
  (z_bulk (own := "LyndonBench") (TB := zTB_5) (H := [(13, .new 108, 3, 1, 1000)]) (zTBk_5 xs) rfl zdd_87 (by decide +kernel)
    (z_fc (zo_t (by decide +kernel) rfl ⟨["java/lang/RuntimeException", "java/lang/Exception"], 154, 112, 6, _, none, by decide +kernel, by decide +kernel, by decide, zw_890, zw_136, rfl, rfl, rfl, zt_2a, zt_2b, zt_2c_108, trivial, by decide +kernel, by decide +kernel, Or.inl ⟨by decide +kernel, by decide +kernel, by decide +kernel⟩⟩) <|
    z_fn))
  (z_fn)
theorem zdd_88 : ∀ q ∈ zc_88, decode prog_1_method_13_code q.1 = Except.ok (q.2.1, q.2.2.1) := zdw (by decide +kernel)
theorem zk_88 (xs : List Int32) : z_okm (za_T xs) za_P za_M 88 := z_okm_of ⟨"LyndonBench", "nextLyndon", "(I)I"⟩ prog_1_method_13_code zc_88 _ rfl rfl rfl rfl
  (z_bulk (own := "LyndonBench") (TB := zTB_5) (H := [(11, .new 77, 3, 0, 1000), (32, .new 108, 3, 1, 1000)]) (zTBk_5 xs) rfl zdd_88 (by decide +kernel)
    (z_fc (zo_t (by decide +kernel) rfl ⟨["java/lang/RuntimeException", "java/lang/Exception"], 159, 81, 7, _, none, by decide +kernel, by decide +kernel, by decide, zw_804, zw_132, rfl, rfl, rfl, zt_0a, zt_0b, zt_0c_77, trivial, by decide +kernel, by decide +kernel, Or.inl ⟨by decide +kernel, by decide +kernel, by decide +kernel⟩⟩) <|
    z_fc (zo_t (by decide +kernel) rfl ⟨["java/lang/RuntimeException", "java/lang/Exception"], 164, 112, 8, _, none, by decide +kernel, by decide +kernel, by decide, zw_890, zw_136, rfl, rfl, rfl, zt_2a, zt_2b, zt_2c_108, trivial, by decide +kernel, by decide +kernel, Or.inl ⟨by decide +kernel, by decide +kernel, by decide +kernel⟩⟩) <|
    z_fn))
  (z_fn)
theorem zdd_89 : ∀ q ∈ zc_89, decode prog_1_method_14_code q.1 = Except.ok (q.2.1, q.2.2.1) := zdw (by decide +kernel)
theorem zk_89 (xs : List Int32) : z_okm (za_T xs) za_P za_M 89 := z_okm_of ⟨"LyndonBench", "keepFactor", "(I)I"⟩ prog_1_method_14_code zc_89 _ rfl rfl rfl rfl
  (z_bulk (own := "LyndonBench") (TB := zTB_5) (H := [(31, .new 108, 3, 1, 1000)]) (zTBk_5 xs) rfl zdd_89 (by decide +kernel)
    (z_fc (zo_t (by decide +kernel) rfl ⟨["java/lang/RuntimeException", "java/lang/Exception"], 181, 112, 9, _, none, by decide +kernel, by decide +kernel, by decide, zw_890, zw_136, rfl, rfl, rfl, zt_2a, zt_2b, zt_2c_108, trivial, by decide +kernel, by decide +kernel, Or.inl ⟨by decide +kernel, by decide +kernel, by decide +kernel⟩⟩) <|
    z_fn))
  (z_fn)
theorem zdd_90 : ∀ q ∈ zc_90, decode prog_1_method_15_code q.1 = Except.ok (q.2.1, q.2.2.1) := zdw (by decide +kernel)
theorem zk_90 (xs : List Int32) : z_okm (za_T xs) za_P za_M 90 := z_okm_of ⟨"LyndonBench", "keepText", "()I"⟩ prog_1_method_15_code zc_90 _ rfl rfl rfl rfl
  (z_bulk (own := "LyndonBench") (TB := zTB_5) (H := [(20, .new 108, 3, 1, 1000)]) (zTBk_5 xs) rfl zdd_90 (by decide +kernel)
    (z_fc (zo_t (by decide +kernel) rfl ⟨["java/lang/RuntimeException", "java/lang/Exception"], 186, 112, 10, _, none, by decide +kernel, by decide +kernel, by decide, zw_890, zw_136, rfl, rfl, rfl, zt_2a, zt_2b, zt_2c_108, trivial, by decide +kernel, by decide +kernel, Or.inl ⟨by decide +kernel, by decide +kernel, by decide +kernel⟩⟩) <|
    z_fn))
  (z_fn)
theorem zdd_91 : ∀ q ∈ zc_91, decode prog_1_method_16_code q.1 = Except.ok (q.2.1, q.2.2.1) := zdw (by decide +kernel)
theorem zk_91 (xs : List Int32) : z_okm (za_T xs) za_P za_M 91 := z_okm_of ⟨"LyndonBench", "removeKept", "(I)I"⟩ prog_1_method_16_code zc_91 _ rfl rfl rfl rfl
  (z_bulk (own := "LyndonBench") (TB := zTB_5) (H := [(11, .new 192, 3, 2, 1000)]) (zTBk_5 xs) rfl zdd_91 (by decide +kernel)
    (z_fc (zo_t (by decide +kernel) rfl ⟨["java/lang/RuntimeException", "java/lang/Exception"], 194, 196, 11, _, none, by decide +kernel, by decide +kernel, by decide, zw_993, zw_137, rfl, rfl, rfl, zt_4a, zt_4b, zt_4c_192, trivial, by decide +kernel, by decide +kernel, Or.inl ⟨by decide +kernel, by decide +kernel, by decide +kernel⟩⟩) <|
    z_fn))
  (z_fn)
theorem zdd_92 : ∀ q ∈ zc_92, decode prog_1_method_17_code q.1 = Except.ok (q.2.1, q.2.2.1) := zdw (by decide +kernel)
theorem zk_92 (xs : List Int32) : z_okm (za_T xs) za_P za_M 92 := z_okm_of ⟨"LyndonBench", "joinKept", "()I"⟩ prog_1_method_17_code zc_92 _ rfl rfl rfl rfl
  (z_bulk (own := "LyndonBench") (TB := zTB_5) (H := [(10, .new 108, 3, 1, 1000)]) (zTBk_5 xs) rfl zdd_92 (by decide +kernel)
    (z_fc (zo_t (by decide +kernel) rfl ⟨["java/lang/RuntimeException", "java/lang/Exception"], 203, 112, 12, _, none, by decide +kernel, by decide +kernel, by decide, zw_890, zw_136, rfl, rfl, rfl, zt_2a, zt_2b, zt_2c_108, trivial, by decide +kernel, by decide +kernel, Or.inl ⟨by decide +kernel, by decide +kernel, by decide +kernel⟩⟩) <|
    z_fn))
  (z_fn)
theorem zdd_93 : ∀ q ∈ zc_93, decode prog_1_method_18_code q.1 = Except.ok (q.2.1, q.2.2.1) := zdw (by decide +kernel)
theorem zk_93 (xs : List Int32) : z_okm (za_T xs) za_P za_M 93 := z_okm_of ⟨"LyndonBench", "undo", "()I"⟩ prog_1_method_18_code zc_93 _ rfl rfl rfl rfl
  (z_bulk0 (own := "LyndonBench") (TB := zTB_5) (zTBk_5 xs) rfl zdd_93 (by decide +kernel))
  (z_fn)
theorem zdd_94 : ∀ q ∈ zc_94, decode prog_1_method_19_code q.1 = Except.ok (q.2.1, q.2.2.1) := zdw (by decide +kernel)
theorem zk_94 (xs : List Int32) : z_okm (za_T xs) za_P za_M 94 := z_okm_of ⟨"LyndonBench", "undoCount", "()I"⟩ prog_1_method_19_code zc_94 _ rfl rfl rfl rfl
  (z_bulk0 (own := "LyndonBench") (TB := zTB_5) (zTBk_5 xs) rfl zdd_94 (by decide +kernel))
  (z_fn)
theorem zdd_95 : ∀ q ∈ zc_95, decode prog_1_method_20_code q.1 = Except.ok (q.2.1, q.2.2.1) := zdw (by decide +kernel)
theorem zk_95 (xs : List Int32) : z_okm (za_T xs) za_P za_M 95 := z_okm_of ⟨"LyndonBench", "saveSnapshot", "()I"⟩ prog_1_method_20_code zc_95 _ rfl rfl rfl rfl
  (z_bulk0 (own := "LyndonBench") (TB := zTB_5) (zTBk_5 xs) rfl zdd_95 (by decide +kernel))
  (z_fn)
theorem zdd_96 : ∀ q ∈ zc_96, decode prog_1_method_21_code q.1 = Except.ok (q.2.1, q.2.2.1) := zdw (by decide +kernel)
theorem zk_96 (xs : List Int32) : z_okm (za_T xs) za_P za_M 96 := z_okm_of ⟨"LyndonBench", "restoreSnapshot", "()I"⟩ prog_1_method_21_code zc_96 _ rfl rfl rfl rfl
  (z_bulk (own := "LyndonBench") (TB := zTB_5) (H := [(7, .new 215, 3, 3, 1000)]) (zTBk_5 xs) rfl zdd_96 (by decide +kernel)
    (z_fc (zo_t (by decide +kernel) rfl ⟨["java/lang/Exception"], 217, 219, 13, _, (some ("java/lang/RuntimeException", 13, prog_26_method_4_code)), by decide +kernel, by decide +kernel, by decide, zw_1046, zw_138, rfl, rfl, rfl, zt_6a, zt_6b, zt_6c_215, ⟨by decide +kernel, by decide +kernel, by decide +kernel, by decide +kernel, by decide +kernel⟩, by decide +kernel, by decide +kernel, Or.inl ⟨by decide +kernel, by decide +kernel, by decide +kernel⟩⟩) <|
    z_fn))
  (z_fn)
theorem zdd_97 : ∀ q ∈ zc_97, decode prog_1_method_22_code q.1 = Except.ok (q.2.1, q.2.2.1) := zdw (by decide +kernel)
theorem zk_97 (xs : List Int32) : z_okm (za_T xs) za_P za_M 97 := z_okm_of ⟨"LyndonBench", "scriptErrorKind", "()I"⟩ prog_1_method_22_code zc_97 _ rfl rfl rfl rfl
  (z_bulk0 (own := "LyndonBench") (TB := zTB_5) (zTBk_5 xs) rfl zdd_97 (by decide +kernel))
  (z_fn)
theorem zdd_98 : ∀ q ∈ zc_98, decode prog_1_method_23_code q.1 = Except.ok (q.2.1, q.2.2.1) := zdw (by decide +kernel)
theorem zk_98 (xs : List Int32) : z_okm (za_T xs) za_P za_M 98 := z_okm_of ⟨"LyndonBench", "scriptErrorOffset", "()I"⟩ prog_1_method_23_code zc_98 _ rfl rfl rfl rfl
  (z_bulk0 (own := "LyndonBench") (TB := zTB_5) (zTBk_5 xs) rfl zdd_98 (by decide +kernel))
  (z_fn)
theorem zdd_99 : ∀ q ∈ zc_99, decode prog_1_method_24_code q.1 = Except.ok (q.2.1, q.2.2.1) := zdw (by decide +kernel)
theorem zk_99 (xs : List Int32) : z_okm (za_T xs) za_P za_M 99 := z_okm_of ⟨"LyndonBench", "letters", "()I"⟩ prog_1_method_24_code zc_99 _ rfl rfl rfl rfl
  (z_bulk0 (own := "LyndonBench") (TB := zTB_5) (zTBk_5 xs) rfl zdd_99 (by decide +kernel))
  (z_fn)
theorem zdd_100 : ∀ q ∈ zc_100, decode prog_1_method_25_code q.1 = Except.ok (q.2.1, q.2.2.1) := zdw (by decide +kernel)
theorem zk_100 (xs : List Int32) : z_okm (za_T xs) za_P za_M 100 := z_okm_of ⟨"LyndonBench", "length", "()I"⟩ prog_1_method_25_code zc_100 _ rfl rfl rfl rfl
  (z_bulk0 (own := "LyndonBench") (TB := zTB_5) (zTBk_5 xs) rfl zdd_100 (by decide +kernel))
  (z_fn)
theorem zdd_101 : ∀ q ∈ zc_101, decode prog_1_method_26_code q.1 = Except.ok (q.2.1, q.2.2.1) := zdw (by decide +kernel)
theorem zk_101 (xs : List Int32) : z_okm (za_T xs) za_P za_M 101 := z_okm_of ⟨"LyndonBench", "letterAt", "(I)I"⟩ prog_1_method_26_code zc_101 _ rfl rfl rfl rfl
  (z_bulk0 (own := "LyndonBench") (TB := zTB_5) (zTBk_5 xs) rfl zdd_101 (by decide +kernel))
  (z_fn)
theorem zdd_102 : ∀ q ∈ zc_102, decode prog_1_method_27_code q.1 = Except.ok (q.2.1, q.2.2.1) := zdw (by decide +kernel)
theorem zk_102 (xs : List Int32) : z_okm (za_T xs) za_P za_M 102 := z_okm_of ⟨"LyndonBench", "compareParts", "(IIII)I"⟩ prog_1_method_27_code zc_102 _ rfl rfl rfl rfl
  (z_bulk0 (own := "LyndonBench") (TB := zTB_5) (zTBk_5 xs) rfl zdd_102 (by decide +kernel))
  (z_fn)
theorem zdd_103 : ∀ q ∈ zc_103, decode prog_1_method_28_code q.1 = Except.ok (q.2.1, q.2.2.1) := zdw (by decide +kernel)
theorem zk_103 (xs : List Int32) : z_okm (za_T xs) za_P za_M 103 := z_okm_of ⟨"LyndonBench", "factorCount", "()I"⟩ prog_1_method_28_code zc_103 _ rfl rfl rfl rfl
  (z_bulk0 (own := "LyndonBench") (TB := zTB_5) (zTBk_5 xs) rfl zdd_103 (by decide +kernel))
  (z_fn)
theorem zdd_104 : ∀ q ∈ zc_104, decode prog_1_method_29_code q.1 = Except.ok (q.2.1, q.2.2.1) := zdw (by decide +kernel)
theorem zk_104 (xs : List Int32) : z_okm (za_T xs) za_P za_M 104 := z_okm_of ⟨"LyndonBench", "factorStart", "(I)I"⟩ prog_1_method_29_code zc_104 _ rfl rfl rfl rfl
  (z_bulk0 (own := "LyndonBench") (TB := zTB_5) (zTBk_5 xs) rfl zdd_104 (by decide +kernel))
  (z_fn)
theorem zdd_105 : ∀ q ∈ zc_105, decode prog_1_method_30_code q.1 = Except.ok (q.2.1, q.2.2.1) := zdw (by decide +kernel)
theorem zk_105 (xs : List Int32) : z_okm (za_T xs) za_P za_M 105 := z_okm_of ⟨"LyndonBench", "factorLength", "(I)I"⟩ prog_1_method_30_code zc_105 _ rfl rfl rfl rfl
  (z_bulk0 (own := "LyndonBench") (TB := zTB_5) (zTBk_5 xs) rfl zdd_105 (by decide +kernel))
  (z_fn)
theorem zdd_106 : ∀ q ∈ zc_106, decode prog_1_method_31_code q.1 = Except.ok (q.2.1, q.2.2.1) := zdw (by decide +kernel)
theorem zk_106 (xs : List Int32) : z_okm (za_T xs) za_P za_M 106 := z_okm_of ⟨"LyndonBench", "factorPower", "(I)I"⟩ prog_1_method_31_code zc_106 _ rfl rfl rfl rfl
  (z_bulk0 (own := "LyndonBench") (TB := zTB_5) (zTBk_5 xs) rfl zdd_106 (by decide +kernel))
  (z_fn)
theorem zdd_107 : ∀ q ∈ zc_107, decode prog_1_method_32_code q.1 = Except.ok (q.2.1, q.2.2.1) := zdw (by decide +kernel)
theorem zk_107 (xs : List Int32) : z_okm (za_T xs) za_P za_M 107 := z_okm_of ⟨"LyndonBench", "factorOf", "(I)I"⟩ prog_1_method_32_code zc_107 _ rfl rfl rfl rfl
  (z_bulk0 (own := "LyndonBench") (TB := zTB_5) (zTBk_5 xs) rfl zdd_107 (by decide +kernel))
  (z_fn)
theorem zdd_108 : ∀ q ∈ zc_108, decode prog_1_method_33_code q.1 = Except.ok (q.2.1, q.2.2.1) := zdw (by decide +kernel)
theorem zk_108 (xs : List Int32) : z_okm (za_T xs) za_P za_M 108 := z_okm_of ⟨"LyndonBench", "longestFactor", "()I"⟩ prog_1_method_33_code zc_108 _ rfl rfl rfl rfl
  (z_bulk0 (own := "LyndonBench") (TB := zTB_5) (zTBk_5 xs) rfl zdd_108 (by decide +kernel))
  (z_fn)
theorem zdd_109 : ∀ q ∈ zc_109, decode prog_1_method_34_code q.1 = Except.ok (q.2.1, q.2.2.1) := zdw (by decide +kernel)
theorem zk_109 (xs : List Int32) : z_okm (za_T xs) za_P za_M 109 := z_okm_of ⟨"LyndonBench", "factorsIfAppended", "(I)I"⟩ prog_1_method_34_code zc_109 _ rfl rfl rfl rfl
  (z_bulk0 (own := "LyndonBench") (TB := zTB_5) (zTBk_5 xs) rfl zdd_109 (by decide +kernel))
  (z_fn)
theorem zdd_110 : ∀ q ∈ zc_110, decode prog_1_method_35_code q.1 = Except.ok (q.2.1, q.2.2.1) := zdw (by decide +kernel)
theorem zk_110 (xs : List Int32) : z_okm (za_T xs) za_P za_M 110 := z_okm_of ⟨"LyndonBench", "factorsIfRotated", "(I)I"⟩ prog_1_method_35_code zc_110 _ rfl rfl rfl rfl
  (z_bulk0 (own := "LyndonBench") (TB := zTB_5) (zTBk_5 xs) rfl zdd_110 (by decide +kernel))
  (z_fn)
theorem zdd_111 : ∀ q ∈ zc_111, decode prog_1_method_36_code q.1 = Except.ok (q.2.1, q.2.2.1) := zdw (by decide +kernel)
theorem zk_111 (xs : List Int32) : z_okm (za_T xs) za_P za_M 111 := z_okm_of ⟨"LyndonBench", "rankOf", "(I)I"⟩ prog_1_method_36_code zc_111 _ rfl rfl rfl rfl
  (z_bulk0 (own := "LyndonBench") (TB := zTB_5) (zTBk_5 xs) rfl zdd_111 (by decide +kernel))
  (z_fn)
theorem zdd_112 : ∀ q ∈ zc_112, decode prog_1_method_37_code q.1 = Except.ok (q.2.1, q.2.2.1) := zdw (by decide +kernel)
theorem zk_112 (xs : List Int32) : z_okm (za_T xs) za_P za_M 112 := z_okm_of ⟨"LyndonBench", "isLyndon", "()Z"⟩ prog_1_method_37_code zc_112 _ rfl rfl rfl rfl
  (z_bulk0 (own := "LyndonBench") (TB := zTB_5) (zTBk_5 xs) rfl zdd_112 (by decide +kernel))
  (z_fn)
theorem zdd_113 : ∀ q ∈ zc_113, decode prog_1_method_38_code q.1 = Except.ok (q.2.1, q.2.2.1) := zdw (by decide +kernel)
theorem zk_113 (xs : List Int32) : z_okm (za_T xs) za_P za_M 113 := z_okm_of ⟨"LyndonBench", "whyNotLyndon", "()I"⟩ prog_1_method_38_code zc_113 _ rfl rfl rfl rfl
  (z_bulk0 (own := "LyndonBench") (TB := zTB_5) (zTBk_5 xs) rfl zdd_113 (by decide +kernel))
  (z_fn)
theorem zdd_114 : ∀ q ∈ zc_114, decode prog_1_method_39_code q.1 = Except.ok (q.2.1, q.2.2.1) := zdw (by decide +kernel)
theorem zk_114 (xs : List Int32) : z_okm (za_T xs) za_P za_M 114 := z_okm_of ⟨"LyndonBench", "isNecklace", "()Z"⟩ prog_1_method_39_code zc_114 _ rfl rfl rfl rfl
  (z_bulk0 (own := "LyndonBench") (TB := zTB_5) (zTBk_5 xs) rfl zdd_114 (by decide +kernel))
  (z_fn)
theorem zdd_115 : ∀ q ∈ zc_115, decode prog_1_method_40_code q.1 = Except.ok (q.2.1, q.2.2.1) := zdw (by decide +kernel)
theorem zk_115 (xs : List Int32) : z_okm (za_T xs) za_P za_M 115 := z_okm_of ⟨"LyndonBench", "isPrenecklace", "()Z"⟩ prog_1_method_40_code zc_115 _ rfl rfl rfl rfl
  (z_bulk0 (own := "LyndonBench") (TB := zTB_5) (zTBk_5 xs) rfl zdd_115 (by decide +kernel))
  (z_fn)
theorem zdd_116 : ∀ q ∈ zc_116, decode prog_1_method_41_code q.1 = Except.ok (q.2.1, q.2.2.1) := zdw (by decide +kernel)
theorem zk_116 (xs : List Int32) : z_okm (za_T xs) za_P za_M 116 := z_okm_of ⟨"LyndonBench", "keepingLetter", "()I"⟩ prog_1_method_41_code zc_116 _ rfl rfl rfl rfl
  (z_bulk0 (own := "LyndonBench") (TB := zTB_5) (zTBk_5 xs) rfl zdd_116 (by decide +kernel))
  (z_fn)
theorem zdd_117 : ∀ q ∈ zc_117, decode prog_1_method_42_code q.1 = Except.ok (q.2.1, q.2.2.1) := zdw (by decide +kernel)
theorem zk_117 (xs : List Int32) : z_okm (za_T xs) za_P za_M 117 := z_okm_of ⟨"LyndonBench", "leastRotation", "()I"⟩ prog_1_method_42_code zc_117 _ rfl rfl rfl rfl
  (z_bulk0 (own := "LyndonBench") (TB := zTB_5) (zTBk_5 xs) rfl zdd_117 (by decide +kernel))
  (z_fn)
theorem zdd_118 : ∀ q ∈ zc_118, decode prog_1_method_43_code q.1 = Except.ok (q.2.1, q.2.2.1) := zdw (by decide +kernel)
theorem zk_118 (xs : List Int32) : z_okm (za_T xs) za_P za_M 118 := z_okm_of ⟨"LyndonBench", "rotationCount", "()I"⟩ prog_1_method_43_code zc_118 _ rfl rfl rfl rfl
  (z_bulk0 (own := "LyndonBench") (TB := zTB_5) (zTBk_5 xs) rfl zdd_118 (by decide +kernel))
  (z_fn)
theorem zdd_119 : ∀ q ∈ zc_119, decode prog_1_method_44_code q.1 = Except.ok (q.2.1, q.2.2.1) := zdw (by decide +kernel)
theorem zk_119 (xs : List Int32) : z_okm (za_T xs) za_P za_M 119 := z_okm_of ⟨"LyndonBench", "smallestPeriod", "()I"⟩ prog_1_method_44_code zc_119 _ rfl rfl rfl rfl
  (z_bulk0 (own := "LyndonBench") (TB := zTB_5) (zTBk_5 xs) rfl zdd_119 (by decide +kernel))
  (z_fn)
theorem zdd_120 : ∀ q ∈ zc_120, decode prog_1_method_45_code q.1 = Except.ok (q.2.1, q.2.2.1) := zdw (by decide +kernel)
theorem zk_120 (xs : List Int32) : z_okm (za_T xs) za_P za_M 120 := z_okm_of ⟨"LyndonBench", "longestBorder", "()I"⟩ prog_1_method_45_code zc_120 _ rfl rfl rfl rfl
  (z_bulk0 (own := "LyndonBench") (TB := zTB_5) (zTBk_5 xs) rfl zdd_120 (by decide +kernel))
  (z_fn)
theorem zdd_121 : ∀ q ∈ zc_121, decode prog_1_method_46_code q.1 = Except.ok (q.2.1, q.2.2.1) := zdw (by decide +kernel)
theorem zk_121 (xs : List Int32) : z_okm (za_T xs) za_P za_M 121 := z_okm_of ⟨"LyndonBench", "leastSuffix", "()I"⟩ prog_1_method_46_code zc_121 _ rfl rfl rfl rfl
  (z_bulk0 (own := "LyndonBench") (TB := zTB_5) (zTBk_5 xs) rfl zdd_121 (by decide +kernel))
  (z_fn)
theorem zdd_122 : ∀ q ∈ zc_122, decode prog_1_method_47_code q.1 = Except.ok (q.2.1, q.2.2.1) := zdw (by decide +kernel)
theorem zk_122 (xs : List Int32) : z_okm (za_T xs) za_P za_M 122 := z_okm_of ⟨"LyndonBench", "greatestSuffix", "()I"⟩ prog_1_method_47_code zc_122 _ rfl rfl rfl rfl
  (z_bulk0 (own := "LyndonBench") (TB := zTB_5) (zTBk_5 xs) rfl zdd_122 (by decide +kernel))
  (z_fn)
theorem zdd_123 : ∀ q ∈ zc_123, decode prog_1_method_48_code q.1 = Except.ok (q.2.1, q.2.2.1) := zdw (by decide +kernel)
theorem zk_123 (xs : List Int32) : z_okm (za_T xs) za_P za_M 123 := z_okm_of ⟨"LyndonBench", "lyndonWords", "(I)J"⟩ prog_1_method_48_code zc_123 _ rfl rfl rfl rfl
  (z_bulk0 (own := "LyndonBench") (TB := zTB_5) (zTBk_5 xs) rfl zdd_123 (by decide +kernel))
  (z_fn)
theorem zdd_124 : ∀ q ∈ zc_124, decode prog_1_method_49_code q.1 = Except.ok (q.2.1, q.2.2.1) := zdw (by decide +kernel)
theorem zk_124 (xs : List Int32) : z_okm (za_T xs) za_P za_M 124 := z_okm_of ⟨"LyndonBench", "necklaces", "(I)J"⟩ prog_1_method_49_code zc_124 _ rfl rfl rfl rfl
  (z_bulk0 (own := "LyndonBench") (TB := zTB_5) (zTBk_5 xs) rfl zdd_124 (by decide +kernel))
  (z_fn)
theorem zdd_125 : ∀ q ∈ zc_125, decode prog_1_method_50_code q.1 = Except.ok (q.2.1, q.2.2.1) := zdw (by decide +kernel)
theorem zk_125 (xs : List Int32) : z_okm (za_T xs) za_P za_M 125 := z_okm_of ⟨"LyndonBench", "bruijnLetter", "(II)I"⟩ prog_1_method_50_code zc_125 _ rfl rfl rfl rfl
  (z_bulk (own := "LyndonBench") (TB := zTB_5) (H := [(25, .new 77, 3, 0, 1000), (56, .new 192, 3, 2, 1000)]) (zTBk_5 xs) rfl zdd_125 (by decide +kernel)
    (z_fc (zo_t (by decide +kernel) rfl ⟨["java/lang/RuntimeException", "java/lang/Exception"], 279, 81, 14, _, none, by decide +kernel, by decide +kernel, by decide, zw_804, zw_132, rfl, rfl, rfl, zt_0a, zt_0b, zt_0c_77, trivial, by decide +kernel, by decide +kernel, Or.inr ⟨rfl, by decide +kernel, by decide +kernel, by decide +kernel⟩⟩) <|
    z_fc (zo_t (by decide +kernel) rfl ⟨["java/lang/RuntimeException", "java/lang/Exception"], 284, 196, 15, _, none, by decide +kernel, by decide +kernel, by decide, zw_993, zw_137, rfl, rfl, rfl, zt_4a, zt_4b, zt_4c_192, trivial, by decide +kernel, by decide +kernel, Or.inr ⟨rfl, by decide +kernel, by decide +kernel, by decide +kernel⟩⟩) <|
    z_fn))
  (z_fn)
theorem zdd_126 : ∀ q ∈ zc_126, decode prog_1_method_51_code q.1 = Except.ok (q.2.1, q.2.2.1) := zdw (by decide +kernel)
theorem zk_126 (xs : List Int32) : z_okm (za_T xs) za_P za_M 126 := z_okm_of ⟨"LyndonBench", "keptCount", "()I"⟩ prog_1_method_51_code zc_126 _ rfl rfl rfl rfl
  (z_bulk0 (own := "LyndonBench") (TB := zTB_5) (zTBk_5 xs) rfl zdd_126 (by decide +kernel))
  (z_fn)
theorem zdd_127 : ∀ q ∈ zc_127, decode prog_1_method_52_code q.1 = Except.ok (q.2.1, q.2.2.1) := zdw (by decide +kernel)
theorem zk_127 (xs : List Int32) : z_okm (za_T xs) za_P za_M 127 := z_okm_of ⟨"LyndonBench", "keptLength", "(I)I"⟩ prog_1_method_52_code zc_127 _ rfl rfl rfl rfl
  (z_bulk (own := "LyndonBench") (TB := zTB_5) (H := [(13, .new 192, 3, 2, 1000)]) (zTBk_5 xs) rfl zdd_127 (by decide +kernel)
    (z_fc (zo_t (by decide +kernel) rfl ⟨["java/lang/RuntimeException", "java/lang/Exception"], 194, 196, 11, _, none, by decide +kernel, by decide +kernel, by decide, zw_993, zw_137, rfl, rfl, rfl, zt_4a, zt_4b, zt_4c_192, trivial, by decide +kernel, by decide +kernel, Or.inl ⟨by decide +kernel, by decide +kernel, by decide +kernel⟩⟩) <|
    z_fn))
  (z_fn)
theorem zdd_128 : ∀ q ∈ zc_128, decode prog_1_method_53_code q.1 = Except.ok (q.2.1, q.2.2.1) := zdw (by decide +kernel)
theorem zk_128 (xs : List Int32) : z_okm (za_T xs) za_P za_M 128 := z_okm_of ⟨"LyndonBench", "keptLetter", "(II)I"⟩ prog_1_method_53_code zc_128 _ rfl rfl rfl rfl
  (z_bulk (own := "LyndonBench") (TB := zTB_5) (H := [(13, .new 192, 3, 2, 1000)]) (zTBk_5 xs) rfl zdd_128 (by decide +kernel)
    (z_fc (zo_t (by decide +kernel) rfl ⟨["java/lang/RuntimeException", "java/lang/Exception"], 194, 196, 11, _, none, by decide +kernel, by decide +kernel, by decide, zw_993, zw_137, rfl, rfl, rfl, zt_4a, zt_4b, zt_4c_192, trivial, by decide +kernel, by decide +kernel, Or.inl ⟨by decide +kernel, by decide +kernel, by decide +kernel⟩⟩) <|
    z_fn))
  (z_fn)
theorem zdd_129 : ∀ q ∈ zc_129, decode prog_1_method_54_code q.1 = Except.ok (q.2.1, q.2.2.1) := zdw (by decide +kernel)
theorem zk_129 (xs : List Int32) : z_okm (za_T xs) za_P za_M 129 := z_okm_of ⟨"LyndonBench", "isShelfFalling", "()Z"⟩ prog_1_method_54_code zc_129 _ rfl rfl rfl rfl
  (z_bulk0 (own := "LyndonBench") (TB := zTB_5) (zTBk_5 xs) rfl zdd_129 (by decide +kernel))
  (z_fn)
theorem zdd_130 : ∀ q ∈ zc_130, decode prog_1_method_55_code q.1 = Except.ok (q.2.1, q.2.2.1) := zdw (by decide +kernel)
theorem zk_130 (xs : List Int32) : z_okm (za_T xs) za_P za_M 130 := z_okm_of ⟨"LyndonBench", "greatestKept", "()I"⟩ prog_1_method_55_code zc_130 _ rfl rfl rfl rfl
  (z_bulk0 (own := "LyndonBench") (TB := zTB_5) (zTBk_5 xs) rfl zdd_130 (by decide +kernel))
  (z_fn)
theorem zdd_131 : ∀ q ∈ zc_131, decode prog_1_method_56_code q.1 = Except.ok (q.2.1, q.2.2.1) := zdw (by decide +kernel)
theorem zk_131 (xs : List Int32) : z_okm (za_T xs) za_P za_M 131 := z_okm_of ⟨"LyndonBench", "meanFactor", "()D"⟩ prog_1_method_56_code zc_131 _ rfl rfl rfl rfl
  (z_bulk0 (own := "LyndonBench") (TB := zTB_5) (zTBk_5 xs) rfl zdd_131 (by decide +kernel))
  (z_fn)
theorem zdd_132 : ∀ q ∈ zc_132, decode prog_1_method_57_code q.1 = Except.ok (q.2.1, q.2.2.1) := zdw (by decide +kernel)
theorem zk_132 (xs : List Int32) : z_okm (za_T xs) za_P za_M 132 := z_okm_of ⟨"LyndonBench", "lyndonShare", "()F"⟩ prog_1_method_57_code zc_132 _ rfl rfl rfl rfl
  (z_bulk0 (own := "LyndonBench") (TB := zTB_5) (zTBk_5 xs) rfl zdd_132 (by decide +kernel))
  (z_fn)
theorem zdd_133 : ∀ q ∈ zc_133, decode prog_1_method_58_code q.1 = Except.ok (q.2.1, q.2.2.1) := zdw (by decide +kernel)
theorem zk_133 (xs : List Int32) : z_okm (za_T xs) za_P za_M 133 := z_okm_of ⟨"LyndonBench", "violations", "()I"⟩ prog_1_method_58_code zc_133 _ rfl rfl rfl rfl
  (z_bulk0 (own := "LyndonBench") (TB := zTB_5) (zTBk_5 xs) rfl zdd_133 (by decide +kernel))
  (z_fn)
theorem zdd_134 : ∀ q ∈ zc_134, decode prog_1_method_59_code q.1 = Except.ok (q.2.1, q.2.2.1) := zdw (by decide +kernel)
theorem zk_134 (xs : List Int32) : z_okm (za_T xs) za_P za_M 134 := z_okm_of ⟨"LyndonBench", "writeFactors", "()I"⟩ prog_1_method_59_code zc_134 _ rfl rfl rfl rfl
  (z_bulk0 (own := "LyndonBench") (TB := zTB_5) (zTBk_5 xs) rfl zdd_134 (by decide +kernel))
  (z_fn)
theorem zdd_135 : ∀ q ∈ zc_135, decode prog_1_method_60_code q.1 = Except.ok (q.2.1, q.2.2.1) := zdw (by decide +kernel)
theorem zk_135 (xs : List Int32) : z_okm (za_T xs) za_P za_M 135 := z_okm_of ⟨"LyndonBench", "reportByte", "(I)I"⟩ prog_1_method_60_code zc_135 _ rfl rfl rfl rfl
  (z_bulk0 (own := "LyndonBench") (TB := zTB_5) (zTBk_5 xs) rfl zdd_135 (by decide +kernel))
  (z_fn)
theorem zdd_136 : ∀ q ∈ zc_136, decode prog_1_method_61_code q.1 = Except.ok (q.2.1, q.2.2.1) := zdw (by decide +kernel)
theorem zk_136 (xs : List Int32) : z_okm (za_T xs) za_P za_M 136 := z_okm_of ⟨"LyndonBench", "checkLetter", "(I)V"⟩ prog_1_method_61_code zc_136 _ rfl rfl rfl rfl
  (z_bulk (own := "LyndonBench") (TB := zTB_5) (H := [(11, .new 77, 3, 0, 1000)]) (zTBk_5 xs) rfl zdd_136 (by decide +kernel)
    (z_fc (zo_t (by decide +kernel) rfl ⟨["java/lang/RuntimeException", "java/lang/Exception"], 295, 81, 16, _, none, by decide +kernel, by decide +kernel, by decide, zw_804, zw_132, rfl, rfl, rfl, zt_0a, zt_0b, zt_0c_77, trivial, by decide +kernel, by decide +kernel, Or.inr ⟨rfl, by decide +kernel, by decide +kernel, by decide +kernel⟩⟩) <|
    z_fn))
  (z_fn)
theorem zdd_137 : ∀ q ∈ zc_137, decode prog_1_method_62_code q.1 = Except.ok (q.2.1, q.2.2.1) := zdw (by decide +kernel)
theorem zk_137 (xs : List Int32) : z_okm (za_T xs) za_P za_M 137 := z_okm_of ⟨"LyndonBench", "checkCount", "(I)V"⟩ prog_1_method_62_code zc_137 _ rfl rfl rfl rfl
  (z_bulk (own := "LyndonBench") (TB := zTB_5) (H := [(18, .new 77, 3, 0, 1000)]) (zTBk_5 xs) rfl zdd_137 (by decide +kernel)
    (z_fc (zo_t (by decide +kernel) rfl ⟨["java/lang/RuntimeException", "java/lang/Exception"], 297, 81, 17, _, none, by decide +kernel, by decide +kernel, by decide, zw_804, zw_132, rfl, rfl, rfl, zt_0a, zt_0b, zt_0c_77, trivial, by decide +kernel, by decide +kernel, Or.inr ⟨rfl, by decide +kernel, by decide +kernel, by decide +kernel⟩⟩) <|
    z_fn))
  (z_fn)
theorem zdd_138 : ∀ q ∈ zc_138, decode prog_1_method_63_code q.1 = Except.ok (q.2.1, q.2.2.1) := zdw (by decide +kernel)
theorem zk_138 (xs : List Int32) : z_okm (za_T xs) za_P za_M 138 := z_okm_of ⟨"LyndonBench", "checkPart", "(II)V"⟩ prog_1_method_63_code zc_138 _ rfl rfl rfl rfl
  (z_bulk (own := "LyndonBench") (TB := zTB_5) (H := [(23, .new 77, 3, 0, 1000)]) (zTBk_5 xs) rfl zdd_138 (by decide +kernel)
    (z_fc (zo_t (by decide +kernel) rfl ⟨["java/lang/RuntimeException", "java/lang/Exception"], 299, 81, 18, _, none, by decide +kernel, by decide +kernel, by decide, zw_804, zw_132, rfl, rfl, rfl, zt_0a, zt_0b, zt_0c_77, trivial, by decide +kernel, by decide +kernel, Or.inr ⟨rfl, by decide +kernel, by decide +kernel, by decide +kernel⟩⟩) <|
    z_fn))
  (z_fn)
theorem zdd_139 : ∀ q ∈ zc_139, decode prog_1_method_64_code q.1 = Except.ok (q.2.1, q.2.2.1) := zdw (by decide +kernel)
theorem zk_139 (xs : List Int32) : z_okm (za_T xs) za_P za_M 139 := z_okm_of ⟨"LyndonBench", "checkCountedLength", "(I)V"⟩ prog_1_method_64_code zc_139 _ rfl rfl rfl rfl
  (z_bulk (own := "LyndonBench") (TB := zTB_5) (H := [(11, .new 77, 3, 0, 1000)]) (zTBk_5 xs) rfl zdd_139 (by decide +kernel)
    (z_fc (zo_t (by decide +kernel) rfl ⟨["java/lang/RuntimeException", "java/lang/Exception"], 301, 81, 19, _, none, by decide +kernel, by decide +kernel, by decide, zw_804, zw_132, rfl, rfl, rfl, zt_0a, zt_0b, zt_0c_77, trivial, by decide +kernel, by decide +kernel, Or.inr ⟨rfl, by decide +kernel, by decide +kernel, by decide +kernel⟩⟩) <|
    z_fn))
  (z_fn)
theorem zdd_140 : ∀ q ∈ zc_140, decode prog_1_method_65_code q.1 = Except.ok (q.2.1, q.2.2.1) := zdw (by decide +kernel)
theorem zk_140 (xs : List Int32) : z_okm (za_T xs) za_P za_M 140 := z_okm_of ⟨"LyndonBench", "checkedBegin", "(I)I"⟩ prog_1_method_65_code zc_140 _ rfl rfl rfl rfl
  (z_bulk (own := "LyndonBench") (TB := zTB_5) (H := [(17, .new 192, 3, 2, 1000)]) (zTBk_5 xs) rfl zdd_140 (by decide +kernel)
    (z_fc (zo_t (by decide +kernel) rfl ⟨["java/lang/RuntimeException", "java/lang/Exception"], 306, 196, 20, _, none, by decide +kernel, by decide +kernel, by decide, zw_993, zw_137, rfl, rfl, rfl, zt_4a, zt_4b, zt_4c_192, trivial, by decide +kernel, by decide +kernel, Or.inr ⟨rfl, by decide +kernel, by decide +kernel, by decide +kernel⟩⟩) <|
    z_fn))
  (z_fn)
theorem zdd_141 : ∀ q ∈ zc_141, decode prog_1_method_66_code q.1 = Except.ok (q.2.1, q.2.2.1) := zdw (by decide +kernel)
theorem zk_141 (xs : List Int32) : z_okm (za_T xs) za_P za_M 141 := z_okm_of ⟨"LyndonBench", "fitsRow", "(II)Z"⟩ prog_1_method_66_code zc_141 _ rfl rfl rfl rfl
  (z_bulk0 (own := "LyndonBench") (TB := zTB_5) (zTBk_5 xs) rfl zdd_141 (by decide +kernel))
  (z_fn)
theorem zdd_142 : ∀ q ∈ zc_142, decode prog_1_method_67_code q.1 = Except.ok (q.2.1, q.2.2.1) := zdw (by decide +kernel)
theorem zk_142 (xs : List Int32) : z_okm (za_T xs) za_P za_M 142 := z_okm_of ⟨"LyndonBench", "weighPowers", "(II[I)J"⟩ prog_1_method_67_code zc_142 _ rfl rfl rfl rfl
  (z_bulk0 (own := "LyndonBench") (TB := zTB_5) (zTBk_5 xs) rfl zdd_142 (by decide +kernel))
  (z_fn)
theorem zdd_143 : ∀ q ∈ zc_143, decode prog_1_method_68_code q.1 = Except.ok (q.2.1, q.2.2.1) := zdw (by decide +kernel)
theorem zk_143 (xs : List Int32) : z_okm (za_T xs) za_P za_M 143 := z_okm_of ⟨"LyndonBench", "power", "(II)J"⟩ prog_1_method_68_code zc_143 _ rfl rfl rfl rfl
  (z_bulk0 (own := "LyndonBench") (TB := zTB_5) (zTBk_5 xs) rfl zdd_143 (by decide +kernel))
  (z_fn)
theorem zdd_144 : ∀ q ∈ zc_144, decode prog_1_method_69_code q.1 = Except.ok (q.2.1, q.2.2.1) := zdw (by decide +kernel)
theorem zk_144 (xs : List Int32) : z_okm (za_T xs) za_P za_M 144 := z_okm_of ⟨"LyndonBench", "startListing", "()V"⟩ prog_1_method_69_code zc_144 _ rfl rfl rfl rfl
  (z_bulk0 (own := "LyndonBench") (TB := zTB_5) (zTBk_5 xs) rfl zdd_144 (by decide +kernel))
  (z_fn)
theorem zdd_145 : ∀ q ∈ zc_145, decode prog_1_method_70_code q.1 = Except.ok (q.2.1, q.2.2.1) := zdw (by decide +kernel)
theorem zk_145 (xs : List Int32) : z_okm (za_T xs) za_P za_M 145 := z_okm_of ⟨"LyndonBench", "countSmaller", "(II)I"⟩ prog_1_method_70_code zc_145 _ rfl rfl rfl rfl
  (z_bulk0 (own := "LyndonBench") (TB := zTB_5) (zTBk_5 xs) rfl zdd_145 (by decide +kernel))
  (z_fn)
theorem zdd_146 : ∀ q ∈ zc_146, decode prog_1_method_71_code q.1 = Except.ok (q.2.1, q.2.2.1) := zdw (by decide +kernel)
theorem zk_146 (xs : List Int32) : z_okm (za_T xs) za_P za_M 146 := z_okm_of ⟨"LyndonBench", "findRowLetter", "(II)I"⟩ prog_1_method_71_code zc_146 _ rfl rfl rfl rfl
  (z_bulk0 (own := "LyndonBench") (TB := zTB_5) (zTBk_5 xs) rfl zdd_146 (by decide +kernel))
  (z_fn)
theorem zdd_147 : ∀ q ∈ zc_147, decode prog_9_method_1_code q.1 = Except.ok (q.2.1, q.2.2.1) := zdd_of (by decide +kernel)
theorem zk_147 (xs : List Int32) : z_okm (za_T xs) za_P za_M 147 := z_okm_of ⟨"LyndonBenchModel", "<init>", "()V"⟩ prog_9_method_1_code zc_147 _ rfl rfl rfl rfl
  (z_bulk (own := "LyndonBenchModel") (TB := zTB_6) (H := [(10, .putfield 7, 3, 5, 0), (19, .putfield 13, 3, 5, 1), (28, .putfield 16, 3, 5, 2), (37, .putfield 19, 3, 5, 3), (46, .putfield 22, 3, 5, 6), (55, .putfield 25, 3, 5, 7), (64, .putfield 28, 3, 5, 8), (73, .putfield 31, 3, 5, 9), (87, .putfield 38, 3, 5, 15), (94, .putfield 42, 3, 5, 23)]) (zTBk_6 xs) rfl zdd_147 (by decide +kernel)
    (z_fc (zo_h (by decide +kernel) rfl ⟨rfl, Nat.le_of_ble_eq_true rfl, _, _, _, rfl, Nat.le_of_ble_eq_true rfl, zw_1434, Or.inr ⟨rfl, rfl, rfl⟩⟩) <|
    z_fc (zo_h (by decide +kernel) rfl ⟨rfl, Nat.le_of_ble_eq_true rfl, _, _, _, rfl, Nat.le_of_ble_eq_true rfl, zw_1435, Or.inr ⟨rfl, rfl, rfl⟩⟩) <|
    z_fc (zo_h (by decide +kernel) rfl ⟨rfl, Nat.le_of_ble_eq_true rfl, _, _, _, rfl, Nat.le_of_ble_eq_true rfl, zw_1436, Or.inr ⟨rfl, rfl, rfl⟩⟩) <|
    z_fc (zo_h (by decide +kernel) rfl ⟨rfl, Nat.le_of_ble_eq_true rfl, _, _, _, rfl, Nat.le_of_ble_eq_true rfl, zw_1437, Or.inr ⟨rfl, rfl, rfl⟩⟩) <|
    z_fc (zo_h (by decide +kernel) rfl ⟨rfl, Nat.le_of_ble_eq_true rfl, _, _, _, rfl, Nat.le_of_ble_eq_true rfl, zw_1440, Or.inr ⟨rfl, rfl, rfl⟩⟩) <|
    z_fc (zo_h (by decide +kernel) rfl ⟨rfl, Nat.le_of_ble_eq_true rfl, _, _, _, rfl, Nat.le_of_ble_eq_true rfl, zw_1441, Or.inr ⟨rfl, rfl, rfl⟩⟩) <|
    z_fc (zo_h (by decide +kernel) rfl ⟨rfl, Nat.le_of_ble_eq_true rfl, _, _, _, rfl, Nat.le_of_ble_eq_true rfl, zw_1442, Or.inr ⟨rfl, rfl, rfl⟩⟩) <|
    z_fc (zo_h (by decide +kernel) rfl ⟨rfl, Nat.le_of_ble_eq_true rfl, _, _, _, rfl, Nat.le_of_ble_eq_true rfl, zw_1443, Or.inr ⟨rfl, rfl, rfl⟩⟩) <|
    z_fc (zo_h (by decide +kernel) rfl ⟨rfl, Nat.le_of_ble_eq_true rfl, _, _, _, rfl, Nat.le_of_ble_eq_true rfl, zw_1449, Or.inr ⟨rfl, rfl, rfl⟩⟩) <|
    z_fc (zo_h (by decide +kernel) rfl ⟨rfl, Nat.le_of_ble_eq_true rfl, _, _, _, rfl, Nat.le_of_ble_eq_true rfl, zw_1457, Or.inr ⟨rfl, rfl, rfl⟩⟩) <|
    z_fn))
  (z_fn)
theorem zdd_148 : ∀ q ∈ zc_148, decode prog_9_method_3_code q.1 = Except.ok (q.2.1, q.2.2.1) := zdw (by decide +kernel)
theorem zk_148 (xs : List Int32) : z_okm (za_T xs) za_P za_M 148 := z_okm_of ⟨"LyndonBenchModel", "in", "(III)Z"⟩ prog_9_method_3_code zc_148 _ rfl rfl rfl rfl
  (z_bulk0 (own := "LyndonBenchModel") (TB := zTB_6) (zTBk_6 xs) rfl zdd_148 (by decide +kernel))
  (z_fn)
theorem zdd_149 : ∀ q ∈ zc_149, decode prog_9_method_4_code q.1 = Except.ok (q.2.1, q.2.2.1) := zdw (by decide +kernel)
theorem zk_149 (xs : List Int32) : z_okm (za_T xs) za_P za_M 149 := z_okm_of ⟨"LyndonBenchModel", "throwsOne", "(Z)Z"⟩ prog_9_method_4_code zc_149 _ rfl rfl rfl rfl
  (z_bulk0 (own := "LyndonBenchModel") (TB := zTB_6) (zTBk_6 xs) rfl zdd_149 (by decide +kernel))
  (z_fn)
theorem zdd_150 : ∀ q ∈ zc_150, decode prog_9_method_5_code q.1 = Except.ok (q.2.1, q.2.2.1) := zdw (by decide +kernel)
theorem zk_150 (xs : List Int32) : z_okm (za_T xs) za_P za_M 150 := z_okm_of ⟨"LyndonBenchModel", "throwsOne", "(ZZ)Z"⟩ prog_9_method_5_code zc_150 _ rfl rfl rfl rfl
  (z_bulk0 (own := "LyndonBenchModel") (TB := zTB_6) (zTBk_6 xs) rfl zdd_150 (by decide +kernel))
  (z_fn)
theorem zdd_151 : ∀ q ∈ zc_151, decode prog_9_method_6_code q.1 = Except.ok (q.2.1, q.2.2.1) := zdw (by decide +kernel)
theorem zk_151 (xs : List Int32) : z_okm (za_T xs) za_P za_M 151 := z_okm_of ⟨"LyndonBenchModel", "isLetter", "(I)Z"⟩ prog_9_method_6_code zc_151 _ rfl rfl rfl rfl
  (z_bulk0 (own := "LyndonBenchModel") (TB := zTB_6) (zTBk_6 xs) rfl zdd_151 (by decide +kernel))
  (z_fn)
theorem zdd_152 : ∀ q ∈ zc_152, decode prog_9_method_7_code q.1 = Except.ok (q.2.1, q.2.2.1) := zdw (by decide +kernel)
theorem zk_152 (xs : List Int32) : z_okm (za_T xs) za_P za_M 152 := z_okm_of ⟨"LyndonBenchModel", "isShelved", "(I)Z"⟩ prog_9_method_7_code zc_152 _ rfl rfl rfl rfl
  (z_bulk0 (own := "LyndonBenchModel") (TB := zTB_6) (zTBk_6 xs) rfl zdd_152 (by decide +kernel))
  (z_fn)
theorem zdd_153 : ∀ q ∈ zc_153, decode prog_9_method_8_code q.1 = Except.ok (q.2.1, q.2.2.1) := zdw (by decide +kernel)
theorem zk_153 (xs : List Int32) : z_okm (za_T xs) za_P za_M 153 := z_okm_of ⟨"LyndonBenchModel", "compares", "(IIII)I"⟩ prog_9_method_8_code zc_153 _ rfl rfl rfl rfl
  (z_bulk0 (own := "LyndonBenchModel") (TB := zTB_6) (zTBk_6 xs) rfl zdd_153 (by decide +kernel))
  (z_fn)
theorem zdd_154 : ∀ q ∈ zc_154, decode prog_9_method_9_code q.1 = Except.ok (q.2.1, q.2.2.1) := zdw (by decide +kernel)
theorem zk_154 (xs : List Int32) : z_okm (za_T xs) za_P za_M 154 := z_okm_of ⟨"LyndonBenchModel", "shelved", "(II)I"⟩ prog_9_method_9_code zc_154 _ rfl rfl rfl rfl
  (z_bulk0 (own := "LyndonBenchModel") (TB := zTB_6) (zTBk_6 xs) rfl zdd_154 (by decide +kernel))
  (z_fn)
theorem zdd_155 : ∀ q ∈ zc_155, decode prog_9_method_10_code q.1 = Except.ok (q.2.1, q.2.2.1) := zdw (by decide +kernel)
theorem zk_155 (xs : List Int32) : z_okm (za_T xs) za_P za_M 155 := z_okm_of ⟨"LyndonBenchModel", "loads", "()V"⟩ prog_9_method_10_code zc_155 _ rfl rfl rfl rfl
  (z_bulk0 (own := "LyndonBenchModel") (TB := zTB_6) (zTBk_6 xs) rfl zdd_155 (by decide +kernel))
  (z_fn)
theorem zdd_156 : ∀ q ∈ zc_156, decode prog_9_method_11_code q.1 = Except.ok (q.2.1, q.2.2.1) := zdw (by decide +kernel)
theorem zk_156 (xs : List Int32) : z_okm (za_T xs) za_P za_M 156 := z_okm_of ⟨"LyndonBenchModel", "adds", "(I)V"⟩ prog_9_method_11_code zc_156 _ rfl rfl rfl rfl
  (z_bulk0 (own := "LyndonBenchModel") (TB := zTB_6) (zTBk_6 xs) rfl zdd_156 (by decide +kernel))
  (z_fn)
theorem zdd_157 : ∀ q ∈ zc_157, decode prog_9_method_12_code q.1 = Except.ok (q.2.1, q.2.2.1) := zdw (by decide +kernel)
theorem zk_157 (xs : List Int32) : z_okm (za_T xs) za_P za_M 157 := z_okm_of ⟨"LyndonBenchModel", "loadsRotated", "(I)V"⟩ prog_9_method_12_code zc_157 _ rfl rfl rfl rfl
  (z_bulk0 (own := "LyndonBenchModel") (TB := zTB_6) (zTBk_6 xs) rfl zdd_157 (by decide +kernel))
  (z_fn)
theorem zdd_158 : ∀ q ∈ zc_158, decode prog_9_method_13_code q.1 = Except.ok (q.2.1, q.2.2.1) := zdw (by decide +kernel)
theorem zk_158 (xs : List Int32) : z_okm (za_T xs) za_P za_M 158 := z_okm_of ⟨"LyndonBenchModel", "isLess", "(II)Z"⟩ prog_9_method_13_code zc_158 _ rfl rfl rfl rfl
  (z_bulk0 (own := "LyndonBenchModel") (TB := zTB_6) (zTBk_6 xs) rfl zdd_158 (by decide +kernel))
  (z_fn)
theorem zdd_159 : ∀ q ∈ zc_159, decode prog_9_method_14_code q.1 = Except.ok (q.2.1, q.2.2.1) := zdw (by decide +kernel)
theorem zk_159 (xs : List Int32) : z_okm (za_T xs) za_P za_M 159 := z_okm_of ⟨"LyndonBenchModel", "cuts", "()I"⟩ prog_9_method_14_code zc_159 _ rfl rfl rfl rfl
  (z_bulk0 (own := "LyndonBenchModel") (TB := zTB_6) (zTBk_6 xs) rfl zdd_159 (by decide +kernel))
  (z_fn)
theorem zdd_160 : ∀ q ∈ zc_160, decode prog_9_method_15_code q.1 = Except.ok (q.2.1, q.2.2.1) := zdw (by decide +kernel)
theorem zk_160 (xs : List Int32) : z_okm (za_T xs) za_P za_M 160 := z_okm_of ⟨"LyndonBenchModel", "factors", "()I"⟩ prog_9_method_15_code zc_160 _ rfl rfl rfl rfl
  (z_bulk0 (own := "LyndonBenchModel") (TB := zTB_6) (zTBk_6 xs) rfl zdd_160 (by decide +kernel))
  (z_fn)
theorem zdd_161 : ∀ q ∈ zc_161, decode prog_9_method_16_code q.1 = Except.ok (q.2.1, q.2.2.1) := zdw (by decide +kernel)
theorem zk_161 (xs : List Int32) : z_okm (za_T xs) za_P za_M 161 := z_okm_of ⟨"LyndonBenchModel", "turned", "(I)I"⟩ prog_9_method_16_code zc_161 _ rfl rfl rfl rfl
  (z_bulk0 (own := "LyndonBenchModel") (TB := zTB_6) (zTBk_6 xs) rfl zdd_161 (by decide +kernel))
  (z_fn)
theorem zdd_162 : ∀ q ∈ zc_162, decode prog_9_method_17_code q.1 = Except.ok (q.2.1, q.2.2.1) := zdw (by decide +kernel)
theorem zk_162 (xs : List Int32) : z_okm (za_T xs) za_P za_M 162 := z_okm_of ⟨"LyndonBenchModel", "isPrimitiveRow", "()Z"⟩ prog_9_method_17_code zc_162 _ rfl rfl rfl rfl
  (z_bulk0 (own := "LyndonBenchModel") (TB := zTB_6) (zTBk_6 xs) rfl zdd_162 (by decide +kernel))
  (z_fn)
theorem zdd_163 : ∀ q ∈ zc_163, decode prog_9_method_18_code q.1 = Except.ok (q.2.1, q.2.2.1) := zdw (by decide +kernel)
theorem zk_163 (xs : List Int32) : z_okm (za_T xs) za_P za_M 163 := z_okm_of ⟨"LyndonBenchModel", "isLeastRow", "()Z"⟩ prog_9_method_18_code zc_163 _ rfl rfl rfl rfl
  (z_bulk0 (own := "LyndonBenchModel") (TB := zTB_6) (zTBk_6 xs) rfl zdd_163 (by decide +kernel))
  (z_fn)
theorem zdd_164 : ∀ q ∈ zc_164, decode prog_9_method_19_code q.1 = Except.ok (q.2.1, q.2.2.1) := zdw (by decide +kernel)
theorem zk_164 (xs : List Int32) : z_okm (za_T xs) za_P za_M 164 := z_okm_of ⟨"LyndonBenchModel", "isBeginning", "()Z"⟩ prog_9_method_19_code zc_164 _ rfl rfl rfl rfl
  (z_bulk0 (own := "LyndonBenchModel") (TB := zTB_6) (zTBk_6 xs) rfl zdd_164 (by decide +kernel))
  (z_fn)
theorem zdd_165 : ∀ q ∈ zc_165, decode prog_9_method_20_code q.1 = Except.ok (q.2.1, q.2.2.1) := zdw (by decide +kernel)
theorem zk_165 (xs : List Int32) : z_okm (za_T xs) za_P za_M 165 := z_okm_of ⟨"LyndonBenchModel", "why", "()I"⟩ prog_9_method_20_code zc_165 _ rfl rfl rfl rfl
  (z_bulk0 (own := "LyndonBenchModel") (TB := zTB_6) (zTBk_6 xs) rfl zdd_165 (by decide +kernel))
  (z_fn)
theorem zdd_166 : ∀ q ∈ zc_166, decode prog_9_method_21_code q.1 = Except.ok (q.2.1, q.2.2.1) := zdw (by decide +kernel)
theorem zk_166 (xs : List Int32) : z_okm (za_T xs) za_P za_M 166 := z_okm_of ⟨"LyndonBenchModel", "period", "()I"⟩ prog_9_method_21_code zc_166 _ rfl rfl rfl rfl
  (z_bulk0 (own := "LyndonBenchModel") (TB := zTB_6) (zTBk_6 xs) rfl zdd_166 (by decide +kernel))
  (z_fn)
theorem zdd_167 : ∀ q ∈ zc_167, decode prog_9_method_22_code q.1 = Except.ok (q.2.1, q.2.2.1) := zdw (by decide +kernel)
theorem zk_167 (xs : List Int32) : z_okm (za_T xs) za_P za_M 167 := z_okm_of ⟨"LyndonBenchModel", "rotations", "(II)I"⟩ prog_9_method_22_code zc_167 _ rfl rfl rfl rfl
  (z_bulk0 (own := "LyndonBenchModel") (TB := zTB_6) (zTBk_6 xs) rfl zdd_167 (by decide +kernel))
  (z_fn)
theorem zdd_168 : ∀ q ∈ zc_168, decode prog_9_method_23_code q.1 = Except.ok (q.2.1, q.2.2.1) := zdw (by decide +kernel)
theorem zk_168 (xs : List Int32) : z_okm (za_T xs) za_P za_M 168 := z_okm_of ⟨"LyndonBenchModel", "least", "()I"⟩ prog_9_method_23_code zc_168 _ rfl rfl rfl rfl
  (z_bulk0 (own := "LyndonBenchModel") (TB := zTB_6) (zTBk_6 xs) rfl zdd_168 (by decide +kernel))
  (z_fn)
theorem zdd_169 : ∀ q ∈ zc_169, decode prog_9_method_24_code q.1 = Except.ok (q.2.1, q.2.2.1) := zdw (by decide +kernel)
theorem zk_169 (xs : List Int32) : z_okm (za_T xs) za_P za_M 169 := z_okm_of ⟨"LyndonBenchModel", "suffix", "(I)I"⟩ prog_9_method_24_code zc_169 _ rfl rfl rfl rfl
  (z_bulk0 (own := "LyndonBenchModel") (TB := zTB_6) (zTBk_6 xs) rfl zdd_169 (by decide +kernel))
  (z_fn)
theorem zdd_170 : ∀ q ∈ zc_170, decode prog_9_method_25_code q.1 = Except.ok (q.2.1, q.2.2.1) := zdw (by decide +kernel)
theorem zk_170 (xs : List Int32) : z_okm (za_T xs) za_P za_M 170 := z_okm_of ⟨"LyndonBenchModel", "power", "(I)I"⟩ prog_9_method_25_code zc_170 _ rfl rfl rfl rfl
  (z_bulk0 (own := "LyndonBenchModel") (TB := zTB_6) (zTBk_6 xs) rfl zdd_170 (by decide +kernel))
  (z_fn)
theorem zdd_171 : ∀ q ∈ zc_171, decode prog_9_method_26_code q.1 = Except.ok (q.2.1, q.2.2.1) := zdw (by decide +kernel)
theorem zk_171 (xs : List Int32) : z_okm (za_T xs) za_P za_M 171 := z_okm_of ⟨"LyndonBenchModel", "spells", "(II)V"⟩ prog_9_method_26_code zc_171 _ rfl rfl rfl rfl
  (z_bulk0 (own := "LyndonBenchModel") (TB := zTB_6) (zTBk_6 xs) rfl zdd_171 (by decide +kernel))
  (z_fn)
theorem zdd_172 : ∀ q ∈ zc_172, decode prog_9_method_27_code q.1 = Except.ok (q.2.1, q.2.2.1) := zdw (by decide +kernel)
theorem zk_172 (xs : List Int32) : z_okm (za_T xs) za_P za_M 172 := z_okm_of ⟨"LyndonBenchModel", "rootLength", "()I"⟩ prog_9_method_27_code zc_172 _ rfl rfl rfl rfl
  (z_bulk0 (own := "LyndonBenchModel") (TB := zTB_6) (zTBk_6 xs) rfl zdd_172 (by decide +kernel))
  (z_fn)
theorem zdd_173 : ∀ q ∈ zc_173, decode prog_9_method_28_code q.1 = Except.ok (q.2.1, q.2.2.1) := zdw (by decide +kernel)
theorem zk_173 (xs : List Int32) : z_okm (za_T xs) za_P za_M 173 := z_okm_of ⟨"LyndonBenchModel", "primitives", "(I)J"⟩ prog_9_method_28_code zc_173 _ rfl rfl rfl rfl
  (z_bulk0 (own := "LyndonBenchModel") (TB := zTB_6) (zTBk_6 xs) rfl zdd_173 (by decide +kernel))
  (z_fn)
theorem zdd_174 : ∀ q ∈ zc_174, decode prog_9_method_29_code q.1 = Except.ok (q.2.1, q.2.2.1) := zdw (by decide +kernel)
theorem zk_174 (xs : List Int32) : z_okm (za_T xs) za_P za_M 174 := z_okm_of ⟨"LyndonBenchModel", "rings", "(I)J"⟩ prog_9_method_29_code zc_174 _ rfl rfl rfl rfl
  (z_bulk0 (own := "LyndonBenchModel") (TB := zTB_6) (zTBk_6 xs) rfl zdd_174 (by decide +kernel))
  (z_fn)
theorem zdd_175 : ∀ q ∈ zc_175, decode prog_9_method_30_code q.1 = Except.ok (q.2.1, q.2.2.1) := zdw (by decide +kernel)
theorem zk_175 (xs : List Int32) : z_okm (za_T xs) za_P za_M 175 := z_okm_of ⟨"LyndonBenchModel", "takes", "()I"⟩ prog_9_method_30_code zc_175 _ rfl rfl rfl rfl
  (z_bulk0 (own := "LyndonBenchModel") (TB := zTB_6) (zTBk_6 xs) rfl zdd_175 (by decide +kernel))
  (z_fn)
theorem zdd_176 : ∀ q ∈ zc_176, decode prog_9_method_31_code q.1 = Except.ok (q.2.1, q.2.2.1) := zdw (by decide +kernel)
theorem zk_176 (xs : List Int32) : z_okm (za_T xs) za_P za_M 176 := z_okm_of ⟨"LyndonBenchModel", "appends", "(I)I"⟩ prog_9_method_31_code zc_176 _ rfl rfl rfl rfl
  (z_bulk0 (own := "LyndonBenchModel") (TB := zTB_6) (zTBk_6 xs) rfl zdd_176 (by decide +kernel))
  (z_fn)
theorem zdd_177 : ∀ q ∈ zc_177, decode prog_9_method_32_code q.1 = Except.ok (q.2.1, q.2.2.1) := zdw (by decide +kernel)
theorem zk_177 (xs : List Int32) : z_okm (za_T xs) za_P za_M 177 := z_okm_of ⟨"LyndonBenchModel", "drops", "(I)I"⟩ prog_9_method_32_code zc_177 _ rfl rfl rfl rfl
  (z_bulk0 (own := "LyndonBenchModel") (TB := zTB_6) (zTBk_6 xs) rfl zdd_177 (by decide +kernel))
  (z_fn)
theorem zdd_178 : ∀ q ∈ zc_178, decode prog_9_method_33_code q.1 = Except.ok (q.2.1, q.2.2.1) := zdw (by decide +kernel)
theorem zk_178 (xs : List Int32) : z_okm (za_T xs) za_P za_M 178 := z_okm_of ⟨"LyndonBenchModel", "parts", "(II)I"⟩ prog_9_method_33_code zc_178 _ rfl rfl rfl rfl
  (z_bulk0 (own := "LyndonBenchModel") (TB := zTB_6) (zTBk_6 xs) rfl zdd_178 (by decide +kernel))
  (z_fn)
theorem zdd_179 : ∀ q ∈ zc_179, decode prog_9_method_34_code q.1 = Except.ok (q.2.1, q.2.2.1) := zdw (by decide +kernel)
theorem zk_179 (xs : List Int32) : z_okm (za_T xs) za_P za_M 179 := z_okm_of ⟨"LyndonBenchModel", "turns", "(I)I"⟩ prog_9_method_34_code zc_179 _ rfl rfl rfl rfl
  (z_bulk0 (own := "LyndonBenchModel") (TB := zTB_6) (zTBk_6 xs) rfl zdd_179 (by decide +kernel))
  (z_fn)
theorem zdd_180 : ∀ q ∈ zc_180, decode prog_9_method_35_code q.1 = Except.ok (q.2.1, q.2.2.1) := zdw (by decide +kernel)
theorem zk_180 (xs : List Int32) : z_okm (za_T xs) za_P za_M 180 := z_okm_of ⟨"LyndonBenchModel", "mirrors", "()I"⟩ prog_9_method_35_code zc_180 _ rfl rfl rfl rfl
  (z_bulk0 (own := "LyndonBenchModel") (TB := zTB_6) (zTBk_6 xs) rfl zdd_180 (by decide +kernel))
  (z_fn)
theorem zdd_181 : ∀ q ∈ zc_181, decode prog_9_method_36_code q.1 = Except.ok (q.2.1, q.2.2.1) := zdw (by decide +kernel)
theorem zk_181 (xs : List Int32) : z_okm (za_T xs) za_P za_M 181 := z_okm_of ⟨"LyndonBenchModel", "turnsToLeast", "()I"⟩ prog_9_method_36_code zc_181 _ rfl rfl rfl rfl
  (z_bulk0 (own := "LyndonBenchModel") (TB := zTB_6) (zTBk_6 xs) rfl zdd_181 (by decide +kernel))
  (z_fn)
theorem zdd_182 : ∀ q ∈ zc_182, decode prog_9_method_37_code q.1 = Except.ok (q.2.1, q.2.2.1) := zdw (by decide +kernel)
theorem zk_182 (xs : List Int32) : z_okm (za_T xs) za_P za_M 182 := z_okm_of ⟨"LyndonBenchModel", "nexts", "(I)V"⟩ prog_9_method_37_code zc_182 _ rfl rfl rfl rfl
  (z_bulk0 (own := "LyndonBenchModel") (TB := zTB_6) (zTBk_6 xs) rfl zdd_182 (by decide +kernel))
  (z_fn)
end
section
/-! The check of the tables, methods 183 to 326. -/
theorem zdd_183 : ∀ q ∈ zc_183, decode prog_9_method_38_code q.1 = Except.ok (q.2.1, q.2.2.1) := zdw (by decide +kernel)
theorem zk_183 (xs : List Int32) : z_okm (za_T xs) za_P za_M 183 := z_okm_of ⟨"LyndonBenchModel", "hasNext", "(I)Z"⟩ prog_9_method_38_code zc_183 _ rfl rfl rfl rfl
  (z_bulk0 (own := "LyndonBenchModel") (TB := zTB_6) (zTBk_6 xs) rfl zdd_183 (by decide +kernel))
  (z_fn)
theorem zdd_184 : ∀ q ∈ zc_184, decode prog_9_method_39_code q.1 = Except.ok (q.2.1, q.2.2.1) := zdw (by decide +kernel)
theorem zk_184 (xs : List Int32) : z_okm (za_T xs) za_P za_M 184 := z_okm_of ⟨"LyndonBenchModel", "goesOn", "(I)I"⟩ prog_9_method_39_code zc_184 _ rfl rfl rfl rfl
  (z_bulk0 (own := "LyndonBenchModel") (TB := zTB_6) (zTBk_6 xs) rfl zdd_184 (by decide +kernel))
  (z_fn)
theorem zdd_185 : ∀ q ∈ zc_185, decode prog_9_method_40_code q.1 = Except.ok (q.2.1, q.2.2.1) := zdw (by decide +kernel)
theorem zk_185 (xs : List Int32) : z_okm (za_T xs) za_P za_M 185 := z_okm_of ⟨"LyndonBenchModel", "shelves", "(II)I"⟩ prog_9_method_40_code zc_185 _ rfl rfl rfl rfl
  (z_bulk0 (own := "LyndonBenchModel") (TB := zTB_6) (zTBk_6 xs) rfl zdd_185 (by decide +kernel))
  (z_fn)
theorem zdd_186 : ∀ q ∈ zc_186, decode prog_9_method_41_code q.1 = Except.ok (q.2.1, q.2.2.1) := zdw (by decide +kernel)
theorem zk_186 (xs : List Int32) : z_okm (za_T xs) za_P za_M 186 := z_okm_of ⟨"LyndonBenchModel", "canKeepFactor", "(I)Z"⟩ prog_9_method_41_code zc_186 _ rfl rfl rfl rfl
  (z_bulk0 (own := "LyndonBenchModel") (TB := zTB_6) (zTBk_6 xs) rfl zdd_186 (by decide +kernel))
  (z_fn)
theorem zdd_187 : ∀ q ∈ zc_187, decode prog_9_method_42_code q.1 = Except.ok (q.2.1, q.2.2.1) := zdw (by decide +kernel)
theorem zk_187 (xs : List Int32) : z_okm (za_T xs) za_P za_M 187 := z_okm_of ⟨"LyndonBenchModel", "canKeepText", "()Z"⟩ prog_9_method_42_code zc_187 _ rfl rfl rfl rfl
  (z_bulk0 (own := "LyndonBenchModel") (TB := zTB_6) (zTBk_6 xs) rfl zdd_187 (by decide +kernel))
  (z_fn)
theorem zdd_188 : ∀ q ∈ zc_188, decode prog_9_method_43_code q.1 = Except.ok (q.2.1, q.2.2.1) := zdw (by decide +kernel)
theorem zk_188 (xs : List Int32) : z_okm (za_T xs) za_P za_M 188 := z_okm_of ⟨"LyndonBenchModel", "keepsFactor", "(I)I"⟩ prog_9_method_43_code zc_188 _ rfl rfl rfl rfl
  (z_bulk0 (own := "LyndonBenchModel") (TB := zTB_6) (zTBk_6 xs) rfl zdd_188 (by decide +kernel))
  (z_fn)
theorem zdd_189 : ∀ q ∈ zc_189, decode prog_9_method_44_code q.1 = Except.ok (q.2.1, q.2.2.1) := zdw (by decide +kernel)
theorem zk_189 (xs : List Int32) : z_okm (za_T xs) za_P za_M 189 := z_okm_of ⟨"LyndonBenchModel", "removes", "(I)I"⟩ prog_9_method_44_code zc_189 _ rfl rfl rfl rfl
  (z_bulk0 (own := "LyndonBenchModel") (TB := zTB_6) (zTBk_6 xs) rfl zdd_189 (by decide +kernel))
  (z_fn)
theorem zdd_190 : ∀ q ∈ zc_190, decode prog_9_method_45_code q.1 = Except.ok (q.2.1, q.2.2.1) := zdw (by decide +kernel)
theorem zk_190 (xs : List Int32) : z_okm (za_T xs) za_P za_M 190 := z_okm_of ⟨"LyndonBenchModel", "shelfLength", "()I"⟩ prog_9_method_45_code zc_190 _ rfl rfl rfl rfl
  (z_bulk0 (own := "LyndonBenchModel") (TB := zTB_6) (zTBk_6 xs) rfl zdd_190 (by decide +kernel))
  (z_fn)
theorem zdd_191 : ∀ q ∈ zc_191, decode prog_9_method_46_code q.1 = Except.ok (q.2.1, q.2.2.1) := zdw (by decide +kernel)
theorem zk_191 (xs : List Int32) : z_okm (za_T xs) za_P za_M 191 := z_okm_of ⟨"LyndonBenchModel", "canJoin", "()Z"⟩ prog_9_method_46_code zc_191 _ rfl rfl rfl rfl
  (z_bulk0 (own := "LyndonBenchModel") (TB := zTB_6) (zTBk_6 xs) rfl zdd_191 (by decide +kernel))
  (z_fn)
theorem zdd_192 : ∀ q ∈ zc_192, decode prog_9_method_47_code q.1 = Except.ok (q.2.1, q.2.2.1) := zdw (by decide +kernel)
theorem zk_192 (xs : List Int32) : z_okm (za_T xs) za_P za_M 192 := z_okm_of ⟨"LyndonBenchModel", "greatestBeside", "(I)I"⟩ prog_9_method_47_code zc_192 _ rfl rfl rfl rfl
  (z_bulk0 (own := "LyndonBenchModel") (TB := zTB_6) (zTBk_6 xs) rfl zdd_192 (by decide +kernel))
  (z_fn)
theorem zdd_193 : ∀ q ∈ zc_193, decode prog_9_method_48_code q.1 = Except.ok (q.2.1, q.2.2.1) := zdw (by decide +kernel)
theorem zk_193 (xs : List Int32) : z_okm (za_T xs) za_P za_M 193 := z_okm_of ⟨"LyndonBenchModel", "joins", "()I"⟩ prog_9_method_48_code zc_193 _ rfl rfl rfl rfl
  (z_bulk0 (own := "LyndonBenchModel") (TB := zTB_6) (zTBk_6 xs) rfl zdd_193 (by decide +kernel))
  (z_fn)
theorem zdd_194 : ∀ q ∈ zc_194, decode prog_9_method_49_code q.1 = Except.ok (q.2.1, q.2.2.1) := zdw (by decide +kernel)
theorem zk_194 (xs : List Int32) : z_okm (za_T xs) za_P za_M 194 := z_okm_of ⟨"LyndonBenchModel", "canHave", "(I)Z"⟩ prog_9_method_49_code zc_194 _ rfl rfl rfl rfl
  (z_bulk0 (own := "LyndonBenchModel") (TB := zTB_6) (zTBk_6 xs) rfl zdd_194 (by decide +kernel))
  (z_fn)
theorem zdd_195 : ∀ q ∈ zc_195, decode prog_9_method_50_code q.1 = Except.ok (q.2.1, q.2.2.1) := zdw (by decide +kernel)
theorem zk_195 (xs : List Int32) : z_okm (za_T xs) za_P za_M 195 := z_okm_of ⟨"LyndonBenchModel", "tell", "(Ljava/lang/String;)V"⟩ prog_9_method_50_code zc_195 _ rfl rfl rfl rfl
  (z_bulk0 (own := "LyndonBenchModel") (TB := zTB_6) (zTBk_6 xs) rfl zdd_195 (by decide +kernel))
  (z_fn)
theorem zdd_196 : ∀ q ∈ zc_196, decode prog_9_method_51_code q.1 = Except.ok (q.2.1, q.2.2.1) := zdw (by decide +kernel)
theorem zk_196 (xs : List Int32) : z_okm (za_T xs) za_P za_M 196 := z_okm_of ⟨"LyndonBenchModel", "sortOf", "(I)I"⟩ prog_9_method_51_code zc_196 _ rfl rfl rfl rfl
  (z_bulk0 (own := "LyndonBenchModel") (TB := zTB_6) (zTBk_6 xs) rfl zdd_196 (by decide +kernel))
  (z_fn)
theorem zdd_197 : ∀ q ∈ zc_197, decode prog_9_method_52_code q.1 = Except.ok (q.2.1, q.2.2.1) := zdw (by decide +kernel)
theorem zk_197 (xs : List Int32) : z_okm (za_T xs) za_P za_M 197 := z_okm_of ⟨"LyndonBenchModel", "next", "()V"⟩ prog_9_method_52_code zc_197 _ rfl rfl rfl rfl
  (z_bulk0 (own := "LyndonBenchModel") (TB := zTB_6) (zTBk_6 xs) rfl zdd_197 (by decide +kernel))
  (z_fn)
theorem zdd_198 : ∀ q ∈ zc_198, decode prog_9_method_53_code q.1 = Except.ok (q.2.1, q.2.2.1) := zdw (by decide +kernel)
theorem zk_198 (xs : List Int32) : z_okm (za_T xs) za_P za_M 198 := z_okm_of ⟨"LyndonBenchModel", "says", "(Ljava/lang/String;)Z"⟩ prog_9_method_53_code zc_198 _ rfl rfl rfl rfl
  (z_bulk0 (own := "LyndonBenchModel") (TB := zTB_6) (zTBk_6 xs) rfl zdd_198 (by decide +kernel))
  (z_fn)
theorem zdd_199 : ∀ q ∈ zc_199, decode prog_9_method_54_code q.1 = Except.ok (q.2.1, q.2.2.1) := zdw (by decide +kernel)
theorem zk_199 (xs : List Int32) : z_okm (za_T xs) za_P za_M 199 := z_okm_of ⟨"LyndonBenchModel", "fail", "(I)Z"⟩ prog_9_method_54_code zc_199 _ rfl rfl rfl rfl
  (z_bulk0 (own := "LyndonBenchModel") (TB := zTB_6) (zTBk_6 xs) rfl zdd_199 (by decide +kernel))
  (z_fn)
theorem zdd_200 : ∀ q ∈ zc_200, decode prog_9_method_55_code q.1 = Except.ok (q.2.1, q.2.2.1) := zdw (by decide +kernel)
theorem zk_200 (xs : List Int32) : z_okm (za_T xs) za_P za_M 200 := z_okm_of ⟨"LyndonBenchModel", "is", "(I)Z"⟩ prog_9_method_55_code zc_200 _ rfl rfl rfl rfl
  (z_bulk0 (own := "LyndonBenchModel") (TB := zTB_6) (zTBk_6 xs) rfl zdd_200 (by decide +kernel))
  (z_fn)
theorem zdd_201 : ∀ q ∈ zc_201, decode prog_9_method_56_code q.1 = Except.ok (q.2.1, q.2.2.1) := zdw (by decide +kernel)
theorem zk_201 (xs : List Int32) : z_okm (za_T xs) za_P za_M 201 := z_okm_of ⟨"LyndonBenchModel", "number", "(III)Z"⟩ prog_9_method_56_code zc_201 _ rfl rfl rfl rfl
  (z_bulk0 (own := "LyndonBenchModel") (TB := zTB_6) (zTBk_6 xs) rfl zdd_201 (by decide +kernel))
  (z_fn)
theorem zdd_202 : ∀ q ∈ zc_202, decode prog_9_method_57_code q.1 = Except.ok (q.2.1, q.2.2.1) := zdw (by decide +kernel)
theorem zk_202 (xs : List Int32) : z_okm (za_T xs) za_P za_M 202 := z_okm_of ⟨"LyndonBenchModel", "stops", "(Z)Z"⟩ prog_9_method_57_code zc_202 _ rfl rfl rfl rfl
  (z_bulk0 (own := "LyndonBenchModel") (TB := zTB_6) (zTBk_6 xs) rfl zdd_202 (by decide +kernel))
  (z_fn)
theorem zdd_203 : ∀ q ∈ zc_203, decode prog_9_method_58_code q.1 = Except.ok (q.2.1, q.2.2.1) := zdw (by decide +kernel)
theorem zk_203 (xs : List Int32) : z_okm (za_T xs) za_P za_M 203 := z_okm_of ⟨"LyndonBenchModel", "readsWordInto", "(I)Z"⟩ prog_9_method_58_code zc_203 _ rfl rfl rfl rfl
  (z_bulk0 (own := "LyndonBenchModel") (TB := zTB_6) (zTBk_6 xs) rfl zdd_203 (by decide +kernel))
  (z_fn)
theorem zdd_204 : ∀ q ∈ zc_204, decode prog_9_method_59_code q.1 = Except.ok (q.2.1, q.2.2.1) := zdw (by decide +kernel)
theorem zk_204 (xs : List Int32) : z_okm (za_T xs) za_P za_M 204 := z_okm_of ⟨"LyndonBenchModel", "readsText", "()Z"⟩ prog_9_method_59_code zc_204 _ rfl rfl rfl rfl
  (z_bulk0 (own := "LyndonBenchModel") (TB := zTB_6) (zTBk_6 xs) rfl zdd_204 (by decide +kernel))
  (z_fn)
theorem zdd_205 : ∀ q ∈ zc_205, decode prog_9_method_60_code q.1 = Except.ok (q.2.1, q.2.2.1) := zdw (by decide +kernel)
theorem zk_205 (xs : List Int32) : z_okm (za_T xs) za_P za_M 205 := z_okm_of ⟨"LyndonBenchModel", "readsAppend", "()Z"⟩ prog_9_method_60_code zc_205 _ rfl rfl rfl rfl
  (z_bulk0 (own := "LyndonBenchModel") (TB := zTB_6) (zTBk_6 xs) rfl zdd_205 (by decide +kernel))
  (z_fn)
theorem zdd_206 : ∀ q ∈ zc_206, decode prog_9_method_61_code q.1 = Except.ok (q.2.1, q.2.2.1) := zdw (by decide +kernel)
theorem zk_206 (xs : List Int32) : z_okm (za_T xs) za_P za_M 206 := z_okm_of ⟨"LyndonBenchModel", "readsDrop", "()Z"⟩ prog_9_method_61_code zc_206 _ rfl rfl rfl rfl
  (z_bulk0 (own := "LyndonBenchModel") (TB := zTB_6) (zTBk_6 xs) rfl zdd_206 (by decide +kernel))
  (z_fn)
theorem zdd_207 : ∀ q ∈ zc_207, decode prog_9_method_62_code q.1 = Except.ok (q.2.1, q.2.2.1) := zdw (by decide +kernel)
theorem zk_207 (xs : List Int32) : z_okm (za_T xs) za_P za_M 207 := z_okm_of ⟨"LyndonBenchModel", "readsPart", "()Z"⟩ prog_9_method_62_code zc_207 _ rfl rfl rfl rfl
  (z_bulk0 (own := "LyndonBenchModel") (TB := zTB_6) (zTBk_6 xs) rfl zdd_207 (by decide +kernel))
  (z_fn)
theorem zdd_208 : ∀ q ∈ zc_208, decode prog_9_method_63_code q.1 = Except.ok (q.2.1, q.2.2.1) := zdw (by decide +kernel)
theorem zk_208 (xs : List Int32) : z_okm (za_T xs) za_P za_M 208 := z_okm_of ⟨"LyndonBenchModel", "readsRotate", "()Z"⟩ prog_9_method_63_code zc_208 _ rfl rfl rfl rfl
  (z_bulk0 (own := "LyndonBenchModel") (TB := zTB_6) (zTBk_6 xs) rfl zdd_208 (by decide +kernel))
  (z_fn)
theorem zdd_209 : ∀ q ∈ zc_209, decode prog_9_method_64_code q.1 = Except.ok (q.2.1, q.2.2.1) := zdw (by decide +kernel)
theorem zk_209 (xs : List Int32) : z_okm (za_T xs) za_P za_M 209 := z_okm_of ⟨"LyndonBenchModel", "readsReverse", "()Z"⟩ prog_9_method_64_code zc_209 _ rfl rfl rfl rfl
  (z_bulk0 (own := "LyndonBenchModel") (TB := zTB_6) (zTBk_6 xs) rfl zdd_209 (by decide +kernel))
  (z_fn)
theorem zdd_210 : ∀ q ∈ zc_210, decode prog_9_method_65_code q.1 = Except.ok (q.2.1, q.2.2.1) := zdw (by decide +kernel)
theorem zk_210 (xs : List Int32) : z_okm (za_T xs) za_P za_M 210 := z_okm_of ⟨"LyndonBenchModel", "readsLeast", "()Z"⟩ prog_9_method_65_code zc_210 _ rfl rfl rfl rfl
  (z_bulk0 (own := "LyndonBenchModel") (TB := zTB_6) (zTBk_6 xs) rfl zdd_210 (by decide +kernel))
  (z_fn)
theorem zdd_211 : ∀ q ∈ zc_211, decode prog_9_method_66_code q.1 = Except.ok (q.2.1, q.2.2.1) := zdw (by decide +kernel)
theorem zk_211 (xs : List Int32) : z_okm (za_T xs) za_P za_M 211 := z_okm_of ⟨"LyndonBenchModel", "readsNext", "()Z"⟩ prog_9_method_66_code zc_211 _ rfl rfl rfl rfl
  (z_bulk0 (own := "LyndonBenchModel") (TB := zTB_6) (zTBk_6 xs) rfl zdd_211 (by decide +kernel))
  (z_fn)
theorem zdd_212 : ∀ q ∈ zc_212, decode prog_9_method_67_code q.1 = Except.ok (q.2.1, q.2.2.1) := zdw (by decide +kernel)
theorem zk_212 (xs : List Int32) : z_okm (za_T xs) za_P za_M 212 := z_okm_of ⟨"LyndonBenchModel", "readsKeep", "()Z"⟩ prog_9_method_67_code zc_212 _ rfl rfl rfl rfl
  (z_bulk0 (own := "LyndonBenchModel") (TB := zTB_6) (zTBk_6 xs) rfl zdd_212 (by decide +kernel))
  (z_fn)
theorem zdd_213 : ∀ q ∈ zc_213, decode prog_9_method_68_code q.1 = Except.ok (q.2.1, q.2.2.1) := zdw (by decide +kernel)
theorem zk_213 (xs : List Int32) : z_okm (za_T xs) za_P za_M 213 := z_okm_of ⟨"LyndonBenchModel", "readsRemove", "()Z"⟩ prog_9_method_68_code zc_213 _ rfl rfl rfl rfl
  (z_bulk0 (own := "LyndonBenchModel") (TB := zTB_6) (zTBk_6 xs) rfl zdd_213 (by decide +kernel))
  (z_fn)
theorem zdd_214 : ∀ q ∈ zc_214, decode prog_9_method_69_code q.1 = Except.ok (q.2.1, q.2.2.1) := zdw (by decide +kernel)
theorem zk_214 (xs : List Int32) : z_okm (za_T xs) za_P za_M 214 := z_okm_of ⟨"LyndonBenchModel", "readsJoin", "()Z"⟩ prog_9_method_69_code zc_214 _ rfl rfl rfl rfl
  (z_bulk0 (own := "LyndonBenchModel") (TB := zTB_6) (zTBk_6 xs) rfl zdd_214 (by decide +kernel))
  (z_fn)
theorem zdd_215 : ∀ q ∈ zc_215, decode prog_9_method_70_code q.1 = Except.ok (q.2.1, q.2.2.1) := zdw (by decide +kernel)
theorem zk_215 (xs : List Int32) : z_okm (za_T xs) za_P za_M 215 := z_okm_of ⟨"LyndonBenchModel", "readsRepeat", "(I)Z"⟩ prog_9_method_70_code zc_215 _ rfl rfl rfl rfl
  (z_bulk0 (own := "LyndonBenchModel") (TB := zTB_6) (zTBk_6 xs) rfl zdd_215 (by decide +kernel))
  (z_fn)
theorem zdd_216 : ∀ q ∈ zc_216, decode prog_9_method_71_code q.1 = Except.ok (q.2.1, q.2.2.1) := zdw (by decide +kernel)
theorem zk_216 (xs : List Int32) : z_okm (za_T xs) za_P za_M 216 := z_okm_of ⟨"LyndonBenchModel", "wordAhead", "()I"⟩ prog_9_method_71_code zc_216 _ rfl rfl rfl rfl
  (z_bulk0 (own := "LyndonBenchModel") (TB := zTB_6) (zTBk_6 xs) rfl zdd_216 (by decide +kernel))
  (z_fn)
theorem zdd_217 : ∀ q ∈ zc_217, decode prog_9_method_72_code q.1 = Except.ok (q.2.1, q.2.2.1) := zdw (by decide +kernel)
theorem zk_217 (xs : List Int32) : z_okm (za_T xs) za_P za_M 217 := z_okm_of ⟨"LyndonBenchModel", "laterWord", "()I"⟩ prog_9_method_72_code zc_217 _ rfl rfl rfl rfl
  (z_bulk0 (own := "LyndonBenchModel") (TB := zTB_6) (zTBk_6 xs) rfl zdd_217 (by decide +kernel))
  (z_fn)
theorem zdd_218 : ∀ q ∈ zc_218, decode prog_9_method_73_code q.1 = Except.ok (q.2.1, q.2.2.1) := zdw (by decide +kernel)
theorem zk_218 (xs : List Int32) : z_okm (za_T xs) za_P za_M 218 := z_okm_of ⟨"LyndonBenchModel", "readsCommand", "(I)Z"⟩ prog_9_method_73_code zc_218 _ rfl rfl rfl rfl
  (z_bulk0 (own := "LyndonBenchModel") (TB := zTB_6) (zTBk_6 xs) rfl zdd_218 (by decide +kernel))
  (z_fn)
theorem zdd_219 : ∀ q ∈ zc_219, decode prog_9_method_74_code q.1 = Except.ok (q.2.1, q.2.2.1) := zdd_of (by decide +kernel)
theorem zk_219 (xs : List Int32) : z_okm (za_T xs) za_P za_M 219 := z_okm_of ⟨"LyndonBenchModel", "readsWord", "(I)Z"⟩ prog_9_method_74_code zc_219 _ rfl rfl rfl rfl
  (z_bulk0 (own := "LyndonBenchModel") (TB := zTB_6) (zTBk_6 xs) rfl zdd_219 (by decide +kernel))
  (z_fn)
theorem zdd_220 : ∀ q ∈ zc_220, decode prog_9_method_75_code q.1 = Except.ok (q.2.1, q.2.2.1) := zdw (by decide +kernel)
theorem zk_220 (xs : List Int32) : z_okm (za_T xs) za_P za_M 220 := z_okm_of ⟨"LyndonBenchModel", "readsAll", "()Z"⟩ prog_9_method_75_code zc_220 _ rfl rfl rfl rfl
  (z_bulk0 (own := "LyndonBenchModel") (TB := zTB_6) (zTBk_6 xs) rfl zdd_220 (by decide +kernel))
  (z_fn)
theorem zdd_221 : ∀ q ∈ zc_221, decode prog_9_method_76_code q.1 = Except.ok (q.2.1, q.2.2.1) := zdw (by decide +kernel)
theorem zk_221 (xs : List Int32) : z_okm (za_T xs) za_P za_M 221 := z_okm_of ⟨"LyndonBenchModel", "parses", "()Z"⟩ prog_9_method_76_code zc_221 _ rfl rfl rfl rfl
  (z_bulk0 (own := "LyndonBenchModel") (TB := zTB_6) (zTBk_6 xs) rfl zdd_221 (by decide +kernel))
  (z_fn)
theorem zdd_222 : ∀ q ∈ zc_222, decode prog_9_method_77_code q.1 = Except.ok (q.2.1, q.2.2.1) := zdw (by decide +kernel)
theorem zk_222 (xs : List Int32) : z_okm (za_T xs) za_P za_M 222 := z_okm_of ⟨"LyndonBenchModel", "append", "(IIIII)I"⟩ prog_9_method_77_code zc_222 _ rfl rfl rfl rfl
  (z_bulk0 (own := "LyndonBenchModel") (TB := zTB_6) (zTBk_6 xs) rfl zdd_222 (by decide +kernel))
  (z_fn)
theorem zdd_223 : ∀ q ∈ zc_223, decode prog_9_method_78_code q.1 = Except.ok (q.2.1, q.2.2.1) := zdw (by decide +kernel)
theorem zk_223 (xs : List Int32) : z_okm (za_T xs) za_P za_M 223 := z_okm_of ⟨"LyndonBenchModel", "type", "(I)V"⟩ prog_9_method_78_code zc_223 _ rfl rfl rfl rfl
  (z_bulk0 (own := "LyndonBenchModel") (TB := zTB_6) (zTBk_6 xs) rfl zdd_223 (by decide +kernel))
  (z_fn)
theorem zdd_224 : ∀ q ∈ zc_224, decode prog_9_method_79_code q.1 = Except.ok (q.2.1, q.2.2.1) := zdw (by decide +kernel)
theorem zk_224 (xs : List Int32) : z_okm (za_T xs) za_P za_M 224 := z_okm_of ⟨"LyndonBenchModel", "truncateInput", "(I)I"⟩ prog_9_method_79_code zc_224 _ rfl rfl rfl rfl
  (z_bulk0 (own := "LyndonBenchModel") (TB := zTB_6) (zTBk_6 xs) rfl zdd_224 (by decide +kernel))
  (z_fn)
theorem zdd_225 : ∀ q ∈ zc_225, decode prog_9_method_80_code q.1 = Except.ok (q.2.1, q.2.2.1) := zdw (by decide +kernel)
theorem zk_225 (xs : List Int32) : z_okm (za_T xs) za_P za_M 225 := z_okm_of ⟨"LyndonBenchModel", "begins", "()V"⟩ prog_9_method_80_code zc_225 _ rfl rfl rfl rfl
  (z_bulk0 (own := "LyndonBenchModel") (TB := zTB_6) (zTBk_6 xs) rfl zdd_225 (by decide +kernel))
  (z_fn)
theorem zdd_226 : ∀ q ∈ zc_226, decode prog_9_method_81_code q.1 = Except.ok (q.2.1, q.2.2.1) := zdw (by decide +kernel)
theorem zk_226 (xs : List Int32) : z_okm (za_T xs) za_P za_M 226 := z_okm_of ⟨"LyndonBenchModel", "remember", "(I)I"⟩ prog_9_method_81_code zc_226 _ rfl rfl rfl rfl
  (z_bulk0 (own := "LyndonBenchModel") (TB := zTB_6) (zTBk_6 xs) rfl zdd_226 (by decide +kernel))
  (z_fn)
theorem zdd_227 : ∀ q ∈ zc_227, decode prog_9_method_82_code q.1 = Except.ok (q.2.1, q.2.2.1) := zdw (by decide +kernel)
theorem zk_227 (xs : List Int32) : z_okm (za_T xs) za_P za_M 227 := z_okm_of ⟨"LyndonBenchModel", "runScript", "()I"⟩ prog_9_method_82_code zc_227 _ rfl rfl rfl rfl
  (z_bulk0 (own := "LyndonBenchModel") (TB := zTB_6) (zTBk_6 xs) rfl zdd_227 (by decide +kernel))
  (z_fn)
theorem zdd_228 : ∀ q ∈ zc_228, decode prog_9_method_83_code q.1 = Except.ok (q.2.1, q.2.2.1) := zdw (by decide +kernel)
theorem zk_228 (xs : List Int32) : z_okm (za_T xs) za_P za_M 228 := z_okm_of ⟨"LyndonBenchModel", "setLetters", "(I)I"⟩ prog_9_method_83_code zc_228 _ rfl rfl rfl rfl
  (z_bulk0 (own := "LyndonBenchModel") (TB := zTB_6) (zTBk_6 xs) rfl zdd_228 (by decide +kernel))
  (z_fn)
theorem zdd_229 : ∀ q ∈ zc_229, decode prog_9_method_84_code q.1 = Except.ok (q.2.1, q.2.2.1) := zdw (by decide +kernel)
theorem zk_229 (xs : List Int32) : z_okm (za_T xs) za_P za_M 229 := z_okm_of ⟨"LyndonBenchModel", "readText", "()I"⟩ prog_9_method_84_code zc_229 _ rfl rfl rfl rfl
  (z_bulk0 (own := "LyndonBenchModel") (TB := zTB_6) (zTBk_6 xs) rfl zdd_229 (by decide +kernel))
  (z_fn)
theorem zdd_230 : ∀ q ∈ zc_230, decode prog_9_method_85_code q.1 = Except.ok (q.2.1, q.2.2.1) := zdw (by decide +kernel)
theorem zk_230 (xs : List Int32) : z_okm (za_T xs) za_P za_M 230 := z_okm_of ⟨"LyndonBenchModel", "appendLetter", "(I)I"⟩ prog_9_method_85_code zc_230 _ rfl rfl rfl rfl
  (z_bulk0 (own := "LyndonBenchModel") (TB := zTB_6) (zTBk_6 xs) rfl zdd_230 (by decide +kernel))
  (z_fn)
theorem zdd_231 : ∀ q ∈ zc_231, decode prog_9_method_86_code q.1 = Except.ok (q.2.1, q.2.2.1) := zdw (by decide +kernel)
theorem zk_231 (xs : List Int32) : z_okm (za_T xs) za_P za_M 231 := z_okm_of ⟨"LyndonBenchModel", "dropLast", "(I)I"⟩ prog_9_method_86_code zc_231 _ rfl rfl rfl rfl
  (z_bulk0 (own := "LyndonBenchModel") (TB := zTB_6) (zTBk_6 xs) rfl zdd_231 (by decide +kernel))
  (z_fn)
theorem zdd_232 : ∀ q ∈ zc_232, decode prog_9_method_87_code q.1 = Except.ok (q.2.1, q.2.2.1) := zdw (by decide +kernel)
theorem zk_232 (xs : List Int32) : z_okm (za_T xs) za_P za_M 232 := z_okm_of ⟨"LyndonBenchModel", "cutPart", "(II)I"⟩ prog_9_method_87_code zc_232 _ rfl rfl rfl rfl
  (z_bulk0 (own := "LyndonBenchModel") (TB := zTB_6) (zTBk_6 xs) rfl zdd_232 (by decide +kernel))
  (z_fn)
theorem zdd_233 : ∀ q ∈ zc_233, decode prog_9_method_88_code q.1 = Except.ok (q.2.1, q.2.2.1) := zdw (by decide +kernel)
theorem zk_233 (xs : List Int32) : z_okm (za_T xs) za_P za_M 233 := z_okm_of ⟨"LyndonBenchModel", "rotate", "(I)I"⟩ prog_9_method_88_code zc_233 _ rfl rfl rfl rfl
  (z_bulk0 (own := "LyndonBenchModel") (TB := zTB_6) (zTBk_6 xs) rfl zdd_233 (by decide +kernel))
  (z_fn)
theorem zdd_234 : ∀ q ∈ zc_234, decode prog_9_method_89_code q.1 = Except.ok (q.2.1, q.2.2.1) := zdw (by decide +kernel)
theorem zk_234 (xs : List Int32) : z_okm (za_T xs) za_P za_M 234 := z_okm_of ⟨"LyndonBenchModel", "reverse", "()I"⟩ prog_9_method_89_code zc_234 _ rfl rfl rfl rfl
  (z_bulk0 (own := "LyndonBenchModel") (TB := zTB_6) (zTBk_6 xs) rfl zdd_234 (by decide +kernel))
  (z_fn)
theorem zdd_235 : ∀ q ∈ zc_235, decode prog_9_method_90_code q.1 = Except.ok (q.2.1, q.2.2.1) := zdw (by decide +kernel)
theorem zk_235 (xs : List Int32) : z_okm (za_T xs) za_P za_M 235 := z_okm_of ⟨"LyndonBenchModel", "rotateToLeast", "()I"⟩ prog_9_method_90_code zc_235 _ rfl rfl rfl rfl
  (z_bulk0 (own := "LyndonBenchModel") (TB := zTB_6) (zTBk_6 xs) rfl zdd_235 (by decide +kernel))
  (z_fn)
theorem zdd_236 : ∀ q ∈ zc_236, decode prog_9_method_91_code q.1 = Except.ok (q.2.1, q.2.2.1) := zdw (by decide +kernel)
theorem zk_236 (xs : List Int32) : z_okm (za_T xs) za_P za_M 236 := z_okm_of ⟨"LyndonBenchModel", "nextLyndon", "(I)I"⟩ prog_9_method_91_code zc_236 _ rfl rfl rfl rfl
  (z_bulk0 (own := "LyndonBenchModel") (TB := zTB_6) (zTBk_6 xs) rfl zdd_236 (by decide +kernel))
  (z_fn)
theorem zdd_237 : ∀ q ∈ zc_237, decode prog_9_method_92_code q.1 = Except.ok (q.2.1, q.2.2.1) := zdw (by decide +kernel)
theorem zk_237 (xs : List Int32) : z_okm (za_T xs) za_P za_M 237 := z_okm_of ⟨"LyndonBenchModel", "keepFactor", "(I)I"⟩ prog_9_method_92_code zc_237 _ rfl rfl rfl rfl
  (z_bulk0 (own := "LyndonBenchModel") (TB := zTB_6) (zTBk_6 xs) rfl zdd_237 (by decide +kernel))
  (z_fn)
theorem zdd_238 : ∀ q ∈ zc_238, decode prog_9_method_93_code q.1 = Except.ok (q.2.1, q.2.2.1) := zdw (by decide +kernel)
theorem zk_238 (xs : List Int32) : z_okm (za_T xs) za_P za_M 238 := z_okm_of ⟨"LyndonBenchModel", "keepText", "()I"⟩ prog_9_method_93_code zc_238 _ rfl rfl rfl rfl
  (z_bulk0 (own := "LyndonBenchModel") (TB := zTB_6) (zTBk_6 xs) rfl zdd_238 (by decide +kernel))
  (z_fn)
theorem zdd_239 : ∀ q ∈ zc_239, decode prog_9_method_94_code q.1 = Except.ok (q.2.1, q.2.2.1) := zdw (by decide +kernel)
theorem zk_239 (xs : List Int32) : z_okm (za_T xs) za_P za_M 239 := z_okm_of ⟨"LyndonBenchModel", "removeKept", "(I)I"⟩ prog_9_method_94_code zc_239 _ rfl rfl rfl rfl
  (z_bulk0 (own := "LyndonBenchModel") (TB := zTB_6) (zTBk_6 xs) rfl zdd_239 (by decide +kernel))
  (z_fn)
theorem zdd_240 : ∀ q ∈ zc_240, decode prog_9_method_95_code q.1 = Except.ok (q.2.1, q.2.2.1) := zdw (by decide +kernel)
theorem zk_240 (xs : List Int32) : z_okm (za_T xs) za_P za_M 240 := z_okm_of ⟨"LyndonBenchModel", "joinKept", "()I"⟩ prog_9_method_95_code zc_240 _ rfl rfl rfl rfl
  (z_bulk0 (own := "LyndonBenchModel") (TB := zTB_6) (zTBk_6 xs) rfl zdd_240 (by decide +kernel))
  (z_fn)
theorem zdd_241 : ∀ q ∈ zc_241, decode prog_9_method_96_code q.1 = Except.ok (q.2.1, q.2.2.1) := zdw (by decide +kernel)
theorem zk_241 (xs : List Int32) : z_okm (za_T xs) za_P za_M 241 := z_okm_of ⟨"LyndonBenchModel", "undo", "()I"⟩ prog_9_method_96_code zc_241 _ rfl rfl rfl rfl
  (z_bulk0 (own := "LyndonBenchModel") (TB := zTB_6) (zTBk_6 xs) rfl zdd_241 (by decide +kernel))
  (z_fn)
theorem zdd_242 : ∀ q ∈ zc_242, decode prog_9_method_97_code q.1 = Except.ok (q.2.1, q.2.2.1) := zdw (by decide +kernel)
theorem zk_242 (xs : List Int32) : z_okm (za_T xs) za_P za_M 242 := z_okm_of ⟨"LyndonBenchModel", "undoCount", "()I"⟩ prog_9_method_97_code zc_242 _ rfl rfl rfl rfl
  (z_bulk0 (own := "LyndonBenchModel") (TB := zTB_6) (zTBk_6 xs) rfl zdd_242 (by decide +kernel))
  (z_fn)
theorem zdd_243 : ∀ q ∈ zc_243, decode prog_9_method_98_code q.1 = Except.ok (q.2.1, q.2.2.1) := zdw (by decide +kernel)
theorem zk_243 (xs : List Int32) : z_okm (za_T xs) za_P za_M 243 := z_okm_of ⟨"LyndonBenchModel", "saveSnapshot", "()I"⟩ prog_9_method_98_code zc_243 _ rfl rfl rfl rfl
  (z_bulk0 (own := "LyndonBenchModel") (TB := zTB_6) (zTBk_6 xs) rfl zdd_243 (by decide +kernel))
  (z_fn)
theorem zdd_244 : ∀ q ∈ zc_244, decode prog_9_method_99_code q.1 = Except.ok (q.2.1, q.2.2.1) := zdw (by decide +kernel)
theorem zk_244 (xs : List Int32) : z_okm (za_T xs) za_P za_M 244 := z_okm_of ⟨"LyndonBenchModel", "restoreSnapshot", "()I"⟩ prog_9_method_99_code zc_244 _ rfl rfl rfl rfl
  (z_bulk0 (own := "LyndonBenchModel") (TB := zTB_6) (zTBk_6 xs) rfl zdd_244 (by decide +kernel))
  (z_fn)
theorem zdd_245 : ∀ q ∈ zc_245, decode prog_9_method_100_code q.1 = Except.ok (q.2.1, q.2.2.1) := zdw (by decide +kernel)
theorem zk_245 (xs : List Int32) : z_okm (za_T xs) za_P za_M 245 := z_okm_of ⟨"LyndonBenchModel", "scriptErrorKind", "()I"⟩ prog_9_method_100_code zc_245 _ rfl rfl rfl rfl
  (z_bulk0 (own := "LyndonBenchModel") (TB := zTB_6) (zTBk_6 xs) rfl zdd_245 (by decide +kernel))
  (z_fn)
theorem zdd_246 : ∀ q ∈ zc_246, decode prog_9_method_101_code q.1 = Except.ok (q.2.1, q.2.2.1) := zdw (by decide +kernel)
theorem zk_246 (xs : List Int32) : z_okm (za_T xs) za_P za_M 246 := z_okm_of ⟨"LyndonBenchModel", "scriptErrorOffset", "()I"⟩ prog_9_method_101_code zc_246 _ rfl rfl rfl rfl
  (z_bulk0 (own := "LyndonBenchModel") (TB := zTB_6) (zTBk_6 xs) rfl zdd_246 (by decide +kernel))
  (z_fn)
theorem zdd_247 : ∀ q ∈ zc_247, decode prog_9_method_102_code q.1 = Except.ok (q.2.1, q.2.2.1) := zdw (by decide +kernel)
theorem zk_247 (xs : List Int32) : z_okm (za_T xs) za_P za_M 247 := z_okm_of ⟨"LyndonBenchModel", "told", "(I)I"⟩ prog_9_method_102_code zc_247 _ rfl rfl rfl rfl
  (z_bulk0 (own := "LyndonBenchModel") (TB := zTB_6) (zTBk_6 xs) rfl zdd_247 (by decide +kernel))
  (z_fn)
theorem zdd_248 : ∀ q ∈ zc_248, decode prog_9_method_103_code q.1 = Except.ok (q.2.1, q.2.2.1) := zdw (by decide +kernel)
theorem zk_248 (xs : List Int32) : z_okm (za_T xs) za_P za_M 248 := z_okm_of ⟨"LyndonBenchModel", "letters", "()I"⟩ prog_9_method_103_code zc_248 _ rfl rfl rfl rfl
  (z_bulk0 (own := "LyndonBenchModel") (TB := zTB_6) (zTBk_6 xs) rfl zdd_248 (by decide +kernel))
  (z_fn)
theorem zdd_249 : ∀ q ∈ zc_249, decode prog_9_method_104_code q.1 = Except.ok (q.2.1, q.2.2.1) := zdw (by decide +kernel)
theorem zk_249 (xs : List Int32) : z_okm (za_T xs) za_P za_M 249 := z_okm_of ⟨"LyndonBenchModel", "length", "()I"⟩ prog_9_method_104_code zc_249 _ rfl rfl rfl rfl
  (z_bulk0 (own := "LyndonBenchModel") (TB := zTB_6) (zTBk_6 xs) rfl zdd_249 (by decide +kernel))
  (z_fn)
theorem zdd_250 : ∀ q ∈ zc_250, decode prog_9_method_105_code q.1 = Except.ok (q.2.1, q.2.2.1) := zdw (by decide +kernel)
theorem zk_250 (xs : List Int32) : z_okm (za_T xs) za_P za_M 250 := z_okm_of ⟨"LyndonBenchModel", "letterAt", "(I)I"⟩ prog_9_method_105_code zc_250 _ rfl rfl rfl rfl
  (z_bulk0 (own := "LyndonBenchModel") (TB := zTB_6) (zTBk_6 xs) rfl zdd_250 (by decide +kernel))
  (z_fn)
theorem zdd_251 : ∀ q ∈ zc_251, decode prog_9_method_106_code q.1 = Except.ok (q.2.1, q.2.2.1) := zdw (by decide +kernel)
theorem zk_251 (xs : List Int32) : z_okm (za_T xs) za_P za_M 251 := z_okm_of ⟨"LyndonBenchModel", "isPart", "(II)Z"⟩ prog_9_method_106_code zc_251 _ rfl rfl rfl rfl
  (z_bulk0 (own := "LyndonBenchModel") (TB := zTB_6) (zTBk_6 xs) rfl zdd_251 (by decide +kernel))
  (z_fn)
theorem zdd_252 : ∀ q ∈ zc_252, decode prog_9_method_107_code q.1 = Except.ok (q.2.1, q.2.2.1) := zdw (by decide +kernel)
theorem zk_252 (xs : List Int32) : z_okm (za_T xs) za_P za_M 252 := z_okm_of ⟨"LyndonBenchModel", "compareParts", "(IIII)I"⟩ prog_9_method_107_code zc_252 _ rfl rfl rfl rfl
  (z_bulk0 (own := "LyndonBenchModel") (TB := zTB_6) (zTBk_6 xs) rfl zdd_252 (by decide +kernel))
  (z_fn)
theorem zdd_253 : ∀ q ∈ zc_253, decode prog_9_method_108_code q.1 = Except.ok (q.2.1, q.2.2.1) := zdw (by decide +kernel)
theorem zk_253 (xs : List Int32) : z_okm (za_T xs) za_P za_M 253 := z_okm_of ⟨"LyndonBenchModel", "factorCount", "()I"⟩ prog_9_method_108_code zc_253 _ rfl rfl rfl rfl
  (z_bulk0 (own := "LyndonBenchModel") (TB := zTB_6) (zTBk_6 xs) rfl zdd_253 (by decide +kernel))
  (z_fn)
theorem zdd_254 : ∀ q ∈ zc_254, decode prog_9_method_109_code q.1 = Except.ok (q.2.1, q.2.2.1) := zdw (by decide +kernel)
theorem zk_254 (xs : List Int32) : z_okm (za_T xs) za_P za_M 254 := z_okm_of ⟨"LyndonBenchModel", "throwsFactor", "(I)Z"⟩ prog_9_method_109_code zc_254 _ rfl rfl rfl rfl
  (z_bulk0 (own := "LyndonBenchModel") (TB := zTB_6) (zTBk_6 xs) rfl zdd_254 (by decide +kernel))
  (z_fn)
theorem zdd_255 : ∀ q ∈ zc_255, decode prog_9_method_110_code q.1 = Except.ok (q.2.1, q.2.2.1) := zdw (by decide +kernel)
theorem zk_255 (xs : List Int32) : z_okm (za_T xs) za_P za_M 255 := z_okm_of ⟨"LyndonBenchModel", "factorStart", "(I)I"⟩ prog_9_method_110_code zc_255 _ rfl rfl rfl rfl
  (z_bulk0 (own := "LyndonBenchModel") (TB := zTB_6) (zTBk_6 xs) rfl zdd_255 (by decide +kernel))
  (z_fn)
theorem zdd_256 : ∀ q ∈ zc_256, decode prog_9_method_111_code q.1 = Except.ok (q.2.1, q.2.2.1) := zdw (by decide +kernel)
theorem zk_256 (xs : List Int32) : z_okm (za_T xs) za_P za_M 256 := z_okm_of ⟨"LyndonBenchModel", "factorLength", "(I)I"⟩ prog_9_method_111_code zc_256 _ rfl rfl rfl rfl
  (z_bulk0 (own := "LyndonBenchModel") (TB := zTB_6) (zTBk_6 xs) rfl zdd_256 (by decide +kernel))
  (z_fn)
theorem zdd_257 : ∀ q ∈ zc_257, decode prog_9_method_112_code q.1 = Except.ok (q.2.1, q.2.2.1) := zdw (by decide +kernel)
theorem zk_257 (xs : List Int32) : z_okm (za_T xs) za_P za_M 257 := z_okm_of ⟨"LyndonBenchModel", "areAlike", "(II)Z"⟩ prog_9_method_112_code zc_257 _ rfl rfl rfl rfl
  (z_bulk0 (own := "LyndonBenchModel") (TB := zTB_6) (zTBk_6 xs) rfl zdd_257 (by decide +kernel))
  (z_fn)
theorem zdd_258 : ∀ q ∈ zc_258, decode prog_9_method_113_code q.1 = Except.ok (q.2.1, q.2.2.1) := zdw (by decide +kernel)
theorem zk_258 (xs : List Int32) : z_okm (za_T xs) za_P za_M 258 := z_okm_of ⟨"LyndonBenchModel", "powerOf", "(II)I"⟩ prog_9_method_113_code zc_258 _ rfl rfl rfl rfl
  (z_bulk0 (own := "LyndonBenchModel") (TB := zTB_6) (zTBk_6 xs) rfl zdd_258 (by decide +kernel))
  (z_fn)
theorem zdd_259 : ∀ q ∈ zc_259, decode prog_9_method_114_code q.1 = Except.ok (q.2.1, q.2.2.1) := zdw (by decide +kernel)
theorem zk_259 (xs : List Int32) : z_okm (za_T xs) za_P za_M 259 := z_okm_of ⟨"LyndonBenchModel", "factorPower", "(I)I"⟩ prog_9_method_114_code zc_259 _ rfl rfl rfl rfl
  (z_bulk0 (own := "LyndonBenchModel") (TB := zTB_6) (zTBk_6 xs) rfl zdd_259 (by decide +kernel))
  (z_fn)
theorem zdd_260 : ∀ q ∈ zc_260, decode prog_9_method_115_code q.1 = Except.ok (q.2.1, q.2.2.1) := zdw (by decide +kernel)
theorem zk_260 (xs : List Int32) : z_okm (za_T xs) za_P za_M 260 := z_okm_of ⟨"LyndonBenchModel", "factorOf", "(I)I"⟩ prog_9_method_115_code zc_260 _ rfl rfl rfl rfl
  (z_bulk0 (own := "LyndonBenchModel") (TB := zTB_6) (zTBk_6 xs) rfl zdd_260 (by decide +kernel))
  (z_fn)
theorem zdd_261 : ∀ q ∈ zc_261, decode prog_9_method_116_code q.1 = Except.ok (q.2.1, q.2.2.1) := zdw (by decide +kernel)
theorem zk_261 (xs : List Int32) : z_okm (za_T xs) za_P za_M 261 := z_okm_of ⟨"LyndonBenchModel", "longestFactor", "()I"⟩ prog_9_method_116_code zc_261 _ rfl rfl rfl rfl
  (z_bulk0 (own := "LyndonBenchModel") (TB := zTB_6) (zTBk_6 xs) rfl zdd_261 (by decide +kernel))
  (z_fn)
theorem zdd_262 : ∀ q ∈ zc_262, decode prog_9_method_117_code q.1 = Except.ok (q.2.1, q.2.2.1) := zdw (by decide +kernel)
theorem zk_262 (xs : List Int32) : z_okm (za_T xs) za_P za_M 262 := z_okm_of ⟨"LyndonBenchModel", "factorsIfAppended", "(I)I"⟩ prog_9_method_117_code zc_262 _ rfl rfl rfl rfl
  (z_bulk0 (own := "LyndonBenchModel") (TB := zTB_6) (zTBk_6 xs) rfl zdd_262 (by decide +kernel))
  (z_fn)
theorem zdd_263 : ∀ q ∈ zc_263, decode prog_9_method_118_code q.1 = Except.ok (q.2.1, q.2.2.1) := zdw (by decide +kernel)
theorem zk_263 (xs : List Int32) : z_okm (za_T xs) za_P za_M 263 := z_okm_of ⟨"LyndonBenchModel", "factorsIfRotated", "(I)I"⟩ prog_9_method_118_code zc_263 _ rfl rfl rfl rfl
  (z_bulk0 (own := "LyndonBenchModel") (TB := zTB_6) (zTBk_6 xs) rfl zdd_263 (by decide +kernel))
  (z_fn)
theorem zdd_264 : ∀ q ∈ zc_264, decode prog_9_method_119_code q.1 = Except.ok (q.2.1, q.2.2.1) := zdw (by decide +kernel)
theorem zk_264 (xs : List Int32) : z_okm (za_T xs) za_P za_M 264 := z_okm_of ⟨"LyndonBenchModel", "numberOf", "(II)I"⟩ prog_9_method_119_code zc_264 _ rfl rfl rfl rfl
  (z_bulk0 (own := "LyndonBenchModel") (TB := zTB_6) (zTBk_6 xs) rfl zdd_264 (by decide +kernel))
  (z_fn)
theorem zdd_265 : ∀ q ∈ zc_265, decode prog_9_method_120_code q.1 = Except.ok (q.2.1, q.2.2.1) := zdw (by decide +kernel)
theorem zk_265 (xs : List Int32) : z_okm (za_T xs) za_P za_M 265 := z_okm_of ⟨"LyndonBenchModel", "rankOf", "(I)I"⟩ prog_9_method_120_code zc_265 _ rfl rfl rfl rfl
  (z_bulk0 (own := "LyndonBenchModel") (TB := zTB_6) (zTBk_6 xs) rfl zdd_265 (by decide +kernel))
  (z_fn)
theorem zdd_266 : ∀ q ∈ zc_266, decode prog_9_method_121_code q.1 = Except.ok (q.2.1, q.2.2.1) := zdw (by decide +kernel)
theorem zk_266 (xs : List Int32) : z_okm (za_T xs) za_P za_M 266 := z_okm_of ⟨"LyndonBenchModel", "isLyndon", "()Z"⟩ prog_9_method_121_code zc_266 _ rfl rfl rfl rfl
  (z_bulk0 (own := "LyndonBenchModel") (TB := zTB_6) (zTBk_6 xs) rfl zdd_266 (by decide +kernel))
  (z_fn)
theorem zdd_267 : ∀ q ∈ zc_267, decode prog_9_method_122_code q.1 = Except.ok (q.2.1, q.2.2.1) := zdw (by decide +kernel)
theorem zk_267 (xs : List Int32) : z_okm (za_T xs) za_P za_M 267 := z_okm_of ⟨"LyndonBenchModel", "whyNotLyndon", "()I"⟩ prog_9_method_122_code zc_267 _ rfl rfl rfl rfl
  (z_bulk0 (own := "LyndonBenchModel") (TB := zTB_6) (zTBk_6 xs) rfl zdd_267 (by decide +kernel))
  (z_fn)
theorem zdd_268 : ∀ q ∈ zc_268, decode prog_9_method_123_code q.1 = Except.ok (q.2.1, q.2.2.1) := zdw (by decide +kernel)
theorem zk_268 (xs : List Int32) : z_okm (za_T xs) za_P za_M 268 := z_okm_of ⟨"LyndonBenchModel", "isNecklace", "()Z"⟩ prog_9_method_123_code zc_268 _ rfl rfl rfl rfl
  (z_bulk0 (own := "LyndonBenchModel") (TB := zTB_6) (zTBk_6 xs) rfl zdd_268 (by decide +kernel))
  (z_fn)
theorem zdd_269 : ∀ q ∈ zc_269, decode prog_9_method_124_code q.1 = Except.ok (q.2.1, q.2.2.1) := zdw (by decide +kernel)
theorem zk_269 (xs : List Int32) : z_okm (za_T xs) za_P za_M 269 := z_okm_of ⟨"LyndonBenchModel", "isPrenecklace", "()Z"⟩ prog_9_method_124_code zc_269 _ rfl rfl rfl rfl
  (z_bulk0 (own := "LyndonBenchModel") (TB := zTB_6) (zTBk_6 xs) rfl zdd_269 (by decide +kernel))
  (z_fn)
theorem zdd_270 : ∀ q ∈ zc_270, decode prog_9_method_125_code q.1 = Except.ok (q.2.1, q.2.2.1) := zdw (by decide +kernel)
theorem zk_270 (xs : List Int32) : z_okm (za_T xs) za_P za_M 270 := z_okm_of ⟨"LyndonBenchModel", "keepingLetter", "()I"⟩ prog_9_method_125_code zc_270 _ rfl rfl rfl rfl
  (z_bulk0 (own := "LyndonBenchModel") (TB := zTB_6) (zTBk_6 xs) rfl zdd_270 (by decide +kernel))
  (z_fn)
theorem zdd_271 : ∀ q ∈ zc_271, decode prog_9_method_126_code q.1 = Except.ok (q.2.1, q.2.2.1) := zdw (by decide +kernel)
theorem zk_271 (xs : List Int32) : z_okm (za_T xs) za_P za_M 271 := z_okm_of ⟨"LyndonBenchModel", "leastRotation", "()I"⟩ prog_9_method_126_code zc_271 _ rfl rfl rfl rfl
  (z_bulk0 (own := "LyndonBenchModel") (TB := zTB_6) (zTBk_6 xs) rfl zdd_271 (by decide +kernel))
  (z_fn)
theorem zdd_272 : ∀ q ∈ zc_272, decode prog_9_method_127_code q.1 = Except.ok (q.2.1, q.2.2.1) := zdw (by decide +kernel)
theorem zk_272 (xs : List Int32) : z_okm (za_T xs) za_P za_M 272 := z_okm_of ⟨"LyndonBenchModel", "rotationCount", "()I"⟩ prog_9_method_127_code zc_272 _ rfl rfl rfl rfl
  (z_bulk0 (own := "LyndonBenchModel") (TB := zTB_6) (zTBk_6 xs) rfl zdd_272 (by decide +kernel))
  (z_fn)
theorem zdd_273 : ∀ q ∈ zc_273, decode prog_9_method_128_code q.1 = Except.ok (q.2.1, q.2.2.1) := zdw (by decide +kernel)
theorem zk_273 (xs : List Int32) : z_okm (za_T xs) za_P za_M 273 := z_okm_of ⟨"LyndonBenchModel", "smallestPeriod", "()I"⟩ prog_9_method_128_code zc_273 _ rfl rfl rfl rfl
  (z_bulk0 (own := "LyndonBenchModel") (TB := zTB_6) (zTBk_6 xs) rfl zdd_273 (by decide +kernel))
  (z_fn)
theorem zdd_274 : ∀ q ∈ zc_274, decode prog_9_method_129_code q.1 = Except.ok (q.2.1, q.2.2.1) := zdw (by decide +kernel)
theorem zk_274 (xs : List Int32) : z_okm (za_T xs) za_P za_M 274 := z_okm_of ⟨"LyndonBenchModel", "longestBorder", "()I"⟩ prog_9_method_129_code zc_274 _ rfl rfl rfl rfl
  (z_bulk0 (own := "LyndonBenchModel") (TB := zTB_6) (zTBk_6 xs) rfl zdd_274 (by decide +kernel))
  (z_fn)
theorem zdd_275 : ∀ q ∈ zc_275, decode prog_9_method_130_code q.1 = Except.ok (q.2.1, q.2.2.1) := zdw (by decide +kernel)
theorem zk_275 (xs : List Int32) : z_okm (za_T xs) za_P za_M 275 := z_okm_of ⟨"LyndonBenchModel", "leastSuffix", "()I"⟩ prog_9_method_130_code zc_275 _ rfl rfl rfl rfl
  (z_bulk0 (own := "LyndonBenchModel") (TB := zTB_6) (zTBk_6 xs) rfl zdd_275 (by decide +kernel))
  (z_fn)
theorem zdd_276 : ∀ q ∈ zc_276, decode prog_9_method_131_code q.1 = Except.ok (q.2.1, q.2.2.1) := zdw (by decide +kernel)
theorem zk_276 (xs : List Int32) : z_okm (za_T xs) za_P za_M 276 := z_okm_of ⟨"LyndonBenchModel", "greatestSuffix", "()I"⟩ prog_9_method_131_code zc_276 _ rfl rfl rfl rfl
  (z_bulk0 (own := "LyndonBenchModel") (TB := zTB_6) (zTBk_6 xs) rfl zdd_276 (by decide +kernel))
  (z_fn)
theorem zdd_277 : ∀ q ∈ zc_277, decode prog_9_method_132_code q.1 = Except.ok (q.2.1, q.2.2.1) := zdw (by decide +kernel)
theorem zk_277 (xs : List Int32) : z_okm (za_T xs) za_P za_M 277 := z_okm_of ⟨"LyndonBenchModel", "lyndonWords", "(I)J"⟩ prog_9_method_132_code zc_277 _ rfl rfl rfl rfl
  (z_bulk0 (own := "LyndonBenchModel") (TB := zTB_6) (zTBk_6 xs) rfl zdd_277 (by decide +kernel))
  (z_fn)
theorem zdd_278 : ∀ q ∈ zc_278, decode prog_9_method_133_code q.1 = Except.ok (q.2.1, q.2.2.1) := zdw (by decide +kernel)
theorem zk_278 (xs : List Int32) : z_okm (za_T xs) za_P za_M 278 := z_okm_of ⟨"LyndonBenchModel", "necklaces", "(I)J"⟩ prog_9_method_133_code zc_278 _ rfl rfl rfl rfl
  (z_bulk0 (own := "LyndonBenchModel") (TB := zTB_6) (zTBk_6 xs) rfl zdd_278 (by decide +kernel))
  (z_fn)
theorem zdd_279 : ∀ q ∈ zc_279, decode prog_9_method_134_code q.1 = Except.ok (q.2.1, q.2.2.1) := zdw (by decide +kernel)
theorem zk_279 (xs : List Int32) : z_okm (za_T xs) za_P za_M 279 := z_okm_of ⟨"LyndonBenchModel", "bruijnLetter", "(II)I"⟩ prog_9_method_134_code zc_279 _ rfl rfl rfl rfl
  (z_bulk0 (own := "LyndonBenchModel") (TB := zTB_6) (zTBk_6 xs) rfl zdd_279 (by decide +kernel))
  (z_fn)
theorem zdd_280 : ∀ q ∈ zc_280, decode prog_9_method_135_code q.1 = Except.ok (q.2.1, q.2.2.1) := zdw (by decide +kernel)
theorem zk_280 (xs : List Int32) : z_okm (za_T xs) za_P za_M 280 := z_okm_of ⟨"LyndonBenchModel", "keptCount", "()I"⟩ prog_9_method_135_code zc_280 _ rfl rfl rfl rfl
  (z_bulk0 (own := "LyndonBenchModel") (TB := zTB_6) (zTBk_6 xs) rfl zdd_280 (by decide +kernel))
  (z_fn)
theorem zdd_281 : ∀ q ∈ zc_281, decode prog_9_method_136_code q.1 = Except.ok (q.2.1, q.2.2.1) := zdw (by decide +kernel)
theorem zk_281 (xs : List Int32) : z_okm (za_T xs) za_P za_M 281 := z_okm_of ⟨"LyndonBenchModel", "keptLength", "(I)I"⟩ prog_9_method_136_code zc_281 _ rfl rfl rfl rfl
  (z_bulk0 (own := "LyndonBenchModel") (TB := zTB_6) (zTBk_6 xs) rfl zdd_281 (by decide +kernel))
  (z_fn)
theorem zdd_282 : ∀ q ∈ zc_282, decode prog_9_method_137_code q.1 = Except.ok (q.2.1, q.2.2.1) := zdw (by decide +kernel)
theorem zk_282 (xs : List Int32) : z_okm (za_T xs) za_P za_M 282 := z_okm_of ⟨"LyndonBenchModel", "keptLetter", "(II)I"⟩ prog_9_method_137_code zc_282 _ rfl rfl rfl rfl
  (z_bulk0 (own := "LyndonBenchModel") (TB := zTB_6) (zTBk_6 xs) rfl zdd_282 (by decide +kernel))
  (z_fn)
theorem zdd_283 : ∀ q ∈ zc_283, decode prog_9_method_138_code q.1 = Except.ok (q.2.1, q.2.2.1) := zdw (by decide +kernel)
theorem zk_283 (xs : List Int32) : z_okm (za_T xs) za_P za_M 283 := z_okm_of ⟨"LyndonBenchModel", "isShelfFalling", "()Z"⟩ prog_9_method_138_code zc_283 _ rfl rfl rfl rfl
  (z_bulk0 (own := "LyndonBenchModel") (TB := zTB_6) (zTBk_6 xs) rfl zdd_283 (by decide +kernel))
  (z_fn)
theorem zdd_284 : ∀ q ∈ zc_284, decode prog_9_method_139_code q.1 = Except.ok (q.2.1, q.2.2.1) := zdw (by decide +kernel)
theorem zk_284 (xs : List Int32) : z_okm (za_T xs) za_P za_M 284 := z_okm_of ⟨"LyndonBenchModel", "greatestKept", "()I"⟩ prog_9_method_139_code zc_284 _ rfl rfl rfl rfl
  (z_bulk0 (own := "LyndonBenchModel") (TB := zTB_6) (zTBk_6 xs) rfl zdd_284 (by decide +kernel))
  (z_fn)
theorem zdd_285 : ∀ q ∈ zc_285, decode prog_9_method_140_code q.1 = Except.ok (q.2.1, q.2.2.1) := zdw (by decide +kernel)
theorem zk_285 (xs : List Int32) : z_okm (za_T xs) za_P za_M 285 := z_okm_of ⟨"LyndonBenchModel", "meanFactor", "()D"⟩ prog_9_method_140_code zc_285 _ rfl rfl rfl rfl
  (z_bulk0 (own := "LyndonBenchModel") (TB := zTB_6) (zTBk_6 xs) rfl zdd_285 (by decide +kernel))
  (z_fn)
theorem zdd_286 : ∀ q ∈ zc_286, decode prog_9_method_141_code q.1 = Except.ok (q.2.1, q.2.2.1) := zdw (by decide +kernel)
theorem zk_286 (xs : List Int32) : z_okm (za_T xs) za_P za_M 286 := z_okm_of ⟨"LyndonBenchModel", "lyndonShare", "()F"⟩ prog_9_method_141_code zc_286 _ rfl rfl rfl rfl
  (z_bulk0 (own := "LyndonBenchModel") (TB := zTB_6) (zTBk_6 xs) rfl zdd_286 (by decide +kernel))
  (z_fn)
theorem zdd_287 : ∀ q ∈ zc_287, decode prog_9_method_142_code q.1 = Except.ok (q.2.1, q.2.2.1) := zdw (by decide +kernel)
theorem zk_287 (xs : List Int32) : z_okm (za_T xs) za_P za_M 287 := z_okm_of ⟨"LyndonBenchModel", "violations", "()I"⟩ prog_9_method_142_code zc_287 _ rfl rfl rfl rfl
  (z_bulk0 (own := "LyndonBenchModel") (TB := zTB_6) (zTBk_6 xs) rfl zdd_287 (by decide +kernel))
  (z_fn)
theorem zdd_288 : ∀ q ∈ zc_288, decode prog_9_method_143_code q.1 = Except.ok (q.2.1, q.2.2.1) := zdw (by decide +kernel)
theorem zk_288 (xs : List Int32) : z_okm (za_T xs) za_P za_M 288 := z_okm_of ⟨"LyndonBenchModel", "write", "(I)V"⟩ prog_9_method_143_code zc_288 _ rfl rfl rfl rfl
  (z_bulk0 (own := "LyndonBenchModel") (TB := zTB_6) (zTBk_6 xs) rfl zdd_288 (by decide +kernel))
  (z_fn)
theorem zdd_289 : ∀ q ∈ zc_289, decode prog_9_method_144_code q.1 = Except.ok (q.2.1, q.2.2.1) := zdw (by decide +kernel)
theorem zk_289 (xs : List Int32) : z_okm (za_T xs) za_P za_M 289 := z_okm_of ⟨"LyndonBenchModel", "writeNumber", "(I)V"⟩ prog_9_method_144_code zc_289 _ rfl rfl rfl rfl
  (z_bulk0 (own := "LyndonBenchModel") (TB := zTB_6) (zTBk_6 xs) rfl zdd_289 (by decide +kernel))
  (z_fn)
theorem zdd_290 : ∀ q ∈ zc_290, decode prog_9_method_145_code q.1 = Except.ok (q.2.1, q.2.2.1) := zdw (by decide +kernel)
theorem zk_290 (xs : List Int32) : z_okm (za_T xs) za_P za_M 290 := z_okm_of ⟨"LyndonBenchModel", "writeFactor", "(II)V"⟩ prog_9_method_145_code zc_290 _ rfl rfl rfl rfl
  (z_bulk0 (own := "LyndonBenchModel") (TB := zTB_6) (zTBk_6 xs) rfl zdd_290 (by decide +kernel))
  (z_fn)
theorem zdd_291 : ∀ q ∈ zc_291, decode prog_9_method_146_code q.1 = Except.ok (q.2.1, q.2.2.1) := zdw (by decide +kernel)
theorem zk_291 (xs : List Int32) : z_okm (za_T xs) za_P za_M 291 := z_okm_of ⟨"LyndonBenchModel", "writeFactors", "()I"⟩ prog_9_method_146_code zc_291 _ rfl rfl rfl rfl
  (z_bulk0 (own := "LyndonBenchModel") (TB := zTB_6) (zTBk_6 xs) rfl zdd_291 (by decide +kernel))
  (z_fn)
theorem zdd_292 : ∀ q ∈ zc_292, decode prog_9_method_147_code q.1 = Except.ok (q.2.1, q.2.2.1) := zdw (by decide +kernel)
theorem zk_292 (xs : List Int32) : z_okm (za_T xs) za_P za_M 292 := z_okm_of ⟨"LyndonBenchModel", "reportByte", "(I)I"⟩ prog_9_method_147_code zc_292 _ rfl rfl rfl rfl
  (z_bulk0 (own := "LyndonBenchModel") (TB := zTB_6) (zTBk_6 xs) rfl zdd_292 (by decide +kernel))
  (z_fn)
theorem zdd_293 : ∀ q ∈ zc_293, decode prog_13_method_2_code q.1 = Except.ok (q.2.1, q.2.2.1) := zdw (by decide +kernel)
theorem zk_293 (xs : List Int32) : z_okm (za_T xs) za_P za_M 293 := z_okm_of ⟨"java/lang/Enum", "ordinal", "()I"⟩ prog_13_method_2_code zc_293 _ rfl rfl rfl rfl
  (z_bulk0 (own := "java/lang/Enum") (TB := zTB_7) (zTBk_7 xs) rfl zdd_293 (by decide +kernel))
  (z_fn)
theorem zdd_294 : ∀ q ∈ zc_294, decode prog_20_method_54_code q.1 = Except.ok (q.2.1, q.2.2.1) := zdw (by decide +kernel)
theorem zk_294 (xs : List Int32) : z_okm (za_T xs) za_P za_M 294 := z_okm_of ⟨"java/lang/String", "length", "()I"⟩ prog_20_method_54_code zc_294 _ rfl rfl rfl rfl
  (z_bulk0 (own := "java/lang/String") (TB := zTB_8) (zTBk_8 xs) rfl zdd_294 (by decide +kernel))
  (z_fn)
theorem zdd_295 : ∀ q ∈ zc_295, decode prog_20_method_56_code q.1 = Except.ok (q.2.1, q.2.2.1) := zdw (by decide +kernel)
theorem zk_295 (xs : List Int32) : z_okm (za_T xs) za_P za_M 295 := z_okm_of ⟨"java/lang/String", "charAt", "(I)C"⟩ prog_20_method_56_code zc_295 _ rfl rfl rfl rfl
  (z_bulk0 (own := "java/lang/String") (TB := zTB_8) (zTBk_8 xs) rfl zdd_295 (by decide +kernel))
  (z_fn)
theorem zdd_296 : ∀ q ∈ zc_296, decode prog_20_method_152_code q.1 = Except.ok (q.2.1, q.2.2.1) := zdw (by decide +kernel)
theorem zk_296 (xs : List Int32) : z_okm (za_T xs) za_P za_M 296 := z_okm_of ⟨"java/lang/String", "coder", "()B"⟩ prog_20_method_152_code zc_296 _ rfl rfl rfl rfl
  (z_bulk0 (own := "java/lang/String") (TB := zTB_8) (zTBk_8 xs) rfl zdd_296 (by decide +kernel))
  (z_fn)
theorem zdd_297 : ∀ q ∈ zc_297, decode prog_20_method_154_code q.1 = Except.ok (q.2.1, q.2.2.1) := zdw (by decide +kernel)
theorem zk_297 (xs : List Int32) : z_okm (za_T xs) za_P za_M 297 := z_okm_of ⟨"java/lang/String", "isLatin1", "()Z"⟩ prog_20_method_154_code zc_297 _ rfl rfl rfl rfl
  (z_bulk0 (own := "java/lang/String") (TB := zTB_8) (zTBk_8 xs) rfl zdd_297 (by decide +kernel))
  (z_fn)
theorem zdd_298 : ∀ q ∈ zc_298, decode prog_20_method_155_code q.1 = Except.ok (q.2.1, q.2.2.1) := zdw (by decide +kernel)
theorem zk_298 (xs : List Int32) : z_okm (za_T xs) za_P za_M 298 := z_okm_of ⟨"java/lang/String", "checkIndex", "(II)V"⟩ prog_20_method_155_code zc_298 _ rfl rfl rfl rfl
  (z_bulk0 (own := "java/lang/String") (TB := zTB_8) (zTBk_8 xs) rfl zdd_298 (by decide +kernel))
  (z_fn)
theorem zdd_299 : ∀ q ∈ zc_299, decode prog_21_method_2_code q.1 = Except.ok (q.2.1, q.2.2.1) := zdw (by decide +kernel)
theorem zk_299 (xs : List Int32) : z_okm (za_T xs) za_P za_M 299 := z_okm_of ⟨"java/lang/StringLatin1", "charAt", "([BI)C"⟩ prog_21_method_2_code zc_299 _ rfl rfl rfl rfl
  (z_bulk0 (own := "java/lang/StringLatin1") (TB := zTB_9) (zTBk_9 xs) rfl zdd_299 (by decide +kernel))
  (z_fn)
theorem zdd_300 : ∀ q ∈ zc_300, decode prog_27_method_11_code q.1 = Except.ok (q.2.1, q.2.2.1) := zdw (by decide +kernel)
theorem zk_300 (xs : List Int32) : z_okm (za_T xs) za_P za_M 300 := z_okm_of ⟨"jdk/internal/util/Preconditions", "checkIndex", "(IILjava/util/function/BiFunction;)I"⟩ prog_27_method_11_code zc_300 _ rfl rfl rfl rfl
  (z_bulk0 (own := "jdk/internal/util/Preconditions") (TB := []) z_fn rfl zdd_300 (by decide +kernel))
  (z_fn)
theorem zdd_301 : ∀ q ∈ zc_301, decode method_3_code q.1 = Except.ok (q.2.1, q.2.2.1) := zdw (by decide +kernel)
theorem zk_301 (xs : List Int32) : z_okm (za_T xs) za_P za_M 301 := z_okm_of ⟨"LyndonBenchLaw", "truncateInput", "(LLyndonBench;I[J)I"⟩ method_3_code zc_301 _ rfl rfl rfl rfl
  (z_bulk0 (own := "LyndonBenchLaw") (TB := zTB_10) (zTBk_10 xs) rfl zdd_301 (by decide +kernel))
  (z_fc (⟨by decide, zw_799, by decide +kernel, rfl, 1, Or.inl ⟨3, by decide +kernel, Nat.le_of_ble_eq_true rfl, rfl⟩, 1, by decide +kernel, rfl, by decide +kernel⟩) <|
  z_fn)
theorem zdd_302 : ∀ q ∈ zc_302, decode method_4_code q.1 = Except.ok (q.2.1, q.2.2.1) := zdw (by decide +kernel)
theorem zk_302 (xs : List Int32) : z_okm (za_T xs) za_P za_M 302 := z_okm_of ⟨"LyndonBenchLaw", "setLetters", "(LLyndonBench;I[J)I"⟩ method_4_code zc_302 _ rfl rfl rfl rfl
  (z_bulk0 (own := "LyndonBenchLaw") (TB := zTB_10) (zTBk_10 xs) rfl zdd_302 (by decide +kernel))
  (z_fc (⟨by decide, zw_799, by decide +kernel, rfl, 1, Or.inl ⟨3, by decide +kernel, Nat.le_of_ble_eq_true rfl, rfl⟩, 1, by decide +kernel, rfl, by decide +kernel⟩) <|
  z_fc (⟨by decide, zw_876, by decide +kernel, rfl, 1, Or.inl ⟨3, by decide +kernel, Nat.le_of_ble_eq_true rfl, rfl⟩, 2, by decide +kernel, rfl, by decide +kernel⟩) <|
  z_fn)
theorem zdd_303 : ∀ q ∈ zc_303, decode method_5_code q.1 = Except.ok (q.2.1, q.2.2.1) := zdw (by decide +kernel)
theorem zk_303 (xs : List Int32) : z_okm (za_T xs) za_P za_M 303 := z_okm_of ⟨"LyndonBenchLaw", "readText", "(LLyndonBench;[J)I"⟩ method_5_code zc_303 _ rfl rfl rfl rfl
  (z_bulk0 (own := "LyndonBenchLaw") (TB := zTB_10) (zTBk_10 xs) rfl zdd_303 (by decide +kernel))
  (z_fc (⟨by decide, zw_876, by decide +kernel, rfl, 1, Or.inl ⟨2, by decide +kernel, Nat.le_of_ble_eq_true rfl, rfl⟩, 1, by decide +kernel, rfl, by decide +kernel⟩) <|
  z_fn)
theorem zdd_304 : ∀ q ∈ zc_304, decode method_6_code q.1 = Except.ok (q.2.1, q.2.2.1) := zdw (by decide +kernel)
theorem zk_304 (xs : List Int32) : z_okm (za_T xs) za_P za_M 304 := z_okm_of ⟨"LyndonBenchLaw", "appendLetter", "(LLyndonBench;I[J)I"⟩ method_6_code zc_304 _ rfl rfl rfl rfl
  (z_bulk0 (own := "LyndonBenchLaw") (TB := zTB_10) (zTBk_10 xs) rfl zdd_304 (by decide +kernel))
  (z_fc (⟨by decide, zw_799, by decide +kernel, rfl, 1, Or.inl ⟨3, by decide +kernel, Nat.le_of_ble_eq_true rfl, rfl⟩, 1, by decide +kernel, rfl, by decide +kernel⟩) <|
  z_fc (⟨by decide, zw_876, by decide +kernel, rfl, 1, Or.inl ⟨3, by decide +kernel, Nat.le_of_ble_eq_true rfl, rfl⟩, 2, by decide +kernel, rfl, by decide +kernel⟩) <|
  z_fn)
theorem zdd_305 : ∀ q ∈ zc_305, decode method_7_code q.1 = Except.ok (q.2.1, q.2.2.1) := zdw (by decide +kernel)
theorem zk_305 (xs : List Int32) : z_okm (za_T xs) za_P za_M 305 := z_okm_of ⟨"LyndonBenchLaw", "dropLast", "(LLyndonBench;I[J)I"⟩ method_7_code zc_305 _ rfl rfl rfl rfl
  (z_bulk0 (own := "LyndonBenchLaw") (TB := zTB_10) (zTBk_10 xs) rfl zdd_305 (by decide +kernel))
  (z_fc (⟨by decide, zw_799, by decide +kernel, rfl, 1, Or.inl ⟨3, by decide +kernel, Nat.le_of_ble_eq_true rfl, rfl⟩, 1, by decide +kernel, rfl, by decide +kernel⟩) <|
  z_fn)
theorem zdd_306 : ∀ q ∈ zc_306, decode method_8_code q.1 = Except.ok (q.2.1, q.2.2.1) := zdw (by decide +kernel)
theorem zk_306 (xs : List Int32) : z_okm (za_T xs) za_P za_M 306 := z_okm_of ⟨"LyndonBenchLaw", "cutPart", "(LLyndonBench;II[J)I"⟩ method_8_code zc_306 _ rfl rfl rfl rfl
  (z_bulk0 (own := "LyndonBenchLaw") (TB := zTB_10) (zTBk_10 xs) rfl zdd_306 (by decide +kernel))
  (z_fc (⟨by decide, zw_799, by decide +kernel, rfl, 2, Or.inr ⟨4, by decide +kernel, Nat.le_of_ble_eq_true rfl, rfl⟩, 1, by decide +kernel, rfl, by decide +kernel⟩) <|
  z_fn)
theorem zdd_307 : ∀ q ∈ zc_307, decode method_9_code q.1 = Except.ok (q.2.1, q.2.2.1) := zdw (by decide +kernel)
theorem zk_307 (xs : List Int32) : z_okm (za_T xs) za_P za_M 307 := z_okm_of ⟨"LyndonBenchLaw", "rotate", "(LLyndonBench;I[J)I"⟩ method_9_code zc_307 _ rfl rfl rfl rfl
  (z_bulk0 (own := "LyndonBenchLaw") (TB := zTB_10) (zTBk_10 xs) rfl zdd_307 (by decide +kernel))
  (z_fc (⟨by decide, zw_799, by decide +kernel, rfl, 1, Or.inl ⟨3, by decide +kernel, Nat.le_of_ble_eq_true rfl, rfl⟩, 1, by decide +kernel, rfl, by decide +kernel⟩) <|
  z_fn)
theorem zdd_308 : ∀ q ∈ zc_308, decode method_10_code q.1 = Except.ok (q.2.1, q.2.2.1) := zdw (by decide +kernel)
theorem zk_308 (xs : List Int32) : z_okm (za_T xs) za_P za_M 308 := z_okm_of ⟨"LyndonBenchLaw", "rotateToLeast", "(LLyndonBench;[J)I"⟩ method_10_code zc_308 _ rfl rfl rfl rfl
  (z_bulk0 (own := "LyndonBenchLaw") (TB := zTB_10) (zTBk_10 xs) rfl zdd_308 (by decide +kernel))
  (z_fc (⟨by decide, zw_876, by decide +kernel, rfl, 1, Or.inl ⟨2, by decide +kernel, Nat.le_of_ble_eq_true rfl, rfl⟩, 1, by decide +kernel, rfl, by decide +kernel⟩) <|
  z_fn)
theorem zdd_309 : ∀ q ∈ zc_309, decode method_11_code q.1 = Except.ok (q.2.1, q.2.2.1) := zdw (by decide +kernel)
theorem zk_309 (xs : List Int32) : z_okm (za_T xs) za_P za_M 309 := z_okm_of ⟨"LyndonBenchLaw", "nextLyndon", "(LLyndonBench;I[J)I"⟩ method_11_code zc_309 _ rfl rfl rfl rfl
  (z_bulk0 (own := "LyndonBenchLaw") (TB := zTB_10) (zTBk_10 xs) rfl zdd_309 (by decide +kernel))
  (z_fc (⟨by decide, zw_799, by decide +kernel, rfl, 1, Or.inl ⟨3, by decide +kernel, Nat.le_of_ble_eq_true rfl, rfl⟩, 1, by decide +kernel, rfl, by decide +kernel⟩) <|
  z_fc (⟨by decide, zw_876, by decide +kernel, rfl, 1, Or.inl ⟨3, by decide +kernel, Nat.le_of_ble_eq_true rfl, rfl⟩, 2, by decide +kernel, rfl, by decide +kernel⟩) <|
  z_fn)
theorem zdd_310 : ∀ q ∈ zc_310, decode method_12_code q.1 = Except.ok (q.2.1, q.2.2.1) := zdw (by decide +kernel)
theorem zk_310 (xs : List Int32) : z_okm (za_T xs) za_P za_M 310 := z_okm_of ⟨"LyndonBenchLaw", "keepFactor", "(LLyndonBench;I[J)I"⟩ method_12_code zc_310 _ rfl rfl rfl rfl
  (z_bulk0 (own := "LyndonBenchLaw") (TB := zTB_10) (zTBk_10 xs) rfl zdd_310 (by decide +kernel))
  (z_fc (⟨by decide, zw_983, by decide +kernel, rfl, 1, Or.inl ⟨3, by decide +kernel, Nat.le_of_ble_eq_true rfl, rfl⟩, 1, by decide +kernel, rfl, by decide +kernel⟩) <|
  z_fc (⟨by decide, zw_876, by decide +kernel, rfl, 1, Or.inl ⟨3, by decide +kernel, Nat.le_of_ble_eq_true rfl, rfl⟩, 2, by decide +kernel, rfl, by decide +kernel⟩) <|
  z_fn)
theorem zdd_311 : ∀ q ∈ zc_311, decode method_13_code q.1 = Except.ok (q.2.1, q.2.2.1) := zdw (by decide +kernel)
theorem zk_311 (xs : List Int32) : z_okm (za_T xs) za_P za_M 311 := z_okm_of ⟨"LyndonBenchLaw", "keepText", "(LLyndonBench;[J)I"⟩ method_13_code zc_311 _ rfl rfl rfl rfl
  (z_bulk0 (own := "LyndonBenchLaw") (TB := zTB_10) (zTBk_10 xs) rfl zdd_311 (by decide +kernel))
  (z_fc (⟨by decide, zw_876, by decide +kernel, rfl, 1, Or.inl ⟨2, by decide +kernel, Nat.le_of_ble_eq_true rfl, rfl⟩, 1, by decide +kernel, rfl, by decide +kernel⟩) <|
  z_fn)
theorem zdd_312 : ∀ q ∈ zc_312, decode method_14_code q.1 = Except.ok (q.2.1, q.2.2.1) := zdw (by decide +kernel)
theorem zk_312 (xs : List Int32) : z_okm (za_T xs) za_P za_M 312 := z_okm_of ⟨"LyndonBenchLaw", "removeKept", "(LLyndonBench;I[J)I"⟩ method_14_code zc_312 _ rfl rfl rfl rfl
  (z_bulk0 (own := "LyndonBenchLaw") (TB := zTB_10) (zTBk_10 xs) rfl zdd_312 (by decide +kernel))
  (z_fc (⟨by decide, zw_983, by decide +kernel, rfl, 1, Or.inl ⟨3, by decide +kernel, Nat.le_of_ble_eq_true rfl, rfl⟩, 1, by decide +kernel, rfl, by decide +kernel⟩) <|
  z_fn)
theorem zdd_313 : ∀ q ∈ zc_313, decode method_15_code q.1 = Except.ok (q.2.1, q.2.2.1) := zdw (by decide +kernel)
theorem zk_313 (xs : List Int32) : z_okm (za_T xs) za_P za_M 313 := z_okm_of ⟨"LyndonBenchLaw", "joinKept", "(LLyndonBench;[J)I"⟩ method_15_code zc_313 _ rfl rfl rfl rfl
  (z_bulk0 (own := "LyndonBenchLaw") (TB := zTB_10) (zTBk_10 xs) rfl zdd_313 (by decide +kernel))
  (z_fc (⟨by decide, zw_876, by decide +kernel, rfl, 1, Or.inl ⟨2, by decide +kernel, Nat.le_of_ble_eq_true rfl, rfl⟩, 1, by decide +kernel, rfl, by decide +kernel⟩) <|
  z_fn)
theorem zdd_314 : ∀ q ∈ zc_314, decode method_16_code q.1 = Except.ok (q.2.1, q.2.2.1) := zdw (by decide +kernel)
theorem zk_314 (xs : List Int32) : z_okm (za_T xs) za_P za_M 314 := z_okm_of ⟨"LyndonBenchLaw", "restoreSnapshot", "(LLyndonBench;[J)I"⟩ method_16_code zc_314 _ rfl rfl rfl rfl
  (z_bulk0 (own := "LyndonBenchLaw") (TB := zTB_10) (zTBk_10 xs) rfl zdd_314 (by decide +kernel))
  (z_fc (⟨by decide, zw_1041, by decide +kernel, rfl, 1, Or.inl ⟨2, by decide +kernel, Nat.le_of_ble_eq_true rfl, rfl⟩, 1, by decide +kernel, rfl, by decide +kernel⟩) <|
  z_fn)
theorem zdd_315 : ∀ q ∈ zc_315, decode method_17_code q.1 = Except.ok (q.2.1, q.2.2.1) := zdw (by decide +kernel)
theorem zk_315 (xs : List Int32) : z_okm (za_T xs) za_P za_M 315 := z_okm_of ⟨"LyndonBenchLaw", "compareParts", "(LLyndonBench;IIII[J)I"⟩ method_17_code zc_315 _ rfl rfl rfl rfl
  (z_bulk0 (own := "LyndonBenchLaw") (TB := zTB_10) (zTBk_10 xs) rfl zdd_315 (by decide +kernel))
  (z_fc (⟨by decide, zw_799, by decide +kernel, rfl, 2, Or.inr ⟨6, by decide +kernel, Nat.le_of_ble_eq_true rfl, rfl⟩, 1, by decide +kernel, rfl, by decide +kernel⟩) <|
  z_fn)
theorem zdd_316 : ∀ q ∈ zc_316, decode method_18_code q.1 = Except.ok (q.2.1, q.2.2.1) := zdw (by decide +kernel)
theorem zk_316 (xs : List Int32) : z_okm (za_T xs) za_P za_M 316 := z_okm_of ⟨"LyndonBenchLaw", "factorStart", "(LLyndonBench;I[J)I"⟩ method_18_code zc_316 _ rfl rfl rfl rfl
  (z_bulk0 (own := "LyndonBenchLaw") (TB := zTB_10) (zTBk_10 xs) rfl zdd_316 (by decide +kernel))
  (z_fc (⟨by decide, zw_983, by decide +kernel, rfl, 1, Or.inl ⟨3, by decide +kernel, Nat.le_of_ble_eq_true rfl, rfl⟩, 1, by decide +kernel, rfl, by decide +kernel⟩) <|
  z_fn)
theorem zdd_317 : ∀ q ∈ zc_317, decode method_19_code q.1 = Except.ok (q.2.1, q.2.2.1) := zdw (by decide +kernel)
theorem zk_317 (xs : List Int32) : z_okm (za_T xs) za_P za_M 317 := z_okm_of ⟨"LyndonBenchLaw", "factorLength", "(LLyndonBench;I[J)I"⟩ method_19_code zc_317 _ rfl rfl rfl rfl
  (z_bulk0 (own := "LyndonBenchLaw") (TB := zTB_10) (zTBk_10 xs) rfl zdd_317 (by decide +kernel))
  (z_fc (⟨by decide, zw_983, by decide +kernel, rfl, 1, Or.inl ⟨3, by decide +kernel, Nat.le_of_ble_eq_true rfl, rfl⟩, 1, by decide +kernel, rfl, by decide +kernel⟩) <|
  z_fn)
theorem zdd_318 : ∀ q ∈ zc_318, decode method_20_code q.1 = Except.ok (q.2.1, q.2.2.1) := zdw (by decide +kernel)
theorem zk_318 (xs : List Int32) : z_okm (za_T xs) za_P za_M 318 := z_okm_of ⟨"LyndonBenchLaw", "factorPower", "(LLyndonBench;I[J)I"⟩ method_20_code zc_318 _ rfl rfl rfl rfl
  (z_bulk0 (own := "LyndonBenchLaw") (TB := zTB_10) (zTBk_10 xs) rfl zdd_318 (by decide +kernel))
  (z_fc (⟨by decide, zw_983, by decide +kernel, rfl, 1, Or.inl ⟨3, by decide +kernel, Nat.le_of_ble_eq_true rfl, rfl⟩, 1, by decide +kernel, rfl, by decide +kernel⟩) <|
  z_fn)
theorem zdd_319 : ∀ q ∈ zc_319, decode method_21_code q.1 = Except.ok (q.2.1, q.2.2.1) := zdw (by decide +kernel)
theorem zk_319 (xs : List Int32) : z_okm (za_T xs) za_P za_M 319 := z_okm_of ⟨"LyndonBenchLaw", "factorsIfAppended", "(LLyndonBench;I[J)I"⟩ method_21_code zc_319 _ rfl rfl rfl rfl
  (z_bulk0 (own := "LyndonBenchLaw") (TB := zTB_10) (zTBk_10 xs) rfl zdd_319 (by decide +kernel))
  (z_fc (⟨by decide, zw_799, by decide +kernel, rfl, 1, Or.inl ⟨3, by decide +kernel, Nat.le_of_ble_eq_true rfl, rfl⟩, 1, by decide +kernel, rfl, by decide +kernel⟩) <|
  z_fn)
theorem zdd_320 : ∀ q ∈ zc_320, decode method_22_code q.1 = Except.ok (q.2.1, q.2.2.1) := zdw (by decide +kernel)
theorem zk_320 (xs : List Int32) : z_okm (za_T xs) za_P za_M 320 := z_okm_of ⟨"LyndonBenchLaw", "factorsIfRotated", "(LLyndonBench;I[J)I"⟩ method_22_code zc_320 _ rfl rfl rfl rfl
  (z_bulk0 (own := "LyndonBenchLaw") (TB := zTB_10) (zTBk_10 xs) rfl zdd_320 (by decide +kernel))
  (z_fc (⟨by decide, zw_799, by decide +kernel, rfl, 1, Or.inl ⟨3, by decide +kernel, Nat.le_of_ble_eq_true rfl, rfl⟩, 1, by decide +kernel, rfl, by decide +kernel⟩) <|
  z_fn)
theorem zdd_321 : ∀ q ∈ zc_321, decode method_23_code q.1 = Except.ok (q.2.1, q.2.2.1) := zdw (by decide +kernel)
theorem zk_321 (xs : List Int32) : z_okm (za_T xs) za_P za_M 321 := z_okm_of ⟨"LyndonBenchLaw", "rankOf", "(LLyndonBench;I[J)I"⟩ method_23_code zc_321 _ rfl rfl rfl rfl
  (z_bulk0 (own := "LyndonBenchLaw") (TB := zTB_10) (zTBk_10 xs) rfl zdd_321 (by decide +kernel))
  (z_fc (⟨by decide, zw_983, by decide +kernel, rfl, 1, Or.inl ⟨3, by decide +kernel, Nat.le_of_ble_eq_true rfl, rfl⟩, 1, by decide +kernel, rfl, by decide +kernel⟩) <|
  z_fn)
theorem zdd_322 : ∀ q ∈ zc_322, decode method_24_code q.1 = Except.ok (q.2.1, q.2.2.1) := zdw (by decide +kernel)
theorem zk_322 (xs : List Int32) : z_okm (za_T xs) za_P za_M 322 := z_okm_of ⟨"LyndonBenchLaw", "lyndonWords", "(LLyndonBench;I[J)I"⟩ method_24_code zc_322 _ rfl rfl rfl rfl
  (z_bulk0 (own := "LyndonBenchLaw") (TB := zTB_10) (zTBk_10 xs) rfl zdd_322 (by decide +kernel))
  (z_fc (⟨by decide, zw_799, by decide +kernel, rfl, 1, Or.inl ⟨3, by decide +kernel, Nat.le_of_ble_eq_true rfl, rfl⟩, 1, by decide +kernel, rfl, by decide +kernel⟩) <|
  z_fn)
theorem zdd_323 : ∀ q ∈ zc_323, decode method_25_code q.1 = Except.ok (q.2.1, q.2.2.1) := zdw (by decide +kernel)
theorem zk_323 (xs : List Int32) : z_okm (za_T xs) za_P za_M 323 := z_okm_of ⟨"LyndonBenchLaw", "necklaces", "(LLyndonBench;I[J)I"⟩ method_25_code zc_323 _ rfl rfl rfl rfl
  (z_bulk0 (own := "LyndonBenchLaw") (TB := zTB_10) (zTBk_10 xs) rfl zdd_323 (by decide +kernel))
  (z_fc (⟨by decide, zw_799, by decide +kernel, rfl, 1, Or.inl ⟨3, by decide +kernel, Nat.le_of_ble_eq_true rfl, rfl⟩, 1, by decide +kernel, rfl, by decide +kernel⟩) <|
  z_fn)
theorem zdd_324 : ∀ q ∈ zc_324, decode method_26_code q.1 = Except.ok (q.2.1, q.2.2.1) := zdw (by decide +kernel)
theorem zk_324 (xs : List Int32) : z_okm (za_T xs) za_P za_M 324 := z_okm_of ⟨"LyndonBenchLaw", "bruijnLetter", "(LLyndonBench;II[J)I"⟩ method_26_code zc_324 _ rfl rfl rfl rfl
  (z_bulk0 (own := "LyndonBenchLaw") (TB := zTB_10) (zTBk_10 xs) rfl zdd_324 (by decide +kernel))
  (z_fc (⟨by decide, zw_799, by decide +kernel, rfl, 2, Or.inr ⟨4, by decide +kernel, Nat.le_of_ble_eq_true rfl, rfl⟩, 1, by decide +kernel, rfl, by decide +kernel⟩) <|
  z_fc (⟨by decide, zw_983, by decide +kernel, rfl, 2, Or.inr ⟨4, by decide +kernel, Nat.le_of_ble_eq_true rfl, rfl⟩, 2, by decide +kernel, rfl, by decide +kernel⟩) <|
  z_fn)
theorem zdd_325 : ∀ q ∈ zc_325, decode method_27_code q.1 = Except.ok (q.2.1, q.2.2.1) := zdw (by decide +kernel)
theorem zk_325 (xs : List Int32) : z_okm (za_T xs) za_P za_M 325 := z_okm_of ⟨"LyndonBenchLaw", "keptLength", "(LLyndonBench;I[J)I"⟩ method_27_code zc_325 _ rfl rfl rfl rfl
  (z_bulk0 (own := "LyndonBenchLaw") (TB := zTB_10) (zTBk_10 xs) rfl zdd_325 (by decide +kernel))
  (z_fc (⟨by decide, zw_983, by decide +kernel, rfl, 1, Or.inl ⟨3, by decide +kernel, Nat.le_of_ble_eq_true rfl, rfl⟩, 1, by decide +kernel, rfl, by decide +kernel⟩) <|
  z_fn)
theorem zdd_326 : ∀ q ∈ zc_326, decode method_28_code q.1 = Except.ok (q.2.1, q.2.2.1) := zdw (by decide +kernel)
theorem zk_326 (xs : List Int32) : z_okm (za_T xs) za_P za_M 326 := z_okm_of ⟨"LyndonBenchLaw", "keptLetter", "(LLyndonBench;II[J)I"⟩ method_28_code zc_326 _ rfl rfl rfl rfl
  (z_bulk0 (own := "LyndonBenchLaw") (TB := zTB_10) (zTBk_10 xs) rfl zdd_326 (by decide +kernel))
  (z_fc (⟨by decide, zw_983, by decide +kernel, rfl, 2, Or.inr ⟨4, by decide +kernel, Nat.le_of_ble_eq_true rfl, rfl⟩, 1, by decide +kernel, rfl, by decide +kernel⟩) <|
  z_fn)
end
section
/-! The check of the tables, methods 327 to 327. -/
theorem zdd_327_0 : ∀ q ∈ zc_327_0, decode code q.1 = Except.ok (q.2.1, q.2.2.1) := zdd_of (by decide +kernel)
theorem zdd_327_1 : ∀ q ∈ zc_327_1, decode code q.1 = Except.ok (q.2.1, q.2.2.1) := zdw (by decide +kernel)
theorem zdd_327_2 : ∀ q ∈ zc_327_2, decode code q.1 = Except.ok (q.2.1, q.2.2.1) := zdw (by decide +kernel)
theorem zdd_327_3 : ∀ q ∈ zc_327_3, decode code q.1 = Except.ok (q.2.1, q.2.2.1) := zdw (by decide +kernel)
theorem zdd_327_4 : ∀ q ∈ zc_327_4, decode code q.1 = Except.ok (q.2.1, q.2.2.1) := zdw (by decide +kernel)
theorem zdd_327_5 : ∀ q ∈ zc_327_5, decode code q.1 = Except.ok (q.2.1, q.2.2.1) := zdw (by decide +kernel)
theorem zdd_327_6 : ∀ q ∈ zc_327_6, decode code q.1 = Except.ok (q.2.1, q.2.2.1) := zdw (by decide +kernel)
theorem zdd_327_7 : ∀ q ∈ zc_327_7, decode code q.1 = Except.ok (q.2.1, q.2.2.1) := zdw (by decide +kernel)
theorem zdd_327_8 : ∀ q ∈ zc_327_8, decode code q.1 = Except.ok (q.2.1, q.2.2.1) := zdw (by decide +kernel)
theorem zdd_327_9 : ∀ q ∈ zc_327_9, decode code q.1 = Except.ok (q.2.1, q.2.2.1) := zdw (by decide +kernel)
theorem zdd_327_10 : ∀ q ∈ zc_327_10, decode code q.1 = Except.ok (q.2.1, q.2.2.1) := zdw (by decide +kernel)
theorem zdd_327_11 : ∀ q ∈ zc_327_11, decode code q.1 = Except.ok (q.2.1, q.2.2.1) := zdw (by decide +kernel)
theorem zdd_327_12 : ∀ q ∈ zc_327_12, decode code q.1 = Except.ok (q.2.1, q.2.2.1) := zdw (by decide +kernel)
theorem zdd_327_13 : ∀ q ∈ zc_327_13, decode code q.1 = Except.ok (q.2.1, q.2.2.1) := zdw (by decide +kernel)
theorem zdd_327_14 : ∀ q ∈ zc_327_14, decode code q.1 = Except.ok (q.2.1, q.2.2.1) := zdw (by decide +kernel)
theorem zdd_327_15 : ∀ q ∈ zc_327_15, decode code q.1 = Except.ok (q.2.1, q.2.2.1) := zdw (by decide +kernel)
theorem zdd_327_16 : ∀ q ∈ zc_327_16, decode code q.1 = Except.ok (q.2.1, q.2.2.1) := zdw (by decide +kernel)
theorem zdd_327_17 : ∀ q ∈ zc_327_17, decode code q.1 = Except.ok (q.2.1, q.2.2.1) := zdw (by decide +kernel)
theorem zdd_327_18 : ∀ q ∈ zc_327_18, decode code q.1 = Except.ok (q.2.1, q.2.2.1) := zdw (by decide +kernel)
theorem zdd_327_19 : ∀ q ∈ zc_327_19, decode code q.1 = Except.ok (q.2.1, q.2.2.1) := zdw (by decide +kernel)
theorem zdd_327_20 : ∀ q ∈ zc_327_20, decode code q.1 = Except.ok (q.2.1, q.2.2.1) := zdw (by decide +kernel)
theorem zdd_327 : ∀ q ∈ zc_327, decode code q.1 = Except.ok (q.2.1, q.2.2.1) := z_fap zdd_327_0 (z_fap zdd_327_1 (z_fap zdd_327_2 (z_fap zdd_327_3 (z_fap zdd_327_4 (z_fap zdd_327_5 (z_fap zdd_327_6 (z_fap zdd_327_7 (z_fap zdd_327_8 (z_fap zdd_327_9 (z_fap zdd_327_10 (z_fap zdd_327_11 (z_fap zdd_327_12 (z_fap zdd_327_13 (z_fap zdd_327_14 (z_fap zdd_327_15 (z_fap zdd_327_16 (z_fap zdd_327_17 (z_fap zdd_327_18 (z_fap zdd_327_19 (z_fap zdd_327_20 (z_fn)))))))))))))))))))))
theorem zk_327 (xs : List Int32) : z_okm (za_T xs) za_P za_M 327 := z_okm_of ⟨"LyndonBenchLaw", "law", "([I)Z"⟩ code zc_327 _ rfl rfl rfl rfl
  (z_bulk0 (own := "LyndonBenchLaw") (TB := zTB_10) (zTBk_10 xs) rfl zdd_327 (by decide +kernel))
  (z_fn)
end
