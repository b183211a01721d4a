/-! The check of the tables, methods 50 to 120. -/
theorem zdd_50 : ∀ q ∈ zc_50, decode prog_7_method_9_code q.1 = Except.ok (q.2.1, q.2.2.1) := zdd_of (by decide +kernel)
theorem zk_50 (xs : List Int32) : z_okm (za_T xs) za_P za_M 50 := z_okm_of ⟨"LyndonBench$Word", "addNumber", "(I)V"⟩ prog_7_method_9_code zc_50 _ rfl rfl rfl rfl
  (zgd_x zdd_50 <|
  zgd_d (fun d => zo_l d rfl rfl trivial) <|
  zgd_d (fun d => zo_l d rfl rfl trivial) <|
  zgd_d (fun d => zo_l d rfl rfl (by show ((3 : Nat) : Int) + (17) = ((20 : Nat) : Int); decide)) <|
  zgd_d (fun d => zo_l d rfl rfl trivial) <|
  zgd_d (fun d => zo_l d rfl rfl trivial) <|
  zgd_d (fun d => zo_l d rfl rfl trivial) <|
  zgd_d (fun d => zo_l d rfl rfl trivial) <|
  zgd_d (fun d => zo_l d rfl rfl trivial) <|
  zgd_d (fun d => zo_l d rfl rfl trivial) <|
  zgd_d (fun d => zo_l d rfl rfl trivial) <|
  zgd_d (fun d => zo_l d rfl rfl trivial) <|
  zgd_d (fun d => zo_v d rfl ⟨rfl, zd_46, zw_325, Nat.le_of_ble_eq_true rfl, ⟨_, Or.inl ⟨Nat.le_of_ble_eq_true rfl, rfl⟩, rfl⟩, zw_324, zw_326⟩) <|
  zgd_d (fun d => zo_l d rfl rfl trivial) <|
  zgd_d (fun d => zo_l d rfl rfl trivial) <|
  zgd_d (fun d => zo_l d rfl rfl (by show ((23 : Nat) : Int) + (17) = ((40 : Nat) : Int); decide)) <|
  zgd_d (fun d => zo_l d rfl rfl trivial) <|
  zgd_d (fun d => zo_l d rfl rfl trivial) <|
  zgd_d (fun d => zo_l d rfl rfl trivial) <|
  zgd_d (fun d => zo_l d rfl rfl trivial) <|
  zgd_d (fun d => zo_l d rfl rfl trivial) <|
  zgd_d (fun d => zo_l d rfl rfl trivial) <|
  zgd_d (fun d => zo_l d rfl rfl trivial) <|
  zgd_d (fun d => zo_l d rfl rfl trivial) <|
  zgd_d (fun d => zo_v d rfl ⟨rfl, zd_46, zw_325, Nat.le_of_ble_eq_true rfl, ⟨_, Or.inl ⟨Nat.le_of_ble_eq_true rfl, rfl⟩, rfl⟩, zw_324, zw_326⟩) <|
  zgd_d (fun d => zo_l d rfl rfl trivial) <|
  zgd_d (fun d => zo_l d rfl rfl trivial) <|
  zgd_d (fun d => zo_l d rfl rfl trivial) <|
  zgd_d (fun d => zo_l d rfl rfl trivial) <|
  zgd_d (fun d => zo_l d rfl rfl trivial) <|
  zgd_d (fun d => zo_l d rfl rfl trivial) <|
  zgd_d (fun d => zo_v d rfl ⟨rfl, zd_46, zw_325, Nat.le_of_ble_eq_true rfl, ⟨_, Or.inl ⟨Nat.le_of_ble_eq_true rfl, rfl⟩, rfl⟩, zw_324, zw_326⟩) <|
  zgd_d (fun d => zo_e d) <|
  zgd_n)
  (z_fn)
theorem zdd_51 : ∀ q ∈ zc_51, decode prog_7_method_10_code q.1 = Except.ok (q.2.1, q.2.2.1) := zdd_of (by decide +kernel)
theorem zk_51 (xs : List Int32) : z_okm (za_T xs) za_P za_M 51 := z_okm_of ⟨"LyndonBench$Word", "copyFrom", "(LLyndonBench$Word;)V"⟩ prog_7_method_10_code zc_51 _ rfl rfl rfl rfl
  (zgd_x zdd_51 <|
  zgd_d (fun d => zo_l d rfl rfl trivial) <|
  zgd_d (fun d => zo_v d rfl ⟨rfl, zd_45, zw_268, Nat.le_of_ble_eq_true rfl, ⟨_, Or.inl ⟨Nat.le_of_ble_eq_true rfl, rfl⟩, rfl⟩, zw_569, zw_269⟩) <|
  zgd_d (fun d => zo_l d rfl rfl trivial) <|
  zgd_d (fun d => zo_l d rfl rfl trivial) <|
  zgd_d (fun d => zo_l d rfl rfl trivial) <|
  zgd_d (fun d => zo_l d rfl rfl trivial) <|
  zgd_d (fun d => zo_h d rfl ⟨rfl, Nat.le_of_ble_eq_true rfl, _, _, _, Or.inl ⟨Nat.le_of_ble_eq_true rfl, rfl⟩, Nat.le_of_ble_eq_true rfl, zw_163⟩) <|
  zgd_d (fun d => zo_v d rfl ⟨rfl, zd_49, zw_334, Nat.le_of_ble_eq_true rfl, ⟨_, Or.inl ⟨Nat.le_of_ble_eq_true rfl, rfl⟩, rfl⟩, zw_570, zw_335⟩) <|
  zgd_d (fun d => zo_e d) <|
  zgd_n)
  (z_fn)
theorem zdd_52 : ∀ q ∈ zc_52, decode prog_7_method_11_code q.1 = Except.ok (q.2.1, q.2.2.1) := zdd_of (by decide +kernel)
theorem zk_52 (xs : List Int32) : z_okm (za_T xs) za_P za_M 52 := z_okm_of ⟨"LyndonBench$Word", "shortenTo", "(I)V"⟩ prog_7_method_11_code zc_52 _ rfl rfl rfl rfl
  (zgd_x zdd_52 <|
  zgd_d (fun d => zo_l d rfl rfl trivial) <|
  zgd_d (fun d => zo_l d rfl rfl (by show ((1 : Nat) : Int) + (16) = ((17 : Nat) : Int); decide)) <|
  zgd_d (fun d => zo_l d rfl rfl trivial) <|
  zgd_d (fun d => zo_l d rfl rfl trivial) <|
  zgd_d (fun d => zo_h d rfl ⟨rfl, Nat.le_of_ble_eq_true rfl, _, _, _, Or.inl ⟨Nat.le_of_ble_eq_true rfl, rfl⟩, Nat.le_of_ble_eq_true rfl, zw_163⟩) <|
  zgd_d (fun d => zo_l d rfl rfl (by show ((9 : Nat) : Int) + (8) = ((17 : Nat) : Int); decide)) <|
  zgd_d (fun d => zo_l d rfl rfl trivial) <|
  zgd_d (fun d => zo_l d rfl rfl trivial) <|
  zgd_d (fun d => zo_h d rfl ⟨rfl, Nat.le_of_ble_eq_true rfl, _, _, _, rfl, Nat.le_of_ble_eq_true rfl, zw_163, Or.inl rfl⟩) <|
  zgd_d (fun d => zo_e d) <|
  zgd_n)
  (z_fn)
theorem zdd_53 : ∀ q ∈ zc_53, decode prog_7_method_12_code q.1 = Except.ok (q.2.1, q.2.2.1) := zdd_of (by decide +kernel)
theorem zk_53 (xs : List Int32) : z_okm (za_T xs) za_P za_M 53 := z_okm_of ⟨"LyndonBench$Word", "cutTo", "(II)V"⟩ prog_7_method_12_code zc_53 _ rfl rfl rfl rfl
  (zgd_x zdd_53 <|
  zgd_d (fun d => zo_l d rfl rfl trivial) <|
  zgd_d (fun d => zo_l d rfl rfl trivial) <|
  zgd_d (fun d => zo_l d rfl rfl trivial) <|
  zgd_d (fun d => zo_l d rfl rfl trivial) <|
  zgd_d (fun d => zo_l d rfl rfl (by show ((4 : Nat) : Int) + (21) = ((25 : Nat) : Int); decide)) <|
  zgd_d (fun d => zo_l d rfl rfl trivial) <|
  zgd_d (fun d => zo_l d rfl rfl trivial) <|
  zgd_d (fun d => zo_l d rfl rfl trivial) <|
  zgd_d (fun d => zo_l d rfl rfl trivial) <|
  zgd_d (fun d => zo_l d rfl rfl trivial) <|
  zgd_d (fun d => zo_l d rfl rfl trivial) <|
  zgd_d (fun d => zo_v d rfl ⟨rfl, zd_43, zw_338, Nat.le_of_ble_eq_true rfl, ⟨_, Or.inl ⟨Nat.le_of_ble_eq_true rfl, rfl⟩, rfl⟩, zw_337, zw_339⟩) <|
  zgd_d (fun d => zo_v d rfl ⟨rfl, zd_44, zw_473, Nat.le_of_ble_eq_true rfl, ⟨_, Or.inl ⟨Nat.le_of_ble_eq_true rfl, rfl⟩, rfl⟩, zw_471, zw_13⟩) <|
  zgd_d (fun d => zo_l d rfl rfl trivial) <|
  zgd_d (fun d => zo_l d rfl rfl (by show ((22 : Nat) : Int) + (-20) = ((2 : Nat) : Int); decide)) <|
  zgd_d (fun d => zo_l d rfl rfl trivial) <|
  zgd_d (fun d => zo_l d rfl rfl trivial) <|
  zgd_d (fun d => zo_l d rfl rfl trivial) <|
  zgd_d (fun d => zo_l d rfl rfl trivial) <|
  zgd_d (fun d => zo_v d rfl ⟨rfl, zd_52, zw_455, Nat.le_of_ble_eq_true rfl, ⟨_, Or.inl ⟨Nat.le_of_ble_eq_true rfl, rfl⟩, rfl⟩, zw_475, zw_456⟩) <|
  zgd_d (fun d => zo_e d) <|
  zgd_n)
  (z_fn)
theorem zdd_54 : ∀ q ∈ zc_54, decode prog_7_method_13_code q.1 = Except.ok (q.2.1, q.2.2.1) := zdd_of (by decide +kernel)
theorem zk_54 (xs : List Int32) : z_okm (za_T xs) za_P za_M 54 := z_okm_of ⟨"LyndonBench$Word", "mirror", "(II)V"⟩ prog_7_method_13_code zc_54 _ rfl rfl rfl rfl
  (zgd_x zdd_54 <|
  zgd_d (fun d => zo_l d rfl rfl trivial) <|
  zgd_d (fun d => zo_l d rfl rfl trivial) <|
  zgd_d (fun d => zo_l d rfl rfl trivial) <|
  zgd_d (fun d => zo_l d rfl rfl trivial) <|
  zgd_d (fun d => zo_l d rfl rfl trivial) <|
  zgd_d (fun d => zo_l d rfl rfl trivial) <|
  zgd_d (fun d => zo_l d rfl rfl trivial) <|
  zgd_d (fun d => zo_l d rfl rfl trivial) <|
  zgd_d (fun d => zo_l d rfl rfl (by show ((10 : Nat) : Int) + (38) = ((48 : Nat) : Int); decide)) <|
  zgd_d (fun d => zo_l d rfl rfl trivial) <|
  zgd_d (fun d => zo_l d rfl rfl trivial) <|
  zgd_d (fun d => zo_v d rfl ⟨rfl, zd_43, zw_338, Nat.le_of_ble_eq_true rfl, ⟨_, Or.inl ⟨Nat.le_of_ble_eq_true rfl, rfl⟩, rfl⟩, zw_337, zw_339⟩) <|
  zgd_d (fun d => zo_l d rfl rfl trivial) <|
  zgd_d (fun d => zo_l d rfl rfl trivial) <|
  zgd_d (fun d => zo_l d rfl rfl trivial) <|
  zgd_d (fun d => zo_l d rfl rfl trivial) <|
  zgd_d (fun d => zo_l d rfl rfl trivial) <|
  zgd_d (fun d => zo_v d rfl ⟨rfl, zd_43, zw_338, Nat.le_of_ble_eq_true rfl, ⟨_, Or.inl ⟨Nat.le_of_ble_eq_true rfl, rfl⟩, rfl⟩, zw_337, zw_339⟩) <|
  zgd_d (fun d => zo_v d rfl ⟨rfl, zd_44, zw_473, Nat.le_of_ble_eq_true rfl, ⟨_, Or.inl ⟨Nat.le_of_ble_eq_true rfl, rfl⟩, rfl⟩, zw_471, zw_13⟩) <|
  zgd_d (fun d => zo_l d rfl rfl trivial) <|
  zgd_d (fun d => zo_l d rfl rfl trivial) <|
  zgd_d (fun d => zo_l d rfl rfl trivial) <|
  zgd_d (fun d => zo_v d rfl ⟨rfl, zd_44, zw_473, Nat.le_of_ble_eq_true rfl, ⟨_, Or.inl ⟨Nat.le_of_ble_eq_true rfl, rfl⟩, rfl⟩, zw_471, zw_13⟩) <|
  zgd_d (fun d => zo_l d rfl rfl trivial) <|
  zgd_d (fun d => zo_l d rfl rfl trivial) <|
  zgd_d (fun d => zo_l d rfl rfl (by show ((45 : Nat) : Int) + (-38) = ((7 : Nat) : Int); decide)) <|
  zgd_d (fun d => zo_e d) <|
  zgd_n)
  (z_fn)
theorem zdd_55 : ∀ q ∈ zc_55, decode prog_7_method_14_code q.1 = Except.ok (q.2.1, q.2.2.1) := zdd_of (by decide +kernel)
theorem zk_55 (xs : List Int32) : z_okm (za_T xs) za_P za_M 55 := z_okm_of ⟨"LyndonBench$Word", "turn", "(I)V"⟩ prog_7_method_14_code zc_55 _ rfl rfl rfl rfl
  (zgd_x zdd_55 <|
  zgd_d (fun d => zo_l d rfl rfl trivial) <|
  zgd_d (fun d => zo_l d rfl rfl trivial) <|
  zgd_d (fun d => zo_l d rfl rfl trivial) <|
  zgd_d (fun d => zo_v d rfl ⟨rfl, zd_54, zw_485, Nat.le_of_ble_eq_true rfl, ⟨_, Or.inl ⟨Nat.le_of_ble_eq_true rfl, rfl⟩, rfl⟩, zw_484, zw_486⟩) <|
  zgd_d (fun d => zo_l d rfl rfl trivial) <|
  zgd_d (fun d => zo_l d rfl rfl trivial) <|
  zgd_d (fun d => zo_l d rfl rfl trivial) <|
  zgd_d (fun d => zo_h d rfl ⟨rfl, Nat.le_of_ble_eq_true rfl, _, _, _, Or.inl ⟨Nat.le_of_ble_eq_true rfl, rfl⟩, Nat.le_of_ble_eq_true rfl, zw_163⟩) <|
  zgd_d (fun d => zo_v d rfl ⟨rfl, zd_54, zw_485, Nat.le_of_ble_eq_true rfl, ⟨_, Or.inl ⟨Nat.le_of_ble_eq_true rfl, rfl⟩, rfl⟩, zw_484, zw_486⟩) <|
  zgd_d (fun d => zo_l d rfl rfl trivial) <|
  zgd_d (fun d => zo_l d rfl rfl trivial) <|
  zgd_d (fun d => zo_l d rfl rfl trivial) <|
  zgd_d (fun d => zo_h d rfl ⟨rfl, Nat.le_of_ble_eq_true rfl, _, _, _, Or.inl ⟨Nat.le_of_ble_eq_true rfl, rfl⟩, Nat.le_of_ble_eq_true rfl, zw_163⟩) <|
  zgd_d (fun d => zo_v d rfl ⟨rfl, zd_54, zw_485, Nat.le_of_ble_eq_true rfl, ⟨_, Or.inl ⟨Nat.le_of_ble_eq_true rfl, rfl⟩, rfl⟩, zw_484, zw_486⟩) <|
  zgd_d (fun d => zo_e d) <|
  zgd_n)
  (z_fn)
theorem zdd_56 : ∀ q ∈ zc_56, decode prog_7_method_15_code q.1 = Except.ok (q.2.1, q.2.2.1) := zdd_of (by decide +kernel)
theorem zk_56 (xs : List Int32) : z_okm (za_T xs) za_P za_M 56 := z_okm_of ⟨"LyndonBench$Word", "fitsLetters", "(I)Z"⟩ prog_7_method_15_code zc_56 _ rfl rfl rfl rfl
  (zgd_x zdd_56 <|
  zgd_d (fun d => zo_l d rfl rfl trivial) <|
  zgd_d (fun d => zo_l d rfl rfl trivial) <|
  zgd_d (fun d => zo_l d rfl rfl trivial) <|
  zgd_d (fun d => zo_l d rfl rfl trivial) <|
  zgd_d (fun d => zo_h d rfl ⟨rfl, Nat.le_of_ble_eq_true rfl, _, _, _, Or.inl ⟨Nat.le_of_ble_eq_true rfl, rfl⟩, Nat.le_of_ble_eq_true rfl, zw_163⟩) <|
  zgd_d (fun d => zo_l d rfl rfl (by show ((7 : Nat) : Int) + (23) = ((30 : Nat) : Int); decide)) <|
  zgd_d (fun d => zo_l d rfl rfl trivial) <|
  zgd_d (fun d => zo_l d rfl rfl trivial) <|
  zgd_d (fun d => zo_v d rfl ⟨rfl, zd_43, zw_338, Nat.le_of_ble_eq_true rfl, ⟨_, Or.inl ⟨Nat.le_of_ble_eq_true rfl, rfl⟩, rfl⟩, zw_337, zw_339⟩) <|
  zgd_d (fun d => zo_l d rfl rfl trivial) <|
  zgd_d (fun d => zo_l d rfl rfl trivial) <|
  zgd_d (fun d => zo_l d rfl rfl trivial) <|
  zgd_d (fun d => zo_l d rfl rfl (by show ((19 : Nat) : Int) + (5) = ((24 : Nat) : Int); decide)) <|
  zgd_d (fun d => zo_l d rfl rfl trivial) <|
  zgd_d (fun d => zo_r d rfl) <|
  zgd_d (fun d => zo_l d rfl rfl trivial) <|
  zgd_d (fun d => zo_l d rfl rfl (by show ((27 : Nat) : Int) + (-25) = ((2 : Nat) : Int); decide)) <|
  zgd_d (fun d => zo_l d rfl rfl trivial) <|
  zgd_d (fun d => zo_r d rfl) <|
  zgd_n)
  (z_fn)
theorem zdd_57 : ∀ q ∈ zc_57, decode prog_7_method_16_code q.1 = Except.ok (q.2.1, q.2.2.1) := zdd_of (by decide +kernel)
theorem zk_57 (xs : List Int32) : z_okm (za_T xs) za_P za_M 57 := z_okm_of ⟨"LyndonBench$Word", "equalsString", "(IILjava/lang/String;)Z"⟩ prog_7_method_16_code zc_57 _ rfl rfl rfl rfl
  (zgd_x zdd_57 <|
  zgd_d (fun d => zo_l d rfl rfl trivial) <|
  zgd_d (fun d => zo_l d rfl rfl trivial) <|
  zgd_d (fun d => zo_l d rfl rfl trivial) <|
  zgd_d (fun d => zo_l d rfl rfl trivial) <|
  zgd_d (fun d => zo_v d rfl ⟨rfl, zd_295, zw_277, Nat.le_of_ble_eq_true rfl, ⟨_, Or.inr ⟨Nat.le_of_ble_eq_true rfl, rfl⟩, rfl⟩, zw_276, zw_278⟩) <|
  zgd_d (fun d => zo_l d rfl rfl (by show ((7 : Nat) : Int) + (5) = ((12 : Nat) : Int); decide)) <|
  zgd_d (fun d => zo_l d rfl rfl trivial) <|
  zgd_d (fun d => zo_r d rfl) <|
  zgd_d (fun d => zo_l d rfl rfl trivial) <|
  zgd_d (fun d => zo_l d rfl rfl trivial) <|
  zgd_d (fun d => zo_l d rfl rfl trivial) <|
  zgd_d (fun d => zo_l d rfl rfl trivial) <|
  zgd_d (fun d => zo_v d rfl ⟨rfl, zd_295, zw_277, Nat.le_of_ble_eq_true rfl, ⟨_, Or.inr ⟨Nat.le_of_ble_eq_true rfl, rfl⟩, rfl⟩, zw_276, zw_278⟩) <|
  zgd_d (fun d => zo_l d rfl rfl (by show ((21 : Nat) : Int) + (28) = ((49 : Nat) : Int); decide)) <|
  zgd_d (fun d => zo_l d rfl rfl trivial) <|
  zgd_d (fun d => zo_l d rfl rfl trivial) <|
  zgd_d (fun d => zo_l d rfl rfl trivial) <|
  zgd_d (fun d => zo_l d rfl rfl trivial) <|
  zgd_d (fun d => zo_v d rfl ⟨rfl, zd_43, zw_338, Nat.le_of_ble_eq_true rfl, ⟨_, Or.inl ⟨Nat.le_of_ble_eq_true rfl, rfl⟩, rfl⟩, zw_337, zw_339⟩) <|
  zgd_d (fun d => zo_l d rfl rfl trivial) <|
  zgd_d (fun d => zo_l d rfl rfl trivial) <|
  zgd_d (fun d => zo_v d rfl ⟨rfl, zd_296, zw_287, Nat.le_of_ble_eq_true rfl, ⟨_, Or.inr ⟨Nat.le_of_ble_eq_true rfl, rfl⟩, rfl⟩, zw_286, zw_288⟩) <|
  zgd_d (fun d => zo_l d rfl rfl (by show ((38 : Nat) : Int) + (5) = ((43 : Nat) : Int); decide)) <|
  zgd_d (fun d => zo_l d rfl rfl trivial) <|
  zgd_d (fun d => zo_r d rfl) <|
  zgd_d (fun d => zo_l d rfl rfl trivial) <|
  zgd_d (fun d => zo_l d rfl rfl (by show ((46 : Nat) : Int) + (-31) = ((15 : Nat) : Int); decide)) <|
  zgd_d (fun d => zo_l d rfl rfl trivial) <|
  zgd_d (fun d => zo_r d rfl) <|
  zgd_n)
  (z_fn)
theorem zdd_58_0 : ∀ q ∈ zc_58_0, decode prog_7_method_17_code q.1 = Except.ok (q.2.1, q.2.2.1) := zdd_of (by decide +kernel)
theorem zk_58_0 (xs : List Int32) {l : List zE} (h : ∀ q ∈ l, z_oke' (za_T xs) za_P za_M ⟨"LyndonBench$Word", "order", "(IILLyndonBench$Word;II)I"⟩ prog_7_method_17_code q) : ∀ q ∈ zc_58_0 ++ l, z_oke' (za_T xs) za_P za_M ⟨"LyndonBench$Word", "order", "(IILLyndonBench$Word;II)I"⟩ prog_7_method_17_code q :=
  zgd_y zdd_58_0 <|
  zgd_e (fun d => zo_l d rfl rfl trivial) <|
  zgd_e (fun d => zo_l d rfl rfl trivial) <|
  zgd_e (fun d => zo_l d rfl rfl trivial) <|
  zgd_e (fun d => zo_l d rfl rfl trivial) <|
  zgd_e (fun d => zo_l d rfl rfl trivial) <|
  zgd_e (fun d => zo_l d rfl rfl trivial) <|
  zgd_e (fun d => zo_l d rfl rfl trivial) <|
  zgd_e (fun d => zo_l d rfl rfl trivial) <|
  zgd_e (fun d => zo_l d rfl rfl trivial) <|
  zgd_e (fun d => zo_l d rfl rfl trivial) <|
  zgd_e (fun d => zo_l d rfl rfl trivial) <|
  zgd_e (fun d => zo_l d rfl rfl trivial) <|
  zgd_e (fun d => zo_l d rfl rfl (by show ((19 : Nat) : Int) + (57) = ((76 : Nat) : Int); decide)) <|
  zgd_e (fun d => zo_l d rfl rfl trivial) <|
  zgd_e (fun d => zo_l d rfl rfl trivial) <|
  zgd_e (fun d => zo_l d rfl rfl (by show ((26 : Nat) : Int) + (50) = ((76 : Nat) : Int); decide)) <|
  zgd_e (fun d => zo_l d rfl rfl trivial) <|
  zgd_e (fun d => zo_l d rfl rfl trivial) <|
  zgd_e (fun d => zo_l d rfl rfl trivial) <|
  zgd_e (fun d => zo_l d rfl rfl trivial) <|
  zgd_e (fun d => zo_v d rfl ⟨rfl, zd_43, zw_338, Nat.le_of_ble_eq_true rfl, ⟨_, Or.inl ⟨Nat.le_of_ble_eq_true rfl, rfl⟩, rfl⟩, zw_337, zw_339⟩) <|
  zgd_e (fun d => zo_l d rfl rfl trivial) <|
  zgd_e (fun d => zo_l d rfl rfl trivial) <|
  zgd_e (fun d => zo_l d rfl rfl trivial) <|
  zgd_e (fun d => zo_l d rfl rfl trivial) <|
  zgd_e (fun d => zo_l d rfl rfl trivial) <|
  zgd_e (fun d => zo_v d rfl ⟨rfl, zd_43, zw_338, Nat.le_of_ble_eq_true rfl, ⟨_, Or.inl ⟨Nat.le_of_ble_eq_true rfl, rfl⟩, rfl⟩, zw_337, zw_339⟩) <|
  zgd_e (fun d => zo_l d rfl rfl trivial) <|
  zgd_e (fun d => zo_l d rfl rfl trivial) <|
  zgd_e (fun d => zo_l d rfl rfl trivial) <|
  zgd_e (fun d => zo_l d rfl rfl (by show ((54 : Nat) : Int) + (16) = ((70 : Nat) : Int); decide)) <|
  zgd_e (fun d => zo_l d rfl rfl trivial) <|
  zgd_e (fun d => zo_l d rfl rfl trivial) <|
  zgd_e (fun d => zo_l d rfl rfl (by show ((61 : Nat) : Int) + (7) = ((68 : Nat) : Int); decide)) <|
  zgd_e (fun d => zo_l d rfl rfl trivial) <|
  zgd_e (fun d => zo_l d rfl rfl (by show ((65 : Nat) : Int) + (4) = ((69 : Nat) : Int); decide)) <|
  zgd_e (fun d => zo_l d rfl rfl trivial) <|
  zgd_e (fun d => zo_r d rfl) <|
  zgd_e (fun d => zo_l d rfl rfl trivial) <|
  zgd_e (fun d => zo_l d rfl rfl (by show ((73 : Nat) : Int) + (-58) = ((15 : Nat) : Int); decide)) <|
  zgd_m h
theorem zdd_58_1 : ∀ q ∈ zc_58_1, decode prog_7_method_17_code q.1 = Except.ok (q.2.1, q.2.2.1) := zdd_of (by decide +kernel)
theorem zk_58_1 (xs : List Int32) {l : List zE} (h : ∀ q ∈ l, z_oke' (za_T xs) za_P za_M ⟨"LyndonBench$Word", "order", "(IILLyndonBench$Word;II)I"⟩ prog_7_method_17_code q) : ∀ q ∈ zc_58_1 ++ l, z_oke' (za_T xs) za_P za_M ⟨"LyndonBench$Word", "order", "(IILLyndonBench$Word;II)I"⟩ prog_7_method_17_code q :=
  zgd_y zdd_58_1 <|
  zgd_e (fun d => zo_l d rfl rfl trivial) <|
  zgd_e (fun d => zo_l d rfl rfl trivial) <|
  zgd_e (fun d => zo_l d rfl rfl (by show ((80 : Nat) : Int) + (5) = ((85 : Nat) : Int); decide)) <|
  zgd_e (fun d => zo_l d rfl rfl trivial) <|
  zgd_e (fun d => zo_r d rfl) <|
  zgd_e (fun d => zo_l d rfl rfl trivial) <|
  zgd_e (fun d => zo_l d rfl rfl trivial) <|
  zgd_e (fun d => zo_l d rfl rfl (by show ((89 : Nat) : Int) + (7) = ((96 : Nat) : Int); decide)) <|
  zgd_e (fun d => zo_l d rfl rfl trivial) <|
  zgd_e (fun d => zo_l d rfl rfl (by show ((93 : Nat) : Int) + (4) = ((97 : Nat) : Int); decide)) <|
  zgd_e (fun d => zo_l d rfl rfl trivial) <|
  zgd_e (fun d => zo_r d rfl) <|
  zgd_m h
theorem zk_58 (xs : List Int32) : z_okm (za_T xs) za_P za_M 58 := z_okm_of ⟨"LyndonBench$Word", "order", "(IILLyndonBench$Word;II)I"⟩ prog_7_method_17_code zc_58 _ rfl rfl rfl rfl
  (zk_58_0 xs <|
  zk_58_1 xs <|
  z_fn)
  (z_fn)
theorem zdd_59 : ∀ q ∈ zc_59, decode prog_7_method_18_code q.1 = Except.ok (q.2.1, q.2.2.1) := zdd_of (by decide +kernel)
theorem zk_59 (xs : List Int32) : z_okm (za_T xs) za_P za_M 59 := z_okm_of ⟨"LyndonBench$Word", "lyndonEnd", "(I)I"⟩ prog_7_method_18_code zc_59 _ rfl rfl rfl rfl
  (zgd_x zdd_59 <|
  zgd_d (fun d => zo_l d rfl rfl trivial) <|
  zgd_d (fun d => zo_l d rfl rfl trivial) <|
  zgd_d (fun d => zo_l d rfl rfl trivial) <|
  zgd_d (fun d => zo_l d rfl rfl trivial) <|
  zgd_d (fun d => zo_l d rfl rfl trivial) <|
  zgd_d (fun d => zo_l d rfl rfl trivial) <|
  zgd_d (fun d => zo_l d rfl rfl trivial) <|
  zgd_d (fun d => zo_l d rfl rfl trivial) <|
  zgd_d (fun d => zo_h d rfl ⟨rfl, Nat.le_of_ble_eq_true rfl, _, _, _, Or.inl ⟨Nat.le_of_ble_eq_true rfl, rfl⟩, Nat.le_of_ble_eq_true rfl, zw_163⟩) <|
  zgd_d (fun d => zo_l d rfl rfl (by show ((11 : Nat) : Int) + (45) = ((56 : Nat) : Int); decide)) <|
  zgd_d (fun d => zo_l d rfl rfl trivial) <|
  zgd_d (fun d => zo_l d rfl rfl trivial) <|
  zgd_d (fun d => zo_v d rfl ⟨rfl, zd_43, zw_338, Nat.le_of_ble_eq_true rfl, ⟨_, Or.inl ⟨Nat.le_of_ble_eq_true rfl, rfl⟩, rfl⟩, zw_337, zw_339⟩) <|
  zgd_d (fun d => zo_l d rfl rfl trivial) <|
  zgd_d (fun d => zo_l d rfl rfl trivial) <|
  zgd_d (fun d => zo_l d rfl rfl trivial) <|
  zgd_d (fun d => zo_l d rfl rfl trivial) <|
  zgd_d (fun d => zo_v d rfl ⟨rfl, zd_43, zw_338, Nat.le_of_ble_eq_true rfl, ⟨_, Or.inl ⟨Nat.le_of_ble_eq_true rfl, rfl⟩, rfl⟩, zw_337, zw_339⟩) <|
  zgd_d (fun d => zo_l d rfl rfl (by show ((26 : Nat) : Int) + (30) = ((56 : Nat) : Int); decide)) <|
  zgd_d (fun d => zo_l d rfl rfl trivial) <|
  zgd_d (fun d => zo_l d rfl rfl trivial) <|
  zgd_d (fun d => zo_v d rfl ⟨rfl, zd_43, zw_338, Nat.le_of_ble_eq_true rfl, ⟨_, Or.inl ⟨Nat.le_of_ble_eq_true rfl, rfl⟩, rfl⟩, zw_337, zw_339⟩) <|
  zgd_d (fun d => zo_l d rfl rfl trivial) <|
  zgd_d (fun d => zo_l d rfl rfl trivial) <|
  zgd_d (fun d => zo_l d rfl rfl trivial) <|
  zgd_d (fun d => zo_l d rfl rfl trivial) <|
  zgd_d (fun d => zo_v d rfl ⟨rfl, zd_43, zw_338, Nat.le_of_ble_eq_true rfl, ⟨_, Or.inl ⟨Nat.le_of_ble_eq_true rfl, rfl⟩, rfl⟩, zw_337, zw_339⟩) <|
  zgd_d (fun d => zo_l d rfl rfl (by show ((41 : Nat) : Int) + (9) = ((50 : Nat) : Int); decide)) <|
  zgd_d (fun d => zo_l d rfl rfl trivial) <|
  zgd_d (fun d => zo_l d rfl rfl trivial) <|
  zgd_d (fun d => zo_l d rfl rfl trivial) <|
  zgd_d (fun d => zo_l d rfl rfl trivial) <|
  zgd_d (fun d => zo_l d rfl rfl trivial) <|
  zgd_d (fun d => zo_l d rfl rfl trivial) <|
  zgd_d (fun d => zo_l d rfl rfl trivial) <|
  zgd_d (fun d => zo_l d rfl rfl (by show ((53 : Nat) : Int) + (-47) = ((6 : Nat) : Int); decide)) <|
  zgd_d (fun d => zo_l d rfl rfl trivial) <|
  zgd_d (fun d => zo_l d rfl rfl trivial) <|
  zgd_d (fun d => zo_l d rfl rfl trivial) <|
  zgd_d (fun d => zo_r d rfl) <|
  zgd_n)
  (z_fn)
theorem zdd_60 : ∀ q ∈ zc_60, decode prog_7_method_19_code q.1 = Except.ok (q.2.1, q.2.2.1) := zdd_of (by decide +kernel)
theorem zk_60 (xs : List Int32) : z_okm (za_T xs) za_P za_M 60 := z_okm_of ⟨"LyndonBench$Word", "factorEnd", "(II)I"⟩ prog_7_method_19_code zc_60 _ rfl rfl rfl rfl
  (zgd_x zdd_60 <|
  zgd_d (fun d => zo_l d rfl rfl trivial) <|
  zgd_d (fun d => zo_l d rfl rfl trivial) <|
  zgd_d (fun d => zo_l d rfl rfl trivial) <|
  zgd_d (fun d => zo_l d rfl rfl trivial) <|
  zgd_d (fun d => zo_l d rfl rfl trivial) <|
  zgd_d (fun d => zo_l d rfl rfl trivial) <|
  zgd_d (fun d => zo_l d rfl rfl trivial) <|
  zgd_d (fun d => zo_l d rfl rfl trivial) <|
  zgd_d (fun d => zo_l d rfl rfl (by show ((8 : Nat) : Int) + (25) = ((33 : Nat) : Int); decide)) <|
  zgd_d (fun d => zo_l d rfl rfl trivial) <|
  zgd_d (fun d => zo_l d rfl rfl trivial) <|
  zgd_d (fun d => zo_h d rfl ⟨rfl, Nat.le_of_ble_eq_true rfl, _, _, _, Or.inl ⟨Nat.le_of_ble_eq_true rfl, rfl⟩, Nat.le_of_ble_eq_true rfl, zw_163⟩) <|
  zgd_d (fun d => zo_l d rfl rfl (by show ((16 : Nat) : Int) + (17) = ((33 : Nat) : Int); decide)) <|
  zgd_d (fun d => zo_l d rfl rfl trivial) <|
  zgd_d (fun d => zo_l d rfl rfl trivial) <|
  zgd_d (fun d => zo_l d rfl rfl trivial) <|
  zgd_d (fun d => zo_l d rfl rfl trivial) <|
  zgd_d (fun d => zo_l d rfl rfl trivial) <|
  zgd_d (fun d => zo_l d rfl rfl trivial) <|
  zgd_d (fun d => zo_v d rfl ⟨rfl, zd_58, zw_544, Nat.le_of_ble_eq_true rfl, ⟨_, Or.inl ⟨Nat.le_of_ble_eq_true rfl, rfl⟩, rfl⟩, zw_543, zw_545⟩) <|
  zgd_d (fun d => zo_l d rfl rfl (by show ((28 : Nat) : Int) + (5) = ((33 : Nat) : Int); decide)) <|
  zgd_d (fun d => zo_l d rfl rfl trivial) <|
  zgd_d (fun d => zo_r d rfl) <|
  zgd_d (fun d => zo_l d rfl rfl trivial) <|
  zgd_d (fun d => zo_l d rfl rfl trivial) <|
  zgd_d (fun d => zo_v d rfl ⟨rfl, zd_59, zw_518, Nat.le_of_ble_eq_true rfl, ⟨_, Or.inl ⟨Nat.le_of_ble_eq_true rfl, rfl⟩, rfl⟩, zw_517, zw_519⟩) <|
  zgd_d (fun d => zo_r d rfl) <|
  zgd_n)
  (z_fn)
theorem zdd_61 : ∀ q ∈ zc_61, decode prog_7_method_20_code q.1 = Except.ok (q.2.1, q.2.2.1) := zdd_of (by decide +kernel)
theorem zk_61 (xs : List Int32) : z_okm (za_T xs) za_P za_M 61 := z_okm_of ⟨"LyndonBench$Word", "countFactors", "()I"⟩ prog_7_method_20_code zc_61 _ rfl rfl rfl rfl
  (zgd_x zdd_61 <|
  zgd_d (fun d => zo_l d rfl rfl trivial) <|
  zgd_d (fun d => zo_l d rfl rfl trivial) <|
  zgd_d (fun d => zo_l d rfl rfl trivial) <|
  zgd_d (fun d => zo_l d rfl rfl trivial) <|
  zgd_d (fun d => zo_l d rfl rfl trivial) <|
  zgd_d (fun d => zo_l d rfl rfl trivial) <|
  zgd_d (fun d => zo_l d rfl rfl trivial) <|
  zgd_d (fun d => zo_l d rfl rfl trivial) <|
  zgd_d (fun d => zo_l d rfl rfl trivial) <|
  zgd_d (fun d => zo_l d rfl rfl trivial) <|
  zgd_d (fun d => zo_h d rfl ⟨rfl, Nat.le_of_ble_eq_true rfl, _, _, _, Or.inl ⟨Nat.le_of_ble_eq_true rfl, rfl⟩, Nat.le_of_ble_eq_true rfl, zw_163⟩) <|
  zgd_d (fun d => zo_l d rfl rfl (by show ((15 : Nat) : Int) + (33) = ((48 : Nat) : Int); decide)) <|
  zgd_d (fun d => zo_l d rfl rfl trivial) <|
  zgd_d (fun d => zo_l d rfl rfl trivial) <|
  zgd_d (fun d => zo_h d rfl ⟨rfl, Nat.le_of_ble_eq_true rfl, _, _, _, Or.inl ⟨Nat.le_of_ble_eq_true rfl, rfl⟩, Nat.le_of_ble_eq_true rfl, zw_163⟩) <|
  zgd_d (fun d => zo_l d rfl rfl (by show ((23 : Nat) : Int) + (25) = ((48 : Nat) : Int); decide)) <|
  zgd_d (fun d => zo_l d rfl rfl trivial) <|
  zgd_d (fun d => zo_l d rfl rfl trivial) <|
  zgd_d (fun d => zo_l d rfl rfl trivial) <|
  zgd_d (fun d => zo_v d rfl ⟨rfl, zd_60, zw_540, Nat.le_of_ble_eq_true rfl, ⟨_, Or.inl ⟨Nat.le_of_ble_eq_true rfl, rfl⟩, rfl⟩, zw_539, zw_541⟩) <|
  zgd_d (fun d => zo_l d rfl rfl trivial) <|
  zgd_d (fun d => zo_l d rfl rfl trivial) <|
  zgd_d (fun d => zo_l d rfl rfl trivial) <|
  zgd_d (fun d => zo_l d rfl rfl trivial) <|
  zgd_d (fun d => zo_l d rfl rfl trivial) <|
  zgd_d (fun d => zo_l d rfl rfl trivial) <|
  zgd_d (fun d => zo_l d rfl rfl trivial) <|
  zgd_d (fun d => zo_l d rfl rfl (by show ((45 : Nat) : Int) + (-36) = ((9 : Nat) : Int); decide)) <|
  zgd_d (fun d => zo_l d rfl rfl trivial) <|
  zgd_d (fun d => zo_r d rfl) <|
  zgd_n)
  (z_fn)
theorem zdd_62 : ∀ q ∈ zc_62, decode prog_7_method_21_code q.1 = Except.ok (q.2.1, q.2.2.1) := zdd_of (by decide +kernel)
theorem zk_62 (xs : List Int32) : z_okm (za_T xs) za_P za_M 62 := z_okm_of ⟨"LyndonBench$Word", "isOneFactor", "()Z"⟩ prog_7_method_21_code zc_62 _ rfl rfl rfl rfl
  (zgd_x zdd_62 <|
  zgd_d (fun d => zo_l d rfl rfl trivial) <|
  zgd_d (fun d => zo_h d rfl ⟨rfl, Nat.le_of_ble_eq_true rfl, _, _, _, Or.inl ⟨Nat.le_of_ble_eq_true rfl, rfl⟩, Nat.le_of_ble_eq_true rfl, zw_163⟩) <|
  zgd_d (fun d => zo_l d rfl rfl (by show ((4 : Nat) : Int) + (19) = ((23 : Nat) : Int); decide)) <|
  zgd_d (fun d => zo_l d rfl rfl trivial) <|
  zgd_d (fun d => zo_l d rfl rfl trivial) <|
  zgd_d (fun d => zo_v d rfl ⟨rfl, zd_59, zw_518, Nat.le_of_ble_eq_true rfl, ⟨_, Or.inl ⟨Nat.le_of_ble_eq_true rfl, rfl⟩, rfl⟩, zw_517, zw_519⟩) <|
  zgd_d (fun d => zo_l d rfl rfl trivial) <|
  zgd_d (fun d => zo_h d rfl ⟨rfl, Nat.le_of_ble_eq_true rfl, _, _, _, Or.inl ⟨Nat.le_of_ble_eq_true rfl, rfl⟩, Nat.le_of_ble_eq_true rfl, zw_163⟩) <|
  zgd_d (fun d => zo_l d rfl rfl (by show ((16 : Nat) : Int) + (7) = ((23 : Nat) : Int); decide)) <|
  zgd_d (fun d => zo_l d rfl rfl trivial) <|
  zgd_d (fun d => zo_l d rfl rfl (by show ((20 : Nat) : Int) + (4) = ((24 : Nat) : Int); decide)) <|
  zgd_d (fun d => zo_l d rfl rfl trivial) <|
  zgd_d (fun d => zo_r d rfl) <|
  zgd_n)
  (z_fn)
theorem zdd_63 : ∀ q ∈ zc_63, decode prog_7_method_22_code q.1 = Except.ok (q.2.1, q.2.2.1) := zdd_of (by decide +kernel)
theorem zk_63 (xs : List Int32) : z_okm (za_T xs) za_P za_M 63 := z_okm_of ⟨"LyndonBench$Word", "beginOfFactor", "(I)I"⟩ prog_7_method_22_code zc_63 _ rfl rfl rfl rfl
  (zgd_x zdd_63 <|
  zgd_d (fun d => zo_l d rfl rfl trivial) <|
  zgd_d (fun d => zo_l d rfl rfl trivial) <|
  zgd_d (fun d => zo_l d rfl rfl trivial) <|
  zgd_d (fun d => zo_l d rfl rfl trivial) <|
  zgd_d (fun d => zo_l d rfl rfl trivial) <|
  zgd_d (fun d => zo_l d rfl rfl trivial) <|
  zgd_d (fun d => zo_l d rfl rfl trivial) <|
  zgd_d (fun d => zo_l d rfl rfl trivial) <|
  zgd_d (fun d => zo_l d rfl rfl (by show ((10 : Nat) : Int) + (30) = ((40 : Nat) : Int); decide)) <|
  zgd_d (fun d => zo_l d rfl rfl trivial) <|
  zgd_d (fun d => zo_l d rfl rfl trivial) <|
  zgd_d (fun d => zo_h d rfl ⟨rfl, Nat.le_of_ble_eq_true rfl, _, _, _, Or.inl ⟨Nat.le_of_ble_eq_true rfl, rfl⟩, Nat.le_of_ble_eq_true rfl, zw_163⟩) <|
  zgd_d (fun d => zo_l d rfl rfl (by show ((18 : Nat) : Int) + (22) = ((40 : Nat) : Int); decide)) <|
  zgd_d (fun d => zo_l d rfl rfl trivial) <|
  zgd_d (fun d => zo_l d rfl rfl trivial) <|
  zgd_d (fun d => zo_l d rfl rfl trivial) <|
  zgd_d (fun d => zo_v d rfl ⟨rfl, zd_60, zw_540, Nat.le_of_ble_eq_true rfl, ⟨_, Or.inl ⟨Nat.le_of_ble_eq_true rfl, rfl⟩, rfl⟩, zw_539, zw_541⟩) <|
  zgd_d (fun d => zo_l d rfl rfl trivial) <|
  zgd_d (fun d => zo_l d rfl rfl trivial) <|
  zgd_d (fun d => zo_l d rfl rfl trivial) <|
  zgd_d (fun d => zo_l d rfl rfl trivial) <|
  zgd_d (fun d => zo_l d rfl rfl trivial) <|
  zgd_d (fun d => zo_l d rfl rfl trivial) <|
  zgd_d (fun d => zo_l d rfl rfl (by show ((37 : Nat) : Int) + (-30) = ((7 : Nat) : Int); decide)) <|
  zgd_d (fun d => zo_l d rfl rfl trivial) <|
  zgd_d (fun d => zo_l d rfl rfl (by show ((41 : Nat) : Int) + (15) = ((56 : Nat) : Int); decide)) <|
  zgd_d (fun d => zo_l d rfl rfl trivial) <|
  zgd_d (fun d => zo_l d rfl rfl trivial) <|
  zgd_d (fun d => zo_h d rfl ⟨rfl, Nat.le_of_ble_eq_true rfl, _, _, _, Or.inl ⟨Nat.le_of_ble_eq_true rfl, rfl⟩, Nat.le_of_ble_eq_true rfl, zw_163⟩) <|
  zgd_d (fun d => zo_l d rfl rfl (by show ((49 : Nat) : Int) + (7) = ((56 : Nat) : Int); decide)) <|
  zgd_d (fun d => zo_l d rfl rfl trivial) <|
  zgd_d (fun d => zo_l d rfl rfl (by show ((53 : Nat) : Int) + (4) = ((57 : Nat) : Int); decide)) <|
  zgd_d (fun d => zo_l d rfl rfl trivial) <|
  zgd_d (fun d => zo_r d rfl) <|
  zgd_n)
  (z_fn)
theorem zdd_64 : ∀ q ∈ zc_64, decode prog_7_method_23_code q.1 = Except.ok (q.2.1, q.2.2.1) := zdd_of (by decide +kernel)
theorem zk_64 (xs : List Int32) : z_okm (za_T xs) za_P za_M 64 := z_okm_of ⟨"LyndonBench$Word", "factorWith", "(I)I"⟩ prog_7_method_23_code zc_64 _ rfl rfl rfl rfl
  (zgd_x zdd_64 <|
  zgd_d (fun d => zo_l d rfl rfl trivial) <|
  zgd_d (fun d => zo_l d rfl rfl (by show ((1 : Nat) : Int) + (11) = ((12 : Nat) : Int); decide)) <|
  zgd_d (fun d => zo_l d rfl rfl trivial) <|
  zgd_d (fun d => zo_l d rfl rfl trivial) <|
  zgd_d (fun d => zo_h d rfl ⟨rfl, Nat.le_of_ble_eq_true rfl, _, _, _, Or.inl ⟨Nat.le_of_ble_eq_true rfl, rfl⟩, Nat.le_of_ble_eq_true rfl, zw_163⟩) <|
  zgd_d (fun d => zo_l d rfl rfl (by show ((9 : Nat) : Int) + (5) = ((14 : Nat) : Int); decide)) <|
  zgd_d (fun d => zo_l d rfl rfl trivial) <|
  zgd_d (fun d => zo_r d rfl) <|
  zgd_d (fun d => zo_l d rfl rfl trivial) <|
  zgd_d (fun d => zo_l d rfl rfl trivial) <|
  zgd_d (fun d => zo_l d rfl rfl trivial) <|
  zgd_d (fun d => zo_l d rfl rfl trivial) <|
  zgd_d (fun d => zo_l d rfl rfl trivial) <|
  zgd_d (fun d => zo_l d rfl rfl trivial) <|
  zgd_d (fun d => zo_l d rfl rfl trivial) <|
  zgd_d (fun d => zo_l d rfl rfl trivial) <|
  zgd_d (fun d => zo_l d rfl rfl trivial) <|
  zgd_d (fun d => zo_l d rfl rfl trivial) <|
  zgd_d (fun d => zo_h d rfl ⟨rfl, Nat.le_of_ble_eq_true rfl, _, _, _, Or.inl ⟨Nat.le_of_ble_eq_true rfl, rfl⟩, Nat.le_of_ble_eq_true rfl, zw_163⟩) <|
  zgd_d (fun d => zo_l d rfl rfl (by show ((30 : Nat) : Int) + (34) = ((64 : Nat) : Int); decide)) <|
  zgd_d (fun d => zo_l d rfl rfl trivial) <|
  zgd_d (fun d => zo_l d rfl rfl trivial) <|
  zgd_d (fun d => zo_l d rfl rfl (by show ((36 : Nat) : Int) + (28) = ((64 : Nat) : Int); decide)) <|
  zgd_d (fun d => zo_l d rfl rfl trivial) <|
  zgd_d (fun d => zo_l d rfl rfl trivial) <|
  zgd_d (fun d => zo_l d rfl rfl trivial) <|
  zgd_d (fun d => zo_v d rfl ⟨rfl, zd_60, zw_540, Nat.le_of_ble_eq_true rfl, ⟨_, Or.inl ⟨Nat.le_of_ble_eq_true rfl, rfl⟩, rfl⟩, zw_539, zw_541⟩) <|
  zgd_d (fun d => zo_l d rfl rfl trivial) <|
  zgd_d (fun d => zo_l d rfl rfl trivial) <|
  zgd_d (fun d => zo_l d rfl rfl trivial) <|
  zgd_d (fun d => zo_l d rfl rfl trivial) <|
  zgd_d (fun d => zo_l d rfl rfl trivial) <|
  zgd_d (fun d => zo_l d rfl rfl trivial) <|
  zgd_d (fun d => zo_l d rfl rfl trivial) <|
  zgd_d (fun d => zo_l d rfl rfl trivial) <|
  zgd_d (fun d => zo_l d rfl rfl (by show ((61 : Nat) : Int) + (-37) = ((24 : Nat) : Int); decide)) <|
  zgd_d (fun d => zo_l d rfl rfl trivial) <|
  zgd_d (fun d => zo_r d rfl) <|
  zgd_n)
  (z_fn)
theorem zdd_65_0 : ∀ q ∈ zc_65_0, decode prog_7_method_24_code q.1 = Except.ok (q.2.1, q.2.2.1) := zdd_of (by decide +kernel)
theorem zk_65_0 (xs : List Int32) {l : List zE} (h : ∀ q ∈ l, z_oke' (za_T xs) za_P za_M ⟨"LyndonBench$Word", "firstLongestFactor", "()I"⟩ prog_7_method_24_code q) : ∀ q ∈ zc_65_0 ++ l, z_oke' (za_T xs) za_P za_M ⟨"LyndonBench$Word", "firstLongestFactor", "()I"⟩ prog_7_method_24_code q :=
  zgd_y zdd_65_0 <|
  zgd_e (fun d => zo_l d rfl rfl trivial) <|
  zgd_e (fun d => zo_l d rfl rfl trivial) <|
  zgd_e (fun d => zo_l d rfl rfl trivial) <|
  zgd_e (fun d => zo_l d rfl rfl trivial) <|
  zgd_e (fun d => zo_l d rfl rfl trivial) <|
  zgd_e (fun d => zo_l d rfl rfl trivial) <|
  zgd_e (fun d => zo_l d rfl rfl trivial) <|
  zgd_e (fun d => zo_l d rfl rfl trivial) <|
  zgd_e (fun d => zo_l d rfl rfl trivial) <|
  zgd_e (fun d => zo_l d rfl rfl trivial) <|
  zgd_e (fun d => zo_l d rfl rfl trivial) <|
  zgd_e (fun d => zo_l d rfl rfl trivial) <|
  zgd_e (fun d => zo_h d rfl ⟨rfl, Nat.le_of_ble_eq_true rfl, _, _, _, Or.inl ⟨Nat.le_of_ble_eq_true rfl, rfl⟩, Nat.le_of_ble_eq_true rfl, zw_163⟩) <|
  zgd_e (fun d => zo_l d rfl rfl (by show ((18 : Nat) : Int) + (52) = ((70 : Nat) : Int); decide)) <|
  zgd_e (fun d => zo_l d rfl rfl trivial) <|
  zgd_e (fun d => zo_l d rfl rfl trivial) <|
  zgd_e (fun d => zo_h d rfl ⟨rfl, Nat.le_of_ble_eq_true rfl, _, _, _, Or.inl ⟨Nat.le_of_ble_eq_true rfl, rfl⟩, Nat.le_of_ble_eq_true rfl, zw_163⟩) <|
  zgd_e (fun d => zo_l d rfl rfl (by show ((27 : Nat) : Int) + (43) = ((70 : Nat) : Int); decide)) <|
  zgd_e (fun d => zo_l d rfl rfl trivial) <|
  zgd_e (fun d => zo_l d rfl rfl trivial) <|
  zgd_e (fun d => zo_l d rfl rfl trivial) <|
  zgd_e (fun d => zo_v d rfl ⟨rfl, zd_60, zw_540, Nat.le_of_ble_eq_true rfl, ⟨_, Or.inl ⟨Nat.le_of_ble_eq_true rfl, rfl⟩, rfl⟩, zw_539, zw_541⟩) <|
  zgd_e (fun d => zo_l d rfl rfl trivial) <|
  zgd_e (fun d => zo_l d rfl rfl trivial) <|
  zgd_e (fun d => zo_l d rfl rfl trivial) <|
  zgd_e (fun d => zo_l d rfl rfl trivial) <|
  zgd_e (fun d => zo_l d rfl rfl trivial) <|
  zgd_e (fun d => zo_l d rfl rfl (by show ((45 : Nat) : Int) + (12) = ((57 : Nat) : Int); decide)) <|
  zgd_e (fun d => zo_l d rfl rfl trivial) <|
  zgd_e (fun d => zo_l d rfl rfl trivial) <|
  zgd_e (fun d => zo_l d rfl rfl trivial) <|
  zgd_e (fun d => zo_l d rfl rfl trivial) <|
  zgd_e (fun d => zo_l d rfl rfl trivial) <|
  zgd_e (fun d => zo_l d rfl rfl trivial) <|
  zgd_e (fun d => zo_l d rfl rfl trivial) <|
  zgd_e (fun d => zo_l d rfl rfl trivial) <|
  zgd_e (fun d => zo_l d rfl rfl trivial) <|
  zgd_e (fun d => zo_l d rfl rfl trivial) <|
  zgd_e (fun d => zo_l d rfl rfl trivial) <|
  zgd_e (fun d => zo_l d rfl rfl (by show ((67 : Nat) : Int) + (-55) = ((12 : Nat) : Int); decide)) <|
  zgd_m h
theorem zdd_65_1 : ∀ q ∈ zc_65_1, decode prog_7_method_24_code q.1 = Except.ok (q.2.1, q.2.2.1) := zdd_of (by decide +kernel)
theorem zk_65_1 (xs : List Int32) {l : List zE} (h : ∀ q ∈ l, z_oke' (za_T xs) za_P za_M ⟨"LyndonBench$Word", "firstLongestFactor", "()I"⟩ prog_7_method_24_code q) : ∀ q ∈ zc_65_1 ++ l, z_oke' (za_T xs) za_P za_M ⟨"LyndonBench$Word", "firstLongestFactor", "()I"⟩ prog_7_method_24_code q :=
  zgd_y zdd_65_1 <|
  zgd_e (fun d => zo_l d rfl rfl trivial) <|
  zgd_e (fun d => zo_r d rfl) <|
  zgd_m h
theorem zk_65 (xs : List Int32) : z_okm (za_T xs) za_P za_M 65 := z_okm_of ⟨"LyndonBench$Word", "firstLongestFactor", "()I"⟩ prog_7_method_24_code zc_65 _ rfl rfl rfl rfl
  (zk_65_0 xs <|
  zk_65_1 xs <|
  z_fn)
  (z_fn)
theorem zdd_66 : ∀ q ∈ zc_66, decode prog_7_method_25_code q.1 = Except.ok (q.2.1, q.2.2.1) := zdd_of (by decide +kernel)
theorem zk_66 (xs : List Int32) : z_okm (za_T xs) za_P za_M 66 := z_okm_of ⟨"LyndonBench$Word", "countFactorsLike", "(II)I"⟩ prog_7_method_25_code zc_66 _ rfl rfl rfl rfl
  (zgd_x zdd_66 <|
  zgd_d (fun d => zo_l d rfl rfl trivial) <|
  zgd_d (fun d => zo_l d rfl rfl trivial) <|
  zgd_d (fun d => zo_l d rfl rfl trivial) <|
  zgd_d (fun d => zo_l d rfl rfl trivial) <|
  zgd_d (fun d => zo_l d rfl rfl trivial) <|
  zgd_d (fun d => zo_l d rfl rfl trivial) <|
  zgd_d (fun d => zo_l d rfl rfl trivial) <|
  zgd_d (fun d => zo_l d rfl rfl trivial) <|
  zgd_d (fun d => zo_l d rfl rfl trivial) <|
  zgd_d (fun d => zo_l d rfl rfl trivial) <|
  zgd_d (fun d => zo_h d rfl ⟨rfl, Nat.le_of_ble_eq_true rfl, _, _, _, Or.inl ⟨Nat.le_of_ble_eq_true rfl, rfl⟩, Nat.le_of_ble_eq_true rfl, zw_163⟩) <|
  zgd_d (fun d => zo_l d rfl rfl (by show ((17 : Nat) : Int) + (53) = ((70 : Nat) : Int); decide)) <|
  zgd_d (fun d => zo_l d rfl rfl trivial) <|
  zgd_d (fun d => zo_l d rfl rfl trivial) <|
  zgd_d (fun d => zo_h d rfl ⟨rfl, Nat.le_of_ble_eq_true rfl, _, _, _, Or.inl ⟨Nat.le_of_ble_eq_true rfl, rfl⟩, Nat.le_of_ble_eq_true rfl, zw_163⟩) <|
  zgd_d (fun d => zo_l d rfl rfl (by show ((26 : Nat) : Int) + (44) = ((70 : Nat) : Int); decide)) <|
  zgd_d (fun d => zo_l d rfl rfl trivial) <|
  zgd_d (fun d => zo_l d rfl rfl trivial) <|
  zgd_d (fun d => zo_l d rfl rfl trivial) <|
  zgd_d (fun d => zo_v d rfl ⟨rfl, zd_60, zw_540, Nat.le_of_ble_eq_true rfl, ⟨_, Or.inl ⟨Nat.le_of_ble_eq_true rfl, rfl⟩, rfl⟩, zw_539, zw_541⟩) <|
  zgd_d (fun d => zo_l d rfl rfl trivial) <|
  zgd_d (fun d => zo_l d rfl rfl trivial) <|
  zgd_d (fun d => zo_l d rfl rfl trivial) <|
  zgd_d (fun d => zo_l d rfl rfl trivial) <|
  zgd_d (fun d => zo_l d rfl rfl trivial) <|
  zgd_d (fun d => zo_l d rfl rfl trivial) <|
  zgd_d (fun d => zo_l d rfl rfl trivial) <|
  zgd_d (fun d => zo_v d rfl ⟨rfl, zd_58, zw_544, Nat.le_of_ble_eq_true rfl, ⟨_, Or.inl ⟨Nat.le_of_ble_eq_true rfl, rfl⟩, rfl⟩, zw_543, zw_545⟩) <|
  zgd_d (fun d => zo_l d rfl rfl (by show ((50 : Nat) : Int) + (6) = ((56 : Nat) : Int); decide)) <|
  zgd_d (fun d => zo_l d rfl rfl trivial) <|
  zgd_d (fun d => zo_l d rfl rfl trivial) <|
  zgd_d (fun d => zo_l d rfl rfl trivial) <|
  zgd_d (fun d => zo_l d rfl rfl trivial) <|
  zgd_d (fun d => zo_l d rfl rfl trivial) <|
  zgd_d (fun d => zo_l d rfl rfl trivial) <|
  zgd_d (fun d => zo_l d rfl rfl (by show ((67 : Nat) : Int) + (-56) = ((11 : Nat) : Int); decide)) <|
  zgd_d (fun d => zo_l d rfl rfl trivial) <|
  zgd_d (fun d => zo_r d rfl) <|
  zgd_n)
  (z_fn)
theorem zdd_67 : ∀ q ∈ zc_67, decode prog_7_method_26_code q.1 = Except.ok (q.2.1, q.2.2.1) := zdd_of (by decide +kernel)
theorem zk_67 (xs : List Int32) : z_okm (za_T xs) za_P za_M 67 := z_okm_of ⟨"LyndonBench$Word", "isLyndonPart", "(II)Z"⟩ prog_7_method_26_code zc_67 _ rfl rfl rfl rfl
  (zgd_x zdd_67 <|
  zgd_d (fun d => zo_l d rfl rfl trivial) <|
  zgd_d (fun d => zo_l d rfl rfl trivial) <|
  zgd_d (fun d => zo_l d rfl rfl trivial) <|
  zgd_d (fun d => zo_l d rfl rfl trivial) <|
  zgd_d (fun d => zo_l d rfl rfl trivial) <|
  zgd_d (fun d => zo_l d rfl rfl trivial) <|
  zgd_d (fun d => zo_l d rfl rfl (by show ((6 : Nat) : Int) + (23) = ((29 : Nat) : Int); decide)) <|
  zgd_d (fun d => zo_l d rfl rfl trivial) <|
  zgd_d (fun d => zo_l d rfl rfl trivial) <|
  zgd_d (fun d => zo_l d rfl rfl trivial) <|
  zgd_d (fun d => zo_l d rfl rfl trivial) <|
  zgd_d (fun d => zo_l d rfl rfl trivial) <|
  zgd_d (fun d => zo_l d rfl rfl trivial) <|
  zgd_d (fun d => zo_v d rfl ⟨rfl, zd_58, zw_544, Nat.le_of_ble_eq_true rfl, ⟨_, Or.inl ⟨Nat.le_of_ble_eq_true rfl, rfl⟩, rfl⟩, zw_543, zw_545⟩) <|
  zgd_d (fun d => zo_l d rfl rfl (by show ((18 : Nat) : Int) + (5) = ((23 : Nat) : Int); decide)) <|
  zgd_d (fun d => zo_l d rfl rfl trivial) <|
  zgd_d (fun d => zo_r d rfl) <|
  zgd_d (fun d => zo_l d rfl rfl trivial) <|
  zgd_d (fun d => zo_l d rfl rfl (by show ((26 : Nat) : Int) + (-22) = ((4 : Nat) : Int); decide)) <|
  zgd_d (fun d => zo_l d rfl rfl trivial) <|
  zgd_d (fun d => zo_l d rfl rfl trivial) <|
  zgd_d (fun d => zo_l d rfl rfl (by show ((31 : Nat) : Int) + (7) = ((38 : Nat) : Int); decide)) <|
  zgd_d (fun d => zo_l d rfl rfl trivial) <|
  zgd_d (fun d => zo_l d rfl rfl (by show ((35 : Nat) : Int) + (4) = ((39 : Nat) : Int); decide)) <|
  zgd_d (fun d => zo_l d rfl rfl trivial) <|
  zgd_d (fun d => zo_r d rfl) <|
  zgd_n)
  (z_fn)
theorem zdd_68 : ∀ q ∈ zc_68, decode prog_7_method_27_code q.1 = Except.ok (q.2.1, q.2.2.1) := zdd_of (by decide +kernel)
theorem zk_68 (xs : List Int32) : z_okm (za_T xs) za_P za_M 68 := z_okm_of ⟨"LyndonBench$Word", "beginsNecklace", "()Z"⟩ prog_7_method_27_code zc_68 _ rfl rfl rfl rfl
  (zgd_x zdd_68 <|
  zgd_d (fun d => zo_l d rfl rfl trivial) <|
  zgd_d (fun d => zo_h d rfl ⟨rfl, Nat.le_of_ble_eq_true rfl, _, _, _, Or.inl ⟨Nat.le_of_ble_eq_true rfl, rfl⟩, Nat.le_of_ble_eq_true rfl, zw_163⟩) <|
  zgd_d (fun d => zo_l d rfl rfl (by show ((4 : Nat) : Int) + (19) = ((23 : Nat) : Int); decide)) <|
  zgd_d (fun d => zo_l d rfl rfl trivial) <|
  zgd_d (fun d => zo_l d rfl rfl trivial) <|
  zgd_d (fun d => zo_l d rfl rfl trivial) <|
  zgd_d (fun d => zo_v d rfl ⟨rfl, zd_59, zw_518, Nat.le_of_ble_eq_true rfl, ⟨_, Or.inl ⟨Nat.le_of_ble_eq_true rfl, rfl⟩, rfl⟩, zw_517, zw_519⟩) <|
  zgd_d (fun d => zo_v d rfl ⟨rfl, zd_69, zw_688, Nat.le_of_ble_eq_true rfl, ⟨_, Or.inl ⟨Nat.le_of_ble_eq_true rfl, rfl⟩, rfl⟩, zw_686, zw_23⟩) <|
  zgd_d (fun d => zo_l d rfl rfl (by show ((16 : Nat) : Int) + (7) = ((23 : Nat) : Int); decide)) <|
  zgd_d (fun d => zo_l d rfl rfl trivial) <|
  zgd_d (fun d => zo_l d rfl rfl (by show ((20 : Nat) : Int) + (4) = ((24 : Nat) : Int); decide)) <|
  zgd_d (fun d => zo_l d rfl rfl trivial) <|
  zgd_d (fun d => zo_r d rfl) <|
  zgd_n)
  (z_fn)
theorem zdd_69 : ∀ q ∈ zc_69, decode prog_7_method_28_code q.1 = Except.ok (q.2.1, q.2.2.1) := zdd_of (by decide +kernel)
theorem zk_69 (xs : List Int32) : z_okm (za_T xs) za_P za_M 69 := z_okm_of ⟨"LyndonBench$Word", "hasPeriod", "(I)Z"⟩ prog_7_method_28_code zc_69 _ rfl rfl rfl rfl
  (zgd_x zdd_69 <|
  zgd_d (fun d => zo_l d rfl rfl trivial) <|
  zgd_d (fun d => zo_l d rfl rfl trivial) <|
  zgd_d (fun d => zo_l d rfl rfl trivial) <|
  zgd_d (fun d => zo_l d rfl rfl trivial) <|
  zgd_d (fun d => zo_h d rfl ⟨rfl, Nat.le_of_ble_eq_true rfl, _, _, _, Or.inl ⟨Nat.le_of_ble_eq_true rfl, rfl⟩, Nat.le_of_ble_eq_true rfl, zw_163⟩) <|
  zgd_d (fun d => zo_l d rfl rfl (by show ((7 : Nat) : Int) + (26) = ((33 : Nat) : Int); decide)) <|
  zgd_d (fun d => zo_l d rfl rfl trivial) <|
  zgd_d (fun d => zo_l d rfl rfl trivial) <|
  zgd_d (fun d => zo_v d rfl ⟨rfl, zd_43, zw_338, Nat.le_of_ble_eq_true rfl, ⟨_, Or.inl ⟨Nat.le_of_ble_eq_true rfl, rfl⟩, rfl⟩, zw_337, zw_339⟩) <|
  zgd_d (fun d => zo_l d rfl rfl trivial) <|
  zgd_d (fun d => zo_l d rfl rfl trivial) <|
  zgd_d (fun d => zo_l d rfl rfl trivial) <|
  zgd_d (fun d => zo_l d rfl rfl trivial) <|
  zgd_d (fun d => zo_v d rfl ⟨rfl, zd_43, zw_338, Nat.le_of_ble_eq_true rfl, ⟨_, Or.inl ⟨Nat.le_of_ble_eq_true rfl, rfl⟩, rfl⟩, zw_337, zw_339⟩) <|
  zgd_d (fun d => zo_l d rfl rfl (by show ((22 : Nat) : Int) + (5) = ((27 : Nat) : Int); decide)) <|
  zgd_d (fun d => zo_l d rfl rfl trivial) <|
  zgd_d (fun d => zo_r d rfl) <|
  zgd_d (fun d => zo_l d rfl rfl trivial) <|
  zgd_d (fun d => zo_l d rfl rfl (by show ((30 : Nat) : Int) + (-28) = ((2 : Nat) : Int); decide)) <|
  zgd_d (fun d => zo_l d rfl rfl trivial) <|
  zgd_d (fun d => zo_r d rfl) <|
  zgd_n)
  (z_fn)
theorem zdd_70 : ∀ q ∈ zc_70, decode prog_7_method_29_code q.1 = Except.ok (q.2.1, q.2.2.1) := zdd_of (by decide +kernel)
theorem zk_70 (xs : List Int32) : z_okm (za_T xs) za_P za_M 70 := z_okm_of ⟨"LyndonBench$Word", "leastPeriod", "()I"⟩ prog_7_method_29_code zc_70 _ rfl rfl rfl rfl
  (zgd_x zdd_70 <|
  zgd_d (fun d => zo_l d rfl rfl trivial) <|
  zgd_d (fun d => zo_l d rfl rfl trivial) <|
  zgd_d (fun d => zo_l d rfl rfl trivial) <|
  zgd_d (fun d => zo_l d rfl rfl trivial) <|
  zgd_d (fun d => zo_h d rfl ⟨rfl, Nat.le_of_ble_eq_true rfl, _, _, _, Or.inl ⟨Nat.le_of_ble_eq_true rfl, rfl⟩, Nat.le_of_ble_eq_true rfl, zw_163⟩) <|
  zgd_d (fun d => zo_l d rfl rfl (by show ((7 : Nat) : Int) + (19) = ((26 : Nat) : Int); decide)) <|
  zgd_d (fun d => zo_l d rfl rfl trivial) <|
  zgd_d (fun d => zo_l d rfl rfl trivial) <|
  zgd_d (fun d => zo_v d rfl ⟨rfl, zd_69, zw_688, Nat.le_of_ble_eq_true rfl, ⟨_, Or.inl ⟨Nat.le_of_ble_eq_true rfl, rfl⟩, rfl⟩, zw_686, zw_23⟩) <|
  zgd_d (fun d => zo_l d rfl rfl (by show ((15 : Nat) : Int) + (5) = ((20 : Nat) : Int); decide)) <|
  zgd_d (fun d => zo_l d rfl rfl trivial) <|
  zgd_d (fun d => zo_r d rfl) <|
  zgd_d (fun d => zo_l d rfl rfl trivial) <|
  zgd_d (fun d => zo_l d rfl rfl (by show ((23 : Nat) : Int) + (-21) = ((2 : Nat) : Int); decide)) <|
  zgd_d (fun d => zo_l d rfl rfl trivial) <|
  zgd_d (fun d => zo_h d rfl ⟨rfl, Nat.le_of_ble_eq_true rfl, _, _, _, Or.inl ⟨Nat.le_of_ble_eq_true rfl, rfl⟩, Nat.le_of_ble_eq_true rfl, zw_163⟩) <|
  zgd_d (fun d => zo_r d rfl) <|
  zgd_n)
  (z_fn)
theorem zdd_71 : ∀ q ∈ zc_71, decode prog_7_method_30_code q.1 = Except.ok (q.2.1, q.2.2.1) := zdd_of (by decide +kernel)
theorem zk_71 (xs : List Int32) : z_okm (za_T xs) za_P za_M 71 := z_okm_of ⟨"LyndonBench$Word", "countTurns", "()I"⟩ prog_7_method_30_code zc_71 _ rfl rfl rfl rfl
  (zgd_x zdd_71 <|
  zgd_d (fun d => zo_l d rfl rfl trivial) <|
  zgd_d (fun d => zo_v d rfl ⟨rfl, zd_70, zw_683, Nat.le_of_ble_eq_true rfl, ⟨_, Or.inl ⟨Nat.le_of_ble_eq_true rfl, rfl⟩, rfl⟩, zw_682, zw_684⟩) <|
  zgd_d (fun d => zo_l d rfl rfl trivial) <|
  zgd_d (fun d => zo_l d rfl rfl trivial) <|
  zgd_d (fun d => zo_l d rfl rfl (by show ((6 : Nat) : Int) + (16) = ((22 : Nat) : Int); decide)) <|
  zgd_d (fun d => zo_l d rfl rfl trivial) <|
  zgd_d (fun d => zo_h d rfl ⟨rfl, Nat.le_of_ble_eq_true rfl, _, _, _, Or.inl ⟨Nat.le_of_ble_eq_true rfl, rfl⟩, Nat.le_of_ble_eq_true rfl, zw_163⟩) <|
  zgd_d (fun d => zo_l d rfl rfl trivial) <|
  zgd_d (fun d => zo_l d rfl rfl trivial) <|
  zgd_d (fun d => zo_l d rfl rfl (by show ((15 : Nat) : Int) + (7) = ((22 : Nat) : Int); decide)) <|
  zgd_d (fun d => zo_l d rfl rfl trivial) <|
  zgd_d (fun d => zo_l d rfl rfl (by show ((19 : Nat) : Int) + (7) = ((26 : Nat) : Int); decide)) <|
  zgd_d (fun d => zo_l d rfl rfl trivial) <|
  zgd_d (fun d => zo_h d rfl ⟨rfl, Nat.le_of_ble_eq_true rfl, _, _, _, Or.inl ⟨Nat.le_of_ble_eq_true rfl, rfl⟩, Nat.le_of_ble_eq_true rfl, zw_163⟩) <|
  zgd_d (fun d => zo_r d rfl) <|
  zgd_n)
  (z_fn)
theorem zdd_72_0 : ∀ q ∈ zc_72_0, decode prog_7_method_31_code q.1 = Except.ok (q.2.1, q.2.2.1) := zdd_of (by decide +kernel)
theorem zk_72_0 (xs : List Int32) {l : List zE} (h : ∀ q ∈ l, z_oke' (za_T xs) za_P za_M ⟨"LyndonBench$Word", "leastTurn", "()I"⟩ prog_7_method_31_code q) : ∀ q ∈ zc_72_0 ++ l, z_oke' (za_T xs) za_P za_M ⟨"LyndonBench$Word", "leastTurn", "()I"⟩ prog_7_method_31_code q :=
  zgd_y zdd_72_0 <|
  zgd_e (fun d => zo_l d rfl rfl trivial) <|
  zgd_e (fun d => zo_l d rfl rfl trivial) <|
  zgd_e (fun d => zo_l d rfl rfl trivial) <|
  zgd_e (fun d => zo_l d rfl rfl trivial) <|
  zgd_e (fun d => zo_l d rfl rfl trivial) <|
  zgd_e (fun d => zo_l d rfl rfl trivial) <|
  zgd_e (fun d => zo_l d rfl rfl trivial) <|
  zgd_e (fun d => zo_l d rfl rfl trivial) <|
  zgd_e (fun d => zo_l d rfl rfl trivial) <|
  zgd_e (fun d => zo_l d rfl rfl trivial) <|
  zgd_e (fun d => zo_l d rfl rfl trivial) <|
  zgd_e (fun d => zo_h d rfl ⟨rfl, Nat.le_of_ble_eq_true rfl, _, _, _, Or.inl ⟨Nat.le_of_ble_eq_true rfl, rfl⟩, Nat.le_of_ble_eq_true rfl, zw_163⟩) <|
  zgd_e (fun d => zo_l d rfl rfl trivial) <|
  zgd_e (fun d => zo_l d rfl rfl (by show ((17 : Nat) : Int) + (88) = ((105 : Nat) : Int); decide)) <|
  zgd_e (fun d => zo_l d rfl rfl trivial) <|
  zgd_e (fun d => zo_l d rfl rfl trivial) <|
  zgd_e (fun d => zo_h d rfl ⟨rfl, Nat.le_of_ble_eq_true rfl, _, _, _, Or.inl ⟨Nat.le_of_ble_eq_true rfl, rfl⟩, Nat.le_of_ble_eq_true rfl, zw_163⟩) <|
  zgd_e (fun d => zo_l d rfl rfl (by show ((25 : Nat) : Int) + (80) = ((105 : Nat) : Int); decide)) <|
  zgd_e (fun d => zo_l d rfl rfl trivial) <|
  zgd_e (fun d => zo_l d rfl rfl trivial) <|
  zgd_e (fun d => zo_h d rfl ⟨rfl, Nat.le_of_ble_eq_true rfl, _, _, _, Or.inl ⟨Nat.le_of_ble_eq_true rfl, rfl⟩, Nat.le_of_ble_eq_true rfl, zw_163⟩) <|
  zgd_e (fun d => zo_l d rfl rfl (by show ((33 : Nat) : Int) + (72) = ((105 : Nat) : Int); decide)) <|
  zgd_e (fun d => zo_l d rfl rfl trivial) <|
  zgd_e (fun d => zo_l d rfl rfl trivial) <|
  zgd_e (fun d => zo_l d rfl rfl trivial) <|
  zgd_e (fun d => zo_l d rfl rfl trivial) <|
  zgd_e (fun d => zo_v d rfl ⟨rfl, zd_73, zw_503, Nat.le_of_ble_eq_true rfl, ⟨_, Or.inl ⟨Nat.le_of_ble_eq_true rfl, rfl⟩, rfl⟩, zw_501, zw_17⟩) <|
  zgd_e (fun d => zo_l d rfl rfl trivial) <|
  zgd_e (fun d => zo_l d rfl rfl trivial) <|
  zgd_e (fun d => zo_l d rfl rfl trivial) <|
  zgd_e (fun d => zo_l d rfl rfl trivial) <|
  zgd_e (fun d => zo_l d rfl rfl trivial) <|
  zgd_e (fun d => zo_v d rfl ⟨rfl, zd_73, zw_503, Nat.le_of_ble_eq_true rfl, ⟨_, Or.inl ⟨Nat.le_of_ble_eq_true rfl, rfl⟩, rfl⟩, zw_501, zw_17⟩) <|
  zgd_e (fun d => zo_l d rfl rfl trivial) <|
  zgd_e (fun d => zo_l d rfl rfl trivial) <|
  zgd_e (fun d => zo_l d rfl rfl trivial) <|
  zgd_e (fun d => zo_l d rfl rfl (by show ((58 : Nat) : Int) + (9) = ((67 : Nat) : Int); decide)) <|
  zgd_e (fun d => zo_l d rfl rfl trivial) <|
  zgd_e (fun d => zo_l d rfl rfl (by show ((64 : Nat) : Int) + (35) = ((99 : Nat) : Int); decide)) <|
  zgd_e (fun d => zo_l d rfl rfl trivial) <|
  zgd_m h
theorem zdd_72_1 : ∀ q ∈ zc_72_1, decode prog_7_method_31_code q.1 = Except.ok (q.2.1, q.2.2.1) := zdd_of (by decide +kernel)
theorem zk_72_1 (xs : List Int32) {l : List zE} (h : ∀ q ∈ l, z_oke' (za_T xs) za_P za_M ⟨"LyndonBench$Word", "leastTurn", "()I"⟩ prog_7_method_31_code q) : ∀ q ∈ zc_72_1 ++ l, z_oke' (za_T xs) za_P za_M ⟨"LyndonBench$Word", "leastTurn", "()I"⟩ prog_7_method_31_code q :=
  zgd_y zdd_72_1 <|
  zgd_e (fun d => zo_l d rfl rfl trivial) <|
  zgd_e (fun d => zo_l d rfl rfl (by show ((71 : Nat) : Int) + (20) = ((91 : Nat) : Int); decide)) <|
  zgd_e (fun d => zo_l d rfl rfl trivial) <|
  zgd_e (fun d => zo_l d rfl rfl trivial) <|
  zgd_e (fun d => zo_l d rfl rfl trivial) <|
  zgd_e (fun d => zo_l d rfl rfl trivial) <|
  zgd_e (fun d => zo_l d rfl rfl trivial) <|
  zgd_e (fun d => zo_l d rfl rfl trivial) <|
  zgd_e (fun d => zo_h d rfl ⟨rfl, zw_159, zw_160, zw_121, zw_161⟩) <|
  zgd_e (fun d => zo_l d rfl rfl trivial) <|
  zgd_e (fun d => zo_l d rfl rfl trivial) <|
  zgd_e (fun d => zo_l d rfl rfl trivial) <|
  zgd_e (fun d => zo_l d rfl rfl trivial) <|
  zgd_e (fun d => zo_l d rfl rfl trivial) <|
  zgd_e (fun d => zo_l d rfl rfl (by show ((88 : Nat) : Int) + (9) = ((97 : Nat) : Int); decide)) <|
  zgd_e (fun d => zo_l d rfl rfl trivial) <|
  zgd_e (fun d => zo_l d rfl rfl trivial) <|
  zgd_e (fun d => zo_l d rfl rfl trivial) <|
  zgd_e (fun d => zo_l d rfl rfl trivial) <|
  zgd_e (fun d => zo_l d rfl rfl trivial) <|
  zgd_e (fun d => zo_l d rfl rfl trivial) <|
  zgd_e (fun d => zo_l d rfl rfl trivial) <|
  zgd_e (fun d => zo_l d rfl rfl trivial) <|
  zgd_e (fun d => zo_l d rfl rfl trivial) <|
  zgd_e (fun d => zo_l d rfl rfl (by show ((102 : Nat) : Int) + (-93) = ((9 : Nat) : Int); decide)) <|
  zgd_e (fun d => zo_l d rfl rfl trivial) <|
  zgd_e (fun d => zo_r d rfl) <|
  zgd_m h
theorem zk_72 (xs : List Int32) : z_okm (za_T xs) za_P za_M 72 := z_okm_of ⟨"LyndonBench$Word", "leastTurn", "()I"⟩ prog_7_method_31_code zc_72 _ rfl rfl rfl rfl
  (zk_72_0 xs <|
  zk_72_1 xs <|
  z_fn)
  (z_fn)
theorem zdd_73 : ∀ q ∈ zc_73, decode prog_7_method_32_code q.1 = Except.ok (q.2.1, q.2.2.1) := zdd_of (by decide +kernel)
theorem zk_73 (xs : List Int32) : z_okm (za_T xs) za_P za_M 73 := z_okm_of ⟨"LyndonBench$Word", "atAround", "(I)I"⟩ prog_7_method_32_code zc_73 _ rfl rfl rfl rfl
  (zgd_x zdd_73 <|
  zgd_d (fun d => zo_l d rfl rfl trivial) <|
  zgd_d (fun d => zo_l d rfl rfl trivial) <|
  zgd_d (fun d => zo_l d rfl rfl trivial) <|
  zgd_d (fun d => zo_h d rfl ⟨rfl, Nat.le_of_ble_eq_true rfl, _, _, _, Or.inl ⟨Nat.le_of_ble_eq_true rfl, rfl⟩, Nat.le_of_ble_eq_true rfl, zw_163⟩) <|
  zgd_d (fun d => zo_l d rfl rfl (by show ((6 : Nat) : Int) + (7) = ((13 : Nat) : Int); decide)) <|
  zgd_d (fun d => zo_l d rfl rfl trivial) <|
  zgd_d (fun d => zo_l d rfl rfl (by show ((10 : Nat) : Int) + (9) = ((19 : Nat) : Int); decide)) <|
  zgd_d (fun d => zo_l d rfl rfl trivial) <|
  zgd_d (fun d => zo_l d rfl rfl trivial) <|
  zgd_d (fun d => zo_h d rfl ⟨rfl, Nat.le_of_ble_eq_true rfl, _, _, _, Or.inl ⟨Nat.le_of_ble_eq_true rfl, rfl⟩, Nat.le_of_ble_eq_true rfl, zw_163⟩) <|
  zgd_d (fun d => zo_l d rfl rfl trivial) <|
  zgd_d (fun d => zo_v d rfl ⟨rfl, zd_43, zw_338, Nat.le_of_ble_eq_true rfl, ⟨_, Or.inl ⟨Nat.le_of_ble_eq_true rfl, rfl⟩, rfl⟩, zw_337, zw_339⟩) <|
  zgd_d (fun d => zo_r d rfl) <|
  zgd_n)
  (z_fn)
theorem zdd_74 : ∀ q ∈ zc_74, decode prog_7_method_33_code q.1 = Except.ok (q.2.1, q.2.2.1) := zdd_of (by decide +kernel)
theorem zk_74 (xs : List Int32) : z_okm (za_T xs) za_P za_M 74 := z_okm_of ⟨"LyndonBench$Word", "extremeEnding", "(I)I"⟩ prog_7_method_33_code zc_74 _ rfl rfl rfl rfl
  (zgd_x zdd_74 <|
  zgd_d (fun d => zo_l d rfl rfl trivial) <|
  zgd_d (fun d => zo_h d rfl ⟨rfl, Nat.le_of_ble_eq_true rfl, _, _, _, Or.inl ⟨Nat.le_of_ble_eq_true rfl, rfl⟩, Nat.le_of_ble_eq_true rfl, zw_163⟩) <|
  zgd_d (fun d => zo_l d rfl rfl trivial) <|
  zgd_d (fun d => zo_l d rfl rfl trivial) <|
  zgd_d (fun d => zo_l d rfl rfl trivial) <|
  zgd_d (fun d => zo_l d rfl rfl trivial) <|
  zgd_d (fun d => zo_h d rfl ⟨rfl, Nat.le_of_ble_eq_true rfl, _, _, _, Or.inl ⟨Nat.le_of_ble_eq_true rfl, rfl⟩, Nat.le_of_ble_eq_true rfl, zw_163⟩) <|
  zgd_d (fun d => zo_l d rfl rfl trivial) <|
  zgd_d (fun d => zo_l d rfl rfl trivial) <|
  zgd_d (fun d => zo_l d rfl rfl trivial) <|
  zgd_d (fun d => zo_l d rfl rfl trivial) <|
  zgd_d (fun d => zo_l d rfl rfl (by show ((15 : Nat) : Int) + (30) = ((45 : Nat) : Int); decide)) <|
  zgd_d (fun d => zo_l d rfl rfl trivial) <|
  zgd_d (fun d => zo_l d rfl rfl trivial) <|
  zgd_d (fun d => zo_l d rfl rfl trivial) <|
  zgd_d (fun d => zo_h d rfl ⟨rfl, Nat.le_of_ble_eq_true rfl, _, _, _, Or.inl ⟨Nat.le_of_ble_eq_true rfl, rfl⟩, Nat.le_of_ble_eq_true rfl, zw_163⟩) <|
  zgd_d (fun d => zo_l d rfl rfl trivial) <|
  zgd_d (fun d => zo_l d rfl rfl trivial) <|
  zgd_d (fun d => zo_l d rfl rfl trivial) <|
  zgd_d (fun d => zo_h d rfl ⟨rfl, Nat.le_of_ble_eq_true rfl, _, _, _, Or.inl ⟨Nat.le_of_ble_eq_true rfl, rfl⟩, Nat.le_of_ble_eq_true rfl, zw_163⟩) <|
  zgd_d (fun d => zo_v d rfl ⟨rfl, zd_58, zw_544, Nat.le_of_ble_eq_true rfl, ⟨_, Or.inl ⟨Nat.le_of_ble_eq_true rfl, rfl⟩, rfl⟩, zw_543, zw_545⟩) <|
  zgd_d (fun d => zo_l d rfl rfl trivial) <|
  zgd_d (fun d => zo_l d rfl rfl (by show ((34 : Nat) : Int) + (5) = ((39 : Nat) : Int); decide)) <|
  zgd_d (fun d => zo_l d rfl rfl trivial) <|
  zgd_d (fun d => zo_l d rfl rfl trivial) <|
  zgd_d (fun d => zo_l d rfl rfl trivial) <|
  zgd_d (fun d => zo_l d rfl rfl (by show ((42 : Nat) : Int) + (-28) = ((14 : Nat) : Int); decide)) <|
  zgd_d (fun d => zo_l d rfl rfl trivial) <|
  zgd_d (fun d => zo_h d rfl ⟨rfl, Nat.le_of_ble_eq_true rfl, _, _, _, Or.inl ⟨Nat.le_of_ble_eq_true rfl, rfl⟩, Nat.le_of_ble_eq_true rfl, zw_163⟩) <|
  zgd_d (fun d => zo_l d rfl rfl (by show ((49 : Nat) : Int) + (7) = ((56 : Nat) : Int); decide)) <|
  zgd_d (fun d => zo_l d rfl rfl trivial) <|
  zgd_d (fun d => zo_l d rfl rfl (by show ((53 : Nat) : Int) + (4) = ((57 : Nat) : Int); decide)) <|
  zgd_d (fun d => zo_l d rfl rfl trivial) <|
  zgd_d (fun d => zo_r d rfl) <|
  zgd_n)
  (z_fn)
theorem zdd_75_0 : ∀ q ∈ zc_75_0, decode prog_7_method_34_code q.1 = Except.ok (q.2.1, q.2.2.1) := zdd_of (by decide +kernel)
theorem zk_75_0 (xs : List Int32) {l : List zE} (h : ∀ q ∈ l, z_oke' (za_T xs) za_P za_M ⟨"LyndonBench$Word", "stepLyndon", "(II)V"⟩ prog_7_method_34_code q) : ∀ q ∈ zc_75_0 ++ l, z_oke' (za_T xs) za_P za_M ⟨"LyndonBench$Word", "stepLyndon", "(II)V"⟩ prog_7_method_34_code q :=
  zgd_y zdd_75_0 <|
  zgd_e (fun d => zo_l d rfl rfl trivial) <|
  zgd_e (fun d => zo_h d rfl ⟨rfl, Nat.le_of_ble_eq_true rfl, _, _, _, Or.inl ⟨Nat.le_of_ble_eq_true rfl, rfl⟩, Nat.le_of_ble_eq_true rfl, zw_163⟩) <|
  zgd_e (fun d => zo_l d rfl rfl trivial) <|
  zgd_e (fun d => zo_l d rfl rfl trivial) <|
  zgd_e (fun d => zo_l d rfl rfl (by show ((6 : Nat) : Int) + (4) = ((10 : Nat) : Int); decide)) <|
  zgd_e (fun d => zo_e d) <|
  zgd_e (fun d => zo_l d rfl rfl trivial) <|
  zgd_e (fun d => zo_l d rfl rfl trivial) <|
  zgd_e (fun d => zo_l d rfl rfl trivial) <|
  zgd_e (fun d => zo_l d rfl rfl trivial) <|
  zgd_e (fun d => zo_l d rfl rfl (by show ((16 : Nat) : Int) + (21) = ((37 : Nat) : Int); decide)) <|
  zgd_e (fun d => zo_l d rfl rfl trivial) <|
  zgd_e (fun d => zo_l d rfl rfl trivial) <|
  zgd_e (fun d => zo_l d rfl rfl trivial) <|
  zgd_e (fun d => zo_l d rfl rfl trivial) <|
  zgd_e (fun d => zo_l d rfl rfl trivial) <|
  zgd_e (fun d => zo_v d rfl ⟨rfl, zd_43, zw_338, Nat.le_of_ble_eq_true rfl, ⟨_, Or.inl ⟨Nat.le_of_ble_eq_true rfl, rfl⟩, rfl⟩, zw_337, zw_339⟩) <|
  zgd_e (fun d => zo_v d rfl ⟨rfl, zd_46, zw_325, Nat.le_of_ble_eq_true rfl, ⟨_, Or.inl ⟨Nat.le_of_ble_eq_true rfl, rfl⟩, rfl⟩, zw_324, zw_326⟩) <|
  zgd_e (fun d => zo_l d rfl rfl trivial) <|
  zgd_e (fun d => zo_l d rfl rfl (by show ((34 : Nat) : Int) + (-21) = ((13 : Nat) : Int); decide)) <|
  zgd_e (fun d => zo_l d rfl rfl trivial) <|
  zgd_e (fun d => zo_h d rfl ⟨rfl, Nat.le_of_ble_eq_true rfl, _, _, _, Or.inl ⟨Nat.le_of_ble_eq_true rfl, rfl⟩, Nat.le_of_ble_eq_true rfl, zw_163⟩) <|
  zgd_e (fun d => zo_l d rfl rfl trivial) <|
  zgd_e (fun d => zo_l d rfl rfl trivial) <|
  zgd_e (fun d => zo_l d rfl rfl trivial) <|
  zgd_e (fun d => zo_l d rfl rfl trivial) <|
  zgd_e (fun d => zo_l d rfl rfl trivial) <|
  zgd_e (fun d => zo_l d rfl rfl trivial) <|
  zgd_e (fun d => zo_l d rfl rfl trivial) <|
  zgd_e (fun d => zo_l d rfl rfl (by show ((51 : Nat) : Int) + (22) = ((73 : Nat) : Int); decide)) <|
  zgd_e (fun d => zo_l d rfl rfl trivial) <|
  zgd_e (fun d => zo_l d rfl rfl trivial) <|
  zgd_e (fun d => zo_v d rfl ⟨rfl, zd_43, zw_338, Nat.le_of_ble_eq_true rfl, ⟨_, Or.inl ⟨Nat.le_of_ble_eq_true rfl, rfl⟩, rfl⟩, zw_337, zw_339⟩) <|
  zgd_e (fun d => zo_l d rfl rfl trivial) <|
  zgd_e (fun d => zo_l d rfl rfl (by show ((61 : Nat) : Int) + (12) = ((73 : Nat) : Int); decide)) <|
  zgd_e (fun d => zo_l d rfl rfl trivial) <|
  zgd_e (fun d => zo_l d rfl rfl trivial) <|
  zgd_e (fun d => zo_l d rfl rfl (by show ((70 : Nat) : Int) + (-22) = ((48 : Nat) : Int); decide)) <|
  zgd_e (fun d => zo_l d rfl rfl trivial) <|
  zgd_e (fun d => zo_l d rfl rfl trivial) <|
  zgd_m h
theorem zdd_75_1 : ∀ q ∈ zc_75_1, decode prog_7_method_34_code q.1 = Except.ok (q.2.1, q.2.2.1) := zdd_of (by decide +kernel)
theorem zk_75_1 (xs : List Int32) {l : List zE} (h : ∀ q ∈ l, z_oke' (za_T xs) za_P za_M ⟨"LyndonBench$Word", "stepLyndon", "(II)V"⟩ prog_7_method_34_code q) : ∀ q ∈ zc_75_1 ++ l, z_oke' (za_T xs) za_P za_M ⟨"LyndonBench$Word", "stepLyndon", "(II)V"⟩ prog_7_method_34_code q :=
  zgd_y zdd_75_1 <|
  zgd_e (fun d => zo_l d rfl rfl trivial) <|
  zgd_e (fun d => zo_l d rfl rfl trivial) <|
  zgd_e (fun d => zo_v d rfl ⟨rfl, zd_52, zw_455, Nat.le_of_ble_eq_true rfl, ⟨_, Or.inl ⟨Nat.le_of_ble_eq_true rfl, rfl⟩, rfl⟩, zw_475, zw_456⟩) <|
  zgd_e (fun d => zo_l d rfl rfl trivial) <|
  zgd_e (fun d => zo_l d rfl rfl trivial) <|
  zgd_e (fun d => zo_l d rfl rfl trivial) <|
  zgd_e (fun d => zo_l d rfl rfl trivial) <|
  zgd_e (fun d => zo_v d rfl ⟨rfl, zd_43, zw_338, Nat.le_of_ble_eq_true rfl, ⟨_, Or.inl ⟨Nat.le_of_ble_eq_true rfl, rfl⟩, rfl⟩, zw_337, zw_339⟩) <|
  zgd_e (fun d => zo_l d rfl rfl trivial) <|
  zgd_e (fun d => zo_l d rfl rfl trivial) <|
  zgd_e (fun d => zo_v d rfl ⟨rfl, zd_44, zw_473, Nat.le_of_ble_eq_true rfl, ⟨_, Or.inl ⟨Nat.le_of_ble_eq_true rfl, rfl⟩, rfl⟩, zw_471, zw_13⟩) <|
  zgd_e (fun d => zo_e d) <|
  zgd_m h
theorem zk_75 (xs : List Int32) : z_okm (za_T xs) za_P za_M 75 := z_okm_of ⟨"LyndonBench$Word", "stepLyndon", "(II)V"⟩ prog_7_method_34_code zc_75 _ rfl rfl rfl rfl
  (zk_75_0 xs <|
  zk_75_1 xs <|
  z_fn)
  (z_fn)
theorem zdd_76_0 : ∀ q ∈ zc_76_0, decode prog_1_method_1_code q.1 = Except.ok (q.2.1, q.2.2.1) := zdd_of (by decide +kernel)
theorem zk_76_0 (xs : List Int32) {l : List zE} (h : ∀ q ∈ l, z_oke' (za_T xs) za_P za_M ⟨"LyndonBench", "<init>", "()V"⟩ prog_1_method_1_code q) : ∀ q ∈ zc_76_0 ++ l, z_oke' (za_T xs) za_P za_M ⟨"LyndonBench", "<init>", "()V"⟩ prog_1_method_1_code q :=
  zgd_y zdd_76_0 <|
  zgd_e (fun d => zo_l d rfl rfl trivial) <|
  zgd_e (fun d => zo_h d rfl ⟨rfl, zw_144, zw_145, zw_146⟩) <|
  zgd_e (fun d => zo_l d rfl rfl trivial) <|
  zgd_e (fun d => zo_h d rfl ⟨rfl, Nat.le_of_ble_eq_true rfl, _, _, rfl, zn_3, zm_3, zw_147, zw_148, zw_119⟩) <|
  zgd_e (fun d => zo_l d rfl rfl trivial) <|
  zgd_e (fun d => zo_n d rfl ⟨rfl, zd_28, rfl, rfl, zw_150, Or.inl zw_149⟩) <|
  zgd_e (fun d => zo_h d rfl ⟨rfl, Nat.le_of_ble_eq_true rfl, _, _, _, rfl, Nat.le_of_ble_eq_true rfl, zw_341, Or.inr ⟨rfl, rfl, rfl⟩⟩) <|
  zgd_e (fun d => zo_l d rfl rfl trivial) <|
  zgd_e (fun d => zo_h d rfl ⟨rfl, Nat.le_of_ble_eq_true rfl, _, _, rfl, zn_1, zm_1, zw_192, zw_193, zw_122⟩) <|
  zgd_e (fun d => zo_l d rfl rfl trivial) <|
  zgd_e (fun d => zo_n d rfl ⟨rfl, zd_1, rfl, rfl, zw_195, Or.inl zw_194⟩) <|
  zgd_e (fun d => zo_h d rfl ⟨rfl, Nat.le_of_ble_eq_true rfl, _, _, _, rfl, Nat.le_of_ble_eq_true rfl, zw_342, Or.inr ⟨rfl, rfl, rfl⟩⟩) <|
  zgd_e (fun d => zo_l d rfl rfl trivial) <|
  zgd_e (fun d => zo_h d rfl ⟨rfl, Nat.le_of_ble_eq_true rfl, _, _, rfl, zn_3, zm_3, zw_147, zw_148, zw_119⟩) <|
  zgd_e (fun d => zo_l d rfl rfl trivial) <|
  zgd_e (fun d => zo_n d rfl ⟨rfl, zd_28, rfl, rfl, zw_150, Or.inl zw_149⟩) <|
  zgd_e (fun d => zo_h d rfl ⟨rfl, Nat.le_of_ble_eq_true rfl, _, _, _, rfl, Nat.le_of_ble_eq_true rfl, zw_343, Or.inr ⟨rfl, rfl, rfl⟩⟩) <|
  zgd_e (fun d => zo_l d rfl rfl trivial) <|
  zgd_e (fun d => zo_l d rfl rfl trivial) <|
  zgd_e (fun d => zo_h d rfl ⟨rfl, Nat.le_of_ble_eq_true rfl, _, _, _, rfl, Nat.le_of_ble_eq_true rfl, zw_344, Or.inl rfl⟩) <|
  zgd_e (fun d => zo_l d rfl rfl trivial) <|
  zgd_e (fun d => zo_h d rfl ⟨rfl, Nat.le_of_ble_eq_true rfl, _, _, rfl, zn_2, zm_2, zw_209, zw_210, zw_123⟩) <|
  zgd_e (fun d => zo_l d rfl rfl trivial) <|
  zgd_e (fun d => zo_n d rfl ⟨rfl, zd_5, rfl, rfl, zw_212, Or.inr ⟨"LyndonBench", by decide +kernel⟩⟩) <|
  zgd_e (fun d => zo_h d rfl ⟨rfl, Nat.le_of_ble_eq_true rfl, _, _, _, rfl, Nat.le_of_ble_eq_true rfl, zw_345, Or.inr ⟨rfl, rfl, rfl⟩⟩) <|
  zgd_e (fun d => zo_l d rfl rfl trivial) <|
  zgd_e (fun d => zo_h d rfl ⟨rfl, Nat.le_of_ble_eq_true rfl, _, _, rfl, zn_4, zm_4, zw_261, zw_154, zw_120⟩) <|
  zgd_e (fun d => zo_l d rfl rfl trivial) <|
  zgd_e (fun d => zo_l d rfl rfl trivial) <|
  zgd_e (fun d => zo_n d rfl ⟨rfl, zd_42, rfl, rfl, zw_156, Or.inl zw_262⟩) <|
  zgd_e (fun d => zo_h d rfl ⟨rfl, Nat.le_of_ble_eq_true rfl, _, _, _, rfl, Nat.le_of_ble_eq_true rfl, zw_346, Or.inr ⟨rfl, rfl, rfl⟩⟩) <|
  zgd_e (fun d => zo_l d rfl rfl trivial) <|
  zgd_e (fun d => zo_h d rfl ⟨rfl, Nat.le_of_ble_eq_true rfl, _, _, rfl, zn_4, zm_4, zw_261, zw_154, zw_120⟩) <|
  zgd_e (fun d => zo_l d rfl rfl trivial) <|
  zgd_e (fun d => zo_l d rfl rfl trivial) <|
  zgd_e (fun d => zo_n d rfl ⟨rfl, zd_42, rfl, rfl, zw_156, Or.inl zw_262⟩) <|
  zgd_e (fun d => zo_h d rfl ⟨rfl, Nat.le_of_ble_eq_true rfl, _, _, _, rfl, Nat.le_of_ble_eq_true rfl, zw_347, Or.inr ⟨rfl, rfl, rfl⟩⟩) <|
  zgd_e (fun d => zo_l d rfl rfl trivial) <|
  zgd_e (fun d => zo_h d rfl ⟨rfl, Nat.le_of_ble_eq_true rfl, _, _, _, Or.inl ⟨Nat.le_of_ble_eq_true rfl, rfl⟩, Nat.le_of_ble_eq_true rfl, zw_341⟩) <|
  zgd_e (fun d => zo_l d rfl rfl trivial) <|
  zgd_m h
theorem zdd_76_1 : ∀ q ∈ zc_76_1, decode prog_1_method_1_code q.1 = Except.ok (q.2.1, q.2.2.1) := zdd_of (by decide +kernel)
theorem zk_76_1 (xs : List Int32) {l : List zE} (h : ∀ q ∈ l, z_oke' (za_T xs) za_P za_M ⟨"LyndonBench", "<init>", "()V"⟩ prog_1_method_1_code q) : ∀ q ∈ zc_76_1 ++ l, z_oke' (za_T xs) za_P za_M ⟨"LyndonBench", "<init>", "()V"⟩ prog_1_method_1_code q :=
  zgd_y zdd_76_1 <|
  zgd_e (fun d => zo_v d rfl ⟨rfl, zd_29, zw_264, Nat.le_of_ble_eq_true rfl, ⟨_, Or.inl ⟨Nat.le_of_ble_eq_true rfl, rfl⟩, rfl⟩, zw_263, zw_265⟩) <|
  zgd_e (fun d => zo_l d rfl rfl trivial) <|
  zgd_e (fun d => zo_h d rfl ⟨rfl, Nat.le_of_ble_eq_true rfl, _, _, _, Or.inl ⟨Nat.le_of_ble_eq_true rfl, rfl⟩, Nat.le_of_ble_eq_true rfl, zw_341⟩) <|
  zgd_e (fun d => zo_h d rfl ⟨rfl, Nat.le_of_ble_eq_true rfl, _, _, _, Or.inl ⟨Nat.le_of_ble_eq_true rfl, rfl⟩, Nat.le_of_ble_eq_true rfl, zw_177⟩) <|
  zgd_e (fun d => zo_h d rfl ⟨rfl, Or.inr ⟨rfl, _, rfl, rfl, rfl⟩⟩) <|
  zgd_e (fun d => zo_v d rfl ⟨rfl, zd_48, zw_273, Nat.le_of_ble_eq_true rfl, ⟨_, Or.inl ⟨Nat.le_of_ble_eq_true rfl, rfl⟩, rfl⟩, zw_272, zw_274⟩) <|
  zgd_e (fun d => zo_l d rfl rfl trivial) <|
  zgd_e (fun d => zo_h d rfl ⟨rfl, Nat.le_of_ble_eq_true rfl, _, _, _, Or.inl ⟨Nat.le_of_ble_eq_true rfl, rfl⟩, Nat.le_of_ble_eq_true rfl, zw_347⟩) <|
  zgd_e (fun d => zo_h d rfl ⟨rfl, Or.inr ⟨rfl, _, rfl, rfl, rfl⟩⟩) <|
  zgd_e (fun d => zo_v d rfl ⟨rfl, zd_48, zw_273, Nat.le_of_ble_eq_true rfl, ⟨_, Or.inl ⟨Nat.le_of_ble_eq_true rfl, rfl⟩, rfl⟩, zw_272, zw_274⟩) <|
  zgd_e (fun d => zo_l d rfl rfl trivial) <|
  zgd_e (fun d => zo_h d rfl ⟨rfl, Nat.le_of_ble_eq_true rfl, _, _, _, Or.inl ⟨Nat.le_of_ble_eq_true rfl, rfl⟩, Nat.le_of_ble_eq_true rfl, zw_341⟩) <|
  zgd_e (fun d => zo_l d rfl rfl trivial) <|
  zgd_e (fun d => zo_h d rfl ⟨rfl, Nat.le_of_ble_eq_true rfl, _, _, _, Or.inl ⟨Nat.le_of_ble_eq_true rfl, rfl⟩, Nat.le_of_ble_eq_true rfl, zw_347⟩) <|
  zgd_e (fun d => zo_l d rfl rfl trivial) <|
  zgd_e (fun d => zo_l d rfl rfl trivial) <|
  zgd_e (fun d => zo_v d rfl ⟨rfl, zd_36, zw_330, Nat.le_of_ble_eq_true rfl, ⟨_, Or.inl ⟨Nat.le_of_ble_eq_true rfl, rfl⟩, rfl⟩, zw_329, zw_331⟩) <|
  zgd_e (fun d => zo_l d rfl rfl trivial) <|
  zgd_e (fun d => zo_h d rfl ⟨rfl, Nat.le_of_ble_eq_true rfl, _, _, _, Or.inl ⟨Nat.le_of_ble_eq_true rfl, rfl⟩, Nat.le_of_ble_eq_true rfl, zw_341⟩) <|
  zgd_e (fun d => zo_l d rfl rfl trivial) <|
  zgd_e (fun d => zo_h d rfl ⟨rfl, Nat.le_of_ble_eq_true rfl, _, _, _, Or.inl ⟨Nat.le_of_ble_eq_true rfl, rfl⟩, Nat.le_of_ble_eq_true rfl, zw_347⟩) <|
  zgd_e (fun d => zo_l d rfl rfl trivial) <|
  zgd_e (fun d => zo_l d rfl rfl trivial) <|
  zgd_e (fun d => zo_v d rfl ⟨rfl, zd_36, zw_330, Nat.le_of_ble_eq_true rfl, ⟨_, Or.inl ⟨Nat.le_of_ble_eq_true rfl, rfl⟩, rfl⟩, zw_329, zw_331⟩) <|
  zgd_e (fun d => zo_e d) <|
  zgd_m h
theorem zk_76 (xs : List Int32) : z_okm (za_T xs) za_P za_M 76 := z_okm_of ⟨"LyndonBench", "<init>", "()V"⟩ prog_1_method_1_code zc_76 _ rfl rfl rfl rfl
  (zk_76_0 xs <|
  zk_76_1 xs <|
  z_fn)
  (z_fn)
theorem zdd_77 : ∀ q ∈ zc_77, decode prog_1_method_2_code q.1 = Except.ok (q.2.1, q.2.2.1) := zdd_of (by decide +kernel)
theorem zk_77 (xs : List Int32) : z_okm (za_T xs) za_P za_M 77 := z_okm_of ⟨"LyndonBench", "append", "(IIIII)I"⟩ prog_1_method_2_code zc_77 _ rfl rfl rfl rfl
  (zgd_x zdd_77 <|
  zgd_d (fun d => zo_l d rfl rfl trivial) <|
  zgd_d (fun d => zo_h d rfl ⟨rfl, Nat.le_of_ble_eq_true rfl, _, _, _, Or.inl ⟨Nat.le_of_ble_eq_true rfl, rfl⟩, Nat.le_of_ble_eq_true rfl, zw_345⟩) <|
  zgd_d (fun d => zo_h d rfl ⟨rfl, Nat.le_of_ble_eq_true rfl, _, _, _, Or.inl ⟨Nat.le_of_ble_eq_true rfl, rfl⟩, Nat.le_of_ble_eq_true rfl, zw_220⟩) <|
  zgd_d (fun d => zo_l d rfl rfl trivial) <|
  zgd_d (fun d => zo_l d rfl rfl trivial) <|
  zgd_d (fun d => zo_h d rfl ⟨rfl, Nat.le_of_ble_eq_true rfl, _, _, _, Or.inl ⟨Nat.le_of_ble_eq_true rfl, rfl⟩, Nat.le_of_ble_eq_true rfl, zw_164⟩) <|
  zgd_d (fun d => zo_l d rfl rfl trivial) <|
  zgd_d (fun d => zo_l d rfl rfl (by show ((17 : Nat) : Int) + (5) = ((22 : Nat) : Int); decide)) <|
  zgd_d (fun d => zo_l d rfl rfl trivial) <|
  zgd_d (fun d => zo_r d rfl) <|
  zgd_d (fun d => zo_l d rfl rfl trivial) <|
  zgd_d (fun d => zo_l d rfl rfl trivial) <|
  zgd_d (fun d => zo_v d rfl ⟨rfl, zd_47, zw_368, Nat.le_of_ble_eq_true rfl, ⟨_, Or.inl ⟨Nat.le_of_ble_eq_true rfl, rfl⟩, rfl⟩, zw_367, zw_369⟩) <|
  zgd_d (fun d => zo_l d rfl rfl trivial) <|
  zgd_d (fun d => zo_l d rfl rfl trivial) <|
  zgd_d (fun d => zo_v d rfl ⟨rfl, zd_47, zw_368, Nat.le_of_ble_eq_true rfl, ⟨_, Or.inl ⟨Nat.le_of_ble_eq_true rfl, rfl⟩, rfl⟩, zw_367, zw_369⟩) <|
  zgd_d (fun d => zo_l d rfl rfl trivial) <|
  zgd_d (fun d => zo_l d rfl rfl trivial) <|
  zgd_d (fun d => zo_v d rfl ⟨rfl, zd_47, zw_368, Nat.le_of_ble_eq_true rfl, ⟨_, Or.inl ⟨Nat.le_of_ble_eq_true rfl, rfl⟩, rfl⟩, zw_367, zw_369⟩) <|
  zgd_d (fun d => zo_l d rfl rfl trivial) <|
  zgd_d (fun d => zo_l d rfl rfl trivial) <|
  zgd_d (fun d => zo_v d rfl ⟨rfl, zd_47, zw_368, Nat.le_of_ble_eq_true rfl, ⟨_, Or.inl ⟨Nat.le_of_ble_eq_true rfl, rfl⟩, rfl⟩, zw_367, zw_369⟩) <|
  zgd_d (fun d => zo_l d rfl rfl trivial) <|
  zgd_d (fun d => zo_l d rfl rfl trivial) <|
  zgd_d (fun d => zo_v d rfl ⟨rfl, zd_47, zw_368, Nat.le_of_ble_eq_true rfl, ⟨_, Or.inl ⟨Nat.le_of_ble_eq_true rfl, rfl⟩, rfl⟩, zw_367, zw_369⟩) <|
  zgd_d (fun d => zo_l d rfl rfl trivial) <|
  zgd_d (fun d => zo_h d rfl ⟨rfl, Nat.le_of_ble_eq_true rfl, _, _, _, Or.inl ⟨Nat.le_of_ble_eq_true rfl, rfl⟩, Nat.le_of_ble_eq_true rfl, zw_164⟩) <|
  zgd_d (fun d => zo_r d rfl) <|
  zgd_n)
  (z_fn)
theorem zdd_78 : ∀ q ∈ zc_78, decode prog_1_method_3_code q.1 = Except.ok (q.2.1, q.2.2.1) := zdd_of (by decide +kernel)
theorem zk_78 (xs : List Int32) : z_okm (za_T xs) za_P za_M 78 := z_okm_of ⟨"LyndonBench", "truncateInput", "(I)I"⟩ prog_1_method_3_code zc_78 _ rfl rfl rfl rfl
  (zgd_x zdd_78 <|
  zgd_d (fun d => zo_l d rfl rfl trivial) <|
  zgd_d (fun d => zo_l d rfl rfl (by show ((1 : Nat) : Int) + (17) = ((18 : Nat) : Int); decide)) <|
  zgd_d (fun d => zo_l d rfl rfl trivial) <|
  zgd_d (fun d => zo_l d rfl rfl trivial) <|
  zgd_d (fun d => zo_h d rfl ⟨rfl, Nat.le_of_ble_eq_true rfl, _, _, _, Or.inl ⟨Nat.le_of_ble_eq_true rfl, rfl⟩, Nat.le_of_ble_eq_true rfl, zw_345⟩) <|
  zgd_d (fun d => zo_h d rfl ⟨rfl, Nat.le_of_ble_eq_true rfl, _, _, _, Or.inl ⟨Nat.le_of_ble_eq_true rfl, rfl⟩, Nat.le_of_ble_eq_true rfl, zw_220⟩) <|
  zgd_d (fun d => zo_h d rfl ⟨rfl, Nat.le_of_ble_eq_true rfl, _, _, _, Or.inl ⟨Nat.le_of_ble_eq_true rfl, rfl⟩, Nat.le_of_ble_eq_true rfl, zw_164⟩) <|
  zgd_d (fun d => zo_l d rfl rfl (by show ((15 : Nat) : Int) + (13) = ((28 : Nat) : Int); decide)) <|
  zgd_d (fun d => zo_t d rfl ⟨["java/lang/RuntimeException", "java/lang/Exception"], 79, 81, 2, _, none, by decide +kernel, by decide +kernel, by decide, zw_804, zw_132, rfl, rfl, rfl, zt_0a, zt_0b, zt_0c_77, trivial, by decide +kernel, by decide +kernel, Or.inl ⟨by decide +kernel, by decide +kernel, by decide +kernel⟩⟩) <|
  zgd_d (fun d => zo_l d rfl rfl trivial) <|
  zgd_d (fun d => zo_h d rfl ⟨rfl, Nat.le_of_ble_eq_true rfl, _, _, _, Or.inl ⟨Nat.le_of_ble_eq_true rfl, rfl⟩, Nat.le_of_ble_eq_true rfl, zw_345⟩) <|
  zgd_d (fun d => zo_h d rfl ⟨rfl, Nat.le_of_ble_eq_true rfl, _, _, _, Or.inl ⟨Nat.le_of_ble_eq_true rfl, rfl⟩, Nat.le_of_ble_eq_true rfl, zw_220⟩) <|
  zgd_d (fun d => zo_l d rfl rfl trivial) <|
  zgd_d (fun d => zo_v d rfl ⟨rfl, zd_52, zw_455, Nat.le_of_ble_eq_true rfl, ⟨_, Or.inl ⟨Nat.le_of_ble_eq_true rfl, rfl⟩, rfl⟩, zw_872, zw_456⟩) <|
  zgd_d (fun d => zo_l d rfl rfl trivial) <|
  zgd_d (fun d => zo_r d rfl) <|
  zgd_n)
  (z_fn)
theorem zdd_79 : ∀ q ∈ zc_79, decode prog_1_method_4_code q.1 = Except.ok (q.2.1, q.2.2.1) := zdd_of (by decide +kernel)
theorem zk_79 (xs : List Int32) : z_okm (za_T xs) za_P za_M 79 := z_okm_of ⟨"LyndonBench", "runScript", "()I"⟩ prog_1_method_4_code zc_79 _ rfl rfl rfl rfl
  (zgd_x zdd_79 <|
  zgd_d (fun d => zo_l d rfl rfl trivial) <|
  zgd_d (fun d => zo_h d rfl ⟨rfl, Nat.le_of_ble_eq_true rfl, _, _, _, Or.inl ⟨Nat.le_of_ble_eq_true rfl, rfl⟩, Nat.le_of_ble_eq_true rfl, zw_345⟩) <|
  zgd_d (fun d => zo_v d rfl ⟨rfl, zd_6, zw_376, Nat.le_of_ble_eq_true rfl, ⟨_, Or.inl ⟨Nat.le_of_ble_eq_true rfl, rfl⟩, rfl⟩, zw_375, zw_377⟩) <|
  zgd_d (fun d => zo_l d rfl rfl trivial) <|
  zgd_d (fun d => zo_l d rfl rfl trivial) <|
  zgd_d (fun d => zo_h d rfl ⟨rfl, Nat.le_of_ble_eq_true rfl, _, _, _, Or.inl ⟨Nat.le_of_ble_eq_true rfl, rfl⟩, Nat.le_of_ble_eq_true rfl, zw_345⟩) <|
  zgd_d (fun d => zo_h d rfl ⟨rfl, Nat.le_of_ble_eq_true rfl, _, _, _, Or.inl ⟨Nat.le_of_ble_eq_true rfl, rfl⟩, Nat.le_of_ble_eq_true rfl, zw_220⟩) <|
  zgd_d (fun d => zo_v d rfl ⟨rfl, zd_45, zw_268, Nat.le_of_ble_eq_true rfl, ⟨_, Or.inl ⟨Nat.le_of_ble_eq_true rfl, rfl⟩, rfl⟩, zw_588, zw_269⟩) <|
  zgd_d (fun d => zo_l d rfl rfl trivial) <|
  zgd_d (fun d => zo_l d rfl rfl (by show ((19 : Nat) : Int) + (5) = ((24 : Nat) : Int); decide)) <|
  zgd_d (fun d => zo_l d rfl rfl trivial) <|
  zgd_d (fun d => zo_r d rfl) <|
  zgd_d (fun d => zo_l d rfl rfl trivial) <|
  zgd_d (fun d => zo_h d rfl ⟨rfl, Nat.le_of_ble_eq_true rfl, _, _, _, Or.inl ⟨Nat.le_of_ble_eq_true rfl, rfl⟩, Nat.le_of_ble_eq_true rfl, zw_342⟩) <|
  zgd_d (fun d => zo_l d rfl rfl trivial) <|
  zgd_d (fun d => zo_h d rfl ⟨rfl, Nat.le_of_ble_eq_true rfl, _, _, _, Or.inl ⟨Nat.le_of_ble_eq_true rfl, rfl⟩, Nat.le_of_ble_eq_true rfl, zw_341⟩) <|
  zgd_d (fun d => zo_v d rfl ⟨rfl, zd_2, zw_590, Nat.le_of_ble_eq_true rfl, ⟨_, Or.inl ⟨Nat.le_of_ble_eq_true rfl, rfl⟩, rfl⟩, zw_589, zw_591⟩) <|
  zgd_d (fun d => zo_l d rfl rfl trivial) <|
  zgd_d (fun d => zo_h d rfl ⟨rfl, Nat.le_of_ble_eq_true rfl, _, _, _, Or.inl ⟨Nat.le_of_ble_eq_true rfl, rfl⟩, Nat.le_of_ble_eq_true rfl, zw_341⟩) <|
  zgd_d (fun d => zo_l d rfl rfl trivial) <|
  zgd_d (fun d => zo_h d rfl ⟨rfl, Nat.le_of_ble_eq_true rfl, _, _, _, Or.inl ⟨Nat.le_of_ble_eq_true rfl, rfl⟩, Nat.le_of_ble_eq_true rfl, zw_345⟩) <|
  zgd_d (fun d => zo_h d rfl ⟨rfl, Nat.le_of_ble_eq_true rfl, _, _, _, Or.inl ⟨Nat.le_of_ble_eq_true rfl, rfl⟩, Nat.le_of_ble_eq_true rfl, zw_222⟩) <|
  zgd_d (fun d => zo_v d rfl ⟨rfl, zd_30, zw_598, Nat.le_of_ble_eq_true rfl, ⟨_, Or.inl ⟨Nat.le_of_ble_eq_true rfl, rfl⟩, rfl⟩, zw_602, zw_599⟩) <|
  zgd_d (fun d => zo_l d rfl rfl trivial) <|
  zgd_d (fun d => zo_h d rfl ⟨rfl, Nat.le_of_ble_eq_true rfl, _, _, _, Or.inl ⟨Nat.le_of_ble_eq_true rfl, rfl⟩, Nat.le_of_ble_eq_true rfl, zw_341⟩) <|
  zgd_d (fun d => zo_h d rfl ⟨rfl, Nat.le_of_ble_eq_true rfl, _, _, _, Or.inl ⟨Nat.le_of_ble_eq_true rfl, rfl⟩, Nat.le_of_ble_eq_true rfl, zw_177⟩) <|
  zgd_d (fun d => zo_h d rfl ⟨rfl, Nat.le_of_ble_eq_true rfl, _, _, _, Or.inl ⟨Nat.le_of_ble_eq_true rfl, rfl⟩, Nat.le_of_ble_eq_true rfl, zw_164⟩) <|
  zgd_d (fun d => zo_r d rfl) <|
  zgd_n)
  (z_fn)
theorem zdd_80 : ∀ q ∈ zc_80, decode prog_1_method_5_code q.1 = Except.ok (q.2.1, q.2.2.1) := zdd_of (by decide +kernel)
theorem zk_80 (xs : List Int32) : z_okm (za_T xs) za_P za_M 80 := z_okm_of ⟨"LyndonBench", "setLetters", "(I)I"⟩ prog_1_method_5_code zc_80 _ rfl rfl rfl rfl
  (zgd_x zdd_80 <|
  zgd_d (fun d => zo_l d rfl rfl trivial) <|
  zgd_d (fun d => zo_l d rfl rfl trivial) <|
  zgd_d (fun d => zo_l d rfl rfl (by show ((2 : Nat) : Int) + (9) = ((11 : Nat) : Int); decide)) <|
  zgd_d (fun d => zo_l d rfl rfl trivial) <|
  zgd_d (fun d => zo_l d rfl rfl trivial) <|
  zgd_d (fun d => zo_l d rfl rfl (by show ((8 : Nat) : Int) + (13) = ((21 : Nat) : Int); decide)) <|
  zgd_d (fun d => zo_t d rfl ⟨["java/lang/RuntimeException", "java/lang/Exception"], 102, 81, 3, _, none, by decide +kernel, by decide +kernel, by decide, zw_804, zw_132, rfl, rfl, rfl, zt_0a, zt_0b, zt_0c_77, trivial, by decide +kernel, by decide +kernel, Or.inl ⟨by decide +kernel, by decide +kernel, by decide +kernel⟩⟩) <|
  zgd_d (fun d => zo_l d rfl rfl trivial) <|
  zgd_d (fun d => zo_h d rfl ⟨rfl, Nat.le_of_ble_eq_true rfl, _, _, _, Or.inl ⟨Nat.le_of_ble_eq_true rfl, rfl⟩, Nat.le_of_ble_eq_true rfl, zw_341⟩) <|
  zgd_d (fun d => zo_l d rfl rfl trivial) <|
  zgd_d (fun d => zo_v d rfl ⟨rfl, zd_33, zw_883, Nat.le_of_ble_eq_true rfl, ⟨_, Or.inl ⟨Nat.le_of_ble_eq_true rfl, rfl⟩, rfl⟩, zw_882, zw_884⟩) <|
  zgd_d (fun d => zo_l d rfl rfl (by show ((29 : Nat) : Int) + (13) = ((42 : Nat) : Int); decide)) <|
  zgd_d (fun d => zo_t d rfl ⟨["java/lang/RuntimeException", "java/lang/Exception"], 110, 112, 4, _, none, by decide +kernel, by decide +kernel, by decide, zw_890, zw_136, rfl, rfl, rfl, zt_2a, zt_2b, zt_2c_108, trivial, by decide +kernel, by decide +kernel, Or.inl ⟨by decide +kernel, by decide +kernel, by decide +kernel⟩⟩) <|
  zgd_d (fun d => zo_l d rfl rfl trivial) <|
  zgd_d (fun d => zo_h d rfl ⟨rfl, Nat.le_of_ble_eq_true rfl, _, _, _, Or.inl ⟨Nat.le_of_ble_eq_true rfl, rfl⟩, Nat.le_of_ble_eq_true rfl, zw_342⟩) <|
  zgd_d (fun d => zo_l d rfl rfl trivial) <|
  zgd_d (fun d => zo_h d rfl ⟨rfl, Nat.le_of_ble_eq_true rfl, _, _, _, Or.inl ⟨Nat.le_of_ble_eq_true rfl, rfl⟩, Nat.le_of_ble_eq_true rfl, zw_341⟩) <|
  zgd_d (fun d => zo_v d rfl ⟨rfl, zd_2, zw_590, Nat.le_of_ble_eq_true rfl, ⟨_, Or.inl ⟨Nat.le_of_ble_eq_true rfl, rfl⟩, rfl⟩, zw_589, zw_591⟩) <|
  zgd_d (fun d => zo_l d rfl rfl trivial) <|
  zgd_d (fun d => zo_h d rfl ⟨rfl, Nat.le_of_ble_eq_true rfl, _, _, _, Or.inl ⟨Nat.le_of_ble_eq_true rfl, rfl⟩, Nat.le_of_ble_eq_true rfl, zw_341⟩) <|
  zgd_d (fun d => zo_h d rfl ⟨rfl, Nat.le_of_ble_eq_true rfl, _, _, _, Or.inl ⟨Nat.le_of_ble_eq_true rfl, rfl⟩, Nat.le_of_ble_eq_true rfl, zw_175⟩) <|
  zgd_d (fun d => zo_l d rfl rfl trivial) <|
  zgd_d (fun d => zo_l d rfl rfl trivial) <|
  zgd_d (fun d => zo_h d rfl ⟨rfl, Nat.le_of_ble_eq_true rfl, _, _, _, Or.inl ⟨Nat.le_of_ble_eq_true rfl, rfl⟩, Nat.le_of_ble_eq_true rfl, zw_341⟩) <|
  zgd_d (fun d => zo_l d rfl rfl trivial) <|
  zgd_d (fun d => zo_h d rfl ⟨rfl, Nat.le_of_ble_eq_true rfl, _, _, _, rfl, Nat.le_of_ble_eq_true rfl, zw_175, Or.inl rfl⟩) <|
  zgd_d (fun d => zo_l d rfl rfl trivial) <|
  zgd_d (fun d => zo_r d rfl) <|
  zgd_n)
  (z_fn)
theorem zdd_81_0 : ∀ q ∈ zc_81_0, decode prog_1_method_6_code q.1 = Except.ok (q.2.1, q.2.2.1) := zdd_of (by decide +kernel)
theorem zk_81_0 (xs : List Int32) {l : List zE} (h : ∀ q ∈ l, z_oke' (za_T xs) za_P za_M ⟨"LyndonBench", "readText", "()I"⟩ prog_1_method_6_code q) : ∀ q ∈ zc_81_0 ++ l, z_oke' (za_T xs) za_P za_M ⟨"LyndonBench", "readText", "()I"⟩ prog_1_method_6_code q :=
  zgd_y zdd_81_0 <|
  zgd_e (fun d => zo_l d rfl rfl trivial) <|
  zgd_e (fun d => zo_h d rfl ⟨rfl, Nat.le_of_ble_eq_true rfl, _, _, _, Or.inl ⟨Nat.le_of_ble_eq_true rfl, rfl⟩, Nat.le_of_ble_eq_true rfl, zw_345⟩) <|
  zgd_e (fun d => zo_h d rfl ⟨rfl, Nat.le_of_ble_eq_true rfl, _, _, _, Or.inl ⟨Nat.le_of_ble_eq_true rfl, rfl⟩, Nat.le_of_ble_eq_true rfl, zw_220⟩) <|
  zgd_e (fun d => zo_l d rfl rfl trivial) <|
  zgd_e (fun d => zo_l d rfl rfl trivial) <|
  zgd_e (fun d => zo_l d rfl rfl trivial) <|
  zgd_e (fun d => zo_l d rfl rfl trivial) <|
  zgd_e (fun d => zo_l d rfl rfl trivial) <|
  zgd_e (fun d => zo_l d rfl rfl trivial) <|
  zgd_e (fun d => zo_l d rfl rfl trivial) <|
  zgd_e (fun d => zo_h d rfl ⟨rfl, Nat.le_of_ble_eq_true rfl, _, _, _, Or.inl ⟨Nat.le_of_ble_eq_true rfl, rfl⟩, Nat.le_of_ble_eq_true rfl, zw_164⟩) <|
  zgd_e (fun d => zo_l d rfl rfl (by show ((17 : Nat) : Int) + (28) = ((45 : Nat) : Int); decide)) <|
  zgd_e (fun d => zo_l d rfl rfl trivial) <|
  zgd_e (fun d => zo_h d rfl ⟨rfl, Nat.le_of_ble_eq_true rfl, _, _, _, Or.inl ⟨Nat.le_of_ble_eq_true rfl, rfl⟩, Nat.le_of_ble_eq_true rfl, zw_341⟩) <|
  zgd_e (fun d => zo_l d rfl rfl trivial) <|
  zgd_e (fun d => zo_l d rfl rfl trivial) <|
  zgd_e (fun d => zo_v d rfl ⟨rfl, zd_43, zw_338, Nat.le_of_ble_eq_true rfl, ⟨_, Or.inl ⟨Nat.le_of_ble_eq_true rfl, rfl⟩, rfl⟩, zw_648, zw_339⟩) <|
  zgd_e (fun d => zo_v d rfl ⟨rfl, zd_31, zw_447, Nat.le_of_ble_eq_true rfl, ⟨_, Or.inl ⟨Nat.le_of_ble_eq_true rfl, rfl⟩, rfl⟩, zw_913, zw_448⟩) <|
  zgd_e (fun d => zo_l d rfl rfl (by show ((32 : Nat) : Int) + (13) = ((45 : Nat) : Int); decide)) <|
  zgd_e (fun d => zo_l d rfl rfl trivial) <|
  zgd_e (fun d => zo_l d rfl rfl trivial) <|
  zgd_e (fun d => zo_l d rfl rfl trivial) <|
  zgd_e (fun d => zo_l d rfl rfl trivial) <|
  zgd_e (fun d => zo_l d rfl rfl trivial) <|
  zgd_e (fun d => zo_l d rfl rfl (by show ((42 : Nat) : Int) + (-30) = ((12 : Nat) : Int); decide)) <|
  zgd_e (fun d => zo_l d rfl rfl trivial) <|
  zgd_e (fun d => zo_l d rfl rfl trivial) <|
  zgd_e (fun d => zo_l d rfl rfl (by show ((48 : Nat) : Int) + (13) = ((61 : Nat) : Int); decide)) <|
  zgd_e (fun d => zo_t d rfl ⟨["java/lang/RuntimeException", "java/lang/Exception"], 123, 112, 5, _, none, by decide +kernel, by decide +kernel, by decide, zw_890, zw_136, rfl, rfl, rfl, zt_2a, zt_2b, zt_2c_108, trivial, by decide +kernel, by decide +kernel, Or.inl ⟨by decide +kernel, by decide +kernel, by decide +kernel⟩⟩) <|
  zgd_e (fun d => zo_l d rfl rfl trivial) <|
  zgd_e (fun d => zo_h d rfl ⟨rfl, Nat.le_of_ble_eq_true rfl, _, _, _, Or.inl ⟨Nat.le_of_ble_eq_true rfl, rfl⟩, Nat.le_of_ble_eq_true rfl, zw_342⟩) <|
  zgd_e (fun d => zo_l d rfl rfl trivial) <|
  zgd_e (fun d => zo_h d rfl ⟨rfl, Nat.le_of_ble_eq_true rfl, _, _, _, Or.inl ⟨Nat.le_of_ble_eq_true rfl, rfl⟩, Nat.le_of_ble_eq_true rfl, zw_341⟩) <|
  zgd_e (fun d => zo_v d rfl ⟨rfl, zd_2, zw_590, Nat.le_of_ble_eq_true rfl, ⟨_, Or.inl ⟨Nat.le_of_ble_eq_true rfl, rfl⟩, rfl⟩, zw_589, zw_591⟩) <|
  zgd_e (fun d => zo_l d rfl rfl trivial) <|
  zgd_e (fun d => zo_h d rfl ⟨rfl, Nat.le_of_ble_eq_true rfl, _, _, _, Or.inl ⟨Nat.le_of_ble_eq_true rfl, rfl⟩, Nat.le_of_ble_eq_true rfl, zw_341⟩) <|
  zgd_e (fun d => zo_h d rfl ⟨rfl, Nat.le_of_ble_eq_true rfl, _, _, _, Or.inl ⟨Nat.le_of_ble_eq_true rfl, rfl⟩, Nat.le_of_ble_eq_true rfl, zw_177⟩) <|
  zgd_e (fun d => zo_v d rfl ⟨rfl, zd_45, zw_268, Nat.le_of_ble_eq_true rfl, ⟨_, Or.inl ⟨Nat.le_of_ble_eq_true rfl, rfl⟩, rfl⟩, zw_588, zw_269⟩) <|
  zgd_e (fun d => zo_l d rfl rfl trivial) <|
  zgd_e (fun d => zo_h d rfl ⟨rfl, Nat.le_of_ble_eq_true rfl, _, _, _, Or.inl ⟨Nat.le_of_ble_eq_true rfl, rfl⟩, Nat.le_of_ble_eq_true rfl, zw_341⟩) <|
  zgd_m h
theorem zdd_81_1 : ∀ q ∈ zc_81_1, decode prog_1_method_6_code q.1 = Except.ok (q.2.1, q.2.2.1) := zdd_of (by decide +kernel)
theorem zk_81_1 (xs : List Int32) {l : List zE} (h : ∀ q ∈ l, z_oke' (za_T xs) za_P za_M ⟨"LyndonBench", "readText", "()I"⟩ prog_1_method_6_code q) : ∀ q ∈ zc_81_1 ++ l, z_oke' (za_T xs) za_P za_M ⟨"LyndonBench", "readText", "()I"⟩ prog_1_method_6_code q :=
  zgd_y zdd_81_1 <|
  zgd_e (fun d => zo_h d rfl ⟨rfl, Nat.le_of_ble_eq_true rfl, _, _, _, Or.inl ⟨Nat.le_of_ble_eq_true rfl, rfl⟩, Nat.le_of_ble_eq_true rfl, zw_177⟩) <|
  zgd_e (fun d => zo_l d rfl rfl trivial) <|
  zgd_e (fun d => zo_l d rfl rfl trivial) <|
  zgd_e (fun d => zo_l d rfl rfl trivial) <|
  zgd_e (fun d => zo_v d rfl ⟨rfl, zd_49, zw_334, Nat.le_of_ble_eq_true rfl, ⟨_, Or.inl ⟨Nat.le_of_ble_eq_true rfl, rfl⟩, rfl⟩, zw_787, zw_335⟩) <|
  zgd_e (fun d => zo_l d rfl rfl trivial) <|
  zgd_e (fun d => zo_v d rfl ⟨rfl, zd_45, zw_268, Nat.le_of_ble_eq_true rfl, ⟨_, Or.inl ⟨Nat.le_of_ble_eq_true rfl, rfl⟩, rfl⟩, zw_588, zw_269⟩) <|
  zgd_e (fun d => zo_l d rfl rfl trivial) <|
  zgd_e (fun d => zo_h d rfl ⟨rfl, Nat.le_of_ble_eq_true rfl, _, _, _, Or.inl ⟨Nat.le_of_ble_eq_true rfl, rfl⟩, Nat.le_of_ble_eq_true rfl, zw_341⟩) <|
  zgd_e (fun d => zo_h d rfl ⟨rfl, Nat.le_of_ble_eq_true rfl, _, _, _, Or.inl ⟨Nat.le_of_ble_eq_true rfl, rfl⟩, Nat.le_of_ble_eq_true rfl, zw_177⟩) <|
  zgd_e (fun d => zo_h d rfl ⟨rfl, Nat.le_of_ble_eq_true rfl, _, _, _, Or.inl ⟨Nat.le_of_ble_eq_true rfl, rfl⟩, Nat.le_of_ble_eq_true rfl, zw_164⟩) <|
  zgd_e (fun d => zo_r d rfl) <|
  zgd_m h
theorem zk_81 (xs : List Int32) : z_okm (za_T xs) za_P za_M 81 := z_okm_of ⟨"LyndonBench", "readText", "()I"⟩ prog_1_method_6_code zc_81 _ rfl rfl rfl rfl
  (zk_81_0 xs <|
  zk_81_1 xs <|
  z_fn)
  (z_fn)
theorem zdd_82 : ∀ q ∈ zc_82, decode prog_1_method_7_code q.1 = Except.ok (q.2.1, q.2.2.1) := zdd_of (by decide +kernel)
theorem zk_82 (xs : List Int32) : z_okm (za_T xs) za_P za_M 82 := z_okm_of ⟨"LyndonBench", "appendLetter", "(I)I"⟩ prog_1_method_7_code zc_82 _ rfl rfl rfl rfl
  (zgd_x zdd_82 <|
  zgd_d (fun d => zo_l d rfl rfl trivial) <|
  zgd_d (fun d => zo_l d rfl rfl trivial) <|
  zgd_d (fun d => zo_v d rfl ⟨rfl, zd_136, zw_924, Nat.le_of_ble_eq_true rfl, ⟨_, Or.inl ⟨Nat.le_of_ble_eq_true rfl, rfl⟩, rfl⟩, zw_922, zw_25⟩) <|
  zgd_d (fun d => zo_l d rfl rfl trivial) <|
  zgd_d (fun d => zo_h d rfl ⟨rfl, Nat.le_of_ble_eq_true rfl, _, _, _, Or.inl ⟨Nat.le_of_ble_eq_true rfl, rfl⟩, Nat.le_of_ble_eq_true rfl, zw_341⟩) <|
  zgd_d (fun d => zo_h d rfl ⟨rfl, Nat.le_of_ble_eq_true rfl, _, _, _, Or.inl ⟨Nat.le_of_ble_eq_true rfl, rfl⟩, Nat.le_of_ble_eq_true rfl, zw_177⟩) <|
  zgd_d (fun d => zo_h d rfl ⟨rfl, Nat.le_of_ble_eq_true rfl, _, _, _, Or.inl ⟨Nat.le_of_ble_eq_true rfl, rfl⟩, Nat.le_of_ble_eq_true rfl, zw_164⟩) <|
  zgd_d (fun d => zo_l d rfl rfl trivial) <|
  zgd_d (fun d => zo_l d rfl rfl (by show ((17 : Nat) : Int) + (13) = ((30 : Nat) : Int); decide)) <|
  zgd_d (fun d => zo_t d rfl ⟨["java/lang/RuntimeException", "java/lang/Exception"], 123, 112, 5, _, none, by decide +kernel, by decide +kernel, by decide, zw_890, zw_136, rfl, rfl, rfl, zt_2a, zt_2b, zt_2c_108, trivial, by decide +kernel, by decide +kernel, Or.inl ⟨by decide +kernel, by decide +kernel, by decide +kernel⟩⟩) <|
  zgd_d (fun d => zo_l d rfl rfl trivial) <|
  zgd_d (fun d => zo_h d rfl ⟨rfl, Nat.le_of_ble_eq_true rfl, _, _, _, Or.inl ⟨Nat.le_of_ble_eq_true rfl, rfl⟩, Nat.le_of_ble_eq_true rfl, zw_342⟩) <|
  zgd_d (fun d => zo_l d rfl rfl trivial) <|
  zgd_d (fun d => zo_h d rfl ⟨rfl, Nat.le_of_ble_eq_true rfl, _, _, _, Or.inl ⟨Nat.le_of_ble_eq_true rfl, rfl⟩, Nat.le_of_ble_eq_true rfl, zw_341⟩) <|
  zgd_d (fun d => zo_v d rfl ⟨rfl, zd_2, zw_590, Nat.le_of_ble_eq_true rfl, ⟨_, Or.inl ⟨Nat.le_of_ble_eq_true rfl, rfl⟩, rfl⟩, zw_589, zw_591⟩) <|
  zgd_d (fun d => zo_l d rfl rfl trivial) <|
  zgd_d (fun d => zo_h d rfl ⟨rfl, Nat.le_of_ble_eq_true rfl, _, _, _, Or.inl ⟨Nat.le_of_ble_eq_true rfl, rfl⟩, Nat.le_of_ble_eq_true rfl, zw_341⟩) <|
  zgd_d (fun d => zo_h d rfl ⟨rfl, Nat.le_of_ble_eq_true rfl, _, _, _, Or.inl ⟨Nat.le_of_ble_eq_true rfl, rfl⟩, Nat.le_of_ble_eq_true rfl, zw_177⟩) <|
  zgd_d (fun d => zo_l d rfl rfl trivial) <|
  zgd_d (fun d => zo_v d rfl ⟨rfl, zd_46, zw_325, Nat.le_of_ble_eq_true rfl, ⟨_, Or.inl ⟨Nat.le_of_ble_eq_true rfl, rfl⟩, rfl⟩, zw_786, zw_326⟩) <|
  zgd_d (fun d => zo_l d rfl rfl trivial) <|
  zgd_d (fun d => zo_h d rfl ⟨rfl, Nat.le_of_ble_eq_true rfl, _, _, _, Or.inl ⟨Nat.le_of_ble_eq_true rfl, rfl⟩, Nat.le_of_ble_eq_true rfl, zw_341⟩) <|
  zgd_d (fun d => zo_h d rfl ⟨rfl, Nat.le_of_ble_eq_true rfl, _, _, _, Or.inl ⟨Nat.le_of_ble_eq_true rfl, rfl⟩, Nat.le_of_ble_eq_true rfl, zw_177⟩) <|
  zgd_d (fun d => zo_v d rfl ⟨rfl, zd_61, zw_609, Nat.le_of_ble_eq_true rfl, ⟨_, Or.inl ⟨Nat.le_of_ble_eq_true rfl, rfl⟩, rfl⟩, zw_608, zw_610⟩) <|
  zgd_d (fun d => zo_r d rfl) <|
  zgd_n)
  (z_fn)
theorem zdd_83 : ∀ q ∈ zc_83, decode prog_1_method_8_code q.1 = Except.ok (q.2.1, q.2.2.1) := zdd_of (by decide +kernel)
theorem zk_83 (xs : List Int32) : z_okm (za_T xs) za_P za_M 83 := z_okm_of ⟨"LyndonBench", "dropLast", "(I)I"⟩ prog_1_method_8_code zc_83 _ rfl rfl rfl rfl
  (zgd_x zdd_83 <|
  zgd_d (fun d => zo_l d rfl rfl trivial) <|
  zgd_d (fun d => zo_l d rfl rfl trivial) <|
  zgd_d (fun d => zo_v d rfl ⟨rfl, zd_137, zw_936, Nat.le_of_ble_eq_true rfl, ⟨_, Or.inl ⟨Nat.le_of_ble_eq_true rfl, rfl⟩, rfl⟩, zw_934, zw_26⟩) <|
  zgd_d (fun d => zo_l d rfl rfl trivial) <|
  zgd_d (fun d => zo_h d rfl ⟨rfl, Nat.le_of_ble_eq_true rfl, _, _, _, Or.inl ⟨Nat.le_of_ble_eq_true rfl, rfl⟩, Nat.le_of_ble_eq_true rfl, zw_342⟩) <|
  zgd_d (fun d => zo_l d rfl rfl trivial) <|
  zgd_d (fun d => zo_h d rfl ⟨rfl, Nat.le_of_ble_eq_true rfl, _, _, _, Or.inl ⟨Nat.le_of_ble_eq_true rfl, rfl⟩, Nat.le_of_ble_eq_true rfl, zw_341⟩) <|
  zgd_d (fun d => zo_v d rfl ⟨rfl, zd_2, zw_590, Nat.le_of_ble_eq_true rfl, ⟨_, Or.inl ⟨Nat.le_of_ble_eq_true rfl, rfl⟩, rfl⟩, zw_589, zw_591⟩) <|
  zgd_d (fun d => zo_l d rfl rfl trivial) <|
  zgd_d (fun d => zo_h d rfl ⟨rfl, Nat.le_of_ble_eq_true rfl, _, _, _, Or.inl ⟨Nat.le_of_ble_eq_true rfl, rfl⟩, Nat.le_of_ble_eq_true rfl, zw_341⟩) <|
  zgd_d (fun d => zo_h d rfl ⟨rfl, Nat.le_of_ble_eq_true rfl, _, _, _, Or.inl ⟨Nat.le_of_ble_eq_true rfl, rfl⟩, Nat.le_of_ble_eq_true rfl, zw_177⟩) <|
  zgd_d (fun d => zo_l d rfl rfl trivial) <|
  zgd_d (fun d => zo_h d rfl ⟨rfl, Nat.le_of_ble_eq_true rfl, _, _, _, Or.inl ⟨Nat.le_of_ble_eq_true rfl, rfl⟩, Nat.le_of_ble_eq_true rfl, zw_341⟩) <|
  zgd_d (fun d => zo_h d rfl ⟨rfl, Nat.le_of_ble_eq_true rfl, _, _, _, Or.inl ⟨Nat.le_of_ble_eq_true rfl, rfl⟩, Nat.le_of_ble_eq_true rfl, zw_177⟩) <|
  zgd_d (fun d => zo_h d rfl ⟨rfl, Nat.le_of_ble_eq_true rfl, _, _, _, Or.inl ⟨Nat.le_of_ble_eq_true rfl, rfl⟩, Nat.le_of_ble_eq_true rfl, zw_164⟩) <|
  zgd_d (fun d => zo_l d rfl rfl trivial) <|
  zgd_d (fun d => zo_l d rfl rfl trivial) <|
  zgd_d (fun d => zo_v d rfl ⟨rfl, zd_52, zw_455, Nat.le_of_ble_eq_true rfl, ⟨_, Or.inl ⟨Nat.le_of_ble_eq_true rfl, rfl⟩, rfl⟩, zw_872, zw_456⟩) <|
  zgd_d (fun d => zo_l d rfl rfl trivial) <|
  zgd_d (fun d => zo_h d rfl ⟨rfl, Nat.le_of_ble_eq_true rfl, _, _, _, Or.inl ⟨Nat.le_of_ble_eq_true rfl, rfl⟩, Nat.le_of_ble_eq_true rfl, zw_341⟩) <|
  zgd_d (fun d => zo_h d rfl ⟨rfl, Nat.le_of_ble_eq_true rfl, _, _, _, Or.inl ⟨Nat.le_of_ble_eq_true rfl, rfl⟩, Nat.le_of_ble_eq_true rfl, zw_177⟩) <|
  zgd_d (fun d => zo_v d rfl ⟨rfl, zd_61, zw_609, Nat.le_of_ble_eq_true rfl, ⟨_, Or.inl ⟨Nat.le_of_ble_eq_true rfl, rfl⟩, rfl⟩, zw_608, zw_610⟩) <|
  zgd_d (fun d => zo_r d rfl) <|
  zgd_n)
  (z_fn)
theorem zdd_84 : ∀ q ∈ zc_84, decode prog_1_method_9_code q.1 = Except.ok (q.2.1, q.2.2.1) := zdd_of (by decide +kernel)
theorem zk_84 (xs : List Int32) : z_okm (za_T xs) za_P za_M 84 := z_okm_of ⟨"LyndonBench", "cutPart", "(II)I"⟩ prog_1_method_9_code zc_84 _ rfl rfl rfl rfl
  (zgd_x zdd_84 <|
  zgd_d (fun d => zo_l d rfl rfl trivial) <|
  zgd_d (fun d => zo_l d rfl rfl trivial) <|
  zgd_d (fun d => zo_l d rfl rfl trivial) <|
  zgd_d (fun d => zo_v d rfl ⟨rfl, zd_138, zw_948, Nat.le_of_ble_eq_true rfl, ⟨_, Or.inl ⟨Nat.le_of_ble_eq_true rfl, rfl⟩, rfl⟩, zw_946, zw_27⟩) <|
  zgd_d (fun d => zo_l d rfl rfl trivial) <|
  zgd_d (fun d => zo_h d rfl ⟨rfl, Nat.le_of_ble_eq_true rfl, _, _, _, Or.inl ⟨Nat.le_of_ble_eq_true rfl, rfl⟩, Nat.le_of_ble_eq_true rfl, zw_342⟩) <|
  zgd_d (fun d => zo_l d rfl rfl trivial) <|
  zgd_d (fun d => zo_h d rfl ⟨rfl, Nat.le_of_ble_eq_true rfl, _, _, _, Or.inl ⟨Nat.le_of_ble_eq_true rfl, rfl⟩, Nat.le_of_ble_eq_true rfl, zw_341⟩) <|
  zgd_d (fun d => zo_v d rfl ⟨rfl, zd_2, zw_590, Nat.le_of_ble_eq_true rfl, ⟨_, Or.inl ⟨Nat.le_of_ble_eq_true rfl, rfl⟩, rfl⟩, zw_589, zw_591⟩) <|
  zgd_d (fun d => zo_l d rfl rfl trivial) <|
  zgd_d (fun d => zo_h d rfl ⟨rfl, Nat.le_of_ble_eq_true rfl, _, _, _, Or.inl ⟨Nat.le_of_ble_eq_true rfl, rfl⟩, Nat.le_of_ble_eq_true rfl, zw_341⟩) <|
  zgd_d (fun d => zo_h d rfl ⟨rfl, Nat.le_of_ble_eq_true rfl, _, _, _, Or.inl ⟨Nat.le_of_ble_eq_true rfl, rfl⟩, Nat.le_of_ble_eq_true rfl, zw_177⟩) <|
  zgd_d (fun d => zo_l d rfl rfl trivial) <|
  zgd_d (fun d => zo_l d rfl rfl trivial) <|
  zgd_d (fun d => zo_v d rfl ⟨rfl, zd_53, zw_468, Nat.le_of_ble_eq_true rfl, ⟨_, Or.inl ⟨Nat.le_of_ble_eq_true rfl, rfl⟩, rfl⟩, zw_951, zw_469⟩) <|
  zgd_d (fun d => zo_l d rfl rfl trivial) <|
  zgd_d (fun d => zo_h d rfl ⟨rfl, Nat.le_of_ble_eq_true rfl, _, _, _, Or.inl ⟨Nat.le_of_ble_eq_true rfl, rfl⟩, Nat.le_of_ble_eq_true rfl, zw_341⟩) <|
  zgd_d (fun d => zo_h d rfl ⟨rfl, Nat.le_of_ble_eq_true rfl, _, _, _, Or.inl ⟨Nat.le_of_ble_eq_true rfl, rfl⟩, Nat.le_of_ble_eq_true rfl, zw_177⟩) <|
  zgd_d (fun d => zo_h d rfl ⟨rfl, Nat.le_of_ble_eq_true rfl, _, _, _, Or.inl ⟨Nat.le_of_ble_eq_true rfl, rfl⟩, Nat.le_of_ble_eq_true rfl, zw_164⟩) <|
  zgd_d (fun d => zo_r d rfl) <|
  zgd_n)
  (z_fn)
theorem zdd_85 : ∀ q ∈ zc_85, decode prog_1_method_10_code q.1 = Except.ok (q.2.1, q.2.2.1) := zdd_of (by decide +kernel)
theorem zk_85 (xs : List Int32) : z_okm (za_T xs) za_P za_M 85 := z_okm_of ⟨"LyndonBench", "rotate", "(I)I"⟩ prog_1_method_10_code zc_85 _ rfl rfl rfl rfl
  (zgd_x zdd_85 <|
  zgd_d (fun d => zo_l d rfl rfl trivial) <|
  zgd_d (fun d => zo_l d rfl rfl trivial) <|
  zgd_d (fun d => zo_v d rfl ⟨rfl, zd_137, zw_936, Nat.le_of_ble_eq_true rfl, ⟨_, Or.inl ⟨Nat.le_of_ble_eq_true rfl, rfl⟩, rfl⟩, zw_934, zw_26⟩) <|
  zgd_d (fun d => zo_l d rfl rfl trivial) <|
  zgd_d (fun d => zo_h d rfl ⟨rfl, Nat.le_of_ble_eq_true rfl, _, _, _, Or.inl ⟨Nat.le_of_ble_eq_true rfl, rfl⟩, Nat.le_of_ble_eq_true rfl, zw_342⟩) <|
  zgd_d (fun d => zo_l d rfl rfl trivial) <|
  zgd_d (fun d => zo_h d rfl ⟨rfl, Nat.le_of_ble_eq_true rfl, _, _, _, Or.inl ⟨Nat.le_of_ble_eq_true rfl, rfl⟩, Nat.le_of_ble_eq_true rfl, zw_341⟩) <|
  zgd_d (fun d => zo_v d rfl ⟨rfl, zd_2, zw_590, Nat.le_of_ble_eq_true rfl, ⟨_, Or.inl ⟨Nat.le_of_ble_eq_true rfl, rfl⟩, rfl⟩, zw_589, zw_591⟩) <|
  zgd_d (fun d => zo_l d rfl rfl trivial) <|
  zgd_d (fun d => zo_h d rfl ⟨rfl, Nat.le_of_ble_eq_true rfl, _, _, _, Or.inl ⟨Nat.le_of_ble_eq_true rfl, rfl⟩, Nat.le_of_ble_eq_true rfl, zw_341⟩) <|
  zgd_d (fun d => zo_h d rfl ⟨rfl, Nat.le_of_ble_eq_true rfl, _, _, _, Or.inl ⟨Nat.le_of_ble_eq_true rfl, rfl⟩, Nat.le_of_ble_eq_true rfl, zw_177⟩) <|
  zgd_d (fun d => zo_l d rfl rfl trivial) <|
  zgd_d (fun d => zo_v d rfl ⟨rfl, zd_55, zw_481, Nat.le_of_ble_eq_true rfl, ⟨_, Or.inl ⟨Nat.le_of_ble_eq_true rfl, rfl⟩, rfl⟩, zw_959, zw_482⟩) <|
  zgd_d (fun d => zo_l d rfl rfl trivial) <|
  zgd_d (fun d => zo_h d rfl ⟨rfl, Nat.le_of_ble_eq_true rfl, _, _, _, Or.inl ⟨Nat.le_of_ble_eq_true rfl, rfl⟩, Nat.le_of_ble_eq_true rfl, zw_341⟩) <|
  zgd_d (fun d => zo_h d rfl ⟨rfl, Nat.le_of_ble_eq_true rfl, _, _, _, Or.inl ⟨Nat.le_of_ble_eq_true rfl, rfl⟩, Nat.le_of_ble_eq_true rfl, zw_177⟩) <|
  zgd_d (fun d => zo_v d rfl ⟨rfl, zd_61, zw_609, Nat.le_of_ble_eq_true rfl, ⟨_, Or.inl ⟨Nat.le_of_ble_eq_true rfl, rfl⟩, rfl⟩, zw_608, zw_610⟩) <|
  zgd_d (fun d => zo_r d rfl) <|
  zgd_n)
  (z_fn)
theorem zdd_86 : ∀ q ∈ zc_86, decode prog_1_method_11_code q.1 = Except.ok (q.2.1, q.2.2.1) := zdd_of (by decide +kernel)
theorem zk_86 (xs : List Int32) : z_okm (za_T xs) za_P za_M 86 := z_okm_of ⟨"LyndonBench", "reverse", "()I"⟩ prog_1_method_11_code zc_86 _ rfl rfl rfl rfl
  (zgd_x zdd_86 <|
  zgd_d (fun d => zo_l d rfl rfl trivial) <|
  zgd_d (fun d => zo_h d rfl ⟨rfl, Nat.le_of_ble_eq_true rfl, _, _, _, Or.inl ⟨Nat.le_of_ble_eq_true rfl, rfl⟩, Nat.le_of_ble_eq_true rfl, zw_342⟩) <|
  zgd_d (fun d => zo_l d rfl rfl trivial) <|
  zgd_d (fun d => zo_h d rfl ⟨rfl, Nat.le_of_ble_eq_true rfl, _, _, _, Or.inl ⟨Nat.le_of_ble_eq_true rfl, rfl⟩, Nat.le_of_ble_eq_true rfl, zw_341⟩) <|
  zgd_d (fun d => zo_v d rfl ⟨rfl, zd_2, zw_590, Nat.le_of_ble_eq_true rfl, ⟨_, Or.inl ⟨Nat.le_of_ble_eq_true rfl, rfl⟩, rfl⟩, zw_589, zw_591⟩) <|
  zgd_d (fun d => zo_l d rfl rfl trivial) <|
  zgd_d (fun d => zo_h d rfl ⟨rfl, Nat.le_of_ble_eq_true rfl, _, _, _, Or.inl ⟨Nat.le_of_ble_eq_true rfl, rfl⟩, Nat.le_of_ble_eq_true rfl, zw_341⟩) <|
  zgd_d (fun d => zo_h d rfl ⟨rfl, Nat.le_of_ble_eq_true rfl, _, _, _, Or.inl ⟨Nat.le_of_ble_eq_true rfl, rfl⟩, Nat.le_of_ble_eq_true rfl, zw_177⟩) <|
  zgd_d (fun d => zo_l d rfl rfl trivial) <|
  zgd_d (fun d => zo_l d rfl rfl trivial) <|
  zgd_d (fun d => zo_h d rfl ⟨rfl, Nat.le_of_ble_eq_true rfl, _, _, _, Or.inl ⟨Nat.le_of_ble_eq_true rfl, rfl⟩, Nat.le_of_ble_eq_true rfl, zw_341⟩) <|
  zgd_d (fun d => zo_h d rfl ⟨rfl, Nat.le_of_ble_eq_true rfl, _, _, _, Or.inl ⟨Nat.le_of_ble_eq_true rfl, rfl⟩, Nat.le_of_ble_eq_true rfl, zw_177⟩) <|
  zgd_d (fun d => zo_h d rfl ⟨rfl, Nat.le_of_ble_eq_true rfl, _, _, _, Or.inl ⟨Nat.le_of_ble_eq_true rfl, rfl⟩, Nat.le_of_ble_eq_true rfl, zw_164⟩) <|
  zgd_d (fun d => zo_v d rfl ⟨rfl, zd_54, zw_485, Nat.le_of_ble_eq_true rfl, ⟨_, Or.inl ⟨Nat.le_of_ble_eq_true rfl, rfl⟩, rfl⟩, zw_607, zw_486⟩) <|
  zgd_d (fun d => zo_l d rfl rfl trivial) <|
  zgd_d (fun d => zo_h d rfl ⟨rfl, Nat.le_of_ble_eq_true rfl, _, _, _, Or.inl ⟨Nat.le_of_ble_eq_true rfl, rfl⟩, Nat.le_of_ble_eq_true rfl, zw_341⟩) <|
  zgd_d (fun d => zo_h d rfl ⟨rfl, Nat.le_of_ble_eq_true rfl, _, _, _, Or.inl ⟨Nat.le_of_ble_eq_true rfl, rfl⟩, Nat.le_of_ble_eq_true rfl, zw_177⟩) <|
  zgd_d (fun d => zo_v d rfl ⟨rfl, zd_61, zw_609, Nat.le_of_ble_eq_true rfl, ⟨_, Or.inl ⟨Nat.le_of_ble_eq_true rfl, rfl⟩, rfl⟩, zw_608, zw_610⟩) <|
  zgd_d (fun d => zo_r d rfl) <|
  zgd_n)
  (z_fn)
theorem zdd_87 : ∀ q ∈ zc_87, decode prog_1_method_12_code q.1 = Except.ok (q.2.1, q.2.2.1) := zdd_of (by decide +kernel)
theorem zk_87 (xs : List Int32) : z_okm (za_T xs) za_P za_M 87 := z_okm_of ⟨"LyndonBench", "rotateToLeast", "()I"⟩ prog_1_method_12_code zc_87 _ rfl rfl rfl rfl
  (zgd_x zdd_87 <|
  zgd_d (fun d => zo_l d rfl rfl trivial) <|
  zgd_d (fun d => zo_h d rfl ⟨rfl, Nat.le_of_ble_eq_true rfl, _, _, _, Or.inl ⟨Nat.le_of_ble_eq_true rfl, rfl⟩, Nat.le_of_ble_eq_true rfl, zw_341⟩) <|
  zgd_d (fun d => zo_h d rfl ⟨rfl, Nat.le_of_ble_eq_true rfl, _, _, _, Or.inl ⟨Nat.le_of_ble_eq_true rfl, rfl⟩, Nat.le_of_ble_eq_true rfl, zw_177⟩) <|
  zgd_d (fun d => zo_h d rfl ⟨rfl, Nat.le_of_ble_eq_true rfl, _, _, _, Or.inl ⟨Nat.le_of_ble_eq_true rfl, rfl⟩, Nat.le_of_ble_eq_true rfl, zw_164⟩) <|
  zgd_d (fun d => zo_l d rfl rfl (by show ((10 : Nat) : Int) + (13) = ((23 : Nat) : Int); decide)) <|
  zgd_d (fun d => zo_t d rfl ⟨["java/lang/RuntimeException", "java/lang/Exception"], 154, 112, 6, _, none, by decide +kernel, by decide +kernel, by decide, zw_890, zw_136, rfl, rfl, rfl, zt_2a, zt_2b, zt_2c_108, trivial, by decide +kernel, by decide +kernel, Or.inl ⟨by decide +kernel, by decide +kernel, by decide +kernel⟩⟩) <|
  zgd_d (fun d => zo_l d rfl rfl trivial) <|
  zgd_d (fun d => zo_h d rfl ⟨rfl, Nat.le_of_ble_eq_true rfl, _, _, _, Or.inl ⟨Nat.le_of_ble_eq_true rfl, rfl⟩, Nat.le_of_ble_eq_true rfl, zw_342⟩) <|
  zgd_d (fun d => zo_l d rfl rfl trivial) <|
  zgd_d (fun d => zo_h d rfl ⟨rfl, Nat.le_of_ble_eq_true rfl, _, _, _, Or.inl ⟨Nat.le_of_ble_eq_true rfl, rfl⟩, Nat.le_of_ble_eq_true rfl, zw_341⟩) <|
  zgd_d (fun d => zo_v d rfl ⟨rfl, zd_2, zw_590, Nat.le_of_ble_eq_true rfl, ⟨_, Or.inl ⟨Nat.le_of_ble_eq_true rfl, rfl⟩, rfl⟩, zw_589, zw_591⟩) <|
  zgd_d (fun d => zo_l d rfl rfl trivial) <|
  zgd_d (fun d => zo_h d rfl ⟨rfl, Nat.le_of_ble_eq_true rfl, _, _, _, Or.inl ⟨Nat.le_of_ble_eq_true rfl, rfl⟩, Nat.le_of_ble_eq_true rfl, zw_341⟩) <|
  zgd_d (fun d => zo_h d rfl ⟨rfl, Nat.le_of_ble_eq_true rfl, _, _, _, Or.inl ⟨Nat.le_of_ble_eq_true rfl, rfl⟩, Nat.le_of_ble_eq_true rfl, zw_177⟩) <|
  zgd_d (fun d => zo_v d rfl ⟨rfl, zd_72, zw_498, Nat.le_of_ble_eq_true rfl, ⟨_, Or.inl ⟨Nat.le_of_ble_eq_true rfl, rfl⟩, rfl⟩, zw_690, zw_499⟩) <|
  zgd_d (fun d => zo_l d rfl rfl trivial) <|
  zgd_d (fun d => zo_l d rfl rfl trivial) <|
  zgd_d (fun d => zo_h d rfl ⟨rfl, Nat.le_of_ble_eq_true rfl, _, _, _, Or.inl ⟨Nat.le_of_ble_eq_true rfl, rfl⟩, Nat.le_of_ble_eq_true rfl, zw_341⟩) <|
  zgd_d (fun d => zo_h d rfl ⟨rfl, Nat.le_of_ble_eq_true rfl, _, _, _, Or.inl ⟨Nat.le_of_ble_eq_true rfl, rfl⟩, Nat.le_of_ble_eq_true rfl, zw_177⟩) <|
  zgd_d (fun d => zo_l d rfl rfl trivial) <|
  zgd_d (fun d => zo_v d rfl ⟨rfl, zd_55, zw_481, Nat.le_of_ble_eq_true rfl, ⟨_, Or.inl ⟨Nat.le_of_ble_eq_true rfl, rfl⟩, rfl⟩, zw_959, zw_482⟩) <|
  zgd_d (fun d => zo_l d rfl rfl trivial) <|
  zgd_d (fun d => zo_r d rfl) <|
  zgd_n)
  (z_fn)
theorem zdd_88 : ∀ q ∈ zc_88, decode prog_1_method_13_code q.1 = Except.ok (q.2.1, q.2.2.1) := zdd_of (by decide +kernel)
theorem zk_88 (xs : List Int32) : z_okm (za_T xs) za_P za_M 88 := z_okm_of ⟨"LyndonBench", "nextLyndon", "(I)I"⟩ prog_1_method_13_code zc_88 _ rfl rfl rfl rfl
  (zgd_x zdd_88 <|
  zgd_d (fun d => zo_l d rfl rfl trivial) <|
  zgd_d (fun d => zo_l d rfl rfl trivial) <|
  zgd_d (fun d => zo_l d rfl rfl (by show ((2 : Nat) : Int) + (9) = ((11 : Nat) : Int); decide)) <|
  zgd_d (fun d => zo_l d rfl rfl trivial) <|
  zgd_d (fun d => zo_l d rfl rfl trivial) <|
  zgd_d (fun d => zo_l d rfl rfl (by show ((8 : Nat) : Int) + (13) = ((21 : Nat) : Int); decide)) <|
  zgd_d (fun d => zo_t d rfl ⟨["java/lang/RuntimeException", "java/lang/Exception"], 159, 81, 7, _, none, by decide +kernel, by decide +kernel, by decide, zw_804, zw_132, rfl, rfl, rfl, zt_0a, zt_0b, zt_0c_77, trivial, by decide +kernel, by decide +kernel, Or.inl ⟨by decide +kernel, by decide +kernel, by decide +kernel⟩⟩) <|
  zgd_d (fun d => zo_l d rfl rfl trivial) <|
  zgd_d (fun d => zo_h d rfl ⟨rfl, Nat.le_of_ble_eq_true rfl, _, _, _, Or.inl ⟨Nat.le_of_ble_eq_true rfl, rfl⟩, Nat.le_of_ble_eq_true rfl, zw_341⟩) <|
  zgd_d (fun d => zo_l d rfl rfl trivial) <|
  zgd_d (fun d => zo_v d rfl ⟨rfl, zd_41, zw_510, Nat.le_of_ble_eq_true rfl, ⟨_, Or.inl ⟨Nat.le_of_ble_eq_true rfl, rfl⟩, rfl⟩, zw_976, zw_511⟩) <|
  zgd_d (fun d => zo_l d rfl rfl (by show ((29 : Nat) : Int) + (13) = ((42 : Nat) : Int); decide)) <|
  zgd_d (fun d => zo_t d rfl ⟨["java/lang/RuntimeException", "java/lang/Exception"], 164, 112, 8, _, none, by decide +kernel, by decide +kernel, by decide, zw_890, zw_136, rfl, rfl, rfl, zt_2a, zt_2b, zt_2c_108, trivial, by decide +kernel, by decide +kernel, Or.inl ⟨by decide +kernel, by decide +kernel, by decide +kernel⟩⟩) <|
  zgd_d (fun d => zo_l d rfl rfl trivial) <|
  zgd_d (fun d => zo_h d rfl ⟨rfl, Nat.le_of_ble_eq_true rfl, _, _, _, Or.inl ⟨Nat.le_of_ble_eq_true rfl, rfl⟩, Nat.le_of_ble_eq_true rfl, zw_342⟩) <|
  zgd_d (fun d => zo_l d rfl rfl trivial) <|
  zgd_d (fun d => zo_h d rfl ⟨rfl, Nat.le_of_ble_eq_true rfl, _, _, _, Or.inl ⟨Nat.le_of_ble_eq_true rfl, rfl⟩, Nat.le_of_ble_eq_true rfl, zw_341⟩) <|
  zgd_d (fun d => zo_v d rfl ⟨rfl, zd_2, zw_590, Nat.le_of_ble_eq_true rfl, ⟨_, Or.inl ⟨Nat.le_of_ble_eq_true rfl, rfl⟩, rfl⟩, zw_589, zw_591⟩) <|
  zgd_d (fun d => zo_l d rfl rfl trivial) <|
  zgd_d (fun d => zo_h d rfl ⟨rfl, Nat.le_of_ble_eq_true rfl, _, _, _, Or.inl ⟨Nat.le_of_ble_eq_true rfl, rfl⟩, Nat.le_of_ble_eq_true rfl, zw_341⟩) <|
  zgd_d (fun d => zo_h d rfl ⟨rfl, Nat.le_of_ble_eq_true rfl, _, _, _, Or.inl ⟨Nat.le_of_ble_eq_true rfl, rfl⟩, Nat.le_of_ble_eq_true rfl, zw_177⟩) <|
  zgd_d (fun d => zo_l d rfl rfl trivial) <|
  zgd_d (fun d => zo_l d rfl rfl trivial) <|
  zgd_d (fun d => zo_h d rfl ⟨rfl, Nat.le_of_ble_eq_true rfl, _, _, _, Or.inl ⟨Nat.le_of_ble_eq_true rfl, rfl⟩, Nat.le_of_ble_eq_true rfl, zw_341⟩) <|
  zgd_d (fun d => zo_v d rfl ⟨rfl, zd_32, zw_523, Nat.le_of_ble_eq_true rfl, ⟨_, Or.inl ⟨Nat.le_of_ble_eq_true rfl, rfl⟩, rfl⟩, zw_978, zw_524⟩) <|
  zgd_d (fun d => zo_v d rfl ⟨rfl, zd_75, zw_528, Nat.le_of_ble_eq_true rfl, ⟨_, Or.inl ⟨Nat.le_of_ble_eq_true rfl, rfl⟩, rfl⟩, zw_979, zw_529⟩) <|
  zgd_d (fun d => zo_l d rfl rfl trivial) <|
  zgd_d (fun d => zo_h d rfl ⟨rfl, Nat.le_of_ble_eq_true rfl, _, _, _, Or.inl ⟨Nat.le_of_ble_eq_true rfl, rfl⟩, Nat.le_of_ble_eq_true rfl, zw_341⟩) <|
  zgd_d (fun d => zo_h d rfl ⟨rfl, Nat.le_of_ble_eq_true rfl, _, _, _, Or.inl ⟨Nat.le_of_ble_eq_true rfl, rfl⟩, Nat.le_of_ble_eq_true rfl, zw_177⟩) <|
  zgd_d (fun d => zo_h d rfl ⟨rfl, Nat.le_of_ble_eq_true rfl, _, _, _, Or.inl ⟨Nat.le_of_ble_eq_true rfl, rfl⟩, Nat.le_of_ble_eq_true rfl, zw_164⟩) <|
  zgd_d (fun d => zo_r d rfl) <|
  zgd_n)
  (z_fn)
theorem zdd_89 : ∀ q ∈ zc_89, decode prog_1_method_14_code q.1 = Except.ok (q.2.1, q.2.2.1) := zdd_of (by decide +kernel)
theorem zk_89 (xs : List Int32) : z_okm (za_T xs) za_P za_M 89 := z_okm_of ⟨"LyndonBench", "keepFactor", "(I)I"⟩ prog_1_method_14_code zc_89 _ rfl rfl rfl rfl
  (zgd_x zdd_89 <|
  zgd_d (fun d => zo_l d rfl rfl trivial) <|
  zgd_d (fun d => zo_l d rfl rfl trivial) <|
  zgd_d (fun d => zo_v d rfl ⟨rfl, zd_140, zw_990, Nat.le_of_ble_eq_true rfl, ⟨_, Or.inl ⟨Nat.le_of_ble_eq_true rfl, rfl⟩, rfl⟩, zw_988, zw_28⟩) <|
  zgd_d (fun d => zo_l d rfl rfl trivial) <|
  zgd_d (fun d => zo_l d rfl rfl trivial) <|
  zgd_d (fun d => zo_h d rfl ⟨rfl, Nat.le_of_ble_eq_true rfl, _, _, _, Or.inl ⟨Nat.le_of_ble_eq_true rfl, rfl⟩, Nat.le_of_ble_eq_true rfl, zw_341⟩) <|
  zgd_d (fun d => zo_h d rfl ⟨rfl, Nat.le_of_ble_eq_true rfl, _, _, _, Or.inl ⟨Nat.le_of_ble_eq_true rfl, rfl⟩, Nat.le_of_ble_eq_true rfl, zw_177⟩) <|
  zgd_d (fun d => zo_l d rfl rfl trivial) <|
  zgd_d (fun d => zo_v d rfl ⟨rfl, zd_59, zw_518, Nat.le_of_ble_eq_true rfl, ⟨_, Or.inl ⟨Nat.le_of_ble_eq_true rfl, rfl⟩, rfl⟩, zw_707, zw_519⟩) <|
  zgd_d (fun d => zo_l d rfl rfl trivial) <|
  zgd_d (fun d => zo_l d rfl rfl trivial) <|
  zgd_d (fun d => zo_h d rfl ⟨rfl, Nat.le_of_ble_eq_true rfl, _, _, _, Or.inl ⟨Nat.le_of_ble_eq_true rfl, rfl⟩, Nat.le_of_ble_eq_true rfl, zw_341⟩) <|
  zgd_d (fun d => zo_l d rfl rfl trivial) <|
  zgd_d (fun d => zo_l d rfl rfl trivial) <|
  zgd_d (fun d => zo_l d rfl rfl trivial) <|
  zgd_d (fun d => zo_v d rfl ⟨rfl, zd_35, zw_549, Nat.le_of_ble_eq_true rfl, ⟨_, Or.inl ⟨Nat.le_of_ble_eq_true rfl, rfl⟩, rfl⟩, zw_1009, zw_550⟩) <|
  zgd_d (fun d => zo_l d rfl rfl (by show ((28 : Nat) : Int) + (13) = ((41 : Nat) : Int); decide)) <|
  zgd_d (fun d => zo_t d rfl ⟨["java/lang/RuntimeException", "java/lang/Exception"], 181, 112, 9, _, none, by decide +kernel, by decide +kernel, by decide, zw_890, zw_136, rfl, rfl, rfl, zt_2a, zt_2b, zt_2c_108, trivial, by decide +kernel, by decide +kernel, Or.inl ⟨by decide +kernel, by decide +kernel, by decide +kernel⟩⟩) <|
  zgd_d (fun d => zo_l d rfl rfl trivial) <|
  zgd_d (fun d => zo_h d rfl ⟨rfl, Nat.le_of_ble_eq_true rfl, _, _, _, Or.inl ⟨Nat.le_of_ble_eq_true rfl, rfl⟩, Nat.le_of_ble_eq_true rfl, zw_342⟩) <|
  zgd_d (fun d => zo_l d rfl rfl trivial) <|
  zgd_d (fun d => zo_h d rfl ⟨rfl, Nat.le_of_ble_eq_true rfl, _, _, _, Or.inl ⟨Nat.le_of_ble_eq_true rfl, rfl⟩, Nat.le_of_ble_eq_true rfl, zw_341⟩) <|
  zgd_d (fun d => zo_v d rfl ⟨rfl, zd_2, zw_590, Nat.le_of_ble_eq_true rfl, ⟨_, Or.inl ⟨Nat.le_of_ble_eq_true rfl, rfl⟩, rfl⟩, zw_589, zw_591⟩) <|
  zgd_d (fun d => zo_l d rfl rfl trivial) <|
  zgd_d (fun d => zo_h d rfl ⟨rfl, Nat.le_of_ble_eq_true rfl, _, _, _, Or.inl ⟨Nat.le_of_ble_eq_true rfl, rfl⟩, Nat.le_of_ble_eq_true rfl, zw_341⟩) <|
  zgd_d (fun d => zo_l d rfl rfl trivial) <|
  zgd_d (fun d => zo_h d rfl ⟨rfl, Nat.le_of_ble_eq_true rfl, _, _, _, Or.inl ⟨Nat.le_of_ble_eq_true rfl, rfl⟩, Nat.le_of_ble_eq_true rfl, zw_341⟩) <|
  zgd_d (fun d => zo_h d rfl ⟨rfl, Nat.le_of_ble_eq_true rfl, _, _, _, Or.inl ⟨Nat.le_of_ble_eq_true rfl, rfl⟩, Nat.le_of_ble_eq_true rfl, zw_177⟩) <|
  zgd_d (fun d => zo_l d rfl rfl trivial) <|
  zgd_d (fun d => zo_l d rfl rfl trivial) <|
  zgd_d (fun d => zo_v d rfl ⟨rfl, zd_36, zw_330, Nat.le_of_ble_eq_true rfl, ⟨_, Or.inl ⟨Nat.le_of_ble_eq_true rfl, rfl⟩, rfl⟩, zw_329, zw_331⟩) <|
  zgd_d (fun d => zo_l d rfl rfl trivial) <|
  zgd_d (fun d => zo_h d rfl ⟨rfl, Nat.le_of_ble_eq_true rfl, _, _, _, Or.inl ⟨Nat.le_of_ble_eq_true rfl, rfl⟩, Nat.le_of_ble_eq_true rfl, zw_341⟩) <|
  zgd_d (fun d => zo_h d rfl ⟨rfl, Nat.le_of_ble_eq_true rfl, _, _, _, Or.inl ⟨Nat.le_of_ble_eq_true rfl, rfl⟩, Nat.le_of_ble_eq_true rfl, zw_181⟩) <|
  zgd_d (fun d => zo_r d rfl) <|
  zgd_n)
  (z_fn)
theorem zdd_90 : ∀ q ∈ zc_90, decode prog_1_method_15_code q.1 = Except.ok (q.2.1, q.2.2.1) := zdd_of (by decide +kernel)
theorem zk_90 (xs : List Int32) : z_okm (za_T xs) za_P za_M 90 := z_okm_of ⟨"LyndonBench", "keepText", "()I"⟩ prog_1_method_15_code zc_90 _ rfl rfl rfl rfl
  (zgd_x zdd_90 <|
  zgd_d (fun d => zo_l d rfl rfl trivial) <|
  zgd_d (fun d => zo_h d rfl ⟨rfl, Nat.le_of_ble_eq_true rfl, _, _, _, Or.inl ⟨Nat.le_of_ble_eq_true rfl, rfl⟩, Nat.le_of_ble_eq_true rfl, zw_341⟩) <|
  zgd_d (fun d => zo_l d rfl rfl trivial) <|
  zgd_d (fun d => zo_h d rfl ⟨rfl, Nat.le_of_ble_eq_true rfl, _, _, _, Or.inl ⟨Nat.le_of_ble_eq_true rfl, rfl⟩, Nat.le_of_ble_eq_true rfl, zw_341⟩) <|
  zgd_d (fun d => zo_h d rfl ⟨rfl, Nat.le_of_ble_eq_true rfl, _, _, _, Or.inl ⟨Nat.le_of_ble_eq_true rfl, rfl⟩, Nat.le_of_ble_eq_true rfl, zw_177⟩) <|
  zgd_d (fun d => zo_h d rfl ⟨rfl, Nat.le_of_ble_eq_true rfl, _, _, _, Or.inl ⟨Nat.le_of_ble_eq_true rfl, rfl⟩, Nat.le_of_ble_eq_true rfl, zw_164⟩) <|
  zgd_d (fun d => zo_v d rfl ⟨rfl, zd_35, zw_549, Nat.le_of_ble_eq_true rfl, ⟨_, Or.inl ⟨Nat.le_of_ble_eq_true rfl, rfl⟩, rfl⟩, zw_1009, zw_550⟩) <|
  zgd_d (fun d => zo_l d rfl rfl (by show ((17 : Nat) : Int) + (13) = ((30 : Nat) : Int); decide)) <|
  zgd_d (fun d => zo_t d rfl ⟨["java/lang/RuntimeException", "java/lang/Exception"], 186, 112, 10, _, none, by decide +kernel, by decide +kernel, by decide, zw_890, zw_136, rfl, rfl, rfl, zt_2a, zt_2b, zt_2c_108, trivial, by decide +kernel, by decide +kernel, Or.inl ⟨by decide +kernel, by decide +kernel, by decide +kernel⟩⟩) <|
  zgd_d (fun d => zo_l d rfl rfl trivial) <|
  zgd_d (fun d => zo_h d rfl ⟨rfl, Nat.le_of_ble_eq_true rfl, _, _, _, Or.inl ⟨Nat.le_of_ble_eq_true rfl, rfl⟩, Nat.le_of_ble_eq_true rfl, zw_342⟩) <|
  zgd_d (fun d => zo_l d rfl rfl trivial) <|
  zgd_d (fun d => zo_h d rfl ⟨rfl, Nat.le_of_ble_eq_true rfl, _, _, _, Or.inl ⟨Nat.le_of_ble_eq_true rfl, rfl⟩, Nat.le_of_ble_eq_true rfl, zw_341⟩) <|
  zgd_d (fun d => zo_v d rfl ⟨rfl, zd_2, zw_590, Nat.le_of_ble_eq_true rfl, ⟨_, Or.inl ⟨Nat.le_of_ble_eq_true rfl, rfl⟩, rfl⟩, zw_589, zw_591⟩) <|
  zgd_d (fun d => zo_l d rfl rfl trivial) <|
  zgd_d (fun d => zo_h d rfl ⟨rfl, Nat.le_of_ble_eq_true rfl, _, _, _, Or.inl ⟨Nat.le_of_ble_eq_true rfl, rfl⟩, Nat.le_of_ble_eq_true rfl, zw_341⟩) <|
  zgd_d (fun d => zo_l d rfl rfl trivial) <|
  zgd_d (fun d => zo_h d rfl ⟨rfl, Nat.le_of_ble_eq_true rfl, _, _, _, Or.inl ⟨Nat.le_of_ble_eq_true rfl, rfl⟩, Nat.le_of_ble_eq_true rfl, zw_341⟩) <|
  zgd_d (fun d => zo_h d rfl ⟨rfl, Nat.le_of_ble_eq_true rfl, _, _, _, Or.inl ⟨Nat.le_of_ble_eq_true rfl, rfl⟩, Nat.le_of_ble_eq_true rfl, zw_177⟩) <|
  zgd_d (fun d => zo_l d rfl rfl trivial) <|
  zgd_d (fun d => zo_l d rfl rfl trivial) <|
  zgd_d (fun d => zo_h d rfl ⟨rfl, Nat.le_of_ble_eq_true rfl, _, _, _, Or.inl ⟨Nat.le_of_ble_eq_true rfl, rfl⟩, Nat.le_of_ble_eq_true rfl, zw_341⟩) <|
  zgd_d (fun d => zo_h d rfl ⟨rfl, Nat.le_of_ble_eq_true rfl, _, _, _, Or.inl ⟨Nat.le_of_ble_eq_true rfl, rfl⟩, Nat.le_of_ble_eq_true rfl, zw_177⟩) <|
  zgd_d (fun d => zo_h d rfl ⟨rfl, Nat.le_of_ble_eq_true rfl, _, _, _, Or.inl ⟨Nat.le_of_ble_eq_true rfl, rfl⟩, Nat.le_of_ble_eq_true rfl, zw_164⟩) <|
  zgd_d (fun d => zo_v d rfl ⟨rfl, zd_36, zw_330, Nat.le_of_ble_eq_true rfl, ⟨_, Or.inl ⟨Nat.le_of_ble_eq_true rfl, rfl⟩, rfl⟩, zw_329, zw_331⟩) <|
  zgd_d (fun d => zo_l d rfl rfl trivial) <|
  zgd_d (fun d => zo_h d rfl ⟨rfl, Nat.le_of_ble_eq_true rfl, _, _, _, Or.inl ⟨Nat.le_of_ble_eq_true rfl, rfl⟩, Nat.le_of_ble_eq_true rfl, zw_341⟩) <|
  zgd_d (fun d => zo_h d rfl ⟨rfl, Nat.le_of_ble_eq_true rfl, _, _, _, Or.inl ⟨Nat.le_of_ble_eq_true rfl, rfl⟩, Nat.le_of_ble_eq_true rfl, zw_181⟩) <|
  zgd_d (fun d => zo_r d rfl) <|
  zgd_n)
  (z_fn)
theorem zdd_91 : ∀ q ∈ zc_91, decode prog_1_method_16_code q.1 = Except.ok (q.2.1, q.2.2.1) := zdd_of (by decide +kernel)
theorem zk_91 (xs : List Int32) : z_okm (za_T xs) za_P za_M 91 := z_okm_of ⟨"LyndonBench", "removeKept", "(I)I"⟩ prog_1_method_16_code zc_91 _ rfl rfl rfl rfl
  (zgd_x zdd_91 <|
  zgd_d (fun d => zo_l d rfl rfl trivial) <|
  zgd_d (fun d => zo_h d rfl ⟨rfl, Nat.le_of_ble_eq_true rfl, _, _, _, Or.inl ⟨Nat.le_of_ble_eq_true rfl, rfl⟩, Nat.le_of_ble_eq_true rfl, zw_341⟩) <|
  zgd_d (fun d => zo_l d rfl rfl trivial) <|
  zgd_d (fun d => zo_v d rfl ⟨rfl, zd_34, zw_562, Nat.le_of_ble_eq_true rfl, ⟨_, Or.inl ⟨Nat.le_of_ble_eq_true rfl, rfl⟩, rfl⟩, zw_745, zw_563⟩) <|
  zgd_d (fun d => zo_h d rfl ⟨rfl, by show ((8 : Nat) : Int) + (13) = ((21 : Nat) : Int); decide⟩) <|
  zgd_d (fun d => zo_t d rfl ⟨["java/lang/RuntimeException", "java/lang/Exception"], 194, 196, 11, _, none, by decide +kernel, by decide +kernel, by decide, zw_993, zw_137, rfl, rfl, rfl, zt_4a, zt_4b, zt_4c_192, trivial, by decide +kernel, by decide +kernel, Or.inl ⟨by decide +kernel, by decide +kernel, by decide +kernel⟩⟩) <|
  zgd_d (fun d => zo_l d rfl rfl trivial) <|
  zgd_d (fun d => zo_h d rfl ⟨rfl, Nat.le_of_ble_eq_true rfl, _, _, _, Or.inl ⟨Nat.le_of_ble_eq_true rfl, rfl⟩, Nat.le_of_ble_eq_true rfl, zw_342⟩) <|
  zgd_d (fun d => zo_l d rfl rfl trivial) <|
  zgd_d (fun d => zo_h d rfl ⟨rfl, Nat.le_of_ble_eq_true rfl, _, _, _, Or.inl ⟨Nat.le_of_ble_eq_true rfl, rfl⟩, Nat.le_of_ble_eq_true rfl, zw_341⟩) <|
  zgd_d (fun d => zo_v d rfl ⟨rfl, zd_2, zw_590, Nat.le_of_ble_eq_true rfl, ⟨_, Or.inl ⟨Nat.le_of_ble_eq_true rfl, rfl⟩, rfl⟩, zw_589, zw_591⟩) <|
  zgd_d (fun d => zo_l d rfl rfl trivial) <|
  zgd_d (fun d => zo_h d rfl ⟨rfl, Nat.le_of_ble_eq_true rfl, _, _, _, Or.inl ⟨Nat.le_of_ble_eq_true rfl, rfl⟩, Nat.le_of_ble_eq_true rfl, zw_341⟩) <|
  zgd_d (fun d => zo_l d rfl rfl trivial) <|
  zgd_d (fun d => zo_v d rfl ⟨rfl, zd_37, zw_558, Nat.le_of_ble_eq_true rfl, ⟨_, Or.inl ⟨Nat.le_of_ble_eq_true rfl, rfl⟩, rfl⟩, zw_1027, zw_559⟩) <|
  zgd_d (fun d => zo_l d rfl rfl trivial) <|
  zgd_d (fun d => zo_h d rfl ⟨rfl, Nat.le_of_ble_eq_true rfl, _, _, _, Or.inl ⟨Nat.le_of_ble_eq_true rfl, rfl⟩, Nat.le_of_ble_eq_true rfl, zw_341⟩) <|
  zgd_d (fun d => zo_h d rfl ⟨rfl, Nat.le_of_ble_eq_true rfl, _, _, _, Or.inl ⟨Nat.le_of_ble_eq_true rfl, rfl⟩, Nat.le_of_ble_eq_true rfl, zw_181⟩) <|
  zgd_d (fun d => zo_r d rfl) <|
  zgd_n)
  (z_fn)
theorem zdd_92 : ∀ q ∈ zc_92, decode prog_1_method_17_code q.1 = Except.ok (q.2.1, q.2.2.1) := zdd_of (by decide +kernel)
theorem zk_92 (xs : List Int32) : z_okm (za_T xs) za_P za_M 92 := z_okm_of ⟨"LyndonBench", "joinKept", "()I"⟩ prog_1_method_17_code zc_92 _ rfl rfl rfl rfl
  (zgd_x zdd_92 <|
  zgd_d (fun d => zo_l d rfl rfl trivial) <|
  zgd_d (fun d => zo_h d rfl ⟨rfl, Nat.le_of_ble_eq_true rfl, _, _, _, Or.inl ⟨Nat.le_of_ble_eq_true rfl, rfl⟩, Nat.le_of_ble_eq_true rfl, zw_341⟩) <|
  zgd_d (fun d => zo_v d rfl ⟨rfl, zd_39, zw_576, Nat.le_of_ble_eq_true rfl, ⟨_, Or.inl ⟨Nat.le_of_ble_eq_true rfl, rfl⟩, rfl⟩, zw_1035, zw_577⟩) <|
  zgd_d (fun d => zo_l d rfl rfl (by show ((7 : Nat) : Int) + (13) = ((20 : Nat) : Int); decide)) <|
  zgd_d (fun d => zo_t d rfl ⟨["java/lang/RuntimeException", "java/lang/Exception"], 203, 112, 12, _, none, by decide +kernel, by decide +kernel, by decide, zw_890, zw_136, rfl, rfl, rfl, zt_2a, zt_2b, zt_2c_108, trivial, by decide +kernel, by decide +kernel, Or.inl ⟨by decide +kernel, by decide +kernel, by decide +kernel⟩⟩) <|
  zgd_d (fun d => zo_l d rfl rfl trivial) <|
  zgd_d (fun d => zo_h d rfl ⟨rfl, Nat.le_of_ble_eq_true rfl, _, _, _, Or.inl ⟨Nat.le_of_ble_eq_true rfl, rfl⟩, Nat.le_of_ble_eq_true rfl, zw_342⟩) <|
  zgd_d (fun d => zo_l d rfl rfl trivial) <|
  zgd_d (fun d => zo_h d rfl ⟨rfl, Nat.le_of_ble_eq_true rfl, _, _, _, Or.inl ⟨Nat.le_of_ble_eq_true rfl, rfl⟩, Nat.le_of_ble_eq_true rfl, zw_341⟩) <|
  zgd_d (fun d => zo_v d rfl ⟨rfl, zd_2, zw_590, Nat.le_of_ble_eq_true rfl, ⟨_, Or.inl ⟨Nat.le_of_ble_eq_true rfl, rfl⟩, rfl⟩, zw_589, zw_591⟩) <|
  zgd_d (fun d => zo_l d rfl rfl trivial) <|
  zgd_d (fun d => zo_h d rfl ⟨rfl, Nat.le_of_ble_eq_true rfl, _, _, _, Or.inl ⟨Nat.le_of_ble_eq_true rfl, rfl⟩, Nat.le_of_ble_eq_true rfl, zw_341⟩) <|
  zgd_d (fun d => zo_v d rfl ⟨rfl, zd_40, zw_580, Nat.le_of_ble_eq_true rfl, ⟨_, Or.inl ⟨Nat.le_of_ble_eq_true rfl, rfl⟩, rfl⟩, zw_1037, zw_581⟩) <|
  zgd_d (fun d => zo_l d rfl rfl trivial) <|
  zgd_d (fun d => zo_h d rfl ⟨rfl, Nat.le_of_ble_eq_true rfl, _, _, _, Or.inl ⟨Nat.le_of_ble_eq_true rfl, rfl⟩, Nat.le_of_ble_eq_true rfl, zw_341⟩) <|
  zgd_d (fun d => zo_h d rfl ⟨rfl, Nat.le_of_ble_eq_true rfl, _, _, _, Or.inl ⟨Nat.le_of_ble_eq_true rfl, rfl⟩, Nat.le_of_ble_eq_true rfl, zw_177⟩) <|
  zgd_d (fun d => zo_h d rfl ⟨rfl, Nat.le_of_ble_eq_true rfl, _, _, _, Or.inl ⟨Nat.le_of_ble_eq_true rfl, rfl⟩, Nat.le_of_ble_eq_true rfl, zw_164⟩) <|
  zgd_d (fun d => zo_r d rfl) <|
  zgd_n)
  (z_fn)
theorem zdd_93 : ∀ q ∈ zc_93, decode prog_1_method_18_code q.1 = Except.ok (q.2.1, q.2.2.1) := zdd_of (by decide +kernel)
theorem zk_93 (xs : List Int32) : z_okm (za_T xs) za_P za_M 93 := z_okm_of ⟨"LyndonBench", "undo", "()I"⟩ prog_1_method_18_code zc_93 _ rfl rfl rfl rfl
  (zgd_x zdd_93 <|
  zgd_d (fun d => zo_l d rfl rfl trivial) <|
  zgd_d (fun d => zo_h d rfl ⟨rfl, Nat.le_of_ble_eq_true rfl, _, _, _, Or.inl ⟨Nat.le_of_ble_eq_true rfl, rfl⟩, Nat.le_of_ble_eq_true rfl, zw_342⟩) <|
  zgd_d (fun d => zo_l d rfl rfl trivial) <|
  zgd_d (fun d => zo_h d rfl ⟨rfl, Nat.le_of_ble_eq_true rfl, _, _, _, Or.inl ⟨Nat.le_of_ble_eq_true rfl, rfl⟩, Nat.le_of_ble_eq_true rfl, zw_341⟩) <|
  zgd_d (fun d => zo_v d rfl ⟨rfl, zd_4, zw_617, Nat.le_of_ble_eq_true rfl, ⟨_, Or.inl ⟨Nat.le_of_ble_eq_true rfl, rfl⟩, rfl⟩, zw_616, zw_618⟩) <|
  zgd_d (fun d => zo_l d rfl rfl (by show ((11 : Nat) : Int) + (13) = ((24 : Nat) : Int); decide)) <|
  zgd_d (fun d => zo_l d rfl rfl trivial) <|
  zgd_d (fun d => zo_h d rfl ⟨rfl, Nat.le_of_ble_eq_true rfl, _, _, _, Or.inl ⟨Nat.le_of_ble_eq_true rfl, rfl⟩, Nat.le_of_ble_eq_true rfl, zw_342⟩) <|
  zgd_d (fun d => zo_h d rfl ⟨rfl, Nat.le_of_ble_eq_true rfl, _, _, _, Or.inl ⟨Nat.le_of_ble_eq_true rfl, rfl⟩, Nat.le_of_ble_eq_true rfl, zw_203⟩) <|
  zgd_d (fun d => zo_l d rfl rfl (by show ((21 : Nat) : Int) + (4) = ((25 : Nat) : Int); decide)) <|
  zgd_d (fun d => zo_l d rfl rfl trivial) <|
  zgd_d (fun d => zo_r d rfl) <|
  zgd_n)
  (z_fn)
theorem zdd_94 : ∀ q ∈ zc_94, decode prog_1_method_19_code q.1 = Except.ok (q.2.1, q.2.2.1) := zdd_of (by decide +kernel)
theorem zk_94 (xs : List Int32) : z_okm (za_T xs) za_P za_M 94 := z_okm_of ⟨"LyndonBench", "undoCount", "()I"⟩ prog_1_method_19_code zc_94 _ rfl rfl rfl rfl
  (zgd_x zdd_94 <|
  zgd_d (fun d => zo_l d rfl rfl trivial) <|
  zgd_d (fun d => zo_h d rfl ⟨rfl, Nat.le_of_ble_eq_true rfl, _, _, _, Or.inl ⟨Nat.le_of_ble_eq_true rfl, rfl⟩, Nat.le_of_ble_eq_true rfl, zw_342⟩) <|
  zgd_d (fun d => zo_h d rfl ⟨rfl, Nat.le_of_ble_eq_true rfl, _, _, _, Or.inl ⟨Nat.le_of_ble_eq_true rfl, rfl⟩, Nat.le_of_ble_eq_true rfl, zw_203⟩) <|
  zgd_d (fun d => zo_r d rfl) <|
  zgd_n)
  (z_fn)
theorem zdd_95 : ∀ q ∈ zc_95, decode prog_1_method_20_code q.1 = Except.ok (q.2.1, q.2.2.1) := zdd_of (by decide +kernel)
theorem zk_95 (xs : List Int32) : z_okm (za_T xs) za_P za_M 95 := z_okm_of ⟨"LyndonBench", "saveSnapshot", "()I"⟩ prog_1_method_20_code zc_95 _ rfl rfl rfl rfl
  (zgd_x zdd_95 <|
  zgd_d (fun d => zo_l d rfl rfl trivial) <|
  zgd_d (fun d => zo_h d rfl ⟨rfl, Nat.le_of_ble_eq_true rfl, _, _, _, Or.inl ⟨Nat.le_of_ble_eq_true rfl, rfl⟩, Nat.le_of_ble_eq_true rfl, zw_343⟩) <|
  zgd_d (fun d => zo_l d rfl rfl trivial) <|
  zgd_d (fun d => zo_h d rfl ⟨rfl, Nat.le_of_ble_eq_true rfl, _, _, _, Or.inl ⟨Nat.le_of_ble_eq_true rfl, rfl⟩, Nat.le_of_ble_eq_true rfl, zw_341⟩) <|
  zgd_d (fun d => zo_v d rfl ⟨rfl, zd_30, zw_598, Nat.le_of_ble_eq_true rfl, ⟨_, Or.inl ⟨Nat.le_of_ble_eq_true rfl, rfl⟩, rfl⟩, zw_602, zw_599⟩) <|
  zgd_d (fun d => zo_l d rfl rfl trivial) <|
  zgd_d (fun d => zo_l d rfl rfl trivial) <|
  zgd_d (fun d => zo_h d rfl ⟨rfl, Nat.le_of_ble_eq_true rfl, _, _, _, rfl, Nat.le_of_ble_eq_true rfl, zw_344, Or.inl rfl⟩) <|
  zgd_d (fun d => zo_l d rfl rfl trivial) <|
  zgd_d (fun d => zo_h d rfl ⟨rfl, Nat.le_of_ble_eq_true rfl, _, _, _, Or.inl ⟨Nat.le_of_ble_eq_true rfl, rfl⟩, Nat.le_of_ble_eq_true rfl, zw_341⟩) <|
  zgd_d (fun d => zo_h d rfl ⟨rfl, Nat.le_of_ble_eq_true rfl, _, _, _, Or.inl ⟨Nat.le_of_ble_eq_true rfl, rfl⟩, Nat.le_of_ble_eq_true rfl, zw_177⟩) <|
  zgd_d (fun d => zo_h d rfl ⟨rfl, Nat.le_of_ble_eq_true rfl, _, _, _, Or.inl ⟨Nat.le_of_ble_eq_true rfl, rfl⟩, Nat.le_of_ble_eq_true rfl, zw_164⟩) <|
  zgd_d (fun d => zo_r d rfl) <|
  zgd_n)
  (z_fn)
theorem zdd_96 : ∀ q ∈ zc_96, decode prog_1_method_21_code q.1 = Except.ok (q.2.1, q.2.2.1) := zdd_of (by decide +kernel)
theorem zk_96 (xs : List Int32) : z_okm (za_T xs) za_P za_M 96 := z_okm_of ⟨"LyndonBench", "restoreSnapshot", "()I"⟩ prog_1_method_21_code zc_96 _ rfl rfl rfl rfl
  (zgd_x zdd_96 <|
  zgd_d (fun d => zo_l d rfl rfl trivial) <|
  zgd_d (fun d => zo_h d rfl ⟨rfl, Nat.le_of_ble_eq_true rfl, _, _, _, Or.inl ⟨Nat.le_of_ble_eq_true rfl, rfl⟩, Nat.le_of_ble_eq_true rfl, zw_344⟩) <|
  zgd_d (fun d => zo_l d rfl rfl (by show ((4 : Nat) : Int) + (13) = ((17 : Nat) : Int); decide)) <|
  zgd_d (fun d => zo_t d rfl ⟨["java/lang/Exception"], 217, 219, 13, _, (some ("java/lang/RuntimeException", 13, prog_26_method_4_code)), by decide +kernel, by decide +kernel, by decide, zw_1046, zw_138, rfl, rfl, rfl, zt_6a, zt_6b, zt_6c_215, ⟨by decide +kernel, by decide +kernel, by decide +kernel, by decide +kernel, by decide +kernel⟩, by decide +kernel, by decide +kernel, Or.inl ⟨by decide +kernel, by decide +kernel, by decide +kernel⟩⟩) <|
  zgd_d (fun d => zo_l d rfl rfl trivial) <|
  zgd_d (fun d => zo_h d rfl ⟨rfl, Nat.le_of_ble_eq_true rfl, _, _, _, Or.inl ⟨Nat.le_of_ble_eq_true rfl, rfl⟩, Nat.le_of_ble_eq_true rfl, zw_341⟩) <|
  zgd_d (fun d => zo_l d rfl rfl trivial) <|
  zgd_d (fun d => zo_h d rfl ⟨rfl, Nat.le_of_ble_eq_true rfl, _, _, _, Or.inl ⟨Nat.le_of_ble_eq_true rfl, rfl⟩, Nat.le_of_ble_eq_true rfl, zw_343⟩) <|
  zgd_d (fun d => zo_v d rfl ⟨rfl, zd_30, zw_598, Nat.le_of_ble_eq_true rfl, ⟨_, Or.inl ⟨Nat.le_of_ble_eq_true rfl, rfl⟩, rfl⟩, zw_602, zw_599⟩) <|
  zgd_d (fun d => zo_l d rfl rfl trivial) <|
  zgd_d (fun d => zo_h d rfl ⟨rfl, Nat.le_of_ble_eq_true rfl, _, _, _, Or.inl ⟨Nat.le_of_ble_eq_true rfl, rfl⟩, Nat.le_of_ble_eq_true rfl, zw_342⟩) <|
  zgd_d (fun d => zo_l d rfl rfl trivial) <|
  zgd_d (fun d => zo_h d rfl ⟨rfl, Nat.le_of_ble_eq_true rfl, _, _, _, rfl, Nat.le_of_ble_eq_true rfl, zw_203, Or.inl rfl⟩) <|
  zgd_d (fun d => zo_l d rfl rfl trivial) <|
  zgd_d (fun d => zo_h d rfl ⟨rfl, Nat.le_of_ble_eq_true rfl, _, _, _, Or.inl ⟨Nat.le_of_ble_eq_true rfl, rfl⟩, Nat.le_of_ble_eq_true rfl, zw_341⟩) <|
  zgd_d (fun d => zo_h d rfl ⟨rfl, Nat.le_of_ble_eq_true rfl, _, _, _, Or.inl ⟨Nat.le_of_ble_eq_true rfl, rfl⟩, Nat.le_of_ble_eq_true rfl, zw_177⟩) <|
  zgd_d (fun d => zo_h d rfl ⟨rfl, Nat.le_of_ble_eq_true rfl, _, _, _, Or.inl ⟨Nat.le_of_ble_eq_true rfl, rfl⟩, Nat.le_of_ble_eq_true rfl, zw_164⟩) <|
  zgd_d (fun d => zo_r d rfl) <|
  zgd_n)
  (z_fn)
theorem zdd_97 : ∀ q ∈ zc_97, decode prog_1_method_22_code q.1 = Except.ok (q.2.1, q.2.2.1) := zdd_of (by decide +kernel)
theorem zk_97 (xs : List Int32) : z_okm (za_T xs) za_P za_M 97 := z_okm_of ⟨"LyndonBench", "scriptErrorKind", "()I"⟩ prog_1_method_22_code zc_97 _ rfl rfl rfl rfl
  (zgd_x zdd_97 <|
  zgd_d (fun d => zo_l d rfl rfl trivial) <|
  zgd_d (fun d => zo_h d rfl ⟨rfl, Nat.le_of_ble_eq_true rfl, _, _, _, Or.inl ⟨Nat.le_of_ble_eq_true rfl, rfl⟩, Nat.le_of_ble_eq_true rfl, zw_345⟩) <|
  zgd_d (fun d => zo_h d rfl ⟨rfl, Nat.le_of_ble_eq_true rfl, _, _, _, Or.inl ⟨Nat.le_of_ble_eq_true rfl, rfl⟩, Nat.le_of_ble_eq_true rfl, zw_224⟩) <|
  zgd_d (fun d => zo_r d rfl) <|
  zgd_n)
  (z_fn)
theorem zdd_98 : ∀ q ∈ zc_98, decode prog_1_method_23_code q.1 = Except.ok (q.2.1, q.2.2.1) := zdd_of (by decide +kernel)
theorem zk_98 (xs : List Int32) : z_okm (za_T xs) za_P za_M 98 := z_okm_of ⟨"LyndonBench", "scriptErrorOffset", "()I"⟩ prog_1_method_23_code zc_98 _ rfl rfl rfl rfl
  (zgd_x zdd_98 <|
  zgd_d (fun d => zo_l d rfl rfl trivial) <|
  zgd_d (fun d => zo_h d rfl ⟨rfl, Nat.le_of_ble_eq_true rfl, _, _, _, Or.inl ⟨Nat.le_of_ble_eq_true rfl, rfl⟩, Nat.le_of_ble_eq_true rfl, zw_345⟩) <|
  zgd_d (fun d => zo_h d rfl ⟨rfl, Nat.le_of_ble_eq_true rfl, _, _, _, Or.inl ⟨Nat.le_of_ble_eq_true rfl, rfl⟩, Nat.le_of_ble_eq_true rfl, zw_226⟩) <|
  zgd_d (fun d => zo_r d rfl) <|
  zgd_n)
  (z_fn)
theorem zdd_99 : ∀ q ∈ zc_99, decode prog_1_method_24_code q.1 = Except.ok (q.2.1, q.2.2.1) := zdd_of (by decide +kernel)
theorem zk_99 (xs : List Int32) : z_okm (za_T xs) za_P za_M 99 := z_okm_of ⟨"LyndonBench", "letters", "()I"⟩ prog_1_method_24_code zc_99 _ rfl rfl rfl rfl
  (zgd_x zdd_99 <|
  zgd_d (fun d => zo_l d rfl rfl trivial) <|
  zgd_d (fun d => zo_h d rfl ⟨rfl, Nat.le_of_ble_eq_true rfl, _, _, _, Or.inl ⟨Nat.le_of_ble_eq_true rfl, rfl⟩, Nat.le_of_ble_eq_true rfl, zw_341⟩) <|
  zgd_d (fun d => zo_h d rfl ⟨rfl, Nat.le_of_ble_eq_true rfl, _, _, _, Or.inl ⟨Nat.le_of_ble_eq_true rfl, rfl⟩, Nat.le_of_ble_eq_true rfl, zw_175⟩) <|
  zgd_d (fun d => zo_r d rfl) <|
  zgd_n)
  (z_fn)
theorem zdd_100 : ∀ q ∈ zc_100, decode prog_1_method_25_code q.1 = Except.ok (q.2.1, q.2.2.1) := zdd_of (by decide +kernel)
theorem zk_100 (xs : List Int32) : z_okm (za_T xs) za_P za_M 100 := z_okm_of ⟨"LyndonBench", "length", "()I"⟩ prog_1_method_25_code zc_100 _ rfl rfl rfl rfl
  (zgd_x zdd_100 <|
  zgd_d (fun d => zo_l d rfl rfl trivial) <|
  zgd_d (fun d => zo_h d rfl ⟨rfl, Nat.le_of_ble_eq_true rfl, _, _, _, Or.inl ⟨Nat.le_of_ble_eq_true rfl, rfl⟩, Nat.le_of_ble_eq_true rfl, zw_341⟩) <|
  zgd_d (fun d => zo_h d rfl ⟨rfl, Nat.le_of_ble_eq_true rfl, _, _, _, Or.inl ⟨Nat.le_of_ble_eq_true rfl, rfl⟩, Nat.le_of_ble_eq_true rfl, zw_177⟩) <|
  zgd_d (fun d => zo_h d rfl ⟨rfl, Nat.le_of_ble_eq_true rfl, _, _, _, Or.inl ⟨Nat.le_of_ble_eq_true rfl, rfl⟩, Nat.le_of_ble_eq_true rfl, zw_164⟩) <|
  zgd_d (fun d => zo_r d rfl) <|
  zgd_n)
  (z_fn)
theorem zdd_101 : ∀ q ∈ zc_101, decode prog_1_method_26_code q.1 = Except.ok (q.2.1, q.2.2.1) := zdd_of (by decide +kernel)
theorem zk_101 (xs : List Int32) : z_okm (za_T xs) za_P za_M 101 := z_okm_of ⟨"LyndonBench", "letterAt", "(I)I"⟩ prog_1_method_26_code zc_101 _ rfl rfl rfl rfl
  (zgd_x zdd_101 <|
  zgd_d (fun d => zo_l d rfl rfl trivial) <|
  zgd_d (fun d => zo_h d rfl ⟨rfl, Nat.le_of_ble_eq_true rfl, _, _, _, Or.inl ⟨Nat.le_of_ble_eq_true rfl, rfl⟩, Nat.le_of_ble_eq_true rfl, zw_341⟩) <|
  zgd_d (fun d => zo_h d rfl ⟨rfl, Nat.le_of_ble_eq_true rfl, _, _, _, Or.inl ⟨Nat.le_of_ble_eq_true rfl, rfl⟩, Nat.le_of_ble_eq_true rfl, zw_177⟩) <|
  zgd_d (fun d => zo_l d rfl rfl trivial) <|
  zgd_d (fun d => zo_v d rfl ⟨rfl, zd_43, zw_338, Nat.le_of_ble_eq_true rfl, ⟨_, Or.inl ⟨Nat.le_of_ble_eq_true rfl, rfl⟩, rfl⟩, zw_648, zw_339⟩) <|
  zgd_d (fun d => zo_r d rfl) <|
  zgd_n)
  (z_fn)
theorem zdd_102 : ∀ q ∈ zc_102, decode prog_1_method_27_code q.1 = Except.ok (q.2.1, q.2.2.1) := zdd_of (by decide +kernel)
theorem zk_102 (xs : List Int32) : z_okm (za_T xs) za_P za_M 102 := z_okm_of ⟨"LyndonBench", "compareParts", "(IIII)I"⟩ prog_1_method_27_code zc_102 _ rfl rfl rfl rfl
  (zgd_x zdd_102 <|
  zgd_d (fun d => zo_l d rfl rfl trivial) <|
  zgd_d (fun d => zo_l d rfl rfl trivial) <|
  zgd_d (fun d => zo_l d rfl rfl trivial) <|
  zgd_d (fun d => zo_v d rfl ⟨rfl, zd_138, zw_948, Nat.le_of_ble_eq_true rfl, ⟨_, Or.inl ⟨Nat.le_of_ble_eq_true rfl, rfl⟩, rfl⟩, zw_946, zw_27⟩) <|
  zgd_d (fun d => zo_l d rfl rfl trivial) <|
  zgd_d (fun d => zo_l d rfl rfl trivial) <|
  zgd_d (fun d => zo_l d rfl rfl trivial) <|
  zgd_d (fun d => zo_v d rfl ⟨rfl, zd_138, zw_948, Nat.le_of_ble_eq_true rfl, ⟨_, Or.inl ⟨Nat.le_of_ble_eq_true rfl, rfl⟩, rfl⟩, zw_946, zw_27⟩) <|
  zgd_d (fun d => zo_l d rfl rfl trivial) <|
  zgd_d (fun d => zo_h d rfl ⟨rfl, Nat.le_of_ble_eq_true rfl, _, _, _, Or.inl ⟨Nat.le_of_ble_eq_true rfl, rfl⟩, Nat.le_of_ble_eq_true rfl, zw_341⟩) <|
  zgd_d (fun d => zo_h d rfl ⟨rfl, Nat.le_of_ble_eq_true rfl, _, _, _, Or.inl ⟨Nat.le_of_ble_eq_true rfl, rfl⟩, Nat.le_of_ble_eq_true rfl, zw_177⟩) <|
  zgd_d (fun d => zo_l d rfl rfl trivial) <|
  zgd_d (fun d => zo_l d rfl rfl trivial) <|
  zgd_d (fun d => zo_l d rfl rfl trivial) <|
  zgd_d (fun d => zo_h d rfl ⟨rfl, Nat.le_of_ble_eq_true rfl, _, _, _, Or.inl ⟨Nat.le_of_ble_eq_true rfl, rfl⟩, Nat.le_of_ble_eq_true rfl, zw_341⟩) <|
  zgd_d (fun d => zo_h d rfl ⟨rfl, Nat.le_of_ble_eq_true rfl, _, _, _, Or.inl ⟨Nat.le_of_ble_eq_true rfl, rfl⟩, Nat.le_of_ble_eq_true rfl, zw_177⟩) <|
  zgd_d (fun d => zo_l d rfl rfl trivial) <|
  zgd_d (fun d => zo_l d rfl rfl trivial) <|
  zgd_d (fun d => zo_v d rfl ⟨rfl, zd_58, zw_544, Nat.le_of_ble_eq_true rfl, ⟨_, Or.inl ⟨Nat.le_of_ble_eq_true rfl, rfl⟩, rfl⟩, zw_746, zw_545⟩) <|
  zgd_d (fun d => zo_r d rfl) <|
  zgd_n)
  (z_fn)
theorem zdd_103 : ∀ q ∈ zc_103, decode prog_1_method_28_code q.1 = Except.ok (q.2.1, q.2.2.1) := zdd_of (by decide +kernel)
theorem zk_103 (xs : List Int32) : z_okm (za_T xs) za_P za_M 103 := z_okm_of ⟨"LyndonBench", "factorCount", "()I"⟩ prog_1_method_28_code zc_103 _ rfl rfl rfl rfl
  (zgd_x zdd_103 <|
  zgd_d (fun d => zo_l d rfl rfl trivial) <|
  zgd_d (fun d => zo_h d rfl ⟨rfl, Nat.le_of_ble_eq_true rfl, _, _, _, Or.inl ⟨Nat.le_of_ble_eq_true rfl, rfl⟩, Nat.le_of_ble_eq_true rfl, zw_341⟩) <|
  zgd_d (fun d => zo_h d rfl ⟨rfl, Nat.le_of_ble_eq_true rfl, _, _, _, Or.inl ⟨Nat.le_of_ble_eq_true rfl, rfl⟩, Nat.le_of_ble_eq_true rfl, zw_177⟩) <|
  zgd_d (fun d => zo_v d rfl ⟨rfl, zd_61, zw_609, Nat.le_of_ble_eq_true rfl, ⟨_, Or.inl ⟨Nat.le_of_ble_eq_true rfl, rfl⟩, rfl⟩, zw_608, zw_610⟩) <|
  zgd_d (fun d => zo_r d rfl) <|
  zgd_n)
  (z_fn)
theorem zdd_104 : ∀ q ∈ zc_104, decode prog_1_method_29_code q.1 = Except.ok (q.2.1, q.2.2.1) := zdd_of (by decide +kernel)
theorem zk_104 (xs : List Int32) : z_okm (za_T xs) za_P za_M 104 := z_okm_of ⟨"LyndonBench", "factorStart", "(I)I"⟩ prog_1_method_29_code zc_104 _ rfl rfl rfl rfl
  (zgd_x zdd_104 <|
  zgd_d (fun d => zo_l d rfl rfl trivial) <|
  zgd_d (fun d => zo_l d rfl rfl trivial) <|
  zgd_d (fun d => zo_v d rfl ⟨rfl, zd_140, zw_990, Nat.le_of_ble_eq_true rfl, ⟨_, Or.inl ⟨Nat.le_of_ble_eq_true rfl, rfl⟩, rfl⟩, zw_988, zw_28⟩) <|
  zgd_d (fun d => zo_r d rfl) <|
  zgd_n)
  (z_fn)
theorem zdd_105 : ∀ q ∈ zc_105, decode prog_1_method_30_code q.1 = Except.ok (q.2.1, q.2.2.1) := zdd_of (by decide +kernel)
theorem zk_105 (xs : List Int32) : z_okm (za_T xs) za_P za_M 105 := z_okm_of ⟨"LyndonBench", "factorLength", "(I)I"⟩ prog_1_method_30_code zc_105 _ rfl rfl rfl rfl
  (zgd_x zdd_105 <|
  zgd_d (fun d => zo_l d rfl rfl trivial) <|
  zgd_d (fun d => zo_l d rfl rfl trivial) <|
  zgd_d (fun d => zo_v d rfl ⟨rfl, zd_140, zw_990, Nat.le_of_ble_eq_true rfl, ⟨_, Or.inl ⟨Nat.le_of_ble_eq_true rfl, rfl⟩, rfl⟩, zw_988, zw_28⟩) <|
  zgd_d (fun d => zo_l d rfl rfl trivial) <|
  zgd_d (fun d => zo_l d rfl rfl trivial) <|
  zgd_d (fun d => zo_h d rfl ⟨rfl, Nat.le_of_ble_eq_true rfl, _, _, _, Or.inl ⟨Nat.le_of_ble_eq_true rfl, rfl⟩, Nat.le_of_ble_eq_true rfl, zw_341⟩) <|
  zgd_d (fun d => zo_h d rfl ⟨rfl, Nat.le_of_ble_eq_true rfl, _, _, _, Or.inl ⟨Nat.le_of_ble_eq_true rfl, rfl⟩, Nat.le_of_ble_eq_true rfl, zw_177⟩) <|
  zgd_d (fun d => zo_l d rfl rfl trivial) <|
  zgd_d (fun d => zo_v d rfl ⟨rfl, zd_59, zw_518, Nat.le_of_ble_eq_true rfl, ⟨_, Or.inl ⟨Nat.le_of_ble_eq_true rfl, rfl⟩, rfl⟩, zw_707, zw_519⟩) <|
  zgd_d (fun d => zo_l d rfl rfl trivial) <|
  zgd_d (fun d => zo_l d rfl rfl trivial) <|
  zgd_d (fun d => zo_r d rfl) <|
  zgd_n)
  (z_fn)
theorem zdd_106 : ∀ q ∈ zc_106, decode prog_1_method_31_code q.1 = Except.ok (q.2.1, q.2.2.1) := zdd_of (by decide +kernel)
theorem zk_106 (xs : List Int32) : z_okm (za_T xs) za_P za_M 106 := z_okm_of ⟨"LyndonBench", "factorPower", "(I)I"⟩ prog_1_method_31_code zc_106 _ rfl rfl rfl rfl
  (zgd_x zdd_106 <|
  zgd_d (fun d => zo_l d rfl rfl trivial) <|
  zgd_d (fun d => zo_l d rfl rfl trivial) <|
  zgd_d (fun d => zo_v d rfl ⟨rfl, zd_140, zw_990, Nat.le_of_ble_eq_true rfl, ⟨_, Or.inl ⟨Nat.le_of_ble_eq_true rfl, rfl⟩, rfl⟩, zw_988, zw_28⟩) <|
  zgd_d (fun d => zo_l d rfl rfl trivial) <|
  zgd_d (fun d => zo_l d rfl rfl trivial) <|
  zgd_d (fun d => zo_h d rfl ⟨rfl, Nat.le_of_ble_eq_true rfl, _, _, _, Or.inl ⟨Nat.le_of_ble_eq_true rfl, rfl⟩, Nat.le_of_ble_eq_true rfl, zw_341⟩) <|
  zgd_d (fun d => zo_h d rfl ⟨rfl, Nat.le_of_ble_eq_true rfl, _, _, _, Or.inl ⟨Nat.le_of_ble_eq_true rfl, rfl⟩, Nat.le_of_ble_eq_true rfl, zw_177⟩) <|
  zgd_d (fun d => zo_l d rfl rfl trivial) <|
  zgd_d (fun d => zo_l d rfl rfl trivial) <|
  zgd_d (fun d => zo_h d rfl ⟨rfl, Nat.le_of_ble_eq_true rfl, _, _, _, Or.inl ⟨Nat.le_of_ble_eq_true rfl, rfl⟩, Nat.le_of_ble_eq_true rfl, zw_341⟩) <|
  zgd_d (fun d => zo_h d rfl ⟨rfl, Nat.le_of_ble_eq_true rfl, _, _, _, Or.inl ⟨Nat.le_of_ble_eq_true rfl, rfl⟩, Nat.le_of_ble_eq_true rfl, zw_177⟩) <|
  zgd_d (fun d => zo_l d rfl rfl trivial) <|
  zgd_d (fun d => zo_v d rfl ⟨rfl, zd_59, zw_518, Nat.le_of_ble_eq_true rfl, ⟨_, Or.inl ⟨Nat.le_of_ble_eq_true rfl, rfl⟩, rfl⟩, zw_707, zw_519⟩) <|
  zgd_d (fun d => zo_v d rfl ⟨rfl, zd_66, zw_783, Nat.le_of_ble_eq_true rfl, ⟨_, Or.inl ⟨Nat.le_of_ble_eq_true rfl, rfl⟩, rfl⟩, zw_782, zw_784⟩) <|
  zgd_d (fun d => zo_r d rfl) <|
  zgd_n)
  (z_fn)
theorem zdd_107 : ∀ q ∈ zc_107, decode prog_1_method_32_code q.1 = Except.ok (q.2.1, q.2.2.1) := zdd_of (by decide +kernel)
theorem zk_107 (xs : List Int32) : z_okm (za_T xs) za_P za_M 107 := z_okm_of ⟨"LyndonBench", "factorOf", "(I)I"⟩ prog_1_method_32_code zc_107 _ rfl rfl rfl rfl
  (zgd_x zdd_107 <|
  zgd_d (fun d => zo_l d rfl rfl trivial) <|
  zgd_d (fun d => zo_h d rfl ⟨rfl, Nat.le_of_ble_eq_true rfl, _, _, _, Or.inl ⟨Nat.le_of_ble_eq_true rfl, rfl⟩, Nat.le_of_ble_eq_true rfl, zw_341⟩) <|
  zgd_d (fun d => zo_h d rfl ⟨rfl, Nat.le_of_ble_eq_true rfl, _, _, _, Or.inl ⟨Nat.le_of_ble_eq_true rfl, rfl⟩, Nat.le_of_ble_eq_true rfl, zw_177⟩) <|
  zgd_d (fun d => zo_l d rfl rfl trivial) <|
  zgd_d (fun d => zo_v d rfl ⟨rfl, zd_64, zw_658, Nat.le_of_ble_eq_true rfl, ⟨_, Or.inl ⟨Nat.le_of_ble_eq_true rfl, rfl⟩, rfl⟩, zw_657, zw_659⟩) <|
  zgd_d (fun d => zo_r d rfl) <|
  zgd_n)
  (z_fn)
theorem zdd_108 : ∀ q ∈ zc_108, decode prog_1_method_33_code q.1 = Except.ok (q.2.1, q.2.2.1) := zdd_of (by decide +kernel)
theorem zk_108 (xs : List Int32) : z_okm (za_T xs) za_P za_M 108 := z_okm_of ⟨"LyndonBench", "longestFactor", "()I"⟩ prog_1_method_33_code zc_108 _ rfl rfl rfl rfl
  (zgd_x zdd_108 <|
  zgd_d (fun d => zo_l d rfl rfl trivial) <|
  zgd_d (fun d => zo_h d rfl ⟨rfl, Nat.le_of_ble_eq_true rfl, _, _, _, Or.inl ⟨Nat.le_of_ble_eq_true rfl, rfl⟩, Nat.le_of_ble_eq_true rfl, zw_341⟩) <|
  zgd_d (fun d => zo_h d rfl ⟨rfl, Nat.le_of_ble_eq_true rfl, _, _, _, Or.inl ⟨Nat.le_of_ble_eq_true rfl, rfl⟩, Nat.le_of_ble_eq_true rfl, zw_177⟩) <|
  zgd_d (fun d => zo_v d rfl ⟨rfl, zd_65, zw_666, Nat.le_of_ble_eq_true rfl, ⟨_, Or.inl ⟨Nat.le_of_ble_eq_true rfl, rfl⟩, rfl⟩, zw_665, zw_667⟩) <|
  zgd_d (fun d => zo_r d rfl) <|
  zgd_n)
  (z_fn)
theorem zdd_109 : ∀ q ∈ zc_109, decode prog_1_method_34_code q.1 = Except.ok (q.2.1, q.2.2.1) := zdd_of (by decide +kernel)
theorem zk_109 (xs : List Int32) : z_okm (za_T xs) za_P za_M 109 := z_okm_of ⟨"LyndonBench", "factorsIfAppended", "(I)I"⟩ prog_1_method_34_code zc_109 _ rfl rfl rfl rfl
  (zgd_x zdd_109 <|
  zgd_d (fun d => zo_l d rfl rfl trivial) <|
  zgd_d (fun d => zo_l d rfl rfl trivial) <|
  zgd_d (fun d => zo_v d rfl ⟨rfl, zd_136, zw_924, Nat.le_of_ble_eq_true rfl, ⟨_, Or.inl ⟨Nat.le_of_ble_eq_true rfl, rfl⟩, rfl⟩, zw_922, zw_25⟩) <|
  zgd_d (fun d => zo_l d rfl rfl trivial) <|
  zgd_d (fun d => zo_h d rfl ⟨rfl, Nat.le_of_ble_eq_true rfl, _, _, _, Or.inl ⟨Nat.le_of_ble_eq_true rfl, rfl⟩, Nat.le_of_ble_eq_true rfl, zw_347⟩) <|
  zgd_d (fun d => zo_l d rfl rfl trivial) <|
  zgd_d (fun d => zo_h d rfl ⟨rfl, Nat.le_of_ble_eq_true rfl, _, _, _, Or.inl ⟨Nat.le_of_ble_eq_true rfl, rfl⟩, Nat.le_of_ble_eq_true rfl, zw_341⟩) <|
  zgd_d (fun d => zo_h d rfl ⟨rfl, Nat.le_of_ble_eq_true rfl, _, _, _, Or.inl ⟨Nat.le_of_ble_eq_true rfl, rfl⟩, Nat.le_of_ble_eq_true rfl, zw_177⟩) <|
  zgd_d (fun d => zo_v d rfl ⟨rfl, zd_51, zw_566, Nat.le_of_ble_eq_true rfl, ⟨_, Or.inl ⟨Nat.le_of_ble_eq_true rfl, rfl⟩, rfl⟩, zw_1097, zw_567⟩) <|
  zgd_d (fun d => zo_l d rfl rfl trivial) <|
  zgd_d (fun d => zo_h d rfl ⟨rfl, Nat.le_of_ble_eq_true rfl, _, _, _, Or.inl ⟨Nat.le_of_ble_eq_true rfl, rfl⟩, Nat.le_of_ble_eq_true rfl, zw_347⟩) <|
  zgd_d (fun d => zo_l d rfl rfl trivial) <|
  zgd_d (fun d => zo_v d rfl ⟨rfl, zd_46, zw_325, Nat.le_of_ble_eq_true rfl, ⟨_, Or.inl ⟨Nat.le_of_ble_eq_true rfl, rfl⟩, rfl⟩, zw_786, zw_326⟩) <|
  zgd_d (fun d => zo_l d rfl rfl trivial) <|
  zgd_d (fun d => zo_h d rfl ⟨rfl, Nat.le_of_ble_eq_true rfl, _, _, _, Or.inl ⟨Nat.le_of_ble_eq_true rfl, rfl⟩, Nat.le_of_ble_eq_true rfl, zw_347⟩) <|
  zgd_d (fun d => zo_v d rfl ⟨rfl, zd_61, zw_609, Nat.le_of_ble_eq_true rfl, ⟨_, Or.inl ⟨Nat.le_of_ble_eq_true rfl, rfl⟩, rfl⟩, zw_608, zw_610⟩) <|
  zgd_d (fun d => zo_r d rfl) <|
  zgd_n)
  (z_fn)
theorem zdd_110 : ∀ q ∈ zc_110, decode prog_1_method_35_code q.1 = Except.ok (q.2.1, q.2.2.1) := zdd_of (by decide +kernel)
theorem zk_110 (xs : List Int32) : z_okm (za_T xs) za_P za_M 110 := z_okm_of ⟨"LyndonBench", "factorsIfRotated", "(I)I"⟩ prog_1_method_35_code zc_110 _ rfl rfl rfl rfl
  (zgd_x zdd_110 <|
  zgd_d (fun d => zo_l d rfl rfl trivial) <|
  zgd_d (fun d => zo_l d rfl rfl trivial) <|
  zgd_d (fun d => zo_v d rfl ⟨rfl, zd_137, zw_936, Nat.le_of_ble_eq_true rfl, ⟨_, Or.inl ⟨Nat.le_of_ble_eq_true rfl, rfl⟩, rfl⟩, zw_934, zw_26⟩) <|
  zgd_d (fun d => zo_l d rfl rfl trivial) <|
  zgd_d (fun d => zo_h d rfl ⟨rfl, Nat.le_of_ble_eq_true rfl, _, _, _, Or.inl ⟨Nat.le_of_ble_eq_true rfl, rfl⟩, Nat.le_of_ble_eq_true rfl, zw_347⟩) <|
  zgd_d (fun d => zo_l d rfl rfl trivial) <|
  zgd_d (fun d => zo_h d rfl ⟨rfl, Nat.le_of_ble_eq_true rfl, _, _, _, Or.inl ⟨Nat.le_of_ble_eq_true rfl, rfl⟩, Nat.le_of_ble_eq_true rfl, zw_341⟩) <|
  zgd_d (fun d => zo_h d rfl ⟨rfl, Nat.le_of_ble_eq_true rfl, _, _, _, Or.inl ⟨Nat.le_of_ble_eq_true rfl, rfl⟩, Nat.le_of_ble_eq_true rfl, zw_177⟩) <|
  zgd_d (fun d => zo_v d rfl ⟨rfl, zd_51, zw_566, Nat.le_of_ble_eq_true rfl, ⟨_, Or.inl ⟨Nat.le_of_ble_eq_true rfl, rfl⟩, rfl⟩, zw_1097, zw_567⟩) <|
  zgd_d (fun d => zo_l d rfl rfl trivial) <|
  zgd_d (fun d => zo_h d rfl ⟨rfl, Nat.le_of_ble_eq_true rfl, _, _, _, Or.inl ⟨Nat.le_of_ble_eq_true rfl, rfl⟩, Nat.le_of_ble_eq_true rfl, zw_347⟩) <|
  zgd_d (fun d => zo_l d rfl rfl trivial) <|
  zgd_d (fun d => zo_v d rfl ⟨rfl, zd_55, zw_481, Nat.le_of_ble_eq_true rfl, ⟨_, Or.inl ⟨Nat.le_of_ble_eq_true rfl, rfl⟩, rfl⟩, zw_959, zw_482⟩) <|
  zgd_d (fun d => zo_l d rfl rfl trivial) <|
  zgd_d (fun d => zo_h d rfl ⟨rfl, Nat.le_of_ble_eq_true rfl, _, _, _, Or.inl ⟨Nat.le_of_ble_eq_true rfl, rfl⟩, Nat.le_of_ble_eq_true rfl, zw_347⟩) <|
  zgd_d (fun d => zo_v d rfl ⟨rfl, zd_61, zw_609, Nat.le_of_ble_eq_true rfl, ⟨_, Or.inl ⟨Nat.le_of_ble_eq_true rfl, rfl⟩, rfl⟩, zw_608, zw_610⟩) <|
  zgd_d (fun d => zo_r d rfl) <|
  zgd_n)
  (z_fn)
theorem zdd_111 : ∀ q ∈ zc_111, decode prog_1_method_36_code q.1 = Except.ok (q.2.1, q.2.2.1) := zdd_of (by decide +kernel)
theorem zk_111 (xs : List Int32) : z_okm (za_T xs) za_P za_M 111 := z_okm_of ⟨"LyndonBench", "rankOf", "(I)I"⟩ prog_1_method_36_code zc_111 _ rfl rfl rfl rfl
  (zgd_x zdd_111 <|
  zgd_d (fun d => zo_l d rfl rfl trivial) <|
  zgd_d (fun d => zo_l d rfl rfl trivial) <|
  zgd_d (fun d => zo_v d rfl ⟨rfl, zd_140, zw_990, Nat.le_of_ble_eq_true rfl, ⟨_, Or.inl ⟨Nat.le_of_ble_eq_true rfl, rfl⟩, rfl⟩, zw_988, zw_28⟩) <|
  zgd_d (fun d => zo_l d rfl rfl trivial) <|
  zgd_d (fun d => zo_l d rfl rfl trivial) <|
  zgd_d (fun d => zo_h d rfl ⟨rfl, Nat.le_of_ble_eq_true rfl, _, _, _, Or.inl ⟨Nat.le_of_ble_eq_true rfl, rfl⟩, Nat.le_of_ble_eq_true rfl, zw_341⟩) <|
  zgd_d (fun d => zo_h d rfl ⟨rfl, Nat.le_of_ble_eq_true rfl, _, _, _, Or.inl ⟨Nat.le_of_ble_eq_true rfl, rfl⟩, Nat.le_of_ble_eq_true rfl, zw_177⟩) <|
  zgd_d (fun d => zo_l d rfl rfl trivial) <|
  zgd_d (fun d => zo_v d rfl ⟨rfl, zd_59, zw_518, Nat.le_of_ble_eq_true rfl, ⟨_, Or.inl ⟨Nat.le_of_ble_eq_true rfl, rfl⟩, rfl⟩, zw_707, zw_519⟩) <|
  zgd_d (fun d => zo_l d rfl rfl trivial) <|
  zgd_d (fun d => zo_l d rfl rfl trivial) <|
  zgd_d (fun d => zo_h d rfl ⟨rfl, Nat.le_of_ble_eq_true rfl, _, _, _, Or.inl ⟨Nat.le_of_ble_eq_true rfl, rfl⟩, Nat.le_of_ble_eq_true rfl, zw_341⟩) <|
  zgd_d (fun d => zo_h d rfl ⟨rfl, Nat.le_of_ble_eq_true rfl, _, _, _, Or.inl ⟨Nat.le_of_ble_eq_true rfl, rfl⟩, Nat.le_of_ble_eq_true rfl, zw_175⟩) <|
  zgd_d (fun d => zo_l d rfl rfl trivial) <|
  zgd_d (fun d => zo_l d rfl rfl trivial) <|
  zgd_d (fun d => zo_l d rfl rfl trivial) <|
  zgd_d (fun d => zo_s d rfl ⟨zd_141, zw_1112, zw_1113⟩) <|
  zgd_d (fun d => zo_l d rfl rfl (by show ((31 : Nat) : Int) + (5) = ((36 : Nat) : Int); decide)) <|
  zgd_d (fun d => zo_l d rfl rfl trivial) <|
  zgd_d (fun d => zo_r d rfl) <|
  zgd_d (fun d => zo_l d rfl rfl trivial) <|
  zgd_d (fun d => zo_l d rfl rfl trivial) <|
  zgd_d (fun d => zo_l d rfl rfl trivial) <|
  zgd_d (fun d => zo_v d rfl ⟨rfl, zd_145, zw_1118, Nat.le_of_ble_eq_true rfl, ⟨_, Or.inl ⟨Nat.le_of_ble_eq_true rfl, rfl⟩, rfl⟩, zw_1116, zw_29⟩) <|
  zgd_d (fun d => zo_r d rfl) <|
  zgd_n)
  (z_fn)
theorem zdd_112 : ∀ q ∈ zc_112, decode prog_1_method_37_code q.1 = Except.ok (q.2.1, q.2.2.1) := zdd_of (by decide +kernel)
theorem zk_112 (xs : List Int32) : z_okm (za_T xs) za_P za_M 112 := z_okm_of ⟨"LyndonBench", "isLyndon", "()Z"⟩ prog_1_method_37_code zc_112 _ rfl rfl rfl rfl
  (zgd_x zdd_112 <|
  zgd_d (fun d => zo_l d rfl rfl trivial) <|
  zgd_d (fun d => zo_h d rfl ⟨rfl, Nat.le_of_ble_eq_true rfl, _, _, _, Or.inl ⟨Nat.le_of_ble_eq_true rfl, rfl⟩, Nat.le_of_ble_eq_true rfl, zw_341⟩) <|
  zgd_d (fun d => zo_h d rfl ⟨rfl, Nat.le_of_ble_eq_true rfl, _, _, _, Or.inl ⟨Nat.le_of_ble_eq_true rfl, rfl⟩, Nat.le_of_ble_eq_true rfl, zw_177⟩) <|
  zgd_d (fun d => zo_v d rfl ⟨rfl, zd_62, zw_514, Nat.le_of_ble_eq_true rfl, ⟨_, Or.inl ⟨Nat.le_of_ble_eq_true rfl, rfl⟩, rfl⟩, zw_673, zw_515⟩) <|
  zgd_d (fun d => zo_r d rfl) <|
  zgd_n)
  (z_fn)
theorem zdd_113 : ∀ q ∈ zc_113, decode prog_1_method_38_code q.1 = Except.ok (q.2.1, q.2.2.1) := zdd_of (by decide +kernel)
theorem zk_113 (xs : List Int32) : z_okm (za_T xs) za_P za_M 113 := z_okm_of ⟨"LyndonBench", "whyNotLyndon", "()I"⟩ prog_1_method_38_code zc_113 _ rfl rfl rfl rfl
  (zgd_x zdd_113 <|
  zgd_d (fun d => zo_l d rfl rfl trivial) <|
  zgd_d (fun d => zo_h d rfl ⟨rfl, Nat.le_of_ble_eq_true rfl, _, _, _, Or.inl ⟨Nat.le_of_ble_eq_true rfl, rfl⟩, Nat.le_of_ble_eq_true rfl, zw_341⟩) <|
  zgd_d (fun d => zo_h d rfl ⟨rfl, Nat.le_of_ble_eq_true rfl, _, _, _, Or.inl ⟨Nat.le_of_ble_eq_true rfl, rfl⟩, Nat.le_of_ble_eq_true rfl, zw_177⟩) <|
  zgd_d (fun d => zo_h d rfl ⟨rfl, Nat.le_of_ble_eq_true rfl, _, _, _, Or.inl ⟨Nat.le_of_ble_eq_true rfl, rfl⟩, Nat.le_of_ble_eq_true rfl, zw_164⟩) <|
  zgd_d (fun d => zo_l d rfl rfl (by show ((10 : Nat) : Int) + (5) = ((15 : Nat) : Int); decide)) <|
  zgd_d (fun d => zo_l d rfl rfl trivial) <|
  zgd_d (fun d => zo_r d rfl) <|
  zgd_d (fun d => zo_l d rfl rfl trivial) <|
  zgd_d (fun d => zo_h d rfl ⟨rfl, Nat.le_of_ble_eq_true rfl, _, _, _, Or.inl ⟨Nat.le_of_ble_eq_true rfl, rfl⟩, Nat.le_of_ble_eq_true rfl, zw_341⟩) <|
  zgd_d (fun d => zo_h d rfl ⟨rfl, Nat.le_of_ble_eq_true rfl, _, _, _, Or.inl ⟨Nat.le_of_ble_eq_true rfl, rfl⟩, Nat.le_of_ble_eq_true rfl, zw_177⟩) <|
  zgd_d (fun d => zo_v d rfl ⟨rfl, zd_71, zw_679, Nat.le_of_ble_eq_true rfl, ⟨_, Or.inl ⟨Nat.le_of_ble_eq_true rfl, rfl⟩, rfl⟩, zw_678, zw_680⟩) <|
  zgd_d (fun d => zo_l d rfl rfl trivial) <|
  zgd_d (fun d => zo_h d rfl ⟨rfl, Nat.le_of_ble_eq_true rfl, _, _, _, Or.inl ⟨Nat.le_of_ble_eq_true rfl, rfl⟩, Nat.le_of_ble_eq_true rfl, zw_341⟩) <|
  zgd_d (fun d => zo_h d rfl ⟨rfl, Nat.le_of_ble_eq_true rfl, _, _, _, Or.inl ⟨Nat.le_of_ble_eq_true rfl, rfl⟩, Nat.le_of_ble_eq_true rfl, zw_177⟩) <|
  zgd_d (fun d => zo_h d rfl ⟨rfl, Nat.le_of_ble_eq_true rfl, _, _, _, Or.inl ⟨Nat.le_of_ble_eq_true rfl, rfl⟩, Nat.le_of_ble_eq_true rfl, zw_164⟩) <|
  zgd_d (fun d => zo_l d rfl rfl (by show ((35 : Nat) : Int) + (5) = ((40 : Nat) : Int); decide)) <|
  zgd_d (fun d => zo_l d rfl rfl trivial) <|
  zgd_d (fun d => zo_r d rfl) <|
  zgd_d (fun d => zo_l d rfl rfl trivial) <|
  zgd_d (fun d => zo_h d rfl ⟨rfl, Nat.le_of_ble_eq_true rfl, _, _, _, Or.inl ⟨Nat.le_of_ble_eq_true rfl, rfl⟩, Nat.le_of_ble_eq_true rfl, zw_341⟩) <|
  zgd_d (fun d => zo_h d rfl ⟨rfl, Nat.le_of_ble_eq_true rfl, _, _, _, Or.inl ⟨Nat.le_of_ble_eq_true rfl, rfl⟩, Nat.le_of_ble_eq_true rfl, zw_177⟩) <|
  zgd_d (fun d => zo_v d rfl ⟨rfl, zd_72, zw_498, Nat.le_of_ble_eq_true rfl, ⟨_, Or.inl ⟨Nat.le_of_ble_eq_true rfl, rfl⟩, rfl⟩, zw_690, zw_499⟩) <|
  zgd_d (fun d => zo_l d rfl rfl (by show ((50 : Nat) : Int) + (7) = ((57 : Nat) : Int); decide)) <|
  zgd_d (fun d => zo_l d rfl rfl trivial) <|
  zgd_d (fun d => zo_l d rfl rfl (by show ((54 : Nat) : Int) + (4) = ((58 : Nat) : Int); decide)) <|
  zgd_d (fun d => zo_l d rfl rfl trivial) <|
  zgd_d (fun d => zo_r d rfl) <|
  zgd_n)
  (z_fn)
theorem zdd_114 : ∀ q ∈ zc_114, decode prog_1_method_39_code q.1 = Except.ok (q.2.1, q.2.2.1) := zdd_of (by decide +kernel)
theorem zk_114 (xs : List Int32) : z_okm (za_T xs) za_P za_M 114 := z_okm_of ⟨"LyndonBench", "isNecklace", "()Z"⟩ prog_1_method_39_code zc_114 _ rfl rfl rfl rfl
  (zgd_x zdd_114 <|
  zgd_d (fun d => zo_l d rfl rfl trivial) <|
  zgd_d (fun d => zo_h d rfl ⟨rfl, Nat.le_of_ble_eq_true rfl, _, _, _, Or.inl ⟨Nat.le_of_ble_eq_true rfl, rfl⟩, Nat.le_of_ble_eq_true rfl, zw_341⟩) <|
  zgd_d (fun d => zo_h d rfl ⟨rfl, Nat.le_of_ble_eq_true rfl, _, _, _, Or.inl ⟨Nat.le_of_ble_eq_true rfl, rfl⟩, Nat.le_of_ble_eq_true rfl, zw_177⟩) <|
  zgd_d (fun d => zo_h d rfl ⟨rfl, Nat.le_of_ble_eq_true rfl, _, _, _, Or.inl ⟨Nat.le_of_ble_eq_true rfl, rfl⟩, Nat.le_of_ble_eq_true rfl, zw_164⟩) <|
  zgd_d (fun d => zo_l d rfl rfl (by show ((10 : Nat) : Int) + (20) = ((30 : Nat) : Int); decide)) <|
  zgd_d (fun d => zo_l d rfl rfl trivial) <|
  zgd_d (fun d => zo_h d rfl ⟨rfl, Nat.le_of_ble_eq_true rfl, _, _, _, Or.inl ⟨Nat.le_of_ble_eq_true rfl, rfl⟩, Nat.le_of_ble_eq_true rfl, zw_341⟩) <|
  zgd_d (fun d => zo_h d rfl ⟨rfl, Nat.le_of_ble_eq_true rfl, _, _, _, Or.inl ⟨Nat.le_of_ble_eq_true rfl, rfl⟩, Nat.le_of_ble_eq_true rfl, zw_177⟩) <|
  zgd_d (fun d => zo_v d rfl ⟨rfl, zd_72, zw_498, Nat.le_of_ble_eq_true rfl, ⟨_, Or.inl ⟨Nat.le_of_ble_eq_true rfl, rfl⟩, rfl⟩, zw_690, zw_499⟩) <|
  zgd_d (fun d => zo_l d rfl rfl (by show ((23 : Nat) : Int) + (7) = ((30 : Nat) : Int); decide)) <|
  zgd_d (fun d => zo_l d rfl rfl trivial) <|
  zgd_d (fun d => zo_l d rfl rfl (by show ((27 : Nat) : Int) + (4) = ((31 : Nat) : Int); decide)) <|
  zgd_d (fun d => zo_l d rfl rfl trivial) <|
  zgd_d (fun d => zo_r d rfl) <|
  zgd_n)
  (z_fn)
theorem zdd_115 : ∀ q ∈ zc_115, decode prog_1_method_40_code q.1 = Except.ok (q.2.1, q.2.2.1) := zdd_of (by decide +kernel)
theorem zk_115 (xs : List Int32) : z_okm (za_T xs) za_P za_M 115 := z_okm_of ⟨"LyndonBench", "isPrenecklace", "()Z"⟩ prog_1_method_40_code zc_115 _ rfl rfl rfl rfl
  (zgd_x zdd_115 <|
  zgd_d (fun d => zo_l d rfl rfl trivial) <|
  zgd_d (fun d => zo_h d rfl ⟨rfl, Nat.le_of_ble_eq_true rfl, _, _, _, Or.inl ⟨Nat.le_of_ble_eq_true rfl, rfl⟩, Nat.le_of_ble_eq_true rfl, zw_341⟩) <|
  zgd_d (fun d => zo_h d rfl ⟨rfl, Nat.le_of_ble_eq_true rfl, _, _, _, Or.inl ⟨Nat.le_of_ble_eq_true rfl, rfl⟩, Nat.le_of_ble_eq_true rfl, zw_177⟩) <|
  zgd_d (fun d => zo_v d rfl ⟨rfl, zd_68, zw_700, Nat.le_of_ble_eq_true rfl, ⟨_, Or.inl ⟨Nat.le_of_ble_eq_true rfl, rfl⟩, rfl⟩, zw_699, zw_701⟩) <|
  zgd_d (fun d => zo_r d rfl) <|
  zgd_n)
  (z_fn)
theorem zdd_116 : ∀ q ∈ zc_116, decode prog_1_method_41_code q.1 = Except.ok (q.2.1, q.2.2.1) := zdd_of (by decide +kernel)
theorem zk_116 (xs : List Int32) : z_okm (za_T xs) za_P za_M 116 := z_okm_of ⟨"LyndonBench", "keepingLetter", "()I"⟩ prog_1_method_41_code zc_116 _ rfl rfl rfl rfl
  (zgd_x zdd_116 <|
  zgd_d (fun d => zo_l d rfl rfl trivial) <|
  zgd_d (fun d => zo_h d rfl ⟨rfl, Nat.le_of_ble_eq_true rfl, _, _, _, Or.inl ⟨Nat.le_of_ble_eq_true rfl, rfl⟩, Nat.le_of_ble_eq_true rfl, zw_341⟩) <|
  zgd_d (fun d => zo_h d rfl ⟨rfl, Nat.le_of_ble_eq_true rfl, _, _, _, Or.inl ⟨Nat.le_of_ble_eq_true rfl, rfl⟩, Nat.le_of_ble_eq_true rfl, zw_177⟩) <|
  zgd_d (fun d => zo_v d rfl ⟨rfl, zd_68, zw_700, Nat.le_of_ble_eq_true rfl, ⟨_, Or.inl ⟨Nat.le_of_ble_eq_true rfl, rfl⟩, rfl⟩, zw_699, zw_701⟩) <|
  zgd_d (fun d => zo_l d rfl rfl (by show ((10 : Nat) : Int) + (5) = ((15 : Nat) : Int); decide)) <|
  zgd_d (fun d => zo_l d rfl rfl trivial) <|
  zgd_d (fun d => zo_r d rfl) <|
  zgd_d (fun d => zo_l d rfl rfl trivial) <|
  zgd_d (fun d => zo_h d rfl ⟨rfl, Nat.le_of_ble_eq_true rfl, _, _, _, Or.inl ⟨Nat.le_of_ble_eq_true rfl, rfl⟩, Nat.le_of_ble_eq_true rfl, zw_341⟩) <|
  zgd_d (fun d => zo_h d rfl ⟨rfl, Nat.le_of_ble_eq_true rfl, _, _, _, Or.inl ⟨Nat.le_of_ble_eq_true rfl, rfl⟩, Nat.le_of_ble_eq_true rfl, zw_177⟩) <|
  zgd_d (fun d => zo_l d rfl rfl trivial) <|
  zgd_d (fun d => zo_h d rfl ⟨rfl, Nat.le_of_ble_eq_true rfl, _, _, _, Or.inl ⟨Nat.le_of_ble_eq_true rfl, rfl⟩, Nat.le_of_ble_eq_true rfl, zw_341⟩) <|
  zgd_d (fun d => zo_h d rfl ⟨rfl, Nat.le_of_ble_eq_true rfl, _, _, _, Or.inl ⟨Nat.le_of_ble_eq_true rfl, rfl⟩, Nat.le_of_ble_eq_true rfl, zw_177⟩) <|
  zgd_d (fun d => zo_h d rfl ⟨rfl, Nat.le_of_ble_eq_true rfl, _, _, _, Or.inl ⟨Nat.le_of_ble_eq_true rfl, rfl⟩, Nat.le_of_ble_eq_true rfl, zw_164⟩) <|
  zgd_d (fun d => zo_l d rfl rfl trivial) <|
  zgd_d (fun d => zo_h d rfl ⟨rfl, Nat.le_of_ble_eq_true rfl, _, _, _, Or.inl ⟨Nat.le_of_ble_eq_true rfl, rfl⟩, Nat.le_of_ble_eq_true rfl, zw_341⟩) <|
  zgd_d (fun d => zo_h d rfl ⟨rfl, Nat.le_of_ble_eq_true rfl, _, _, _, Or.inl ⟨Nat.le_of_ble_eq_true rfl, rfl⟩, Nat.le_of_ble_eq_true rfl, zw_177⟩) <|
  zgd_d (fun d => zo_l d rfl rfl trivial) <|
  zgd_d (fun d => zo_v d rfl ⟨rfl, zd_59, zw_518, Nat.le_of_ble_eq_true rfl, ⟨_, Or.inl ⟨Nat.le_of_ble_eq_true rfl, rfl⟩, rfl⟩, zw_707, zw_519⟩) <|
  zgd_d (fun d => zo_l d rfl rfl trivial) <|
  zgd_d (fun d => zo_v d rfl ⟨rfl, zd_43, zw_338, Nat.le_of_ble_eq_true rfl, ⟨_, Or.inl ⟨Nat.le_of_ble_eq_true rfl, rfl⟩, rfl⟩, zw_648, zw_339⟩) <|
  zgd_d (fun d => zo_r d rfl) <|
  zgd_n)
  (z_fn)
theorem zdd_117 : ∀ q ∈ zc_117, decode prog_1_method_42_code q.1 = Except.ok (q.2.1, q.2.2.1) := zdd_of (by decide +kernel)
theorem zk_117 (xs : List Int32) : z_okm (za_T xs) za_P za_M 117 := z_okm_of ⟨"LyndonBench", "leastRotation", "()I"⟩ prog_1_method_42_code zc_117 _ rfl rfl rfl rfl
  (zgd_x zdd_117 <|
  zgd_d (fun d => zo_l d rfl rfl trivial) <|
  zgd_d (fun d => zo_h d rfl ⟨rfl, Nat.le_of_ble_eq_true rfl, _, _, _, Or.inl ⟨Nat.le_of_ble_eq_true rfl, rfl⟩, Nat.le_of_ble_eq_true rfl, zw_341⟩) <|
  zgd_d (fun d => zo_h d rfl ⟨rfl, Nat.le_of_ble_eq_true rfl, _, _, _, Or.inl ⟨Nat.le_of_ble_eq_true rfl, rfl⟩, Nat.le_of_ble_eq_true rfl, zw_177⟩) <|
  zgd_d (fun d => zo_v d rfl ⟨rfl, zd_72, zw_498, Nat.le_of_ble_eq_true rfl, ⟨_, Or.inl ⟨Nat.le_of_ble_eq_true rfl, rfl⟩, rfl⟩, zw_690, zw_499⟩) <|
  zgd_d (fun d => zo_r d rfl) <|
  zgd_n)
  (z_fn)
theorem zdd_118 : ∀ q ∈ zc_118, decode prog_1_method_43_code q.1 = Except.ok (q.2.1, q.2.2.1) := zdd_of (by decide +kernel)
theorem zk_118 (xs : List Int32) : z_okm (za_T xs) za_P za_M 118 := z_okm_of ⟨"LyndonBench", "rotationCount", "()I"⟩ prog_1_method_43_code zc_118 _ rfl rfl rfl rfl
  (zgd_x zdd_118 <|
  zgd_d (fun d => zo_l d rfl rfl trivial) <|
  zgd_d (fun d => zo_h d rfl ⟨rfl, Nat.le_of_ble_eq_true rfl, _, _, _, Or.inl ⟨Nat.le_of_ble_eq_true rfl, rfl⟩, Nat.le_of_ble_eq_true rfl, zw_341⟩) <|
  zgd_d (fun d => zo_h d rfl ⟨rfl, Nat.le_of_ble_eq_true rfl, _, _, _, Or.inl ⟨Nat.le_of_ble_eq_true rfl, rfl⟩, Nat.le_of_ble_eq_true rfl, zw_177⟩) <|
  zgd_d (fun d => zo_v d rfl ⟨rfl, zd_71, zw_679, Nat.le_of_ble_eq_true rfl, ⟨_, Or.inl ⟨Nat.le_of_ble_eq_true rfl, rfl⟩, rfl⟩, zw_678, zw_680⟩) <|
  zgd_d (fun d => zo_r d rfl) <|
  zgd_n)
  (z_fn)
theorem zdd_119 : ∀ q ∈ zc_119, decode prog_1_method_44_code q.1 = Except.ok (q.2.1, q.2.2.1) := zdd_of (by decide +kernel)
theorem zk_119 (xs : List Int32) : z_okm (za_T xs) za_P za_M 119 := z_okm_of ⟨"LyndonBench", "smallestPeriod", "()I"⟩ prog_1_method_44_code zc_119 _ rfl rfl rfl rfl
  (zgd_x zdd_119 <|
  zgd_d (fun d => zo_l d rfl rfl trivial) <|
  zgd_d (fun d => zo_h d rfl ⟨rfl, Nat.le_of_ble_eq_true rfl, _, _, _, Or.inl ⟨Nat.le_of_ble_eq_true rfl, rfl⟩, Nat.le_of_ble_eq_true rfl, zw_341⟩) <|
  zgd_d (fun d => zo_h d rfl ⟨rfl, Nat.le_of_ble_eq_true rfl, _, _, _, Or.inl ⟨Nat.le_of_ble_eq_true rfl, rfl⟩, Nat.le_of_ble_eq_true rfl, zw_177⟩) <|
  zgd_d (fun d => zo_v d rfl ⟨rfl, zd_70, zw_683, Nat.le_of_ble_eq_true rfl, ⟨_, Or.inl ⟨Nat.le_of_ble_eq_true rfl, rfl⟩, rfl⟩, zw_720, zw_684⟩) <|
  zgd_d (fun d => zo_r d rfl) <|
  zgd_n)
  (z_fn)
theorem zdd_120 : ∀ q ∈ zc_120, decode prog_1_method_45_code q.1 = Except.ok (q.2.1, q.2.2.1) := zdd_of (by decide +kernel)
theorem zk_120 (xs : List Int32) : z_okm (za_T xs) za_P za_M 120 := z_okm_of ⟨"LyndonBench", "longestBorder", "()I"⟩ prog_1_method_45_code zc_120 _ rfl rfl rfl rfl
  (zgd_x zdd_120 <|
  zgd_d (fun d => zo_l d rfl rfl trivial) <|
  zgd_d (fun d => zo_h d rfl ⟨rfl, Nat.le_of_ble_eq_true rfl, _, _, _, Or.inl ⟨Nat.le_of_ble_eq_true rfl, rfl⟩, Nat.le_of_ble_eq_true rfl, zw_341⟩) <|
  zgd_d (fun d => zo_h d rfl ⟨rfl, Nat.le_of_ble_eq_true rfl, _, _, _, Or.inl ⟨Nat.le_of_ble_eq_true rfl, rfl⟩, Nat.le_of_ble_eq_true rfl, zw_177⟩) <|
  zgd_d (fun d => zo_h d rfl ⟨rfl, Nat.le_of_ble_eq_true rfl, _, _, _, Or.inl ⟨Nat.le_of_ble_eq_true rfl, rfl⟩, Nat.le_of_ble_eq_true rfl, zw_164⟩) <|
  zgd_d (fun d => zo_l d rfl rfl trivial) <|
  zgd_d (fun d => zo_h d rfl ⟨rfl, Nat.le_of_ble_eq_true rfl, _, _, _, Or.inl ⟨Nat.le_of_ble_eq_true rfl, rfl⟩, Nat.le_of_ble_eq_true rfl, zw_341⟩) <|
  zgd_d (fun d => zo_h d rfl ⟨rfl, Nat.le_of_ble_eq_true rfl, _, _, _, Or.inl ⟨Nat.le_of_ble_eq_true rfl, rfl⟩, Nat.le_of_ble_eq_true rfl, zw_177⟩) <|
  zgd_d (fun d => zo_v d rfl ⟨rfl, zd_70, zw_683, Nat.le_of_ble_eq_true rfl, ⟨_, Or.inl ⟨Nat.le_of_ble_eq_true rfl, rfl⟩, rfl⟩, zw_720, zw_684⟩) <|
  zgd_d (fun d => zo_l d rfl rfl trivial) <|
  zgd_d (fun d => zo_r d rfl) <|
  zgd_n)
  (z_fn)
