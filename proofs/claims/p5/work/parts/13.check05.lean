/-! The check of the tables, methods 299 to 327. -/
theorem zdd_299 : ∀ q ∈ zc_299, decode prog_20_method_155_code q.1 = Except.ok (q.2.1, q.2.2.1) := zdd_of (by decide +kernel)
theorem zk_299 (xs : List Int32) : z_okm (za_T xs) za_P za_M 299 := z_okm_of ⟨"java/lang/String", "checkIndex", "(II)V"⟩ prog_20_method_155_code zc_299 _ rfl rfl rfl rfl
  (zgd_x zdd_299 <|
  zgd_d (fun d => zo_l d rfl rfl trivial) <|
  zgd_d (fun d => zo_l d rfl rfl trivial) <|
  zgd_d (fun d => zo_h d rfl ⟨rfl, _, rfl, zw_300⟩) <|
  zgd_d (fun d => zo_s d rfl ⟨zd_301, zw_302, zw_303⟩) <|
  zgd_d (fun d => zo_l d rfl rfl trivial) <|
  zgd_d (fun d => zo_e d) <|
  zgd_n)
  (z_fn)
theorem zdd_300 : ∀ q ∈ zc_300, decode prog_21_method_2_code q.1 = Except.ok (q.2.1, q.2.2.1) := zdd_of (by decide +kernel)
theorem zk_300 (xs : List Int32) : z_okm (za_T xs) za_P za_M 300 := z_okm_of ⟨"java/lang/StringLatin1", "charAt", "([BI)C"⟩ prog_21_method_2_code zc_300 _ rfl rfl rfl rfl
  (zgd_x zdd_300 <|
  zgd_d (fun d => zo_l d rfl rfl trivial) <|
  zgd_d (fun d => zo_l d rfl rfl trivial) <|
  zgd_d (fun d => zo_h d rfl rfl) <|
  zgd_d (fun d => zo_s d rfl ⟨zd_299, zw_297, zw_298⟩) <|
  zgd_d (fun d => zo_l d rfl rfl trivial) <|
  zgd_d (fun d => zo_l d rfl rfl trivial) <|
  zgd_d (fun d => zo_h d rfl rfl) <|
  zgd_d (fun d => zo_l d rfl rfl trivial) <|
  zgd_d (fun d => zo_l d rfl rfl trivial) <|
  zgd_d (fun d => zo_l d rfl rfl trivial) <|
  zgd_d (fun d => zo_r d rfl) <|
  zgd_n)
  (z_fn)
theorem zdd_301 : ∀ q ∈ zc_301, decode prog_27_method_11_code q.1 = Except.ok (q.2.1, q.2.2.1) := zdd_of (by decide +kernel)
theorem zk_301 (xs : List Int32) : z_okm (za_T xs) za_P za_M 301 := z_okm_of ⟨"jdk/internal/util/Preconditions", "checkIndex", "(IILjava/util/function/BiFunction;)I"⟩ prog_27_method_11_code zc_301 _ rfl rfl rfl rfl
  (zgd_x zdd_301 <|
  zgd_d (fun d => zo_l d rfl rfl trivial) <|
  zgd_d (fun d => zo_l d rfl rfl (by show ((1 : Nat) : Int) + (8) = ((9 : Nat) : Int); decide)) <|
  zgd_d (fun d => zo_l d rfl rfl trivial) <|
  zgd_d (fun d => zo_l d rfl rfl trivial) <|
  zgd_d (fun d => zo_l d rfl rfl (by show ((6 : Nat) : Int) + (10) = ((16 : Nat) : Int); decide)) <|
  zgd_d (fun d => zo_l d rfl rfl trivial) <|
  zgd_d (fun d => zo_l d rfl rfl trivial) <|
  zgd_d (fun d => zo_l d rfl rfl trivial) <|
  zgd_d (fun d => zo_l d rfl rfl trivial) <|
  zgd_d (fun d => zo_r d rfl) <|
  zgd_n)
  (z_fn)
theorem zdd_302 : ∀ q ∈ zc_302, decode method_3_code q.1 = Except.ok (q.2.1, q.2.2.1) := zdd_of (by decide +kernel)
theorem zk_302 (xs : List Int32) : z_okm (za_T xs) za_P za_M 302 := z_okm_of ⟨"LyndonBenchLaw", "truncateInput", "(LLyndonBench;I[J)I"⟩ method_3_code zc_302 _ rfl rfl rfl rfl
  (zgd_x zdd_302 <|
  zgd_d (fun d => zo_l d rfl rfl trivial) <|
  zgd_d (fun d => zo_l d rfl rfl trivial) <|
  zgd_d (fun d => zo_l d rfl rfl trivial) <|
  zgd_d (fun d => zo_l d rfl rfl trivial) <|
  zgd_d (fun d => zo_v d rfl ⟨rfl, zd_78, zw_801, Nat.le_of_ble_eq_true rfl, ⟨_, Or.inl ⟨Nat.le_of_ble_eq_true rfl, rfl⟩, rfl⟩, zw_800, zw_802⟩) <|
  zgd_d (fun d => zo_l d rfl rfl trivial) <|
  zgd_d (fun d => zo_h d rfl rfl) <|
  zgd_d (fun d => zo_l d rfl rfl (by show ((9 : Nat) : Int) + (6) = ((15 : Nat) : Int); decide)) <|
  zgd_d (fun d => zo_l d rfl rfl trivial) <|
  zgd_d (fun d => zo_l d rfl rfl trivial) <|
  zgd_d (fun d => zo_r d rfl) <|
  zgd_d (fun d => zo_l d rfl rfl trivial) <|
  zgd_d (fun d => zo_r d rfl) <|
  zgd_n)
  (z_fc (⟨by decide, zw_799, by decide +kernel, rfl, 1, Or.inl ⟨3, by decide +kernel, Nat.le_of_ble_eq_true rfl, rfl⟩, 1, by decide +kernel, rfl, by decide +kernel⟩) <|
  z_fn)
theorem zdd_303 : ∀ q ∈ zc_303, decode method_4_code q.1 = Except.ok (q.2.1, q.2.2.1) := zdd_of (by decide +kernel)
theorem zk_303 (xs : List Int32) : z_okm (za_T xs) za_P za_M 303 := z_okm_of ⟨"LyndonBenchLaw", "setLetters", "(LLyndonBench;I[J)I"⟩ method_4_code zc_303 _ rfl rfl rfl rfl
  (zgd_x zdd_303 <|
  zgd_d (fun d => zo_l d rfl rfl trivial) <|
  zgd_d (fun d => zo_l d rfl rfl trivial) <|
  zgd_d (fun d => zo_l d rfl rfl trivial) <|
  zgd_d (fun d => zo_l d rfl rfl trivial) <|
  zgd_d (fun d => zo_v d rfl ⟨rfl, zd_80, zw_878, Nat.le_of_ble_eq_true rfl, ⟨_, Or.inl ⟨Nat.le_of_ble_eq_true rfl, rfl⟩, rfl⟩, zw_877, zw_879⟩) <|
  zgd_d (fun d => zo_l d rfl rfl trivial) <|
  zgd_d (fun d => zo_h d rfl rfl) <|
  zgd_d (fun d => zo_l d rfl rfl (by show ((9 : Nat) : Int) + (9) = ((18 : Nat) : Int); decide)) <|
  zgd_d (fun d => zo_l d rfl rfl trivial) <|
  zgd_d (fun d => zo_l d rfl rfl trivial) <|
  zgd_d (fun d => zo_r d rfl) <|
  zgd_d (fun d => zo_l d rfl rfl trivial) <|
  zgd_d (fun d => zo_l d rfl rfl trivial) <|
  zgd_d (fun d => zo_r d rfl) <|
  zgd_d (fun d => zo_l d rfl rfl trivial) <|
  zgd_d (fun d => zo_r d rfl) <|
  zgd_n)
  (z_fc (⟨by decide, zw_799, by decide +kernel, rfl, 1, Or.inl ⟨3, by decide +kernel, Nat.le_of_ble_eq_true rfl, rfl⟩, 1, by decide +kernel, rfl, by decide +kernel⟩) <|
  z_fc (⟨by decide, zw_876, by decide +kernel, rfl, 1, Or.inl ⟨3, by decide +kernel, Nat.le_of_ble_eq_true rfl, rfl⟩, 2, by decide +kernel, rfl, by decide +kernel⟩) <|
  z_fn)
theorem zdd_304 : ∀ q ∈ zc_304, decode method_5_code q.1 = Except.ok (q.2.1, q.2.2.1) := zdd_of (by decide +kernel)
theorem zk_304 (xs : List Int32) : z_okm (za_T xs) za_P za_M 304 := z_okm_of ⟨"LyndonBenchLaw", "readText", "(LLyndonBench;[J)I"⟩ method_5_code zc_304 _ rfl rfl rfl rfl
  (zgd_x zdd_304 <|
  zgd_d (fun d => zo_l d rfl rfl trivial) <|
  zgd_d (fun d => zo_l d rfl rfl trivial) <|
  zgd_d (fun d => zo_l d rfl rfl trivial) <|
  zgd_d (fun d => zo_v d rfl ⟨rfl, zd_81, zw_910, Nat.le_of_ble_eq_true rfl, ⟨_, Or.inl ⟨Nat.le_of_ble_eq_true rfl, rfl⟩, rfl⟩, zw_909, zw_911⟩) <|
  zgd_d (fun d => zo_l d rfl rfl trivial) <|
  zgd_d (fun d => zo_h d rfl rfl) <|
  zgd_d (fun d => zo_l d rfl rfl (by show ((8 : Nat) : Int) + (6) = ((14 : Nat) : Int); decide)) <|
  zgd_d (fun d => zo_l d rfl rfl trivial) <|
  zgd_d (fun d => zo_l d rfl rfl trivial) <|
  zgd_d (fun d => zo_r d rfl) <|
  zgd_d (fun d => zo_l d rfl rfl trivial) <|
  zgd_d (fun d => zo_r d rfl) <|
  zgd_n)
  (z_fc (⟨by decide, zw_876, by decide +kernel, rfl, 1, Or.inl ⟨2, by decide +kernel, Nat.le_of_ble_eq_true rfl, rfl⟩, 1, by decide +kernel, rfl, by decide +kernel⟩) <|
  z_fn)
theorem zdd_305 : ∀ q ∈ zc_305, decode method_6_code q.1 = Except.ok (q.2.1, q.2.2.1) := zdd_of (by decide +kernel)
theorem zk_305 (xs : List Int32) : z_okm (za_T xs) za_P za_M 305 := z_okm_of ⟨"LyndonBenchLaw", "appendLetter", "(LLyndonBench;I[J)I"⟩ method_6_code zc_305 _ rfl rfl rfl rfl
  (zgd_x zdd_305 <|
  zgd_d (fun d => zo_l d rfl rfl trivial) <|
  zgd_d (fun d => zo_l d rfl rfl trivial) <|
  zgd_d (fun d => zo_l d rfl rfl trivial) <|
  zgd_d (fun d => zo_l d rfl rfl trivial) <|
  zgd_d (fun d => zo_v d rfl ⟨rfl, zd_82, zw_919, Nat.le_of_ble_eq_true rfl, ⟨_, Or.inl ⟨Nat.le_of_ble_eq_true rfl, rfl⟩, rfl⟩, zw_918, zw_920⟩) <|
  zgd_d (fun d => zo_l d rfl rfl trivial) <|
  zgd_d (fun d => zo_h d rfl rfl) <|
  zgd_d (fun d => zo_l d rfl rfl (by show ((9 : Nat) : Int) + (9) = ((18 : Nat) : Int); decide)) <|
  zgd_d (fun d => zo_l d rfl rfl trivial) <|
  zgd_d (fun d => zo_l d rfl rfl trivial) <|
  zgd_d (fun d => zo_r d rfl) <|
  zgd_d (fun d => zo_l d rfl rfl trivial) <|
  zgd_d (fun d => zo_l d rfl rfl trivial) <|
  zgd_d (fun d => zo_r d rfl) <|
  zgd_d (fun d => zo_l d rfl rfl trivial) <|
  zgd_d (fun d => zo_r d rfl) <|
  zgd_n)
  (z_fc (⟨by decide, zw_799, by decide +kernel, rfl, 1, Or.inl ⟨3, by decide +kernel, Nat.le_of_ble_eq_true rfl, rfl⟩, 1, by decide +kernel, rfl, by decide +kernel⟩) <|
  z_fc (⟨by decide, zw_876, by decide +kernel, rfl, 1, Or.inl ⟨3, by decide +kernel, Nat.le_of_ble_eq_true rfl, rfl⟩, 2, by decide +kernel, rfl, by decide +kernel⟩) <|
  z_fn)
theorem zdd_306 : ∀ q ∈ zc_306, decode method_7_code q.1 = Except.ok (q.2.1, q.2.2.1) := zdd_of (by decide +kernel)
theorem zk_306 (xs : List Int32) : z_okm (za_T xs) za_P za_M 306 := z_okm_of ⟨"LyndonBenchLaw", "dropLast", "(LLyndonBench;I[J)I"⟩ method_7_code zc_306 _ rfl rfl rfl rfl
  (zgd_x zdd_306 <|
  zgd_d (fun d => zo_l d rfl rfl trivial) <|
  zgd_d (fun d => zo_l d rfl rfl trivial) <|
  zgd_d (fun d => zo_l d rfl rfl trivial) <|
  zgd_d (fun d => zo_l d rfl rfl trivial) <|
  zgd_d (fun d => zo_v d rfl ⟨rfl, zd_83, zw_931, Nat.le_of_ble_eq_true rfl, ⟨_, Or.inl ⟨Nat.le_of_ble_eq_true rfl, rfl⟩, rfl⟩, zw_930, zw_932⟩) <|
  zgd_d (fun d => zo_l d rfl rfl trivial) <|
  zgd_d (fun d => zo_h d rfl rfl) <|
  zgd_d (fun d => zo_l d rfl rfl (by show ((9 : Nat) : Int) + (6) = ((15 : Nat) : Int); decide)) <|
  zgd_d (fun d => zo_l d rfl rfl trivial) <|
  zgd_d (fun d => zo_l d rfl rfl trivial) <|
  zgd_d (fun d => zo_r d rfl) <|
  zgd_d (fun d => zo_l d rfl rfl trivial) <|
  zgd_d (fun d => zo_r d rfl) <|
  zgd_n)
  (z_fc (⟨by decide, zw_799, by decide +kernel, rfl, 1, Or.inl ⟨3, by decide +kernel, Nat.le_of_ble_eq_true rfl, rfl⟩, 1, by decide +kernel, rfl, by decide +kernel⟩) <|
  z_fn)
theorem zdd_307 : ∀ q ∈ zc_307, decode method_8_code q.1 = Except.ok (q.2.1, q.2.2.1) := zdd_of (by decide +kernel)
theorem zk_307 (xs : List Int32) : z_okm (za_T xs) za_P za_M 307 := z_okm_of ⟨"LyndonBenchLaw", "cutPart", "(LLyndonBench;II[J)I"⟩ method_8_code zc_307 _ rfl rfl rfl rfl
  (zgd_x zdd_307 <|
  zgd_d (fun d => zo_l d rfl rfl trivial) <|
  zgd_d (fun d => zo_l d rfl rfl trivial) <|
  zgd_d (fun d => zo_l d rfl rfl trivial) <|
  zgd_d (fun d => zo_l d rfl rfl trivial) <|
  zgd_d (fun d => zo_l d rfl rfl trivial) <|
  zgd_d (fun d => zo_v d rfl ⟨rfl, zd_84, zw_943, Nat.le_of_ble_eq_true rfl, ⟨_, Or.inl ⟨Nat.le_of_ble_eq_true rfl, rfl⟩, rfl⟩, zw_942, zw_944⟩) <|
  zgd_d (fun d => zo_l d rfl rfl trivial) <|
  zgd_d (fun d => zo_h d rfl rfl) <|
  zgd_d (fun d => zo_l d rfl rfl (by show ((10 : Nat) : Int) + (7) = ((17 : Nat) : Int); decide)) <|
  zgd_d (fun d => zo_l d rfl rfl trivial) <|
  zgd_d (fun d => zo_l d rfl rfl trivial) <|
  zgd_d (fun d => zo_r d rfl) <|
  zgd_d (fun d => zo_l d rfl rfl trivial) <|
  zgd_d (fun d => zo_r d rfl) <|
  zgd_n)
  (z_fc (⟨by decide, zw_799, by decide +kernel, rfl, 2, Or.inr ⟨4, by decide +kernel, Nat.le_of_ble_eq_true rfl, rfl⟩, 1, by decide +kernel, rfl, by decide +kernel⟩) <|
  z_fn)
theorem zdd_308 : ∀ q ∈ zc_308, decode method_9_code q.1 = Except.ok (q.2.1, q.2.2.1) := zdd_of (by decide +kernel)
theorem zk_308 (xs : List Int32) : z_okm (za_T xs) za_P za_M 308 := z_okm_of ⟨"LyndonBenchLaw", "rotate", "(LLyndonBench;I[J)I"⟩ method_9_code zc_308 _ rfl rfl rfl rfl
  (zgd_x zdd_308 <|
  zgd_d (fun d => zo_l d rfl rfl trivial) <|
  zgd_d (fun d => zo_l d rfl rfl trivial) <|
  zgd_d (fun d => zo_l d rfl rfl trivial) <|
  zgd_d (fun d => zo_l d rfl rfl trivial) <|
  zgd_d (fun d => zo_v d rfl ⟨rfl, zd_85, zw_956, Nat.le_of_ble_eq_true rfl, ⟨_, Or.inl ⟨Nat.le_of_ble_eq_true rfl, rfl⟩, rfl⟩, zw_955, zw_957⟩) <|
  zgd_d (fun d => zo_l d rfl rfl trivial) <|
  zgd_d (fun d => zo_h d rfl rfl) <|
  zgd_d (fun d => zo_l d rfl rfl (by show ((9 : Nat) : Int) + (6) = ((15 : Nat) : Int); decide)) <|
  zgd_d (fun d => zo_l d rfl rfl trivial) <|
  zgd_d (fun d => zo_l d rfl rfl trivial) <|
  zgd_d (fun d => zo_r d rfl) <|
  zgd_d (fun d => zo_l d rfl rfl trivial) <|
  zgd_d (fun d => zo_r d rfl) <|
  zgd_n)
  (z_fc (⟨by decide, zw_799, by decide +kernel, rfl, 1, Or.inl ⟨3, by decide +kernel, Nat.le_of_ble_eq_true rfl, rfl⟩, 1, by decide +kernel, rfl, by decide +kernel⟩) <|
  z_fn)
theorem zdd_309 : ∀ q ∈ zc_309, decode method_10_code q.1 = Except.ok (q.2.1, q.2.2.1) := zdd_of (by decide +kernel)
theorem zk_309 (xs : List Int32) : z_okm (za_T xs) za_P za_M 309 := z_okm_of ⟨"LyndonBenchLaw", "rotateToLeast", "(LLyndonBench;[J)I"⟩ method_10_code zc_309 _ rfl rfl rfl rfl
  (zgd_x zdd_309 <|
  zgd_d (fun d => zo_l d rfl rfl trivial) <|
  zgd_d (fun d => zo_l d rfl rfl trivial) <|
  zgd_d (fun d => zo_l d rfl rfl trivial) <|
  zgd_d (fun d => zo_v d rfl ⟨rfl, zd_87, zw_964, Nat.le_of_ble_eq_true rfl, ⟨_, Or.inl ⟨Nat.le_of_ble_eq_true rfl, rfl⟩, rfl⟩, zw_963, zw_965⟩) <|
  zgd_d (fun d => zo_l d rfl rfl trivial) <|
  zgd_d (fun d => zo_h d rfl rfl) <|
  zgd_d (fun d => zo_l d rfl rfl (by show ((8 : Nat) : Int) + (6) = ((14 : Nat) : Int); decide)) <|
  zgd_d (fun d => zo_l d rfl rfl trivial) <|
  zgd_d (fun d => zo_l d rfl rfl trivial) <|
  zgd_d (fun d => zo_r d rfl) <|
  zgd_d (fun d => zo_l d rfl rfl trivial) <|
  zgd_d (fun d => zo_r d rfl) <|
  zgd_n)
  (z_fc (⟨by decide, zw_876, by decide +kernel, rfl, 1, Or.inl ⟨2, by decide +kernel, Nat.le_of_ble_eq_true rfl, rfl⟩, 1, by decide +kernel, rfl, by decide +kernel⟩) <|
  z_fn)
theorem zdd_310 : ∀ q ∈ zc_310, decode method_11_code q.1 = Except.ok (q.2.1, q.2.2.1) := zdd_of (by decide +kernel)
theorem zk_310 (xs : List Int32) : z_okm (za_T xs) za_P za_M 310 := z_okm_of ⟨"LyndonBenchLaw", "nextLyndon", "(LLyndonBench;I[J)I"⟩ method_11_code zc_310 _ rfl rfl rfl rfl
  (zgd_x zdd_310 <|
  zgd_d (fun d => zo_l d rfl rfl trivial) <|
  zgd_d (fun d => zo_l d rfl rfl trivial) <|
  zgd_d (fun d => zo_l d rfl rfl trivial) <|
  zgd_d (fun d => zo_l d rfl rfl trivial) <|
  zgd_d (fun d => zo_v d rfl ⟨rfl, zd_88, zw_972, Nat.le_of_ble_eq_true rfl, ⟨_, Or.inl ⟨Nat.le_of_ble_eq_true rfl, rfl⟩, rfl⟩, zw_971, zw_973⟩) <|
  zgd_d (fun d => zo_l d rfl rfl trivial) <|
  zgd_d (fun d => zo_h d rfl rfl) <|
  zgd_d (fun d => zo_l d rfl rfl (by show ((9 : Nat) : Int) + (9) = ((18 : Nat) : Int); decide)) <|
  zgd_d (fun d => zo_l d rfl rfl trivial) <|
  zgd_d (fun d => zo_l d rfl rfl trivial) <|
  zgd_d (fun d => zo_r d rfl) <|
  zgd_d (fun d => zo_l d rfl rfl trivial) <|
  zgd_d (fun d => zo_l d rfl rfl trivial) <|
  zgd_d (fun d => zo_r d rfl) <|
  zgd_d (fun d => zo_l d rfl rfl trivial) <|
  zgd_d (fun d => zo_r d rfl) <|
  zgd_n)
  (z_fc (⟨by decide, zw_799, by decide +kernel, rfl, 1, Or.inl ⟨3, by decide +kernel, Nat.le_of_ble_eq_true rfl, rfl⟩, 1, by decide +kernel, rfl, by decide +kernel⟩) <|
  z_fc (⟨by decide, zw_876, by decide +kernel, rfl, 1, Or.inl ⟨3, by decide +kernel, Nat.le_of_ble_eq_true rfl, rfl⟩, 2, by decide +kernel, rfl, by decide +kernel⟩) <|
  z_fn)
theorem zdd_311 : ∀ q ∈ zc_311, decode method_12_code q.1 = Except.ok (q.2.1, q.2.2.1) := zdd_of (by decide +kernel)
theorem zk_311 (xs : List Int32) : z_okm (za_T xs) za_P za_M 311 := z_okm_of ⟨"LyndonBenchLaw", "keepFactor", "(LLyndonBench;I[J)I"⟩ method_12_code zc_311 _ rfl rfl rfl rfl
  (zgd_x zdd_311 <|
  zgd_d (fun d => zo_l d rfl rfl trivial) <|
  zgd_d (fun d => zo_l d rfl rfl trivial) <|
  zgd_d (fun d => zo_l d rfl rfl trivial) <|
  zgd_d (fun d => zo_l d rfl rfl trivial) <|
  zgd_d (fun d => zo_v d rfl ⟨rfl, zd_89, zw_985, Nat.le_of_ble_eq_true rfl, ⟨_, Or.inl ⟨Nat.le_of_ble_eq_true rfl, rfl⟩, rfl⟩, zw_984, zw_986⟩) <|
  zgd_d (fun d => zo_l d rfl rfl trivial) <|
  zgd_d (fun d => zo_h d rfl rfl) <|
  zgd_d (fun d => zo_l d rfl rfl (by show ((9 : Nat) : Int) + (9) = ((18 : Nat) : Int); decide)) <|
  zgd_d (fun d => zo_l d rfl rfl trivial) <|
  zgd_d (fun d => zo_l d rfl rfl trivial) <|
  zgd_d (fun d => zo_r d rfl) <|
  zgd_d (fun d => zo_l d rfl rfl trivial) <|
  zgd_d (fun d => zo_l d rfl rfl trivial) <|
  zgd_d (fun d => zo_r d rfl) <|
  zgd_d (fun d => zo_l d rfl rfl trivial) <|
  zgd_d (fun d => zo_r d rfl) <|
  zgd_n)
  (z_fc (⟨by decide, zw_983, by decide +kernel, rfl, 1, Or.inl ⟨3, by decide +kernel, Nat.le_of_ble_eq_true rfl, rfl⟩, 1, by decide +kernel, rfl, by decide +kernel⟩) <|
  z_fc (⟨by decide, zw_876, by decide +kernel, rfl, 1, Or.inl ⟨3, by decide +kernel, Nat.le_of_ble_eq_true rfl, rfl⟩, 2, by decide +kernel, rfl, by decide +kernel⟩) <|
  z_fn)
theorem zdd_312 : ∀ q ∈ zc_312, decode method_13_code q.1 = Except.ok (q.2.1, q.2.2.1) := zdd_of (by decide +kernel)
theorem zk_312 (xs : List Int32) : z_okm (za_T xs) za_P za_M 312 := z_okm_of ⟨"LyndonBenchLaw", "keepText", "(LLyndonBench;[J)I"⟩ method_13_code zc_312 _ rfl rfl rfl rfl
  (zgd_x zdd_312 <|
  zgd_d (fun d => zo_l d rfl rfl trivial) <|
  zgd_d (fun d => zo_l d rfl rfl trivial) <|
  zgd_d (fun d => zo_l d rfl rfl trivial) <|
  zgd_d (fun d => zo_v d rfl ⟨rfl, zd_90, zw_1015, Nat.le_of_ble_eq_true rfl, ⟨_, Or.inl ⟨Nat.le_of_ble_eq_true rfl, rfl⟩, rfl⟩, zw_1014, zw_1016⟩) <|
  zgd_d (fun d => zo_l d rfl rfl trivial) <|
  zgd_d (fun d => zo_h d rfl rfl) <|
  zgd_d (fun d => zo_l d rfl rfl (by show ((8 : Nat) : Int) + (6) = ((14 : Nat) : Int); decide)) <|
  zgd_d (fun d => zo_l d rfl rfl trivial) <|
  zgd_d (fun d => zo_l d rfl rfl trivial) <|
  zgd_d (fun d => zo_r d rfl) <|
  zgd_d (fun d => zo_l d rfl rfl trivial) <|
  zgd_d (fun d => zo_r d rfl) <|
  zgd_n)
  (z_fc (⟨by decide, zw_876, by decide +kernel, rfl, 1, Or.inl ⟨2, by decide +kernel, Nat.le_of_ble_eq_true rfl, rfl⟩, 1, by decide +kernel, rfl, by decide +kernel⟩) <|
  z_fn)
theorem zdd_313 : ∀ q ∈ zc_313, decode method_14_code q.1 = Except.ok (q.2.1, q.2.2.1) := zdd_of (by decide +kernel)
theorem zk_313 (xs : List Int32) : z_okm (za_T xs) za_P za_M 313 := z_okm_of ⟨"LyndonBenchLaw", "removeKept", "(LLyndonBench;I[J)I"⟩ method_14_code zc_313 _ rfl rfl rfl rfl
  (zgd_x zdd_313 <|
  zgd_d (fun d => zo_l d rfl rfl trivial) <|
  zgd_d (fun d => zo_l d rfl rfl trivial) <|
  zgd_d (fun d => zo_l d rfl rfl trivial) <|
  zgd_d (fun d => zo_l d rfl rfl trivial) <|
  zgd_d (fun d => zo_v d rfl ⟨rfl, zd_91, zw_1023, Nat.le_of_ble_eq_true rfl, ⟨_, Or.inl ⟨Nat.le_of_ble_eq_true rfl, rfl⟩, rfl⟩, zw_1022, zw_1024⟩) <|
  zgd_d (fun d => zo_l d rfl rfl trivial) <|
  zgd_d (fun d => zo_h d rfl rfl) <|
  zgd_d (fun d => zo_l d rfl rfl (by show ((9 : Nat) : Int) + (6) = ((15 : Nat) : Int); decide)) <|
  zgd_d (fun d => zo_l d rfl rfl trivial) <|
  zgd_d (fun d => zo_l d rfl rfl trivial) <|
  zgd_d (fun d => zo_r d rfl) <|
  zgd_d (fun d => zo_l d rfl rfl trivial) <|
  zgd_d (fun d => zo_r d rfl) <|
  zgd_n)
  (z_fc (⟨by decide, zw_983, by decide +kernel, rfl, 1, Or.inl ⟨3, by decide +kernel, Nat.le_of_ble_eq_true rfl, rfl⟩, 1, by decide +kernel, rfl, by decide +kernel⟩) <|
  z_fn)
theorem zdd_314 : ∀ q ∈ zc_314, decode method_15_code q.1 = Except.ok (q.2.1, q.2.2.1) := zdd_of (by decide +kernel)
theorem zk_314 (xs : List Int32) : z_okm (za_T xs) za_P za_M 314 := z_okm_of ⟨"LyndonBenchLaw", "joinKept", "(LLyndonBench;[J)I"⟩ method_15_code zc_314 _ rfl rfl rfl rfl
  (zgd_x zdd_314 <|
  zgd_d (fun d => zo_l d rfl rfl trivial) <|
  zgd_d (fun d => zo_l d rfl rfl trivial) <|
  zgd_d (fun d => zo_l d rfl rfl trivial) <|
  zgd_d (fun d => zo_v d rfl ⟨rfl, zd_92, zw_1032, Nat.le_of_ble_eq_true rfl, ⟨_, Or.inl ⟨Nat.le_of_ble_eq_true rfl, rfl⟩, rfl⟩, zw_1031, zw_1033⟩) <|
  zgd_d (fun d => zo_l d rfl rfl trivial) <|
  zgd_d (fun d => zo_h d rfl rfl) <|
  zgd_d (fun d => zo_l d rfl rfl (by show ((8 : Nat) : Int) + (6) = ((14 : Nat) : Int); decide)) <|
  zgd_d (fun d => zo_l d rfl rfl trivial) <|
  zgd_d (fun d => zo_l d rfl rfl trivial) <|
  zgd_d (fun d => zo_r d rfl) <|
  zgd_d (fun d => zo_l d rfl rfl trivial) <|
  zgd_d (fun d => zo_r d rfl) <|
  zgd_n)
  (z_fc (⟨by decide, zw_876, by decide +kernel, rfl, 1, Or.inl ⟨2, by decide +kernel, Nat.le_of_ble_eq_true rfl, rfl⟩, 1, by decide +kernel, rfl, by decide +kernel⟩) <|
  z_fn)
theorem zdd_315 : ∀ q ∈ zc_315, decode method_16_code q.1 = Except.ok (q.2.1, q.2.2.1) := zdd_of (by decide +kernel)
theorem zk_315 (xs : List Int32) : z_okm (za_T xs) za_P za_M 315 := z_okm_of ⟨"LyndonBenchLaw", "restoreSnapshot", "(LLyndonBench;[J)I"⟩ method_16_code zc_315 _ rfl rfl rfl rfl
  (zgd_x zdd_315 <|
  zgd_d (fun d => zo_l d rfl rfl trivial) <|
  zgd_d (fun d => zo_l d rfl rfl trivial) <|
  zgd_d (fun d => zo_l d rfl rfl trivial) <|
  zgd_d (fun d => zo_v d rfl ⟨rfl, zd_96, zw_1043, Nat.le_of_ble_eq_true rfl, ⟨_, Or.inl ⟨Nat.le_of_ble_eq_true rfl, rfl⟩, rfl⟩, zw_1042, zw_1044⟩) <|
  zgd_d (fun d => zo_l d rfl rfl trivial) <|
  zgd_d (fun d => zo_h d rfl rfl) <|
  zgd_d (fun d => zo_l d rfl rfl (by show ((8 : Nat) : Int) + (6) = ((14 : Nat) : Int); decide)) <|
  zgd_d (fun d => zo_l d rfl rfl trivial) <|
  zgd_d (fun d => zo_l d rfl rfl trivial) <|
  zgd_d (fun d => zo_r d rfl) <|
  zgd_d (fun d => zo_l d rfl rfl trivial) <|
  zgd_d (fun d => zo_r d rfl) <|
  zgd_n)
  (z_fc (⟨by decide, zw_1041, by decide +kernel, rfl, 1, Or.inl ⟨2, by decide +kernel, Nat.le_of_ble_eq_true rfl, rfl⟩, 1, by decide +kernel, rfl, by decide +kernel⟩) <|
  z_fn)
theorem zdd_316 : ∀ q ∈ zc_316, decode method_17_code q.1 = Except.ok (q.2.1, q.2.2.1) := zdd_of (by decide +kernel)
theorem zk_316 (xs : List Int32) : z_okm (za_T xs) za_P za_M 316 := z_okm_of ⟨"LyndonBenchLaw", "compareParts", "(LLyndonBench;IIII[J)I"⟩ method_17_code zc_316 _ rfl rfl rfl rfl
  (zgd_x zdd_316 <|
  zgd_d (fun d => zo_l d rfl rfl trivial) <|
  zgd_d (fun d => zo_l d rfl rfl trivial) <|
  zgd_d (fun d => zo_l d rfl rfl trivial) <|
  zgd_d (fun d => zo_l d rfl rfl trivial) <|
  zgd_d (fun d => zo_l d rfl rfl trivial) <|
  zgd_d (fun d => zo_l d rfl rfl trivial) <|
  zgd_d (fun d => zo_l d rfl rfl trivial) <|
  zgd_d (fun d => zo_v d rfl ⟨rfl, zd_102, zw_1066, Nat.le_of_ble_eq_true rfl, ⟨_, Or.inl ⟨Nat.le_of_ble_eq_true rfl, rfl⟩, rfl⟩, zw_1065, zw_1067⟩) <|
  zgd_d (fun d => zo_l d rfl rfl trivial) <|
  zgd_d (fun d => zo_h d rfl rfl) <|
  zgd_d (fun d => zo_l d rfl rfl (by show ((14 : Nat) : Int) + (7) = ((21 : Nat) : Int); decide)) <|
  zgd_d (fun d => zo_l d rfl rfl trivial) <|
  zgd_d (fun d => zo_l d rfl rfl trivial) <|
  zgd_d (fun d => zo_r d rfl) <|
  zgd_d (fun d => zo_l d rfl rfl trivial) <|
  zgd_d (fun d => zo_r d rfl) <|
  zgd_n)
  (z_fc (⟨by decide, zw_799, by decide +kernel, rfl, 2, Or.inr ⟨6, by decide +kernel, Nat.le_of_ble_eq_true rfl, rfl⟩, 1, by decide +kernel, rfl, by decide +kernel⟩) <|
  z_fn)
theorem zdd_317 : ∀ q ∈ zc_317, decode method_18_code q.1 = Except.ok (q.2.1, q.2.2.1) := zdd_of (by decide +kernel)
theorem zk_317 (xs : List Int32) : z_okm (za_T xs) za_P za_M 317 := z_okm_of ⟨"LyndonBenchLaw", "factorStart", "(LLyndonBench;I[J)I"⟩ method_18_code zc_317 _ rfl rfl rfl rfl
  (zgd_x zdd_317 <|
  zgd_d (fun d => zo_l d rfl rfl trivial) <|
  zgd_d (fun d => zo_l d rfl rfl trivial) <|
  zgd_d (fun d => zo_l d rfl rfl trivial) <|
  zgd_d (fun d => zo_l d rfl rfl trivial) <|
  zgd_d (fun d => zo_v d rfl ⟨rfl, zd_104, zw_1073, Nat.le_of_ble_eq_true rfl, ⟨_, Or.inl ⟨Nat.le_of_ble_eq_true rfl, rfl⟩, rfl⟩, zw_1072, zw_1074⟩) <|
  zgd_d (fun d => zo_l d rfl rfl trivial) <|
  zgd_d (fun d => zo_h d rfl rfl) <|
  zgd_d (fun d => zo_l d rfl rfl (by show ((9 : Nat) : Int) + (6) = ((15 : Nat) : Int); decide)) <|
  zgd_d (fun d => zo_l d rfl rfl trivial) <|
  zgd_d (fun d => zo_l d rfl rfl trivial) <|
  zgd_d (fun d => zo_r d rfl) <|
  zgd_d (fun d => zo_l d rfl rfl trivial) <|
  zgd_d (fun d => zo_r d rfl) <|
  zgd_n)
  (z_fc (⟨by decide, zw_983, by decide +kernel, rfl, 1, Or.inl ⟨3, by decide +kernel, Nat.le_of_ble_eq_true rfl, rfl⟩, 1, by decide +kernel, rfl, by decide +kernel⟩) <|
  z_fn)
theorem zdd_318 : ∀ q ∈ zc_318, decode method_19_code q.1 = Except.ok (q.2.1, q.2.2.1) := zdd_of (by decide +kernel)
theorem zk_318 (xs : List Int32) : z_okm (za_T xs) za_P za_M 318 := z_okm_of ⟨"LyndonBenchLaw", "factorLength", "(LLyndonBench;I[J)I"⟩ method_19_code zc_318 _ rfl rfl rfl rfl
  (zgd_x zdd_318 <|
  zgd_d (fun d => zo_l d rfl rfl trivial) <|
  zgd_d (fun d => zo_l d rfl rfl trivial) <|
  zgd_d (fun d => zo_l d rfl rfl trivial) <|
  zgd_d (fun d => zo_l d rfl rfl trivial) <|
  zgd_d (fun d => zo_v d rfl ⟨rfl, zd_105, zw_1080, Nat.le_of_ble_eq_true rfl, ⟨_, Or.inl ⟨Nat.le_of_ble_eq_true rfl, rfl⟩, rfl⟩, zw_1079, zw_1081⟩) <|
  zgd_d (fun d => zo_l d rfl rfl trivial) <|
  zgd_d (fun d => zo_h d rfl rfl) <|
  zgd_d (fun d => zo_l d rfl rfl (by show ((9 : Nat) : Int) + (6) = ((15 : Nat) : Int); decide)) <|
  zgd_d (fun d => zo_l d rfl rfl trivial) <|
  zgd_d (fun d => zo_l d rfl rfl trivial) <|
  zgd_d (fun d => zo_r d rfl) <|
  zgd_d (fun d => zo_l d rfl rfl trivial) <|
  zgd_d (fun d => zo_r d rfl) <|
  zgd_n)
  (z_fc (⟨by decide, zw_983, by decide +kernel, rfl, 1, Or.inl ⟨3, by decide +kernel, Nat.le_of_ble_eq_true rfl, rfl⟩, 1, by decide +kernel, rfl, by decide +kernel⟩) <|
  z_fn)
theorem zdd_319 : ∀ q ∈ zc_319, decode method_20_code q.1 = Except.ok (q.2.1, q.2.2.1) := zdd_of (by decide +kernel)
theorem zk_319 (xs : List Int32) : z_okm (za_T xs) za_P za_M 319 := z_okm_of ⟨"LyndonBenchLaw", "factorPower", "(LLyndonBench;I[J)I"⟩ method_20_code zc_319 _ rfl rfl rfl rfl
  (zgd_x zdd_319 <|
  zgd_d (fun d => zo_l d rfl rfl trivial) <|
  zgd_d (fun d => zo_l d rfl rfl trivial) <|
  zgd_d (fun d => zo_l d rfl rfl trivial) <|
  zgd_d (fun d => zo_l d rfl rfl trivial) <|
  zgd_d (fun d => zo_v d rfl ⟨rfl, zd_106, zw_1087, Nat.le_of_ble_eq_true rfl, ⟨_, Or.inl ⟨Nat.le_of_ble_eq_true rfl, rfl⟩, rfl⟩, zw_1086, zw_1088⟩) <|
  zgd_d (fun d => zo_l d rfl rfl trivial) <|
  zgd_d (fun d => zo_h d rfl rfl) <|
  zgd_d (fun d => zo_l d rfl rfl (by show ((9 : Nat) : Int) + (6) = ((15 : Nat) : Int); decide)) <|
  zgd_d (fun d => zo_l d rfl rfl trivial) <|
  zgd_d (fun d => zo_l d rfl rfl trivial) <|
  zgd_d (fun d => zo_r d rfl) <|
  zgd_d (fun d => zo_l d rfl rfl trivial) <|
  zgd_d (fun d => zo_r d rfl) <|
  zgd_n)
  (z_fc (⟨by decide, zw_983, by decide +kernel, rfl, 1, Or.inl ⟨3, by decide +kernel, Nat.le_of_ble_eq_true rfl, rfl⟩, 1, by decide +kernel, rfl, by decide +kernel⟩) <|
  z_fn)
theorem zdd_320 : ∀ q ∈ zc_320, decode method_21_code q.1 = Except.ok (q.2.1, q.2.2.1) := zdd_of (by decide +kernel)
theorem zk_320 (xs : List Int32) : z_okm (za_T xs) za_P za_M 320 := z_okm_of ⟨"LyndonBenchLaw", "factorsIfAppended", "(LLyndonBench;I[J)I"⟩ method_21_code zc_320 _ rfl rfl rfl rfl
  (zgd_x zdd_320 <|
  zgd_d (fun d => zo_l d rfl rfl trivial) <|
  zgd_d (fun d => zo_l d rfl rfl trivial) <|
  zgd_d (fun d => zo_l d rfl rfl trivial) <|
  zgd_d (fun d => zo_l d rfl rfl trivial) <|
  zgd_d (fun d => zo_v d rfl ⟨rfl, zd_109, zw_1094, Nat.le_of_ble_eq_true rfl, ⟨_, Or.inl ⟨Nat.le_of_ble_eq_true rfl, rfl⟩, rfl⟩, zw_1093, zw_1095⟩) <|
  zgd_d (fun d => zo_l d rfl rfl trivial) <|
  zgd_d (fun d => zo_h d rfl rfl) <|
  zgd_d (fun d => zo_l d rfl rfl (by show ((9 : Nat) : Int) + (6) = ((15 : Nat) : Int); decide)) <|
  zgd_d (fun d => zo_l d rfl rfl trivial) <|
  zgd_d (fun d => zo_l d rfl rfl trivial) <|
  zgd_d (fun d => zo_r d rfl) <|
  zgd_d (fun d => zo_l d rfl rfl trivial) <|
  zgd_d (fun d => zo_r d rfl) <|
  zgd_n)
  (z_fc (⟨by decide, zw_799, by decide +kernel, rfl, 1, Or.inl ⟨3, by decide +kernel, Nat.le_of_ble_eq_true rfl, rfl⟩, 1, by decide +kernel, rfl, by decide +kernel⟩) <|
  z_fn)
theorem zdd_321 : ∀ q ∈ zc_321, decode method_22_code q.1 = Except.ok (q.2.1, q.2.2.1) := zdd_of (by decide +kernel)
theorem zk_321 (xs : List Int32) : z_okm (za_T xs) za_P za_M 321 := z_okm_of ⟨"LyndonBenchLaw", "factorsIfRotated", "(LLyndonBench;I[J)I"⟩ method_22_code zc_321 _ rfl rfl rfl rfl
  (zgd_x zdd_321 <|
  zgd_d (fun d => zo_l d rfl rfl trivial) <|
  zgd_d (fun d => zo_l d rfl rfl trivial) <|
  zgd_d (fun d => zo_l d rfl rfl trivial) <|
  zgd_d (fun d => zo_l d rfl rfl trivial) <|
  zgd_d (fun d => zo_v d rfl ⟨rfl, zd_110, zw_1102, Nat.le_of_ble_eq_true rfl, ⟨_, Or.inl ⟨Nat.le_of_ble_eq_true rfl, rfl⟩, rfl⟩, zw_1101, zw_1103⟩) <|
  zgd_d (fun d => zo_l d rfl rfl trivial) <|
  zgd_d (fun d => zo_h d rfl rfl) <|
  zgd_d (fun d => zo_l d rfl rfl (by show ((9 : Nat) : Int) + (6) = ((15 : Nat) : Int); decide)) <|
  zgd_d (fun d => zo_l d rfl rfl trivial) <|
  zgd_d (fun d => zo_l d rfl rfl trivial) <|
  zgd_d (fun d => zo_r d rfl) <|
  zgd_d (fun d => zo_l d rfl rfl trivial) <|
  zgd_d (fun d => zo_r d rfl) <|
  zgd_n)
  (z_fc (⟨by decide, zw_799, by decide +kernel, rfl, 1, Or.inl ⟨3, by decide +kernel, Nat.le_of_ble_eq_true rfl, rfl⟩, 1, by decide +kernel, rfl, by decide +kernel⟩) <|
  z_fn)
theorem zdd_322 : ∀ q ∈ zc_322, decode method_23_code q.1 = Except.ok (q.2.1, q.2.2.1) := zdd_of (by decide +kernel)
theorem zk_322 (xs : List Int32) : z_okm (za_T xs) za_P za_M 322 := z_okm_of ⟨"LyndonBenchLaw", "rankOf", "(LLyndonBench;I[J)I"⟩ method_23_code zc_322 _ rfl rfl rfl rfl
  (zgd_x zdd_322 <|
  zgd_d (fun d => zo_l d rfl rfl trivial) <|
  zgd_d (fun d => zo_l d rfl rfl trivial) <|
  zgd_d (fun d => zo_l d rfl rfl trivial) <|
  zgd_d (fun d => zo_l d rfl rfl trivial) <|
  zgd_d (fun d => zo_v d rfl ⟨rfl, zd_111, zw_1109, Nat.le_of_ble_eq_true rfl, ⟨_, Or.inl ⟨Nat.le_of_ble_eq_true rfl, rfl⟩, rfl⟩, zw_1108, zw_1110⟩) <|
  zgd_d (fun d => zo_l d rfl rfl trivial) <|
  zgd_d (fun d => zo_h d rfl rfl) <|
  zgd_d (fun d => zo_l d rfl rfl (by show ((9 : Nat) : Int) + (6) = ((15 : Nat) : Int); decide)) <|
  zgd_d (fun d => zo_l d rfl rfl trivial) <|
  zgd_d (fun d => zo_l d rfl rfl trivial) <|
  zgd_d (fun d => zo_r d rfl) <|
  zgd_d (fun d => zo_l d rfl rfl trivial) <|
  zgd_d (fun d => zo_r d rfl) <|
  zgd_n)
  (z_fc (⟨by decide, zw_983, by decide +kernel, rfl, 1, Or.inl ⟨3, by decide +kernel, Nat.le_of_ble_eq_true rfl, rfl⟩, 1, by decide +kernel, rfl, by decide +kernel⟩) <|
  z_fn)
theorem zdd_323 : ∀ q ∈ zc_323, decode method_24_code q.1 = Except.ok (q.2.1, q.2.2.1) := zdd_of (by decide +kernel)
theorem zk_323 (xs : List Int32) : z_okm (za_T xs) za_P za_M 323 := z_okm_of ⟨"LyndonBenchLaw", "lyndonWords", "(LLyndonBench;I[J)I"⟩ method_24_code zc_323 _ rfl rfl rfl rfl
  (zgd_x zdd_323 <|
  zgd_d (fun d => zo_l d rfl rfl trivial) <|
  zgd_d (fun d => zo_l d rfl rfl trivial) <|
  zgd_d (fun d => zo_l d rfl rfl trivial) <|
  zgd_d (fun d => zo_l d rfl rfl trivial) <|
  zgd_d (fun d => zo_v d rfl ⟨rfl, zd_123, zw_1128, Nat.le_of_ble_eq_true rfl, ⟨_, Or.inl ⟨Nat.le_of_ble_eq_true rfl, rfl⟩, rfl⟩, zw_1127, zw_1129⟩) <|
  zgd_d (fun d => zo_h d rfl rfl) <|
  zgd_d (fun d => zo_l d rfl rfl (by show ((8 : Nat) : Int) + (6) = ((14 : Nat) : Int); decide)) <|
  zgd_d (fun d => zo_l d rfl rfl trivial) <|
  zgd_d (fun d => zo_l d rfl rfl trivial) <|
  zgd_d (fun d => zo_r d rfl) <|
  zgd_d (fun d => zo_l d rfl rfl trivial) <|
  zgd_d (fun d => zo_r d rfl) <|
  zgd_n)
  (z_fc (⟨by decide, zw_799, by decide +kernel, rfl, 1, Or.inl ⟨3, by decide +kernel, Nat.le_of_ble_eq_true rfl, rfl⟩, 1, by decide +kernel, rfl, by decide +kernel⟩) <|
  z_fn)
theorem zdd_324 : ∀ q ∈ zc_324, decode method_25_code q.1 = Except.ok (q.2.1, q.2.2.1) := zdd_of (by decide +kernel)
theorem zk_324 (xs : List Int32) : z_okm (za_T xs) za_P za_M 324 := z_okm_of ⟨"LyndonBenchLaw", "necklaces", "(LLyndonBench;I[J)I"⟩ method_25_code zc_324 _ rfl rfl rfl rfl
  (zgd_x zdd_324 <|
  zgd_d (fun d => zo_l d rfl rfl trivial) <|
  zgd_d (fun d => zo_l d rfl rfl trivial) <|
  zgd_d (fun d => zo_l d rfl rfl trivial) <|
  zgd_d (fun d => zo_l d rfl rfl trivial) <|
  zgd_d (fun d => zo_v d rfl ⟨rfl, zd_124, zw_1140, Nat.le_of_ble_eq_true rfl, ⟨_, Or.inl ⟨Nat.le_of_ble_eq_true rfl, rfl⟩, rfl⟩, zw_1139, zw_1141⟩) <|
  zgd_d (fun d => zo_h d rfl rfl) <|
  zgd_d (fun d => zo_l d rfl rfl (by show ((8 : Nat) : Int) + (6) = ((14 : Nat) : Int); decide)) <|
  zgd_d (fun d => zo_l d rfl rfl trivial) <|
  zgd_d (fun d => zo_l d rfl rfl trivial) <|
  zgd_d (fun d => zo_r d rfl) <|
  zgd_d (fun d => zo_l d rfl rfl trivial) <|
  zgd_d (fun d => zo_r d rfl) <|
  zgd_n)
  (z_fc (⟨by decide, zw_799, by decide +kernel, rfl, 1, Or.inl ⟨3, by decide +kernel, Nat.le_of_ble_eq_true rfl, rfl⟩, 1, by decide +kernel, rfl, by decide +kernel⟩) <|
  z_fn)
theorem zdd_325 : ∀ q ∈ zc_325, decode method_26_code q.1 = Except.ok (q.2.1, q.2.2.1) := zdd_of (by decide +kernel)
theorem zk_325 (xs : List Int32) : z_okm (za_T xs) za_P za_M 325 := z_okm_of ⟨"LyndonBenchLaw", "bruijnLetter", "(LLyndonBench;II[J)I"⟩ method_26_code zc_325 _ rfl rfl rfl rfl
  (zgd_x zdd_325 <|
  zgd_d (fun d => zo_l d rfl rfl trivial) <|
  zgd_d (fun d => zo_l d rfl rfl trivial) <|
  zgd_d (fun d => zo_l d rfl rfl trivial) <|
  zgd_d (fun d => zo_l d rfl rfl trivial) <|
  zgd_d (fun d => zo_l d rfl rfl trivial) <|
  zgd_d (fun d => zo_v d rfl ⟨rfl, zd_125, zw_1147, Nat.le_of_ble_eq_true rfl, ⟨_, Or.inl ⟨Nat.le_of_ble_eq_true rfl, rfl⟩, rfl⟩, zw_1146, zw_1148⟩) <|
  zgd_d (fun d => zo_l d rfl rfl trivial) <|
  zgd_d (fun d => zo_h d rfl rfl) <|
  zgd_d (fun d => zo_l d rfl rfl (by show ((10 : Nat) : Int) + (11) = ((21 : Nat) : Int); decide)) <|
  zgd_d (fun d => zo_l d rfl rfl trivial) <|
  zgd_d (fun d => zo_l d rfl rfl trivial) <|
  zgd_d (fun d => zo_r d rfl) <|
  zgd_d (fun d => zo_l d rfl rfl trivial) <|
  zgd_d (fun d => zo_l d rfl rfl trivial) <|
  zgd_d (fun d => zo_r d rfl) <|
  zgd_d (fun d => zo_l d rfl rfl trivial) <|
  zgd_d (fun d => zo_r d rfl) <|
  zgd_n)
  (z_fc (⟨by decide, zw_799, by decide +kernel, rfl, 2, Or.inr ⟨4, by decide +kernel, Nat.le_of_ble_eq_true rfl, rfl⟩, 1, by decide +kernel, rfl, by decide +kernel⟩) <|
  z_fc (⟨by decide, zw_983, by decide +kernel, rfl, 2, Or.inr ⟨4, by decide +kernel, Nat.le_of_ble_eq_true rfl, rfl⟩, 2, by decide +kernel, rfl, by decide +kernel⟩) <|
  z_fn)
theorem zdd_326 : ∀ q ∈ zc_326, decode method_27_code q.1 = Except.ok (q.2.1, q.2.2.1) := zdd_of (by decide +kernel)
theorem zk_326 (xs : List Int32) : z_okm (za_T xs) za_P za_M 326 := z_okm_of ⟨"LyndonBenchLaw", "keptLength", "(LLyndonBench;I[J)I"⟩ method_27_code zc_326 _ rfl rfl rfl rfl
  (zgd_x zdd_326 <|
  zgd_d (fun d => zo_l d rfl rfl trivial) <|
  zgd_d (fun d => zo_l d rfl rfl trivial) <|
  zgd_d (fun d => zo_l d rfl rfl trivial) <|
  zgd_d (fun d => zo_l d rfl rfl trivial) <|
  zgd_d (fun d => zo_v d rfl ⟨rfl, zd_127, zw_1160, Nat.le_of_ble_eq_true rfl, ⟨_, Or.inl ⟨Nat.le_of_ble_eq_true rfl, rfl⟩, rfl⟩, zw_1159, zw_1161⟩) <|
  zgd_d (fun d => zo_l d rfl rfl trivial) <|
  zgd_d (fun d => zo_h d rfl rfl) <|
  zgd_d (fun d => zo_l d rfl rfl (by show ((9 : Nat) : Int) + (6) = ((15 : Nat) : Int); decide)) <|
  zgd_d (fun d => zo_l d rfl rfl trivial) <|
  zgd_d (fun d => zo_l d rfl rfl trivial) <|
  zgd_d (fun d => zo_r d rfl) <|
  zgd_d (fun d => zo_l d rfl rfl trivial) <|
  zgd_d (fun d => zo_r d rfl) <|
  zgd_n)
  (z_fc (⟨by decide, zw_983, by decide +kernel, rfl, 1, Or.inl ⟨3, by decide +kernel, Nat.le_of_ble_eq_true rfl, rfl⟩, 1, by decide +kernel, rfl, by decide +kernel⟩) <|
  z_fn)
theorem zdd_327 : ∀ q ∈ zc_327, decode method_28_code q.1 = Except.ok (q.2.1, q.2.2.1) := zdd_of (by decide +kernel)
theorem zk_327 (xs : List Int32) : z_okm (za_T xs) za_P za_M 327 := z_okm_of ⟨"LyndonBenchLaw", "keptLetter", "(LLyndonBench;II[J)I"⟩ method_28_code zc_327 _ rfl rfl rfl rfl
  (zgd_x zdd_327 <|
  zgd_d (fun d => zo_l d rfl rfl trivial) <|
  zgd_d (fun d => zo_l d rfl rfl trivial) <|
  zgd_d (fun d => zo_l d rfl rfl trivial) <|
  zgd_d (fun d => zo_l d rfl rfl trivial) <|
  zgd_d (fun d => zo_l d rfl rfl trivial) <|
  zgd_d (fun d => zo_v d rfl ⟨rfl, zd_128, zw_1167, Nat.le_of_ble_eq_true rfl, ⟨_, Or.inl ⟨Nat.le_of_ble_eq_true rfl, rfl⟩, rfl⟩, zw_1166, zw_1168⟩) <|
  zgd_d (fun d => zo_l d rfl rfl trivial) <|
  zgd_d (fun d => zo_h d rfl rfl) <|
  zgd_d (fun d => zo_l d rfl rfl (by show ((10 : Nat) : Int) + (7) = ((17 : Nat) : Int); decide)) <|
  zgd_d (fun d => zo_l d rfl rfl trivial) <|
  zgd_d (fun d => zo_l d rfl rfl trivial) <|
  zgd_d (fun d => zo_r d rfl) <|
  zgd_d (fun d => zo_l d rfl rfl trivial) <|
  zgd_d (fun d => zo_r d rfl) <|
  zgd_n)
  (z_fc (⟨by decide, zw_983, by decide +kernel, rfl, 2, Or.inr ⟨4, by decide +kernel, Nat.le_of_ble_eq_true rfl, rfl⟩, 1, by decide +kernel, rfl, by decide +kernel⟩) <|
  z_fn)
