/-! The check of the tables, methods 121 to 183. -/
theorem zdd_121 : ∀ q ∈ zc_121, decode prog_1_method_46_code q.1 = Except.ok (q.2.1, q.2.2.1) := zdd_of (by decide +kernel)
theorem zk_121 (xs : List Int32) : z_okm (za_T xs) za_P za_M 121 := z_okm_of ⟨"LyndonBench", "leastSuffix", "()I"⟩ prog_1_method_46_code zc_121 _ rfl rfl rfl rfl
  (zgd_x zdd_121 <|
  zgd_d (fun d => zo_l d rfl rfl trivial) <|
  zgd_d (fun d => zo_h d rfl ⟨rfl, Nat.le_of_ble_eq_true rfl, _, _, _, Or.inl ⟨Nat.le_of_ble_eq_true rfl, rfl⟩, Nat.le_of_ble_eq_true rfl, zw_341⟩) <|
  zgd_d (fun d => zo_h d rfl ⟨rfl, Nat.le_of_ble_eq_true rfl, _, _, _, Or.inl ⟨Nat.le_of_ble_eq_true rfl, rfl⟩, Nat.le_of_ble_eq_true rfl, zw_177⟩) <|
  zgd_d (fun d => zo_l d rfl rfl trivial) <|
  zgd_d (fun d => zo_v d rfl ⟨rfl, zd_74, zw_730, Nat.le_of_ble_eq_true rfl, ⟨_, Or.inl ⟨Nat.le_of_ble_eq_true rfl, rfl⟩, rfl⟩, zw_729, zw_731⟩) <|
  zgd_d (fun d => zo_r d rfl) <|
  zgd_n)
  (z_fn)
theorem zdd_122 : ∀ q ∈ zc_122, decode prog_1_method_47_code q.1 = Except.ok (q.2.1, q.2.2.1) := zdd_of (by decide +kernel)
theorem zk_122 (xs : List Int32) : z_okm (za_T xs) za_P za_M 122 := z_okm_of ⟨"LyndonBench", "greatestSuffix", "()I"⟩ prog_1_method_47_code zc_122 _ rfl rfl rfl rfl
  (zgd_x zdd_122 <|
  zgd_d (fun d => zo_l d rfl rfl trivial) <|
  zgd_d (fun d => zo_h d rfl ⟨rfl, Nat.le_of_ble_eq_true rfl, _, _, _, Or.inl ⟨Nat.le_of_ble_eq_true rfl, rfl⟩, Nat.le_of_ble_eq_true rfl, zw_341⟩) <|
  zgd_d (fun d => zo_h d rfl ⟨rfl, Nat.le_of_ble_eq_true rfl, _, _, _, Or.inl ⟨Nat.le_of_ble_eq_true rfl, rfl⟩, Nat.le_of_ble_eq_true rfl, zw_177⟩) <|
  zgd_d (fun d => zo_l d rfl rfl trivial) <|
  zgd_d (fun d => zo_v d rfl ⟨rfl, zd_74, zw_730, Nat.le_of_ble_eq_true rfl, ⟨_, Or.inl ⟨Nat.le_of_ble_eq_true rfl, rfl⟩, rfl⟩, zw_729, zw_731⟩) <|
  zgd_d (fun d => zo_r d rfl) <|
  zgd_n)
  (z_fn)
theorem zdd_123 : ∀ q ∈ zc_123, decode prog_1_method_48_code q.1 = Except.ok (q.2.1, q.2.2.1) := zdd_of (by decide +kernel)
theorem zk_123 (xs : List Int32) : z_okm (za_T xs) za_P za_M 123 := z_okm_of ⟨"LyndonBench", "lyndonWords", "(I)J"⟩ prog_1_method_48_code zc_123 _ rfl rfl rfl rfl
  (zgd_x zdd_123 <|
  zgd_d (fun d => zo_l d rfl rfl trivial) <|
  zgd_d (fun d => zo_l d rfl rfl trivial) <|
  zgd_d (fun d => zo_v d rfl ⟨rfl, zd_139, zw_1133, Nat.le_of_ble_eq_true rfl, ⟨_, Or.inl ⟨Nat.le_of_ble_eq_true rfl, rfl⟩, rfl⟩, zw_1131, zw_31⟩) <|
  zgd_d (fun d => zo_l d rfl rfl trivial) <|
  zgd_d (fun d => zo_h d rfl ⟨rfl, Nat.le_of_ble_eq_true rfl, _, _, _, Or.inl ⟨Nat.le_of_ble_eq_true rfl, rfl⟩, Nat.le_of_ble_eq_true rfl, zw_341⟩) <|
  zgd_d (fun d => zo_h d rfl ⟨rfl, Nat.le_of_ble_eq_true rfl, _, _, _, Or.inl ⟨Nat.le_of_ble_eq_true rfl, rfl⟩, Nat.le_of_ble_eq_true rfl, zw_175⟩) <|
  zgd_d (fun d => zo_l d rfl rfl trivial) <|
  zgd_d (fun d => zo_h d rfl ⟨rfl, _, rfl, zw_760⟩) <|
  zgd_d (fun d => zo_s d rfl ⟨zd_142, zw_762, zw_763⟩) <|
  zgd_d (fun d => zo_r d rfl) <|
  zgd_n)
  (z_fn)
theorem zdd_124 : ∀ q ∈ zc_124, decode prog_1_method_49_code q.1 = Except.ok (q.2.1, q.2.2.1) := zdd_of (by decide +kernel)
theorem zk_124 (xs : List Int32) : z_okm (za_T xs) za_P za_M 124 := z_okm_of ⟨"LyndonBench", "necklaces", "(I)J"⟩ prog_1_method_49_code zc_124 _ rfl rfl rfl rfl
  (zgd_x zdd_124 <|
  zgd_d (fun d => zo_l d rfl rfl trivial) <|
  zgd_d (fun d => zo_l d rfl rfl trivial) <|
  zgd_d (fun d => zo_v d rfl ⟨rfl, zd_139, zw_1133, Nat.le_of_ble_eq_true rfl, ⟨_, Or.inl ⟨Nat.le_of_ble_eq_true rfl, rfl⟩, rfl⟩, zw_1131, zw_31⟩) <|
  zgd_d (fun d => zo_l d rfl rfl trivial) <|
  zgd_d (fun d => zo_h d rfl ⟨rfl, Nat.le_of_ble_eq_true rfl, _, _, _, Or.inl ⟨Nat.le_of_ble_eq_true rfl, rfl⟩, Nat.le_of_ble_eq_true rfl, zw_341⟩) <|
  zgd_d (fun d => zo_h d rfl ⟨rfl, Nat.le_of_ble_eq_true rfl, _, _, _, Or.inl ⟨Nat.le_of_ble_eq_true rfl, rfl⟩, Nat.le_of_ble_eq_true rfl, zw_175⟩) <|
  zgd_d (fun d => zo_l d rfl rfl trivial) <|
  zgd_d (fun d => zo_h d rfl ⟨rfl, _, rfl, zw_768⟩) <|
  zgd_d (fun d => zo_s d rfl ⟨zd_142, zw_762, zw_763⟩) <|
  zgd_d (fun d => zo_r d rfl) <|
  zgd_n)
  (z_fn)
theorem zdd_125 : ∀ q ∈ zc_125, decode prog_1_method_50_code q.1 = Except.ok (q.2.1, q.2.2.1) := zdd_of (by decide +kernel)
theorem zk_125 (xs : List Int32) : z_okm (za_T xs) za_P za_M 125 := z_okm_of ⟨"LyndonBench", "bruijnLetter", "(II)I"⟩ prog_1_method_50_code zc_125 _ rfl rfl rfl rfl
  (zgd_x zdd_125 <|
  zgd_d (fun d => zo_l d rfl rfl trivial) <|
  zgd_d (fun d => zo_l d rfl rfl trivial) <|
  zgd_d (fun d => zo_l d rfl rfl (by show ((2 : Nat) : Int) + (23) = ((25 : Nat) : Int); decide)) <|
  zgd_d (fun d => zo_l d rfl rfl trivial) <|
  zgd_d (fun d => zo_l d rfl rfl trivial) <|
  zgd_d (fun d => zo_l d rfl rfl (by show ((8 : Nat) : Int) + (17) = ((25 : Nat) : Int); decide)) <|
  zgd_d (fun d => zo_l d rfl rfl trivial) <|
  zgd_d (fun d => zo_h d rfl ⟨rfl, Nat.le_of_ble_eq_true rfl, _, _, _, Or.inl ⟨Nat.le_of_ble_eq_true rfl, rfl⟩, Nat.le_of_ble_eq_true rfl, zw_341⟩) <|
  zgd_d (fun d => zo_h d rfl ⟨rfl, Nat.le_of_ble_eq_true rfl, _, _, _, Or.inl ⟨Nat.le_of_ble_eq_true rfl, rfl⟩, Nat.le_of_ble_eq_true rfl, zw_175⟩) <|
  zgd_d (fun d => zo_l d rfl rfl trivial) <|
  zgd_d (fun d => zo_s d rfl ⟨zd_141, zw_1112, zw_1113⟩) <|
  zgd_d (fun d => zo_l d rfl rfl (by show ((22 : Nat) : Int) + (14) = ((36 : Nat) : Int); decide)) <|
  zgd_d (fun d => zo_t d rfl ⟨["java/lang/RuntimeException", "java/lang/Exception"], 279, 81, 14, _, none, by decide +kernel, by decide +kernel, by decide, zw_804, zw_132, rfl, rfl, rfl, zt_0a, zt_0b, zt_0c_77, trivial, by decide +kernel, by decide +kernel, Or.inr ⟨rfl, by decide +kernel, by decide +kernel, by decide +kernel⟩⟩) <|
  zgd_d (fun d => zo_l d rfl rfl trivial) <|
  zgd_d (fun d => zo_l d rfl rfl (by show ((37 : Nat) : Int) + (7) = ((44 : Nat) : Int); decide)) <|
  zgd_d (fun d => zo_l d rfl rfl trivial) <|
  zgd_d (fun d => zo_l d rfl rfl (by show ((41 : Nat) : Int) + (9) = ((50 : Nat) : Int); decide)) <|
  zgd_d (fun d => zo_l d rfl rfl trivial) <|
  zgd_d (fun d => zo_l d rfl rfl trivial) <|
  zgd_d (fun d => zo_l d rfl rfl trivial) <|
  zgd_d (fun d => zo_v d rfl ⟨rfl, zd_146, zw_1153, Nat.le_of_ble_eq_true rfl, ⟨_, Or.inl ⟨Nat.le_of_ble_eq_true rfl, rfl⟩, rfl⟩, zw_1151, zw_32⟩) <|
  zgd_d (fun d => zo_l d rfl rfl trivial) <|
  zgd_d (fun d => zo_l d rfl rfl trivial) <|
  zgd_d (fun d => zo_l d rfl rfl trivial) <|
  zgd_d (fun d => zo_l d rfl rfl (by show ((53 : Nat) : Int) + (14) = ((67 : Nat) : Int); decide)) <|
  zgd_d (fun d => zo_t d rfl ⟨["java/lang/RuntimeException", "java/lang/Exception"], 284, 196, 15, _, none, by decide +kernel, by decide +kernel, by decide, zw_993, zw_137, rfl, rfl, rfl, zt_4a, zt_4b, zt_4c_192, trivial, by decide +kernel, by decide +kernel, Or.inr ⟨rfl, by decide +kernel, by decide +kernel, by decide +kernel⟩⟩) <|
  zgd_d (fun d => zo_l d rfl rfl trivial) <|
  zgd_d (fun d => zo_r d rfl) <|
  zgd_n)
  (z_fn)
theorem zdd_126 : ∀ q ∈ zc_126, decode prog_1_method_51_code q.1 = Except.ok (q.2.1, q.2.2.1) := zdd_of (by decide +kernel)
theorem zk_126 (xs : List Int32) : z_okm (za_T xs) za_P za_M 126 := z_okm_of ⟨"LyndonBench", "keptCount", "()I"⟩ prog_1_method_51_code zc_126 _ rfl rfl rfl rfl
  (zgd_x zdd_126 <|
  zgd_d (fun d => zo_l d rfl rfl trivial) <|
  zgd_d (fun d => zo_h d rfl ⟨rfl, Nat.le_of_ble_eq_true rfl, _, _, _, Or.inl ⟨Nat.le_of_ble_eq_true rfl, rfl⟩, Nat.le_of_ble_eq_true rfl, zw_341⟩) <|
  zgd_d (fun d => zo_h d rfl ⟨rfl, Nat.le_of_ble_eq_true rfl, _, _, _, Or.inl ⟨Nat.le_of_ble_eq_true rfl, rfl⟩, Nat.le_of_ble_eq_true rfl, zw_181⟩) <|
  zgd_d (fun d => zo_r d rfl) <|
  zgd_n)
  (z_fn)
theorem zdd_127 : ∀ q ∈ zc_127, decode prog_1_method_52_code q.1 = Except.ok (q.2.1, q.2.2.1) := zdd_of (by decide +kernel)
theorem zk_127 (xs : List Int32) : z_okm (za_T xs) za_P za_M 127 := z_okm_of ⟨"LyndonBench", "keptLength", "(I)I"⟩ prog_1_method_52_code zc_127 _ rfl rfl rfl rfl
  (zgd_x zdd_127 <|
  zgd_d (fun d => zo_l d rfl rfl trivial) <|
  zgd_d (fun d => zo_h d rfl ⟨rfl, Nat.le_of_ble_eq_true rfl, _, _, _, Or.inl ⟨Nat.le_of_ble_eq_true rfl, rfl⟩, Nat.le_of_ble_eq_true rfl, zw_341⟩) <|
  zgd_d (fun d => zo_l d rfl rfl trivial) <|
  zgd_d (fun d => zo_v d rfl ⟨rfl, zd_34, zw_562, Nat.le_of_ble_eq_true rfl, ⟨_, Or.inl ⟨Nat.le_of_ble_eq_true rfl, rfl⟩, rfl⟩, zw_745, zw_563⟩) <|
  zgd_d (fun d => zo_l d rfl rfl trivial) <|
  zgd_d (fun d => zo_l d rfl rfl trivial) <|
  zgd_d (fun d => zo_h d rfl ⟨rfl, by show ((10 : Nat) : Int) + (13) = ((23 : Nat) : Int); decide⟩) <|
  zgd_d (fun d => zo_t d rfl ⟨["java/lang/RuntimeException", "java/lang/Exception"], 194, 196, 11, _, none, by decide +kernel, by decide +kernel, by decide, zw_993, zw_137, rfl, rfl, rfl, zt_4a, zt_4b, zt_4c_192, trivial, by decide +kernel, by decide +kernel, Or.inl ⟨by decide +kernel, by decide +kernel, by decide +kernel⟩⟩) <|
  zgd_d (fun d => zo_l d rfl rfl trivial) <|
  zgd_d (fun d => zo_h d rfl ⟨rfl, Nat.le_of_ble_eq_true rfl, _, _, _, Or.inl ⟨Nat.le_of_ble_eq_true rfl, rfl⟩, Nat.le_of_ble_eq_true rfl, zw_164⟩) <|
  zgd_d (fun d => zo_r d rfl) <|
  zgd_n)
  (z_fn)
theorem zdd_128 : ∀ q ∈ zc_128, decode prog_1_method_53_code q.1 = Except.ok (q.2.1, q.2.2.1) := zdd_of (by decide +kernel)
theorem zk_128 (xs : List Int32) : z_okm (za_T xs) za_P za_M 128 := z_okm_of ⟨"LyndonBench", "keptLetter", "(II)I"⟩ prog_1_method_53_code zc_128 _ rfl rfl rfl rfl
  (zgd_x zdd_128 <|
  zgd_d (fun d => zo_l d rfl rfl trivial) <|
  zgd_d (fun d => zo_h d rfl ⟨rfl, Nat.le_of_ble_eq_true rfl, _, _, _, Or.inl ⟨Nat.le_of_ble_eq_true rfl, rfl⟩, Nat.le_of_ble_eq_true rfl, zw_341⟩) <|
  zgd_d (fun d => zo_l d rfl rfl trivial) <|
  zgd_d (fun d => zo_v d rfl ⟨rfl, zd_34, zw_562, Nat.le_of_ble_eq_true rfl, ⟨_, Or.inl ⟨Nat.le_of_ble_eq_true rfl, rfl⟩, rfl⟩, zw_745, zw_563⟩) <|
  zgd_d (fun d => zo_l d rfl rfl trivial) <|
  zgd_d (fun d => zo_l d rfl rfl trivial) <|
  zgd_d (fun d => zo_h d rfl ⟨rfl, by show ((10 : Nat) : Int) + (13) = ((23 : Nat) : Int); decide⟩) <|
  zgd_d (fun d => zo_t d rfl ⟨["java/lang/RuntimeException", "java/lang/Exception"], 194, 196, 11, _, none, by decide +kernel, by decide +kernel, by decide, zw_993, zw_137, rfl, rfl, rfl, zt_4a, zt_4b, zt_4c_192, trivial, by decide +kernel, by decide +kernel, Or.inl ⟨by decide +kernel, by decide +kernel, by decide +kernel⟩⟩) <|
  zgd_d (fun d => zo_l d rfl rfl trivial) <|
  zgd_d (fun d => zo_l d rfl rfl trivial) <|
  zgd_d (fun d => zo_v d rfl ⟨rfl, zd_43, zw_338, Nat.le_of_ble_eq_true rfl, ⟨_, Or.inl ⟨Nat.le_of_ble_eq_true rfl, rfl⟩, rfl⟩, zw_648, zw_339⟩) <|
  zgd_d (fun d => zo_r d rfl) <|
  zgd_n)
  (z_fn)
theorem zdd_129 : ∀ q ∈ zc_129, decode prog_1_method_54_code q.1 = Except.ok (q.2.1, q.2.2.1) := zdd_of (by decide +kernel)
theorem zk_129 (xs : List Int32) : z_okm (za_T xs) za_P za_M 129 := z_okm_of ⟨"LyndonBench", "isShelfFalling", "()Z"⟩ prog_1_method_54_code zc_129 _ rfl rfl rfl rfl
  (zgd_x zdd_129 <|
  zgd_d (fun d => zo_l d rfl rfl trivial) <|
  zgd_d (fun d => zo_l d rfl rfl trivial) <|
  zgd_d (fun d => zo_l d rfl rfl trivial) <|
  zgd_d (fun d => zo_l d rfl rfl trivial) <|
  zgd_d (fun d => zo_h d rfl ⟨rfl, Nat.le_of_ble_eq_true rfl, _, _, _, Or.inl ⟨Nat.le_of_ble_eq_true rfl, rfl⟩, Nat.le_of_ble_eq_true rfl, zw_341⟩) <|
  zgd_d (fun d => zo_h d rfl ⟨rfl, Nat.le_of_ble_eq_true rfl, _, _, _, Or.inl ⟨Nat.le_of_ble_eq_true rfl, rfl⟩, Nat.le_of_ble_eq_true rfl, zw_181⟩) <|
  zgd_d (fun d => zo_l d rfl rfl (by show ((10 : Nat) : Int) + (57) = ((67 : Nat) : Int); decide)) <|
  zgd_d (fun d => zo_l d rfl rfl trivial) <|
  zgd_d (fun d => zo_h d rfl ⟨rfl, Nat.le_of_ble_eq_true rfl, _, _, _, Or.inl ⟨Nat.le_of_ble_eq_true rfl, rfl⟩, Nat.le_of_ble_eq_true rfl, zw_341⟩) <|
  zgd_d (fun d => zo_l d rfl rfl trivial) <|
  zgd_d (fun d => zo_v d rfl ⟨rfl, zd_34, zw_562, Nat.le_of_ble_eq_true rfl, ⟨_, Or.inl ⟨Nat.le_of_ble_eq_true rfl, rfl⟩, rfl⟩, zw_745, zw_563⟩) <|
  zgd_d (fun d => zo_l d rfl rfl trivial) <|
  zgd_d (fun d => zo_l d rfl rfl trivial) <|
  zgd_d (fun d => zo_h d rfl ⟨rfl, Nat.le_of_ble_eq_true rfl, _, _, _, Or.inl ⟨Nat.le_of_ble_eq_true rfl, rfl⟩, Nat.le_of_ble_eq_true rfl, zw_341⟩) <|
  zgd_d (fun d => zo_l d rfl rfl trivial) <|
  zgd_d (fun d => zo_l d rfl rfl trivial) <|
  zgd_d (fun d => zo_l d rfl rfl trivial) <|
  zgd_d (fun d => zo_v d rfl ⟨rfl, zd_34, zw_562, Nat.le_of_ble_eq_true rfl, ⟨_, Or.inl ⟨Nat.le_of_ble_eq_true rfl, rfl⟩, rfl⟩, zw_745, zw_563⟩) <|
  zgd_d (fun d => zo_l d rfl rfl trivial) <|
  zgd_d (fun d => zo_l d rfl rfl trivial) <|
  zgd_d (fun d => zo_h d rfl ⟨rfl, by show ((34 : Nat) : Int) + (27) = ((61 : Nat) : Int); decide⟩) <|
  zgd_d (fun d => zo_l d rfl rfl trivial) <|
  zgd_d (fun d => zo_h d rfl ⟨rfl, by show ((38 : Nat) : Int) + (23) = ((61 : Nat) : Int); decide⟩) <|
  zgd_d (fun d => zo_l d rfl rfl trivial) <|
  zgd_d (fun d => zo_l d rfl rfl trivial) <|
  zgd_d (fun d => zo_l d rfl rfl trivial) <|
  zgd_d (fun d => zo_h d rfl ⟨rfl, Nat.le_of_ble_eq_true rfl, _, _, _, Or.inl ⟨Nat.le_of_ble_eq_true rfl, rfl⟩, Nat.le_of_ble_eq_true rfl, zw_164⟩) <|
  zgd_d (fun d => zo_l d rfl rfl trivial) <|
  zgd_d (fun d => zo_l d rfl rfl trivial) <|
  zgd_d (fun d => zo_l d rfl rfl trivial) <|
  zgd_d (fun d => zo_h d rfl ⟨rfl, Nat.le_of_ble_eq_true rfl, _, _, _, Or.inl ⟨Nat.le_of_ble_eq_true rfl, rfl⟩, Nat.le_of_ble_eq_true rfl, zw_164⟩) <|
  zgd_d (fun d => zo_v d rfl ⟨rfl, zd_58, zw_544, Nat.le_of_ble_eq_true rfl, ⟨_, Or.inl ⟨Nat.le_of_ble_eq_true rfl, rfl⟩, rfl⟩, zw_746, zw_545⟩) <|
  zgd_d (fun d => zo_l d rfl rfl (by show ((56 : Nat) : Int) + (5) = ((61 : Nat) : Int); decide)) <|
  zgd_d (fun d => zo_l d rfl rfl trivial) <|
  zgd_d (fun d => zo_r d rfl) <|
  zgd_d (fun d => zo_l d rfl rfl trivial) <|
  zgd_d (fun d => zo_l d rfl rfl (by show ((64 : Nat) : Int) + (-62) = ((2 : Nat) : Int); decide)) <|
  zgd_d (fun d => zo_l d rfl rfl trivial) <|
  zgd_d (fun d => zo_r d rfl) <|
  zgd_n)
  (z_fn)
theorem zdd_130 : ∀ q ∈ zc_130, decode prog_1_method_55_code q.1 = Except.ok (q.2.1, q.2.2.1) := zdd_of (by decide +kernel)
theorem zk_130 (xs : List Int32) : z_okm (za_T xs) za_P za_M 130 := z_okm_of ⟨"LyndonBench", "greatestKept", "()I"⟩ prog_1_method_55_code zc_130 _ rfl rfl rfl rfl
  (zgd_x zdd_130 <|
  zgd_d (fun d => zo_l d rfl rfl trivial) <|
  zgd_d (fun d => zo_h d rfl ⟨rfl, Nat.le_of_ble_eq_true rfl, _, _, _, Or.inl ⟨Nat.le_of_ble_eq_true rfl, rfl⟩, Nat.le_of_ble_eq_true rfl, zw_341⟩) <|
  zgd_d (fun d => zo_l d rfl rfl trivial) <|
  zgd_d (fun d => zo_v d rfl ⟨rfl, zd_38, zw_584, Nat.le_of_ble_eq_true rfl, ⟨_, Or.inl ⟨Nat.le_of_ble_eq_true rfl, rfl⟩, rfl⟩, zw_751, zw_585⟩) <|
  zgd_d (fun d => zo_r d rfl) <|
  zgd_n)
  (z_fn)
theorem zdd_131 : ∀ q ∈ zc_131, decode prog_1_method_56_code q.1 = Except.ok (q.2.1, q.2.2.1) := zdd_of (by decide +kernel)
theorem zk_131 (xs : List Int32) : z_okm (za_T xs) za_P za_M 131 := z_okm_of ⟨"LyndonBench", "meanFactor", "()D"⟩ prog_1_method_56_code zc_131 _ rfl rfl rfl rfl
  (zgd_x zdd_131 <|
  zgd_d (fun d => zo_l d rfl rfl trivial) <|
  zgd_d (fun d => zo_h d rfl ⟨rfl, Nat.le_of_ble_eq_true rfl, _, _, _, Or.inl ⟨Nat.le_of_ble_eq_true rfl, rfl⟩, Nat.le_of_ble_eq_true rfl, zw_341⟩) <|
  zgd_d (fun d => zo_h d rfl ⟨rfl, Nat.le_of_ble_eq_true rfl, _, _, _, Or.inl ⟨Nat.le_of_ble_eq_true rfl, rfl⟩, Nat.le_of_ble_eq_true rfl, zw_177⟩) <|
  zgd_d (fun d => zo_v d rfl ⟨rfl, zd_61, zw_609, Nat.le_of_ble_eq_true rfl, ⟨_, Or.inl ⟨Nat.le_of_ble_eq_true rfl, rfl⟩, rfl⟩, zw_608, zw_610⟩) <|
  zgd_d (fun d => zo_l d rfl rfl trivial) <|
  zgd_d (fun d => zo_l d rfl rfl trivial) <|
  zgd_d (fun d => zo_l d rfl rfl (by show ((12 : Nat) : Int) + (7) = ((19 : Nat) : Int); decide)) <|
  zgd_d (fun d => zo_l d rfl rfl trivial) <|
  zgd_d (fun d => zo_l d rfl rfl (by show ((16 : Nat) : Int) + (17) = ((33 : Nat) : Int); decide)) <|
  zgd_d (fun d => zo_l d rfl rfl trivial) <|
  zgd_d (fun d => zo_h d rfl ⟨rfl, Nat.le_of_ble_eq_true rfl, _, _, _, Or.inl ⟨Nat.le_of_ble_eq_true rfl, rfl⟩, Nat.le_of_ble_eq_true rfl, zw_341⟩) <|
  zgd_d (fun d => zo_h d rfl ⟨rfl, Nat.le_of_ble_eq_true rfl, _, _, _, Or.inl ⟨Nat.le_of_ble_eq_true rfl, rfl⟩, Nat.le_of_ble_eq_true rfl, zw_177⟩) <|
  zgd_d (fun d => zo_h d rfl ⟨rfl, Nat.le_of_ble_eq_true rfl, _, _, _, Or.inl ⟨Nat.le_of_ble_eq_true rfl, rfl⟩, Nat.le_of_ble_eq_true rfl, zw_164⟩) <|
  zgd_d (fun d => zo_l d rfl rfl trivial) <|
  zgd_d (fun d => zo_l d rfl rfl trivial) <|
  zgd_d (fun d => zo_l d rfl rfl trivial) <|
  zgd_d (fun d => zo_l d rfl rfl trivial) <|
  zgd_d (fun d => zo_r d rfl) <|
  zgd_n)
  (z_fn)
theorem zdd_132 : ∀ q ∈ zc_132, decode prog_1_method_57_code q.1 = Except.ok (q.2.1, q.2.2.1) := zdd_of (by decide +kernel)
theorem zk_132 (xs : List Int32) : z_okm (za_T xs) za_P za_M 132 := z_okm_of ⟨"LyndonBench", "lyndonShare", "()F"⟩ prog_1_method_57_code zc_132 _ rfl rfl rfl rfl
  (zgd_x zdd_132 <|
  zgd_d (fun d => zo_l d rfl rfl trivial) <|
  zgd_d (fun d => zo_h d rfl ⟨rfl, Nat.le_of_ble_eq_true rfl, _, _, _, Or.inl ⟨Nat.le_of_ble_eq_true rfl, rfl⟩, Nat.le_of_ble_eq_true rfl, zw_341⟩) <|
  zgd_d (fun d => zo_h d rfl ⟨rfl, Nat.le_of_ble_eq_true rfl, _, _, _, Or.inl ⟨Nat.le_of_ble_eq_true rfl, rfl⟩, Nat.le_of_ble_eq_true rfl, zw_175⟩) <|
  zgd_d (fun d => zo_l d rfl rfl trivial) <|
  zgd_d (fun d => zo_h d rfl ⟨rfl, _, rfl, zw_760⟩) <|
  zgd_d (fun d => zo_s d rfl ⟨zd_142, zw_762, zw_763⟩) <|
  zgd_d (fun d => zo_l d rfl rfl trivial) <|
  zgd_d (fun d => zo_l d rfl rfl trivial) <|
  zgd_d (fun d => zo_l d rfl rfl trivial) <|
  zgd_d (fun d => zo_h d rfl ⟨rfl, Nat.le_of_ble_eq_true rfl, _, _, _, Or.inl ⟨Nat.le_of_ble_eq_true rfl, rfl⟩, Nat.le_of_ble_eq_true rfl, zw_341⟩) <|
  zgd_d (fun d => zo_h d rfl ⟨rfl, Nat.le_of_ble_eq_true rfl, _, _, _, Or.inl ⟨Nat.le_of_ble_eq_true rfl, rfl⟩, Nat.le_of_ble_eq_true rfl, zw_175⟩) <|
  zgd_d (fun d => zo_l d rfl rfl trivial) <|
  zgd_d (fun d => zo_h d rfl ⟨rfl, _, rfl, zw_768⟩) <|
  zgd_d (fun d => zo_s d rfl ⟨zd_142, zw_762, zw_763⟩) <|
  zgd_d (fun d => zo_l d rfl rfl trivial) <|
  zgd_d (fun d => zo_l d rfl rfl trivial) <|
  zgd_d (fun d => zo_l d rfl rfl trivial) <|
  zgd_d (fun d => zo_l d rfl rfl trivial) <|
  zgd_d (fun d => zo_l d rfl rfl trivial) <|
  zgd_d (fun d => zo_l d rfl rfl (by show ((37 : Nat) : Int) + (9) = ((46 : Nat) : Int); decide)) <|
  zgd_d (fun d => zo_l d rfl rfl trivial) <|
  zgd_d (fun d => zo_l d rfl rfl trivial) <|
  zgd_d (fun d => zo_l d rfl rfl trivial) <|
  zgd_d (fun d => zo_l d rfl rfl (by show ((43 : Nat) : Int) + (4) = ((47 : Nat) : Int); decide)) <|
  zgd_d (fun d => zo_l d rfl rfl trivial) <|
  zgd_d (fun d => zo_r d rfl) <|
  zgd_n)
  (z_fn)
theorem zdd_133_0 : ∀ q ∈ zc_133_0, decode prog_1_method_58_code q.1 = Except.ok (q.2.1, q.2.2.1) := zdd_of (by decide +kernel)
theorem zk_133_0 (xs : List Int32) {l : List zE} (h : ∀ q ∈ l, z_oke' (za_T xs) za_P za_M ⟨"LyndonBench", "violations", "()I"⟩ prog_1_method_58_code q) : ∀ q ∈ zc_133_0 ++ l, z_oke' (za_T xs) za_P za_M ⟨"LyndonBench", "violations", "()I"⟩ prog_1_method_58_code q :=
  zgd_y zdd_133_0 <|
  zgd_e (fun d => zo_l d rfl rfl trivial) <|
  zgd_e (fun d => zo_h d rfl ⟨rfl, Nat.le_of_ble_eq_true rfl, _, _, _, Or.inl ⟨Nat.le_of_ble_eq_true rfl, rfl⟩, Nat.le_of_ble_eq_true rfl, zw_341⟩) <|
  zgd_e (fun d => zo_h d rfl ⟨rfl, Nat.le_of_ble_eq_true rfl, _, _, _, Or.inl ⟨Nat.le_of_ble_eq_true rfl, rfl⟩, Nat.le_of_ble_eq_true rfl, zw_177⟩) <|
  zgd_e (fun d => zo_l d rfl rfl trivial) <|
  zgd_e (fun d => zo_l d rfl rfl trivial) <|
  zgd_e (fun d => zo_l d rfl rfl trivial) <|
  zgd_e (fun d => zo_l d rfl rfl trivial) <|
  zgd_e (fun d => zo_l d rfl rfl trivial) <|
  zgd_e (fun d => zo_l d rfl rfl trivial) <|
  zgd_e (fun d => zo_l d rfl rfl trivial) <|
  zgd_e (fun d => zo_l d rfl rfl trivial) <|
  zgd_e (fun d => zo_l d rfl rfl trivial) <|
  zgd_e (fun d => zo_l d rfl rfl trivial) <|
  zgd_e (fun d => zo_l d rfl rfl trivial) <|
  zgd_e (fun d => zo_h d rfl ⟨rfl, Nat.le_of_ble_eq_true rfl, _, _, _, Or.inl ⟨Nat.le_of_ble_eq_true rfl, rfl⟩, Nat.le_of_ble_eq_true rfl, zw_164⟩) <|
  zgd_e (fun d => zo_l d rfl rfl (by show ((24 : Nat) : Int) + (70) = ((94 : Nat) : Int); decide)) <|
  zgd_e (fun d => zo_l d rfl rfl trivial) <|
  zgd_e (fun d => zo_l d rfl rfl trivial) <|
  zgd_e (fun d => zo_h d rfl ⟨rfl, Nat.le_of_ble_eq_true rfl, _, _, _, Or.inl ⟨Nat.le_of_ble_eq_true rfl, rfl⟩, Nat.le_of_ble_eq_true rfl, zw_164⟩) <|
  zgd_e (fun d => zo_l d rfl rfl (by show ((33 : Nat) : Int) + (61) = ((94 : Nat) : Int); decide)) <|
  zgd_e (fun d => zo_l d rfl rfl trivial) <|
  zgd_e (fun d => zo_l d rfl rfl trivial) <|
  zgd_e (fun d => zo_v d rfl ⟨rfl, zd_59, zw_518, Nat.le_of_ble_eq_true rfl, ⟨_, Or.inl ⟨Nat.le_of_ble_eq_true rfl, rfl⟩, rfl⟩, zw_707, zw_519⟩) <|
  zgd_e (fun d => zo_l d rfl rfl trivial) <|
  zgd_e (fun d => zo_l d rfl rfl trivial) <|
  zgd_e (fun d => zo_l d rfl rfl trivial) <|
  zgd_e (fun d => zo_l d rfl rfl trivial) <|
  zgd_e (fun d => zo_v d rfl ⟨rfl, zd_67, zw_775, Nat.le_of_ble_eq_true rfl, ⟨_, Or.inl ⟨Nat.le_of_ble_eq_true rfl, rfl⟩, rfl⟩, zw_774, zw_776⟩) <|
  zgd_e (fun d => zo_l d rfl rfl (by show ((52 : Nat) : Int) + (6) = ((58 : Nat) : Int); decide)) <|
  zgd_e (fun d => zo_l d rfl rfl trivial) <|
  zgd_e (fun d => zo_l d rfl rfl trivial) <|
  zgd_e (fun d => zo_l d rfl rfl (by show ((60 : Nat) : Int) + (21) = ((81 : Nat) : Int); decide)) <|
  zgd_e (fun d => zo_l d rfl rfl trivial) <|
  zgd_e (fun d => zo_l d rfl rfl trivial) <|
  zgd_e (fun d => zo_l d rfl rfl trivial) <|
  zgd_e (fun d => zo_l d rfl rfl trivial) <|
  zgd_e (fun d => zo_l d rfl rfl trivial) <|
  zgd_e (fun d => zo_l d rfl rfl trivial) <|
  zgd_e (fun d => zo_v d rfl ⟨rfl, zd_58, zw_544, Nat.le_of_ble_eq_true rfl, ⟨_, Or.inl ⟨Nat.le_of_ble_eq_true rfl, rfl⟩, rfl⟩, zw_746, zw_545⟩) <|
  zgd_e (fun d => zo_l d rfl rfl (by show ((75 : Nat) : Int) + (6) = ((81 : Nat) : Int); decide)) <|
  zgd_m h
theorem zdd_133_1 : ∀ q ∈ zc_133_1, decode prog_1_method_58_code q.1 = Except.ok (q.2.1, q.2.2.1) := zdd_of (by decide +kernel)
theorem zk_133_1 (xs : List Int32) {l : List zE} (h : ∀ q ∈ l, z_oke' (za_T xs) za_P za_M ⟨"LyndonBench", "violations", "()I"⟩ prog_1_method_58_code q) : ∀ q ∈ zc_133_1 ++ l, z_oke' (za_T xs) za_P za_M ⟨"LyndonBench", "violations", "()I"⟩ prog_1_method_58_code q :=
  zgd_y zdd_133_1 <|
  zgd_e (fun d => zo_l d rfl rfl trivial) <|
  zgd_e (fun d => zo_l d rfl rfl trivial) <|
  zgd_e (fun d => zo_l d rfl rfl trivial) <|
  zgd_e (fun d => zo_l d rfl rfl trivial) <|
  zgd_e (fun d => zo_l d rfl rfl trivial) <|
  zgd_e (fun d => zo_l d rfl rfl trivial) <|
  zgd_e (fun d => zo_l d rfl rfl (by show ((91 : Nat) : Int) + (-73) = ((18 : Nat) : Int); decide)) <|
  zgd_e (fun d => zo_l d rfl rfl trivial) <|
  zgd_e (fun d => zo_l d rfl rfl trivial) <|
  zgd_e (fun d => zo_h d rfl ⟨rfl, Nat.le_of_ble_eq_true rfl, _, _, _, Or.inl ⟨Nat.le_of_ble_eq_true rfl, rfl⟩, Nat.le_of_ble_eq_true rfl, zw_164⟩) <|
  zgd_e (fun d => zo_l d rfl rfl (by show ((100 : Nat) : Int) + (6) = ((106 : Nat) : Int); decide)) <|
  zgd_e (fun d => zo_l d rfl rfl trivial) <|
  zgd_e (fun d => zo_l d rfl rfl trivial) <|
  zgd_e (fun d => zo_h d rfl ⟨rfl, Nat.le_of_ble_eq_true rfl, _, _, _, Or.inl ⟨Nat.le_of_ble_eq_true rfl, rfl⟩, Nat.le_of_ble_eq_true rfl, zw_164⟩) <|
  zgd_e (fun d => zo_l d rfl rfl (by show ((110 : Nat) : Int) + (15) = ((125 : Nat) : Int); decide)) <|
  zgd_e (fun d => zo_l d rfl rfl trivial) <|
  zgd_e (fun d => zo_l d rfl rfl trivial) <|
  zgd_e (fun d => zo_l d rfl rfl trivial) <|
  zgd_e (fun d => zo_v d rfl ⟨rfl, zd_74, zw_730, Nat.le_of_ble_eq_true rfl, ⟨_, Or.inl ⟨Nat.le_of_ble_eq_true rfl, rfl⟩, rfl⟩, zw_729, zw_731⟩) <|
  zgd_e (fun d => zo_l d rfl rfl (by show ((119 : Nat) : Int) + (6) = ((125 : Nat) : Int); decide)) <|
  zgd_e (fun d => zo_l d rfl rfl trivial) <|
  zgd_e (fun d => zo_l d rfl rfl trivial) <|
  zgd_e (fun d => zo_r d rfl) <|
  zgd_m h
theorem zk_133 (xs : List Int32) : z_okm (za_T xs) za_P za_M 133 := z_okm_of ⟨"LyndonBench", "violations", "()I"⟩ prog_1_method_58_code zc_133 _ rfl rfl rfl rfl
  (zk_133_0 xs <|
  zk_133_1 xs <|
  z_fn)
  (z_fn)
theorem zdd_134_0 : ∀ q ∈ zc_134_0, decode prog_1_method_59_code q.1 = Except.ok (q.2.1, q.2.2.1) := zdd_of (by decide +kernel)
theorem zk_134_0 (xs : List Int32) {l : List zE} (h : ∀ q ∈ l, z_oke' (za_T xs) za_P za_M ⟨"LyndonBench", "writeFactors", "()I"⟩ prog_1_method_59_code q) : ∀ q ∈ zc_134_0 ++ l, z_oke' (za_T xs) za_P za_M ⟨"LyndonBench", "writeFactors", "()I"⟩ prog_1_method_59_code q :=
  zgd_y zdd_134_0 <|
  zgd_e (fun d => zo_l d rfl rfl trivial) <|
  zgd_e (fun d => zo_h d rfl ⟨rfl, Nat.le_of_ble_eq_true rfl, _, _, _, Or.inl ⟨Nat.le_of_ble_eq_true rfl, rfl⟩, Nat.le_of_ble_eq_true rfl, zw_341⟩) <|
  zgd_e (fun d => zo_h d rfl ⟨rfl, Nat.le_of_ble_eq_true rfl, _, _, _, Or.inl ⟨Nat.le_of_ble_eq_true rfl, rfl⟩, Nat.le_of_ble_eq_true rfl, zw_177⟩) <|
  zgd_e (fun d => zo_l d rfl rfl trivial) <|
  zgd_e (fun d => zo_l d rfl rfl trivial) <|
  zgd_e (fun d => zo_h d rfl ⟨rfl, Nat.le_of_ble_eq_true rfl, _, _, _, Or.inl ⟨Nat.le_of_ble_eq_true rfl, rfl⟩, Nat.le_of_ble_eq_true rfl, zw_346⟩) <|
  zgd_e (fun d => zo_v d rfl ⟨rfl, zd_45, zw_268, Nat.le_of_ble_eq_true rfl, ⟨_, Or.inl ⟨Nat.le_of_ble_eq_true rfl, rfl⟩, rfl⟩, zw_588, zw_269⟩) <|
  zgd_e (fun d => zo_l d rfl rfl trivial) <|
  zgd_e (fun d => zo_l d rfl rfl trivial) <|
  zgd_e (fun d => zo_l d rfl rfl trivial) <|
  zgd_e (fun d => zo_l d rfl rfl trivial) <|
  zgd_e (fun d => zo_l d rfl rfl trivial) <|
  zgd_e (fun d => zo_l d rfl rfl trivial) <|
  zgd_e (fun d => zo_h d rfl ⟨rfl, Nat.le_of_ble_eq_true rfl, _, _, _, Or.inl ⟨Nat.le_of_ble_eq_true rfl, rfl⟩, Nat.le_of_ble_eq_true rfl, zw_164⟩) <|
  zgd_e (fun d => zo_l d rfl rfl (by show ((24 : Nat) : Int) + (91) = ((115 : Nat) : Int); decide)) <|
  zgd_e (fun d => zo_l d rfl rfl trivial) <|
  zgd_e (fun d => zo_l d rfl rfl trivial) <|
  zgd_e (fun d => zo_h d rfl ⟨rfl, Nat.le_of_ble_eq_true rfl, _, _, _, Or.inl ⟨Nat.le_of_ble_eq_true rfl, rfl⟩, Nat.le_of_ble_eq_true rfl, zw_164⟩) <|
  zgd_e (fun d => zo_l d rfl rfl (by show ((32 : Nat) : Int) + (83) = ((115 : Nat) : Int); decide)) <|
  zgd_e (fun d => zo_l d rfl rfl trivial) <|
  zgd_e (fun d => zo_l d rfl rfl trivial) <|
  zgd_e (fun d => zo_v d rfl ⟨rfl, zd_59, zw_518, Nat.le_of_ble_eq_true rfl, ⟨_, Or.inl ⟨Nat.le_of_ble_eq_true rfl, rfl⟩, rfl⟩, zw_707, zw_519⟩) <|
  zgd_e (fun d => zo_l d rfl rfl trivial) <|
  zgd_e (fun d => zo_l d rfl rfl trivial) <|
  zgd_e (fun d => zo_l d rfl rfl trivial) <|
  zgd_e (fun d => zo_l d rfl rfl trivial) <|
  zgd_e (fun d => zo_v d rfl ⟨rfl, zd_66, zw_783, Nat.le_of_ble_eq_true rfl, ⟨_, Or.inl ⟨Nat.le_of_ble_eq_true rfl, rfl⟩, rfl⟩, zw_782, zw_784⟩) <|
  zgd_e (fun d => zo_l d rfl rfl trivial) <|
  zgd_e (fun d => zo_l d rfl rfl trivial) <|
  zgd_e (fun d => zo_l d rfl rfl (by show ((52 : Nat) : Int) + (12) = ((64 : Nat) : Int); decide)) <|
  zgd_e (fun d => zo_l d rfl rfl trivial) <|
  zgd_e (fun d => zo_h d rfl ⟨rfl, Nat.le_of_ble_eq_true rfl, _, _, _, Or.inl ⟨Nat.le_of_ble_eq_true rfl, rfl⟩, Nat.le_of_ble_eq_true rfl, zw_346⟩) <|
  zgd_e (fun d => zo_l d rfl rfl trivial) <|
  zgd_e (fun d => zo_v d rfl ⟨rfl, zd_46, zw_325, Nat.le_of_ble_eq_true rfl, ⟨_, Or.inl ⟨Nat.le_of_ble_eq_true rfl, rfl⟩, rfl⟩, zw_786, zw_326⟩) <|
  zgd_e (fun d => zo_l d rfl rfl trivial) <|
  zgd_e (fun d => zo_h d rfl ⟨rfl, Nat.le_of_ble_eq_true rfl, _, _, _, Or.inl ⟨Nat.le_of_ble_eq_true rfl, rfl⟩, Nat.le_of_ble_eq_true rfl, zw_346⟩) <|
  zgd_e (fun d => zo_l d rfl rfl trivial) <|
  zgd_e (fun d => zo_l d rfl rfl trivial) <|
  zgd_e (fun d => zo_l d rfl rfl trivial) <|
  zgd_e (fun d => zo_v d rfl ⟨rfl, zd_49, zw_334, Nat.le_of_ble_eq_true rfl, ⟨_, Or.inl ⟨Nat.le_of_ble_eq_true rfl, rfl⟩, rfl⟩, zw_787, zw_335⟩) <|
  zgd_m h
theorem zdd_134_1 : ∀ q ∈ zc_134_1, decode prog_1_method_59_code q.1 = Except.ok (q.2.1, q.2.2.1) := zdd_of (by decide +kernel)
theorem zk_134_1 (xs : List Int32) {l : List zE} (h : ∀ q ∈ l, z_oke' (za_T xs) za_P za_M ⟨"LyndonBench", "writeFactors", "()I"⟩ prog_1_method_59_code q) : ∀ q ∈ zc_134_1 ++ l, z_oke' (za_T xs) za_P za_M ⟨"LyndonBench", "writeFactors", "()I"⟩ prog_1_method_59_code q :=
  zgd_y zdd_134_1 <|
  zgd_e (fun d => zo_l d rfl rfl trivial) <|
  zgd_e (fun d => zo_l d rfl rfl trivial) <|
  zgd_e (fun d => zo_l d rfl rfl (by show ((78 : Nat) : Int) + (21) = ((99 : Nat) : Int); decide)) <|
  zgd_e (fun d => zo_l d rfl rfl trivial) <|
  zgd_e (fun d => zo_h d rfl ⟨rfl, Nat.le_of_ble_eq_true rfl, _, _, _, Or.inl ⟨Nat.le_of_ble_eq_true rfl, rfl⟩, Nat.le_of_ble_eq_true rfl, zw_346⟩) <|
  zgd_e (fun d => zo_l d rfl rfl trivial) <|
  zgd_e (fun d => zo_v d rfl ⟨rfl, zd_46, zw_325, Nat.le_of_ble_eq_true rfl, ⟨_, Or.inl ⟨Nat.le_of_ble_eq_true rfl, rfl⟩, rfl⟩, zw_786, zw_326⟩) <|
  zgd_e (fun d => zo_l d rfl rfl trivial) <|
  zgd_e (fun d => zo_h d rfl ⟨rfl, Nat.le_of_ble_eq_true rfl, _, _, _, Or.inl ⟨Nat.le_of_ble_eq_true rfl, rfl⟩, Nat.le_of_ble_eq_true rfl, zw_346⟩) <|
  zgd_e (fun d => zo_l d rfl rfl trivial) <|
  zgd_e (fun d => zo_v d rfl ⟨rfl, zd_50, zw_789, Nat.le_of_ble_eq_true rfl, ⟨_, Or.inl ⟨Nat.le_of_ble_eq_true rfl, rfl⟩, rfl⟩, zw_788, zw_790⟩) <|
  zgd_e (fun d => zo_l d rfl rfl trivial) <|
  zgd_e (fun d => zo_l d rfl rfl trivial) <|
  zgd_e (fun d => zo_l d rfl rfl trivial) <|
  zgd_e (fun d => zo_l d rfl rfl trivial) <|
  zgd_e (fun d => zo_l d rfl rfl trivial) <|
  zgd_e (fun d => zo_l d rfl rfl trivial) <|
  zgd_e (fun d => zo_l d rfl rfl trivial) <|
  zgd_e (fun d => zo_l d rfl rfl trivial) <|
  zgd_e (fun d => zo_l d rfl rfl trivial) <|
  zgd_e (fun d => zo_l d rfl rfl (by show ((112 : Nat) : Int) + (-93) = ((19 : Nat) : Int); decide)) <|
  zgd_e (fun d => zo_l d rfl rfl trivial) <|
  zgd_e (fun d => zo_h d rfl ⟨rfl, Nat.le_of_ble_eq_true rfl, _, _, _, Or.inl ⟨Nat.le_of_ble_eq_true rfl, rfl⟩, Nat.le_of_ble_eq_true rfl, zw_346⟩) <|
  zgd_e (fun d => zo_h d rfl ⟨rfl, Nat.le_of_ble_eq_true rfl, _, _, _, Or.inl ⟨Nat.le_of_ble_eq_true rfl, rfl⟩, Nat.le_of_ble_eq_true rfl, zw_164⟩) <|
  zgd_e (fun d => zo_r d rfl) <|
  zgd_m h
theorem zk_134 (xs : List Int32) : z_okm (za_T xs) za_P za_M 134 := z_okm_of ⟨"LyndonBench", "writeFactors", "()I"⟩ prog_1_method_59_code zc_134 _ rfl rfl rfl rfl
  (zk_134_0 xs <|
  zk_134_1 xs <|
  z_fn)
  (z_fn)
theorem zdd_135 : ∀ q ∈ zc_135, decode prog_1_method_60_code q.1 = Except.ok (q.2.1, q.2.2.1) := zdd_of (by decide +kernel)
theorem zk_135 (xs : List Int32) : z_okm (za_T xs) za_P za_M 135 := z_okm_of ⟨"LyndonBench", "reportByte", "(I)I"⟩ prog_1_method_60_code zc_135 _ rfl rfl rfl rfl
  (zgd_x zdd_135 <|
  zgd_d (fun d => zo_l d rfl rfl trivial) <|
  zgd_d (fun d => zo_h d rfl ⟨rfl, Nat.le_of_ble_eq_true rfl, _, _, _, Or.inl ⟨Nat.le_of_ble_eq_true rfl, rfl⟩, Nat.le_of_ble_eq_true rfl, zw_346⟩) <|
  zgd_d (fun d => zo_l d rfl rfl trivial) <|
  zgd_d (fun d => zo_v d rfl ⟨rfl, zd_43, zw_338, Nat.le_of_ble_eq_true rfl, ⟨_, Or.inl ⟨Nat.le_of_ble_eq_true rfl, rfl⟩, rfl⟩, zw_648, zw_339⟩) <|
  zgd_d (fun d => zo_r d rfl) <|
  zgd_n)
  (z_fn)
theorem zdd_136 : ∀ q ∈ zc_136, decode prog_1_method_61_code q.1 = Except.ok (q.2.1, q.2.2.1) := zdd_of (by decide +kernel)
theorem zk_136 (xs : List Int32) : z_okm (za_T xs) za_P za_M 136 := z_okm_of ⟨"LyndonBench", "checkLetter", "(I)V"⟩ prog_1_method_61_code zc_136 _ rfl rfl rfl rfl
  (zgd_x zdd_136 <|
  zgd_d (fun d => zo_l d rfl rfl trivial) <|
  zgd_d (fun d => zo_h d rfl ⟨rfl, Nat.le_of_ble_eq_true rfl, _, _, _, Or.inl ⟨Nat.le_of_ble_eq_true rfl, rfl⟩, Nat.le_of_ble_eq_true rfl, zw_341⟩) <|
  zgd_d (fun d => zo_l d rfl rfl trivial) <|
  zgd_d (fun d => zo_v d rfl ⟨rfl, zd_31, zw_447, Nat.le_of_ble_eq_true rfl, ⟨_, Or.inl ⟨Nat.le_of_ble_eq_true rfl, rfl⟩, rfl⟩, zw_913, zw_448⟩) <|
  zgd_d (fun d => zo_l d rfl rfl (by show ((8 : Nat) : Int) + (14) = ((22 : Nat) : Int); decide)) <|
  zgd_d (fun d => zo_t d rfl ⟨["java/lang/RuntimeException", "java/lang/Exception"], 295, 81, 16, _, none, by decide +kernel, by decide +kernel, by decide, zw_804, zw_132, rfl, rfl, rfl, zt_0a, zt_0b, zt_0c_77, trivial, by decide +kernel, by decide +kernel, Or.inr ⟨rfl, by decide +kernel, by decide +kernel, by decide +kernel⟩⟩) <|
  zgd_d (fun d => zo_e d) <|
  zgd_n)
  (z_fn)
theorem zdd_137 : ∀ q ∈ zc_137, decode prog_1_method_62_code q.1 = Except.ok (q.2.1, q.2.2.1) := zdd_of (by decide +kernel)
theorem zk_137 (xs : List Int32) : z_okm (za_T xs) za_P za_M 137 := z_okm_of ⟨"LyndonBench", "checkCount", "(I)V"⟩ prog_1_method_62_code zc_137 _ rfl rfl rfl rfl
  (zgd_x zdd_137 <|
  zgd_d (fun d => zo_l d rfl rfl trivial) <|
  zgd_d (fun d => zo_l d rfl rfl (by show ((1 : Nat) : Int) + (17) = ((18 : Nat) : Int); decide)) <|
  zgd_d (fun d => zo_l d rfl rfl trivial) <|
  zgd_d (fun d => zo_l d rfl rfl trivial) <|
  zgd_d (fun d => zo_h d rfl ⟨rfl, Nat.le_of_ble_eq_true rfl, _, _, _, Or.inl ⟨Nat.le_of_ble_eq_true rfl, rfl⟩, Nat.le_of_ble_eq_true rfl, zw_341⟩) <|
  zgd_d (fun d => zo_h d rfl ⟨rfl, Nat.le_of_ble_eq_true rfl, _, _, _, Or.inl ⟨Nat.le_of_ble_eq_true rfl, rfl⟩, Nat.le_of_ble_eq_true rfl, zw_177⟩) <|
  zgd_d (fun d => zo_h d rfl ⟨rfl, Nat.le_of_ble_eq_true rfl, _, _, _, Or.inl ⟨Nat.le_of_ble_eq_true rfl, rfl⟩, Nat.le_of_ble_eq_true rfl, zw_164⟩) <|
  zgd_d (fun d => zo_l d rfl rfl (by show ((15 : Nat) : Int) + (14) = ((29 : Nat) : Int); decide)) <|
  zgd_d (fun d => zo_t d rfl ⟨["java/lang/RuntimeException", "java/lang/Exception"], 297, 81, 17, _, none, by decide +kernel, by decide +kernel, by decide, zw_804, zw_132, rfl, rfl, rfl, zt_0a, zt_0b, zt_0c_77, trivial, by decide +kernel, by decide +kernel, Or.inr ⟨rfl, by decide +kernel, by decide +kernel, by decide +kernel⟩⟩) <|
  zgd_d (fun d => zo_e d) <|
  zgd_n)
  (z_fn)
theorem zdd_138 : ∀ q ∈ zc_138, decode prog_1_method_63_code q.1 = Except.ok (q.2.1, q.2.2.1) := zdd_of (by decide +kernel)
theorem zk_138 (xs : List Int32) : z_okm (za_T xs) za_P za_M 138 := z_okm_of ⟨"LyndonBench", "checkPart", "(II)V"⟩ prog_1_method_63_code zc_138 _ rfl rfl rfl rfl
  (zgd_x zdd_138 <|
  zgd_d (fun d => zo_l d rfl rfl trivial) <|
  zgd_d (fun d => zo_l d rfl rfl (by show ((1 : Nat) : Int) + (22) = ((23 : Nat) : Int); decide)) <|
  zgd_d (fun d => zo_l d rfl rfl trivial) <|
  zgd_d (fun d => zo_l d rfl rfl trivial) <|
  zgd_d (fun d => zo_l d rfl rfl (by show ((6 : Nat) : Int) + (17) = ((23 : Nat) : Int); decide)) <|
  zgd_d (fun d => zo_l d rfl rfl trivial) <|
  zgd_d (fun d => zo_l d rfl rfl trivial) <|
  zgd_d (fun d => zo_h d rfl ⟨rfl, Nat.le_of_ble_eq_true rfl, _, _, _, Or.inl ⟨Nat.le_of_ble_eq_true rfl, rfl⟩, Nat.le_of_ble_eq_true rfl, zw_341⟩) <|
  zgd_d (fun d => zo_h d rfl ⟨rfl, Nat.le_of_ble_eq_true rfl, _, _, _, Or.inl ⟨Nat.le_of_ble_eq_true rfl, rfl⟩, Nat.le_of_ble_eq_true rfl, zw_177⟩) <|
  zgd_d (fun d => zo_h d rfl ⟨rfl, Nat.le_of_ble_eq_true rfl, _, _, _, Or.inl ⟨Nat.le_of_ble_eq_true rfl, rfl⟩, Nat.le_of_ble_eq_true rfl, zw_164⟩) <|
  zgd_d (fun d => zo_l d rfl rfl (by show ((20 : Nat) : Int) + (14) = ((34 : Nat) : Int); decide)) <|
  zgd_d (fun d => zo_t d rfl ⟨["java/lang/RuntimeException", "java/lang/Exception"], 299, 81, 18, _, none, by decide +kernel, by decide +kernel, by decide, zw_804, zw_132, rfl, rfl, rfl, zt_0a, zt_0b, zt_0c_77, trivial, by decide +kernel, by decide +kernel, Or.inr ⟨rfl, by decide +kernel, by decide +kernel, by decide +kernel⟩⟩) <|
  zgd_d (fun d => zo_e d) <|
  zgd_n)
  (z_fn)
theorem zdd_139 : ∀ q ∈ zc_139, decode prog_1_method_64_code q.1 = Except.ok (q.2.1, q.2.2.1) := zdd_of (by decide +kernel)
theorem zk_139 (xs : List Int32) : z_okm (za_T xs) za_P za_M 139 := z_okm_of ⟨"LyndonBench", "checkCountedLength", "(I)V"⟩ prog_1_method_64_code zc_139 _ rfl rfl rfl rfl
  (zgd_x zdd_139 <|
  zgd_d (fun d => zo_l d rfl rfl trivial) <|
  zgd_d (fun d => zo_l d rfl rfl trivial) <|
  zgd_d (fun d => zo_l d rfl rfl (by show ((2 : Nat) : Int) + (9) = ((11 : Nat) : Int); decide)) <|
  zgd_d (fun d => zo_l d rfl rfl trivial) <|
  zgd_d (fun d => zo_l d rfl rfl trivial) <|
  zgd_d (fun d => zo_l d rfl rfl (by show ((8 : Nat) : Int) + (14) = ((22 : Nat) : Int); decide)) <|
  zgd_d (fun d => zo_t d rfl ⟨["java/lang/RuntimeException", "java/lang/Exception"], 301, 81, 19, _, none, by decide +kernel, by decide +kernel, by decide, zw_804, zw_132, rfl, rfl, rfl, zt_0a, zt_0b, zt_0c_77, trivial, by decide +kernel, by decide +kernel, Or.inr ⟨rfl, by decide +kernel, by decide +kernel, by decide +kernel⟩⟩) <|
  zgd_d (fun d => zo_e d) <|
  zgd_n)
  (z_fn)
theorem zdd_140 : ∀ q ∈ zc_140, decode prog_1_method_65_code q.1 = Except.ok (q.2.1, q.2.2.1) := zdd_of (by decide +kernel)
theorem zk_140 (xs : List Int32) : z_okm (za_T xs) za_P za_M 140 := z_okm_of ⟨"LyndonBench", "checkedBegin", "(I)I"⟩ prog_1_method_65_code zc_140 _ rfl rfl rfl rfl
  (zgd_x zdd_140 <|
  zgd_d (fun d => zo_l d rfl rfl trivial) <|
  zgd_d (fun d => zo_h d rfl ⟨rfl, Nat.le_of_ble_eq_true rfl, _, _, _, Or.inl ⟨Nat.le_of_ble_eq_true rfl, rfl⟩, Nat.le_of_ble_eq_true rfl, zw_341⟩) <|
  zgd_d (fun d => zo_h d rfl ⟨rfl, Nat.le_of_ble_eq_true rfl, _, _, _, Or.inl ⟨Nat.le_of_ble_eq_true rfl, rfl⟩, Nat.le_of_ble_eq_true rfl, zw_177⟩) <|
  zgd_d (fun d => zo_l d rfl rfl trivial) <|
  zgd_d (fun d => zo_v d rfl ⟨rfl, zd_63, zw_536, Nat.le_of_ble_eq_true rfl, ⟨_, Or.inl ⟨Nat.le_of_ble_eq_true rfl, rfl⟩, rfl⟩, zw_992, zw_537⟩) <|
  zgd_d (fun d => zo_l d rfl rfl trivial) <|
  zgd_d (fun d => zo_l d rfl rfl trivial) <|
  zgd_d (fun d => zo_l d rfl rfl trivial) <|
  zgd_d (fun d => zo_l d rfl rfl (by show ((14 : Nat) : Int) + (14) = ((28 : Nat) : Int); decide)) <|
  zgd_d (fun d => zo_t d rfl ⟨["java/lang/RuntimeException", "java/lang/Exception"], 306, 196, 20, _, none, by decide +kernel, by decide +kernel, by decide, zw_993, zw_137, rfl, rfl, rfl, zt_4a, zt_4b, zt_4c_192, trivial, by decide +kernel, by decide +kernel, Or.inr ⟨rfl, by decide +kernel, by decide +kernel, by decide +kernel⟩⟩) <|
  zgd_d (fun d => zo_l d rfl rfl trivial) <|
  zgd_d (fun d => zo_r d rfl) <|
  zgd_n)
  (z_fn)
theorem zdd_141 : ∀ q ∈ zc_141, decode prog_1_method_66_code q.1 = Except.ok (q.2.1, q.2.2.1) := zdd_of (by decide +kernel)
theorem zk_141 (xs : List Int32) : z_okm (za_T xs) za_P za_M 141 := z_okm_of ⟨"LyndonBench", "fitsRow", "(II)Z"⟩ prog_1_method_66_code zc_141 _ rfl rfl rfl rfl
  (zgd_x zdd_141 <|
  zgd_d (fun d => zo_l d rfl rfl trivial) <|
  zgd_d (fun d => zo_l d rfl rfl trivial) <|
  zgd_d (fun d => zo_l d rfl rfl trivial) <|
  zgd_d (fun d => zo_l d rfl rfl trivial) <|
  zgd_d (fun d => zo_l d rfl rfl trivial) <|
  zgd_d (fun d => zo_l d rfl rfl trivial) <|
  zgd_d (fun d => zo_l d rfl rfl (by show ((8 : Nat) : Int) + (22) = ((30 : Nat) : Int); decide)) <|
  zgd_d (fun d => zo_l d rfl rfl trivial) <|
  zgd_d (fun d => zo_h d rfl ⟨rfl, _, rfl, zw_1115⟩) <|
  zgd_d (fun d => zo_l d rfl rfl trivial) <|
  zgd_d (fun d => zo_l d rfl rfl (by show ((16 : Nat) : Int) + (14) = ((30 : Nat) : Int); decide)) <|
  zgd_d (fun d => zo_l d rfl rfl trivial) <|
  zgd_d (fun d => zo_l d rfl rfl trivial) <|
  zgd_d (fun d => zo_l d rfl rfl trivial) <|
  zgd_d (fun d => zo_l d rfl rfl trivial) <|
  zgd_d (fun d => zo_l d rfl rfl trivial) <|
  zgd_d (fun d => zo_l d rfl rfl trivial) <|
  zgd_d (fun d => zo_l d rfl rfl (by show ((27 : Nat) : Int) + (-22) = ((5 : Nat) : Int); decide)) <|
  zgd_d (fun d => zo_l d rfl rfl trivial) <|
  zgd_d (fun d => zo_h d rfl ⟨rfl, _, rfl, zw_1115⟩) <|
  zgd_d (fun d => zo_l d rfl rfl trivial) <|
  zgd_d (fun d => zo_l d rfl rfl (by show ((35 : Nat) : Int) + (7) = ((42 : Nat) : Int); decide)) <|
  zgd_d (fun d => zo_l d rfl rfl trivial) <|
  zgd_d (fun d => zo_l d rfl rfl (by show ((39 : Nat) : Int) + (4) = ((43 : Nat) : Int); decide)) <|
  zgd_d (fun d => zo_l d rfl rfl trivial) <|
  zgd_d (fun d => zo_r d rfl) <|
  zgd_n)
  (z_fn)
theorem zdd_142 : ∀ q ∈ zc_142, decode prog_1_method_67_code q.1 = Except.ok (q.2.1, q.2.2.1) := zdd_of (by decide +kernel)
theorem zk_142 (xs : List Int32) : z_okm (za_T xs) za_P za_M 142 := z_okm_of ⟨"LyndonBench", "weighPowers", "(II[I)J"⟩ prog_1_method_67_code zc_142 _ rfl rfl rfl rfl
  (zgd_x zdd_142 <|
  zgd_d (fun d => zo_l d rfl rfl trivial) <|
  zgd_d (fun d => zo_l d rfl rfl trivial) <|
  zgd_d (fun d => zo_l d rfl rfl (by show ((2 : Nat) : Int) + (5) = ((7 : Nat) : Int); decide)) <|
  zgd_d (fun d => zo_l d rfl rfl trivial) <|
  zgd_d (fun d => zo_r d rfl) <|
  zgd_d (fun d => zo_l d rfl rfl trivial) <|
  zgd_d (fun d => zo_l d rfl rfl trivial) <|
  zgd_d (fun d => zo_l d rfl rfl trivial) <|
  zgd_d (fun d => zo_l d rfl rfl trivial) <|
  zgd_d (fun d => zo_l d rfl rfl trivial) <|
  zgd_d (fun d => zo_l d rfl rfl trivial) <|
  zgd_d (fun d => zo_l d rfl rfl (by show ((15 : Nat) : Int) + (40) = ((55 : Nat) : Int); decide)) <|
  zgd_d (fun d => zo_l d rfl rfl trivial) <|
  zgd_d (fun d => zo_l d rfl rfl trivial) <|
  zgd_d (fun d => zo_h d rfl rfl) <|
  zgd_d (fun d => zo_l d rfl rfl (by show ((22 : Nat) : Int) + (33) = ((55 : Nat) : Int); decide)) <|
  zgd_d (fun d => zo_l d rfl rfl trivial) <|
  zgd_d (fun d => zo_l d rfl rfl trivial) <|
  zgd_d (fun d => zo_l d rfl rfl trivial) <|
  zgd_d (fun d => zo_l d rfl rfl (by show ((29 : Nat) : Int) + (20) = ((49 : Nat) : Int); decide)) <|
  zgd_d (fun d => zo_l d rfl rfl trivial) <|
  zgd_d (fun d => zo_l d rfl rfl trivial) <|
  zgd_d (fun d => zo_l d rfl rfl trivial) <|
  zgd_d (fun d => zo_h d rfl rfl) <|
  zgd_d (fun d => zo_l d rfl rfl trivial) <|
  zgd_d (fun d => zo_l d rfl rfl trivial) <|
  zgd_d (fun d => zo_l d rfl rfl trivial) <|
  zgd_d (fun d => zo_l d rfl rfl trivial) <|
  zgd_d (fun d => zo_l d rfl rfl trivial) <|
  zgd_d (fun d => zo_s d rfl ⟨zd_143, zw_765, zw_766⟩) <|
  zgd_d (fun d => zo_l d rfl rfl trivial) <|
  zgd_d (fun d => zo_l d rfl rfl trivial) <|
  zgd_d (fun d => zo_l d rfl rfl trivial) <|
  zgd_d (fun d => zo_l d rfl rfl trivial) <|
  zgd_d (fun d => zo_l d rfl rfl (by show ((52 : Nat) : Int) + (-40) = ((12 : Nat) : Int); decide)) <|
  zgd_d (fun d => zo_l d rfl rfl trivial) <|
  zgd_d (fun d => zo_l d rfl rfl trivial) <|
  zgd_d (fun d => zo_l d rfl rfl trivial) <|
  zgd_d (fun d => zo_l d rfl rfl trivial) <|
  zgd_d (fun d => zo_r d rfl) <|
  zgd_n)
  (z_fn)
theorem zdd_143 : ∀ q ∈ zc_143, decode prog_1_method_68_code q.1 = Except.ok (q.2.1, q.2.2.1) := zdd_of (by decide +kernel)
theorem zk_143 (xs : List Int32) : z_okm (za_T xs) za_P za_M 143 := z_okm_of ⟨"LyndonBench", "power", "(II)J"⟩ prog_1_method_68_code zc_143 _ rfl rfl rfl rfl
  (zgd_x zdd_143 <|
  zgd_d (fun d => zo_l d rfl rfl trivial) <|
  zgd_d (fun d => zo_l d rfl rfl trivial) <|
  zgd_d (fun d => zo_l d rfl rfl trivial) <|
  zgd_d (fun d => zo_l d rfl rfl trivial) <|
  zgd_d (fun d => zo_l d rfl rfl trivial) <|
  zgd_d (fun d => zo_l d rfl rfl trivial) <|
  zgd_d (fun d => zo_l d rfl rfl (by show ((8 : Nat) : Int) + (14) = ((22 : Nat) : Int); decide)) <|
  zgd_d (fun d => zo_l d rfl rfl trivial) <|
  zgd_d (fun d => zo_l d rfl rfl trivial) <|
  zgd_d (fun d => zo_l d rfl rfl trivial) <|
  zgd_d (fun d => zo_l d rfl rfl trivial) <|
  zgd_d (fun d => zo_l d rfl rfl trivial) <|
  zgd_d (fun d => zo_l d rfl rfl trivial) <|
  zgd_d (fun d => zo_l d rfl rfl (by show ((19 : Nat) : Int) + (-14) = ((5 : Nat) : Int); decide)) <|
  zgd_d (fun d => zo_l d rfl rfl trivial) <|
  zgd_d (fun d => zo_r d rfl) <|
  zgd_n)
  (z_fn)
theorem zdd_144 : ∀ q ∈ zc_144, decode prog_1_method_69_code q.1 = Except.ok (q.2.1, q.2.2.1) := zdd_of (by decide +kernel)
theorem zk_144 (xs : List Int32) : z_okm (za_T xs) za_P za_M 144 := z_okm_of ⟨"LyndonBench", "startListing", "()V"⟩ prog_1_method_69_code zc_144 _ rfl rfl rfl rfl
  (zgd_x zdd_144 <|
  zgd_d (fun d => zo_l d rfl rfl trivial) <|
  zgd_d (fun d => zo_h d rfl ⟨rfl, Nat.le_of_ble_eq_true rfl, _, _, _, Or.inl ⟨Nat.le_of_ble_eq_true rfl, rfl⟩, Nat.le_of_ble_eq_true rfl, zw_347⟩) <|
  zgd_d (fun d => zo_v d rfl ⟨rfl, zd_45, zw_268, Nat.le_of_ble_eq_true rfl, ⟨_, Or.inl ⟨Nat.le_of_ble_eq_true rfl, rfl⟩, rfl⟩, zw_588, zw_269⟩) <|
  zgd_d (fun d => zo_l d rfl rfl trivial) <|
  zgd_d (fun d => zo_h d rfl ⟨rfl, Nat.le_of_ble_eq_true rfl, _, _, _, Or.inl ⟨Nat.le_of_ble_eq_true rfl, rfl⟩, Nat.le_of_ble_eq_true rfl, zw_347⟩) <|
  zgd_d (fun d => zo_l d rfl rfl trivial) <|
  zgd_d (fun d => zo_v d rfl ⟨rfl, zd_46, zw_325, Nat.le_of_ble_eq_true rfl, ⟨_, Or.inl ⟨Nat.le_of_ble_eq_true rfl, rfl⟩, rfl⟩, zw_786, zw_326⟩) <|
  zgd_d (fun d => zo_e d) <|
  zgd_n)
  (z_fn)
theorem zdd_145_0 : ∀ q ∈ zc_145_0, decode prog_1_method_70_code q.1 = Except.ok (q.2.1, q.2.2.1) := zdd_of (by decide +kernel)
theorem zk_145_0 (xs : List Int32) {l : List zE} (h : ∀ q ∈ l, z_oke' (za_T xs) za_P za_M ⟨"LyndonBench", "countSmaller", "(II)I"⟩ prog_1_method_70_code q) : ∀ q ∈ zc_145_0 ++ l, z_oke' (za_T xs) za_P za_M ⟨"LyndonBench", "countSmaller", "(II)I"⟩ prog_1_method_70_code q :=
  zgd_y zdd_145_0 <|
  zgd_e (fun d => zo_l d rfl rfl trivial) <|
  zgd_e (fun d => zo_l d rfl rfl trivial) <|
  zgd_e (fun d => zo_l d rfl rfl trivial) <|
  zgd_e (fun d => zo_l d rfl rfl trivial) <|
  zgd_e (fun d => zo_l d rfl rfl trivial) <|
  zgd_e (fun d => zo_l d rfl rfl trivial) <|
  zgd_e (fun d => zo_l d rfl rfl trivial) <|
  zgd_e (fun d => zo_v d rfl ⟨rfl, zd_144, zw_1122, Nat.le_of_ble_eq_true rfl, ⟨_, Or.inl ⟨Nat.le_of_ble_eq_true rfl, rfl⟩, rfl⟩, zw_1120, zw_30⟩) <|
  zgd_e (fun d => zo_l d rfl rfl trivial) <|
  zgd_e (fun d => zo_l d rfl rfl trivial) <|
  zgd_e (fun d => zo_l d rfl rfl trivial) <|
  zgd_e (fun d => zo_l d rfl rfl trivial) <|
  zgd_e (fun d => zo_l d rfl rfl trivial) <|
  zgd_e (fun d => zo_l d rfl rfl trivial) <|
  zgd_e (fun d => zo_l d rfl rfl (by show ((21 : Nat) : Int) + (78) = ((99 : Nat) : Int); decide)) <|
  zgd_e (fun d => zo_l d rfl rfl trivial) <|
  zgd_e (fun d => zo_h d rfl ⟨rfl, Nat.le_of_ble_eq_true rfl, _, _, _, Or.inl ⟨Nat.le_of_ble_eq_true rfl, rfl⟩, Nat.le_of_ble_eq_true rfl, zw_347⟩) <|
  zgd_e (fun d => zo_h d rfl ⟨rfl, Nat.le_of_ble_eq_true rfl, _, _, _, Or.inl ⟨Nat.le_of_ble_eq_true rfl, rfl⟩, Nat.le_of_ble_eq_true rfl, zw_164⟩) <|
  zgd_e (fun d => zo_l d rfl rfl (by show ((31 : Nat) : Int) + (68) = ((99 : Nat) : Int); decide)) <|
  zgd_e (fun d => zo_l d rfl rfl trivial) <|
  zgd_e (fun d => zo_h d rfl ⟨rfl, Nat.le_of_ble_eq_true rfl, _, _, _, Or.inl ⟨Nat.le_of_ble_eq_true rfl, rfl⟩, Nat.le_of_ble_eq_true rfl, zw_347⟩) <|
  zgd_e (fun d => zo_l d rfl rfl trivial) <|
  zgd_e (fun d => zo_l d rfl rfl trivial) <|
  zgd_e (fun d => zo_h d rfl ⟨rfl, Nat.le_of_ble_eq_true rfl, _, _, _, Or.inl ⟨Nat.le_of_ble_eq_true rfl, rfl⟩, Nat.le_of_ble_eq_true rfl, zw_347⟩) <|
  zgd_e (fun d => zo_h d rfl ⟨rfl, Nat.le_of_ble_eq_true rfl, _, _, _, Or.inl ⟨Nat.le_of_ble_eq_true rfl, rfl⟩, Nat.le_of_ble_eq_true rfl, zw_164⟩) <|
  zgd_e (fun d => zo_l d rfl rfl trivial) <|
  zgd_e (fun d => zo_h d rfl ⟨rfl, Nat.le_of_ble_eq_true rfl, _, _, _, Or.inl ⟨Nat.le_of_ble_eq_true rfl, rfl⟩, Nat.le_of_ble_eq_true rfl, zw_341⟩) <|
  zgd_e (fun d => zo_h d rfl ⟨rfl, Nat.le_of_ble_eq_true rfl, _, _, _, Or.inl ⟨Nat.le_of_ble_eq_true rfl, rfl⟩, Nat.le_of_ble_eq_true rfl, zw_177⟩) <|
  zgd_e (fun d => zo_l d rfl rfl trivial) <|
  zgd_e (fun d => zo_l d rfl rfl trivial) <|
  zgd_e (fun d => zo_v d rfl ⟨rfl, zd_58, zw_544, Nat.le_of_ble_eq_true rfl, ⟨_, Or.inl ⟨Nat.le_of_ble_eq_true rfl, rfl⟩, rfl⟩, zw_746, zw_545⟩) <|
  zgd_e (fun d => zo_l d rfl rfl (by show ((58 : Nat) : Int) + (6) = ((64 : Nat) : Int); decide)) <|
  zgd_e (fun d => zo_l d rfl rfl trivial) <|
  zgd_e (fun d => zo_r d rfl) <|
  zgd_e (fun d => zo_l d rfl rfl trivial) <|
  zgd_e (fun d => zo_h d rfl ⟨rfl, Nat.le_of_ble_eq_true rfl, _, _, _, Or.inl ⟨Nat.le_of_ble_eq_true rfl, rfl⟩, Nat.le_of_ble_eq_true rfl, zw_347⟩) <|
  zgd_e (fun d => zo_h d rfl ⟨rfl, Nat.le_of_ble_eq_true rfl, _, _, _, Or.inl ⟨Nat.le_of_ble_eq_true rfl, rfl⟩, Nat.le_of_ble_eq_true rfl, zw_164⟩) <|
  zgd_e (fun d => zo_l d rfl rfl trivial) <|
  zgd_e (fun d => zo_l d rfl rfl (by show ((72 : Nat) : Int) + (6) = ((78 : Nat) : Int); decide)) <|
  zgd_e (fun d => zo_l d rfl rfl trivial) <|
  zgd_m h
theorem zdd_145_1 : ∀ q ∈ zc_145_1, decode prog_1_method_70_code q.1 = Except.ok (q.2.1, q.2.2.1) := zdd_of (by decide +kernel)
theorem zk_145_1 (xs : List Int32) {l : List zE} (h : ∀ q ∈ l, z_oke' (za_T xs) za_P za_M ⟨"LyndonBench", "countSmaller", "(II)I"⟩ prog_1_method_70_code q) : ∀ q ∈ zc_145_1 ++ l, z_oke' (za_T xs) za_P za_M ⟨"LyndonBench", "countSmaller", "(II)I"⟩ prog_1_method_70_code q :=
  zgd_y zdd_145_1 <|
  zgd_e (fun d => zo_l d rfl rfl trivial) <|
  zgd_e (fun d => zo_h d rfl ⟨rfl, Nat.le_of_ble_eq_true rfl, _, _, _, Or.inl ⟨Nat.le_of_ble_eq_true rfl, rfl⟩, Nat.le_of_ble_eq_true rfl, zw_347⟩) <|
  zgd_e (fun d => zo_l d rfl rfl trivial) <|
  zgd_e (fun d => zo_l d rfl rfl trivial) <|
  zgd_e (fun d => zo_h d rfl ⟨rfl, Nat.le_of_ble_eq_true rfl, _, _, _, Or.inl ⟨Nat.le_of_ble_eq_true rfl, rfl⟩, Nat.le_of_ble_eq_true rfl, zw_341⟩) <|
  zgd_e (fun d => zo_v d rfl ⟨rfl, zd_32, zw_523, Nat.le_of_ble_eq_true rfl, ⟨_, Or.inl ⟨Nat.le_of_ble_eq_true rfl, rfl⟩, rfl⟩, zw_978, zw_524⟩) <|
  zgd_e (fun d => zo_v d rfl ⟨rfl, zd_75, zw_528, Nat.le_of_ble_eq_true rfl, ⟨_, Or.inl ⟨Nat.le_of_ble_eq_true rfl, rfl⟩, rfl⟩, zw_979, zw_529⟩) <|
  zgd_e (fun d => zo_l d rfl rfl trivial) <|
  zgd_e (fun d => zo_l d rfl rfl (by show ((96 : Nat) : Int) + (-82) = ((14 : Nat) : Int); decide)) <|
  zgd_e (fun d => zo_l d rfl rfl trivial) <|
  zgd_e (fun d => zo_r d rfl) <|
  zgd_m h
theorem zk_145 (xs : List Int32) : z_okm (za_T xs) za_P za_M 145 := z_okm_of ⟨"LyndonBench", "countSmaller", "(II)I"⟩ prog_1_method_70_code zc_145 _ rfl rfl rfl rfl
  (zk_145_0 xs <|
  zk_145_1 xs <|
  z_fn)
  (z_fn)
theorem zdd_146_0 : ∀ q ∈ zc_146_0, decode prog_1_method_71_code q.1 = Except.ok (q.2.1, q.2.2.1) := zdd_of (by decide +kernel)
theorem zk_146_0 (xs : List Int32) {l : List zE} (h : ∀ q ∈ l, z_oke' (za_T xs) za_P za_M ⟨"LyndonBench", "findRowLetter", "(II)I"⟩ prog_1_method_71_code q) : ∀ q ∈ zc_146_0 ++ l, z_oke' (za_T xs) za_P za_M ⟨"LyndonBench", "findRowLetter", "(II)I"⟩ prog_1_method_71_code q :=
  zgd_y zdd_146_0 <|
  zgd_e (fun d => zo_l d rfl rfl trivial) <|
  zgd_e (fun d => zo_l d rfl rfl trivial) <|
  zgd_e (fun d => zo_l d rfl rfl trivial) <|
  zgd_e (fun d => zo_v d rfl ⟨rfl, zd_144, zw_1122, Nat.le_of_ble_eq_true rfl, ⟨_, Or.inl ⟨Nat.le_of_ble_eq_true rfl, rfl⟩, rfl⟩, zw_1120, zw_30⟩) <|
  zgd_e (fun d => zo_l d rfl rfl trivial) <|
  zgd_e (fun d => zo_l d rfl rfl trivial) <|
  zgd_e (fun d => zo_l d rfl rfl trivial) <|
  zgd_e (fun d => zo_l d rfl rfl trivial) <|
  zgd_e (fun d => zo_l d rfl rfl trivial) <|
  zgd_e (fun d => zo_l d rfl rfl trivial) <|
  zgd_e (fun d => zo_l d rfl rfl (by show ((16 : Nat) : Int) + (80) = ((96 : Nat) : Int); decide)) <|
  zgd_e (fun d => zo_l d rfl rfl trivial) <|
  zgd_e (fun d => zo_h d rfl ⟨rfl, Nat.le_of_ble_eq_true rfl, _, _, _, Or.inl ⟨Nat.le_of_ble_eq_true rfl, rfl⟩, Nat.le_of_ble_eq_true rfl, zw_347⟩) <|
  zgd_e (fun d => zo_h d rfl ⟨rfl, Nat.le_of_ble_eq_true rfl, _, _, _, Or.inl ⟨Nat.le_of_ble_eq_true rfl, rfl⟩, Nat.le_of_ble_eq_true rfl, zw_164⟩) <|
  zgd_e (fun d => zo_l d rfl rfl (by show ((26 : Nat) : Int) + (70) = ((96 : Nat) : Int); decide)) <|
  zgd_e (fun d => zo_l d rfl rfl trivial) <|
  zgd_e (fun d => zo_l d rfl rfl trivial) <|
  zgd_e (fun d => zo_h d rfl ⟨rfl, Nat.le_of_ble_eq_true rfl, _, _, _, Or.inl ⟨Nat.le_of_ble_eq_true rfl, rfl⟩, Nat.le_of_ble_eq_true rfl, zw_347⟩) <|
  zgd_e (fun d => zo_h d rfl ⟨rfl, Nat.le_of_ble_eq_true rfl, _, _, _, Or.inl ⟨Nat.le_of_ble_eq_true rfl, rfl⟩, Nat.le_of_ble_eq_true rfl, zw_164⟩) <|
  zgd_e (fun d => zo_l d rfl rfl trivial) <|
  zgd_e (fun d => zo_l d rfl rfl (by show ((38 : Nat) : Int) + (37) = ((75 : Nat) : Int); decide)) <|
  zgd_e (fun d => zo_l d rfl rfl trivial) <|
  zgd_e (fun d => zo_l d rfl rfl trivial) <|
  zgd_e (fun d => zo_l d rfl rfl trivial) <|
  zgd_e (fun d => zo_h d rfl ⟨rfl, Nat.le_of_ble_eq_true rfl, _, _, _, Or.inl ⟨Nat.le_of_ble_eq_true rfl, rfl⟩, Nat.le_of_ble_eq_true rfl, zw_347⟩) <|
  zgd_e (fun d => zo_h d rfl ⟨rfl, Nat.le_of_ble_eq_true rfl, _, _, _, Or.inl ⟨Nat.le_of_ble_eq_true rfl, rfl⟩, Nat.le_of_ble_eq_true rfl, zw_164⟩) <|
  zgd_e (fun d => zo_l d rfl rfl trivial) <|
  zgd_e (fun d => zo_l d rfl rfl (by show ((51 : Nat) : Int) + (14) = ((65 : Nat) : Int); decide)) <|
  zgd_e (fun d => zo_l d rfl rfl trivial) <|
  zgd_e (fun d => zo_h d rfl ⟨rfl, Nat.le_of_ble_eq_true rfl, _, _, _, Or.inl ⟨Nat.le_of_ble_eq_true rfl, rfl⟩, Nat.le_of_ble_eq_true rfl, zw_347⟩) <|
  zgd_e (fun d => zo_l d rfl rfl trivial) <|
  zgd_e (fun d => zo_l d rfl rfl trivial) <|
  zgd_e (fun d => zo_l d rfl rfl trivial) <|
  zgd_e (fun d => zo_v d rfl ⟨rfl, zd_43, zw_338, Nat.le_of_ble_eq_true rfl, ⟨_, Or.inl ⟨Nat.le_of_ble_eq_true rfl, rfl⟩, rfl⟩, zw_648, zw_339⟩) <|
  zgd_e (fun d => zo_r d rfl) <|
  zgd_e (fun d => zo_l d rfl rfl trivial) <|
  zgd_e (fun d => zo_l d rfl rfl trivial) <|
  zgd_e (fun d => zo_h d rfl ⟨rfl, Nat.le_of_ble_eq_true rfl, _, _, _, Or.inl ⟨Nat.le_of_ble_eq_true rfl, rfl⟩, Nat.le_of_ble_eq_true rfl, zw_347⟩) <|
  zgd_e (fun d => zo_h d rfl ⟨rfl, Nat.le_of_ble_eq_true rfl, _, _, _, Or.inl ⟨Nat.le_of_ble_eq_true rfl, rfl⟩, Nat.le_of_ble_eq_true rfl, zw_164⟩) <|
  zgd_e (fun d => zo_l d rfl rfl trivial) <|
  zgd_m h
theorem zdd_146_1 : ∀ q ∈ zc_146_1, decode prog_1_method_71_code q.1 = Except.ok (q.2.1, q.2.2.1) := zdd_of (by decide +kernel)
theorem zk_146_1 (xs : List Int32) {l : List zE} (h : ∀ q ∈ l, z_oke' (za_T xs) za_P za_M ⟨"LyndonBench", "findRowLetter", "(II)I"⟩ prog_1_method_71_code q) : ∀ q ∈ zc_146_1 ++ l, z_oke' (za_T xs) za_P za_M ⟨"LyndonBench", "findRowLetter", "(II)I"⟩ prog_1_method_71_code q :=
  zgd_y zdd_146_1 <|
  zgd_e (fun d => zo_l d rfl rfl trivial) <|
  zgd_e (fun d => zo_l d rfl rfl trivial) <|
  zgd_e (fun d => zo_h d rfl ⟨rfl, Nat.le_of_ble_eq_true rfl, _, _, _, Or.inl ⟨Nat.le_of_ble_eq_true rfl, rfl⟩, Nat.le_of_ble_eq_true rfl, zw_347⟩) <|
  zgd_e (fun d => zo_l d rfl rfl trivial) <|
  zgd_e (fun d => zo_l d rfl rfl trivial) <|
  zgd_e (fun d => zo_h d rfl ⟨rfl, Nat.le_of_ble_eq_true rfl, _, _, _, Or.inl ⟨Nat.le_of_ble_eq_true rfl, rfl⟩, Nat.le_of_ble_eq_true rfl, zw_341⟩) <|
  zgd_e (fun d => zo_v d rfl ⟨rfl, zd_32, zw_523, Nat.le_of_ble_eq_true rfl, ⟨_, Or.inl ⟨Nat.le_of_ble_eq_true rfl, rfl⟩, rfl⟩, zw_978, zw_524⟩) <|
  zgd_e (fun d => zo_v d rfl ⟨rfl, zd_75, zw_528, Nat.le_of_ble_eq_true rfl, ⟨_, Or.inl ⟨Nat.le_of_ble_eq_true rfl, rfl⟩, rfl⟩, zw_979, zw_529⟩) <|
  zgd_e (fun d => zo_l d rfl rfl trivial) <|
  zgd_e (fun d => zo_l d rfl rfl (by show ((93 : Nat) : Int) + (-84) = ((9 : Nat) : Int); decide)) <|
  zgd_e (fun d => zo_l d rfl rfl trivial) <|
  zgd_e (fun d => zo_r d rfl) <|
  zgd_m h
theorem zk_146 (xs : List Int32) : z_okm (za_T xs) za_P za_M 146 := z_okm_of ⟨"LyndonBench", "findRowLetter", "(II)I"⟩ prog_1_method_71_code zc_146 _ rfl rfl rfl rfl
  (zk_146_0 xs <|
  zk_146_1 xs <|
  z_fn)
  (z_fn)
theorem zdd_147_0 : ∀ q ∈ zc_147_0, decode prog_9_method_1_code q.1 = Except.ok (q.2.1, q.2.2.1) := zdd_of (by decide +kernel)
theorem zk_147_0 (xs : List Int32) {l : List zE} (h : ∀ q ∈ l, z_oke' (za_T xs) za_P za_M ⟨"LyndonBenchModel", "<init>", "()V"⟩ prog_9_method_1_code q) : ∀ q ∈ zc_147_0 ++ l, z_oke' (za_T xs) za_P za_M ⟨"LyndonBenchModel", "<init>", "()V"⟩ prog_9_method_1_code q :=
  zgd_y zdd_147_0 <|
  zgd_e (fun d => zo_l d rfl rfl trivial) <|
  zgd_e (fun d => zo_h d rfl ⟨rfl, zw_1175, zw_145, zw_146⟩) <|
  zgd_e (fun d => zo_l d rfl rfl trivial) <|
  zgd_e (fun d => zo_l d rfl rfl trivial) <|
  zgd_e (fun d => zo_h d rfl ⟨rfl, zw_260⟩) <|
  zgd_e (fun d => zo_h d rfl ⟨rfl, Nat.le_of_ble_eq_true rfl, _, _, _, rfl, Nat.le_of_ble_eq_true rfl, zw_1434, Or.inr ⟨rfl, rfl, rfl⟩⟩) <|
  zgd_e (fun d => zo_l d rfl rfl trivial) <|
  zgd_e (fun d => zo_l d rfl rfl trivial) <|
  zgd_e (fun d => zo_h d rfl ⟨rfl, zw_260⟩) <|
  zgd_e (fun d => zo_h d rfl ⟨rfl, Nat.le_of_ble_eq_true rfl, _, _, _, rfl, Nat.le_of_ble_eq_true rfl, zw_1435, Or.inr ⟨rfl, rfl, rfl⟩⟩) <|
  zgd_e (fun d => zo_l d rfl rfl trivial) <|
  zgd_e (fun d => zo_l d rfl rfl trivial) <|
  zgd_e (fun d => zo_h d rfl ⟨rfl, zw_260⟩) <|
  zgd_e (fun d => zo_h d rfl ⟨rfl, Nat.le_of_ble_eq_true rfl, _, _, _, rfl, Nat.le_of_ble_eq_true rfl, zw_1436, Or.inr ⟨rfl, rfl, rfl⟩⟩) <|
  zgd_e (fun d => zo_l d rfl rfl trivial) <|
  zgd_e (fun d => zo_l d rfl rfl trivial) <|
  zgd_e (fun d => zo_h d rfl ⟨rfl, zw_260⟩) <|
  zgd_e (fun d => zo_h d rfl ⟨rfl, Nat.le_of_ble_eq_true rfl, _, _, _, rfl, Nat.le_of_ble_eq_true rfl, zw_1437, Or.inr ⟨rfl, rfl, rfl⟩⟩) <|
  zgd_e (fun d => zo_l d rfl rfl trivial) <|
  zgd_e (fun d => zo_l d rfl rfl trivial) <|
  zgd_e (fun d => zo_h d rfl ⟨rfl, zw_260⟩) <|
  zgd_e (fun d => zo_h d rfl ⟨rfl, Nat.le_of_ble_eq_true rfl, _, _, _, rfl, Nat.le_of_ble_eq_true rfl, zw_1440, Or.inr ⟨rfl, rfl, rfl⟩⟩) <|
  zgd_e (fun d => zo_l d rfl rfl trivial) <|
  zgd_e (fun d => zo_l d rfl rfl trivial) <|
  zgd_e (fun d => zo_h d rfl ⟨rfl, zw_260⟩) <|
  zgd_e (fun d => zo_h d rfl ⟨rfl, Nat.le_of_ble_eq_true rfl, _, _, _, rfl, Nat.le_of_ble_eq_true rfl, zw_1441, Or.inr ⟨rfl, rfl, rfl⟩⟩) <|
  zgd_e (fun d => zo_l d rfl rfl trivial) <|
  zgd_e (fun d => zo_l d rfl rfl trivial) <|
  zgd_e (fun d => zo_h d rfl ⟨rfl, zw_260⟩) <|
  zgd_e (fun d => zo_h d rfl ⟨rfl, Nat.le_of_ble_eq_true rfl, _, _, _, rfl, Nat.le_of_ble_eq_true rfl, zw_1442, Or.inr ⟨rfl, rfl, rfl⟩⟩) <|
  zgd_e (fun d => zo_l d rfl rfl trivial) <|
  zgd_e (fun d => zo_l d rfl rfl trivial) <|
  zgd_e (fun d => zo_h d rfl ⟨rfl, zw_260⟩) <|
  zgd_e (fun d => zo_h d rfl ⟨rfl, Nat.le_of_ble_eq_true rfl, _, _, _, rfl, Nat.le_of_ble_eq_true rfl, zw_1443, Or.inr ⟨rfl, rfl, rfl⟩⟩) <|
  zgd_e (fun d => zo_l d rfl rfl trivial) <|
  zgd_e (fun d => zo_l d rfl rfl trivial) <|
  zgd_e (fun d => zo_h d rfl ⟨rfl, Nat.le_of_ble_eq_true rfl, _, _, _, rfl, Nat.le_of_ble_eq_true rfl, zw_1447, Or.inl rfl⟩) <|
  zgd_e (fun d => zo_l d rfl rfl trivial) <|
  zgd_e (fun d => zo_l d rfl rfl trivial) <|
  zgd_e (fun d => zo_h d rfl ⟨rfl, zw_1507⟩) <|
  zgd_m h
theorem zdd_147_1 : ∀ q ∈ zc_147_1, decode prog_9_method_1_code q.1 = Except.ok (q.2.1, q.2.2.1) := zdd_of (by decide +kernel)
theorem zk_147_1 (xs : List Int32) {l : List zE} (h : ∀ q ∈ l, z_oke' (za_T xs) za_P za_M ⟨"LyndonBenchModel", "<init>", "()V"⟩ prog_9_method_1_code q) : ∀ q ∈ zc_147_1 ++ l, z_oke' (za_T xs) za_P za_M ⟨"LyndonBenchModel", "<init>", "()V"⟩ prog_9_method_1_code q :=
  zgd_y zdd_147_1 <|
  zgd_e (fun d => zo_h d rfl ⟨rfl, Nat.le_of_ble_eq_true rfl, _, _, _, rfl, Nat.le_of_ble_eq_true rfl, zw_1449, Or.inr ⟨rfl, rfl, rfl⟩⟩) <|
  zgd_e (fun d => zo_l d rfl rfl trivial) <|
  zgd_e (fun d => zo_l d rfl rfl trivial) <|
  zgd_e (fun d => zo_h d rfl ⟨rfl, zw_260⟩) <|
  zgd_e (fun d => zo_h d rfl ⟨rfl, Nat.le_of_ble_eq_true rfl, _, _, _, rfl, Nat.le_of_ble_eq_true rfl, zw_1457, Or.inr ⟨rfl, rfl, rfl⟩⟩) <|
  zgd_e (fun d => zo_l d rfl rfl trivial) <|
  zgd_e (fun d => zo_h d rfl ⟨rfl, Or.inr ⟨rfl, _, rfl, rfl, rfl⟩⟩) <|
  zgd_e (fun d => zo_v d rfl ⟨rfl, zd_196, zw_1179, Nat.le_of_ble_eq_true rfl, ⟨_, Or.inl ⟨Nat.le_of_ble_eq_true rfl, rfl⟩, rfl⟩, zw_1177, zw_33⟩) <|
  zgd_e (fun d => zo_l d rfl rfl trivial) <|
  zgd_e (fun d => zo_v d rfl ⟨rfl, zd_222, zw_1185, Nat.le_of_ble_eq_true rfl, ⟨_, Or.inl ⟨Nat.le_of_ble_eq_true rfl, rfl⟩, rfl⟩, zw_1183, zw_34⟩) <|
  zgd_e (fun d => zo_l d rfl rfl trivial) <|
  zgd_e (fun d => zo_l d rfl rfl trivial) <|
  zgd_e (fun d => zo_l d rfl rfl trivial) <|
  zgd_e (fun d => zo_h d rfl ⟨rfl, Nat.le_of_ble_eq_true rfl, _, _, _, rfl, Nat.le_of_ble_eq_true rfl, zw_1451, Or.inl rfl⟩) <|
  zgd_e (fun d => zo_e d) <|
  zgd_m h
theorem zk_147 (xs : List Int32) : z_okm (za_T xs) za_P za_M 147 := z_okm_of ⟨"LyndonBenchModel", "<init>", "()V"⟩ prog_9_method_1_code zc_147 _ rfl rfl rfl rfl
  (zk_147_0 xs <|
  zk_147_1 xs <|
  z_fn)
  (z_fn)
theorem zdd_148 : ∀ q ∈ zc_148, decode prog_9_method_2_code q.1 = Except.ok (q.2.1, q.2.2.1) := zdd_of (by decide +kernel)
theorem zk_148 (xs : List Int32) : z_okm (za_T xs) za_P za_M 148 := z_okm_of ⟨"LyndonBenchModel", "thrown", "()I"⟩ prog_9_method_2_code zc_148 _ rfl rfl rfl rfl
  (zgd_x zdd_148 <|
  zgd_d (fun d => zo_l d rfl rfl trivial) <|
  zgd_d (fun d => zo_h d rfl ⟨rfl, Nat.le_of_ble_eq_true rfl, _, _, _, Or.inl ⟨Nat.le_of_ble_eq_true rfl, rfl⟩, Nat.le_of_ble_eq_true rfl, zw_1451⟩) <|
  zgd_d (fun d => zo_r d rfl) <|
  zgd_n)
  (z_fn)
theorem zdd_149 : ∀ q ∈ zc_149, decode prog_9_method_3_code q.1 = Except.ok (q.2.1, q.2.2.1) := zdd_of (by decide +kernel)
theorem zk_149 (xs : List Int32) : z_okm (za_T xs) za_P za_M 149 := z_okm_of ⟨"LyndonBenchModel", "in", "(III)Z"⟩ prog_9_method_3_code zc_149 _ rfl rfl rfl rfl
  (zgd_x zdd_149 <|
  zgd_d (fun d => zo_l d rfl rfl trivial) <|
  zgd_d (fun d => zo_l d rfl rfl trivial) <|
  zgd_d (fun d => zo_l d rfl rfl (by show ((2 : Nat) : Int) + (12) = ((14 : Nat) : Int); decide)) <|
  zgd_d (fun d => zo_l d rfl rfl trivial) <|
  zgd_d (fun d => zo_l d rfl rfl trivial) <|
  zgd_d (fun d => zo_l d rfl rfl (by show ((7 : Nat) : Int) + (7) = ((14 : Nat) : Int); decide)) <|
  zgd_d (fun d => zo_l d rfl rfl trivial) <|
  zgd_d (fun d => zo_l d rfl rfl (by show ((11 : Nat) : Int) + (4) = ((15 : Nat) : Int); decide)) <|
  zgd_d (fun d => zo_l d rfl rfl trivial) <|
  zgd_d (fun d => zo_r d rfl) <|
  zgd_n)
  (z_fn)
theorem zdd_150 : ∀ q ∈ zc_150, decode prog_9_method_4_code q.1 = Except.ok (q.2.1, q.2.2.1) := zdd_of (by decide +kernel)
theorem zk_150 (xs : List Int32) : z_okm (za_T xs) za_P za_M 150 := z_okm_of ⟨"LyndonBenchModel", "throwsOne", "(Z)Z"⟩ prog_9_method_4_code zc_150 _ rfl rfl rfl rfl
  (zgd_x zdd_150 <|
  zgd_d (fun d => zo_l d rfl rfl trivial) <|
  zgd_d (fun d => zo_l d rfl rfl trivial) <|
  zgd_d (fun d => zo_l d rfl rfl (by show ((2 : Nat) : Int) + (7) = ((9 : Nat) : Int); decide)) <|
  zgd_d (fun d => zo_l d rfl rfl trivial) <|
  zgd_d (fun d => zo_l d rfl rfl (by show ((6 : Nat) : Int) + (4) = ((10 : Nat) : Int); decide)) <|
  zgd_d (fun d => zo_l d rfl rfl trivial) <|
  zgd_d (fun d => zo_h d rfl ⟨rfl, Nat.le_of_ble_eq_true rfl, _, _, _, rfl, Nat.le_of_ble_eq_true rfl, zw_1451, Or.inl rfl⟩) <|
  zgd_d (fun d => zo_l d rfl rfl trivial) <|
  zgd_d (fun d => zo_r d rfl) <|
  zgd_n)
  (z_fn)
theorem zdd_151 : ∀ q ∈ zc_151, decode prog_9_method_5_code q.1 = Except.ok (q.2.1, q.2.2.1) := zdd_of (by decide +kernel)
theorem zk_151 (xs : List Int32) : z_okm (za_T xs) za_P za_M 151 := z_okm_of ⟨"LyndonBenchModel", "throwsOne", "(ZZ)Z"⟩ prog_9_method_5_code zc_151 _ rfl rfl rfl rfl
  (zgd_x zdd_151 <|
  zgd_d (fun d => zo_l d rfl rfl trivial) <|
  zgd_d (fun d => zo_l d rfl rfl trivial) <|
  zgd_d (fun d => zo_l d rfl rfl (by show ((2 : Nat) : Int) + (7) = ((9 : Nat) : Int); decide)) <|
  zgd_d (fun d => zo_l d rfl rfl trivial) <|
  zgd_d (fun d => zo_l d rfl rfl (by show ((6 : Nat) : Int) + (12) = ((18 : Nat) : Int); decide)) <|
  zgd_d (fun d => zo_l d rfl rfl trivial) <|
  zgd_d (fun d => zo_l d rfl rfl (by show ((10 : Nat) : Int) + (7) = ((17 : Nat) : Int); decide)) <|
  zgd_d (fun d => zo_l d rfl rfl trivial) <|
  zgd_d (fun d => zo_l d rfl rfl (by show ((14 : Nat) : Int) + (4) = ((18 : Nat) : Int); decide)) <|
  zgd_d (fun d => zo_l d rfl rfl trivial) <|
  zgd_d (fun d => zo_h d rfl ⟨rfl, Nat.le_of_ble_eq_true rfl, _, _, _, rfl, Nat.le_of_ble_eq_true rfl, zw_1451, Or.inl rfl⟩) <|
  zgd_d (fun d => zo_l d rfl rfl trivial) <|
  zgd_d (fun d => zo_l d rfl rfl (by show ((22 : Nat) : Int) + (7) = ((29 : Nat) : Int); decide)) <|
  zgd_d (fun d => zo_l d rfl rfl trivial) <|
  zgd_d (fun d => zo_l d rfl rfl (by show ((26 : Nat) : Int) + (7) = ((33 : Nat) : Int); decide)) <|
  zgd_d (fun d => zo_l d rfl rfl trivial) <|
  zgd_d (fun d => zo_l d rfl rfl (by show ((30 : Nat) : Int) + (4) = ((34 : Nat) : Int); decide)) <|
  zgd_d (fun d => zo_l d rfl rfl trivial) <|
  zgd_d (fun d => zo_r d rfl) <|
  zgd_n)
  (z_fn)
theorem zdd_152 : ∀ q ∈ zc_152, decode prog_9_method_6_code q.1 = Except.ok (q.2.1, q.2.2.1) := zdd_of (by decide +kernel)
theorem zk_152 (xs : List Int32) : z_okm (za_T xs) za_P za_M 152 := z_okm_of ⟨"LyndonBenchModel", "isLetter", "(I)Z"⟩ prog_9_method_6_code zc_152 _ rfl rfl rfl rfl
  (zgd_x zdd_152 <|
  zgd_d (fun d => zo_l d rfl rfl trivial) <|
  zgd_d (fun d => zo_l d rfl rfl trivial) <|
  zgd_d (fun d => zo_l d rfl rfl trivial) <|
  zgd_d (fun d => zo_l d rfl rfl trivial) <|
  zgd_d (fun d => zo_h d rfl ⟨rfl, Nat.le_of_ble_eq_true rfl, _, _, _, Or.inl ⟨Nat.le_of_ble_eq_true rfl, rfl⟩, Nat.le_of_ble_eq_true rfl, zw_1434⟩) <|
  zgd_d (fun d => zo_l d rfl rfl trivial) <|
  zgd_d (fun d => zo_h d rfl rfl) <|
  zgd_d (fun d => zo_l d rfl rfl trivial) <|
  zgd_d (fun d => zo_l d rfl rfl trivial) <|
  zgd_d (fun d => zo_l d rfl rfl trivial) <|
  zgd_d (fun d => zo_s d rfl ⟨zd_149, zw_1215, zw_1216⟩) <|
  zgd_d (fun d => zo_r d rfl) <|
  zgd_n)
  (z_fn)
theorem zdd_153 : ∀ q ∈ zc_153, decode prog_9_method_7_code q.1 = Except.ok (q.2.1, q.2.2.1) := zdd_of (by decide +kernel)
theorem zk_153 (xs : List Int32) : z_okm (za_T xs) za_P za_M 153 := z_okm_of ⟨"LyndonBenchModel", "isShelved", "(I)Z"⟩ prog_9_method_7_code zc_153 _ rfl rfl rfl rfl
  (zgd_x zdd_153 <|
  zgd_d (fun d => zo_l d rfl rfl trivial) <|
  zgd_d (fun d => zo_l d rfl rfl trivial) <|
  zgd_d (fun d => zo_l d rfl rfl trivial) <|
  zgd_d (fun d => zo_h d rfl ⟨rfl, Nat.le_of_ble_eq_true rfl, _, _, _, Or.inl ⟨Nat.le_of_ble_eq_true rfl, rfl⟩, Nat.le_of_ble_eq_true rfl, zw_1434⟩) <|
  zgd_d (fun d => zo_l d rfl rfl trivial) <|
  zgd_d (fun d => zo_h d rfl rfl) <|
  zgd_d (fun d => zo_l d rfl rfl trivial) <|
  zgd_d (fun d => zo_l d rfl rfl trivial) <|
  zgd_d (fun d => zo_s d rfl ⟨zd_149, zw_1215, zw_1216⟩) <|
  zgd_d (fun d => zo_r d rfl) <|
  zgd_n)
  (z_fn)
theorem zdd_154_0 : ∀ q ∈ zc_154_0, decode prog_9_method_8_code q.1 = Except.ok (q.2.1, q.2.2.1) := zdd_of (by decide +kernel)
theorem zk_154_0 (xs : List Int32) {l : List zE} (h : ∀ q ∈ l, z_oke' (za_T xs) za_P za_M ⟨"LyndonBenchModel", "compares", "(IIII)I"⟩ prog_9_method_8_code q) : ∀ q ∈ zc_154_0 ++ l, z_oke' (za_T xs) za_P za_M ⟨"LyndonBenchModel", "compares", "(IIII)I"⟩ prog_9_method_8_code q :=
  zgd_y zdd_154_0 <|
  zgd_e (fun d => zo_l d rfl rfl trivial) <|
  zgd_e (fun d => zo_l d rfl rfl trivial) <|
  zgd_e (fun d => zo_l d rfl rfl trivial) <|
  zgd_e (fun d => zo_l d rfl rfl trivial) <|
  zgd_e (fun d => zo_l d rfl rfl (by show ((6 : Nat) : Int) + (57) = ((63 : Nat) : Int); decide)) <|
  zgd_e (fun d => zo_l d rfl rfl trivial) <|
  zgd_e (fun d => zo_l d rfl rfl trivial) <|
  zgd_e (fun d => zo_l d rfl rfl (by show ((13 : Nat) : Int) + (50) = ((63 : Nat) : Int); decide)) <|
  zgd_e (fun d => zo_l d rfl rfl trivial) <|
  zgd_e (fun d => zo_h d rfl ⟨rfl, Nat.le_of_ble_eq_true rfl, _, _, _, Or.inl ⟨Nat.le_of_ble_eq_true rfl, rfl⟩, Nat.le_of_ble_eq_true rfl, zw_1434⟩) <|
  zgd_e (fun d => zo_l d rfl rfl trivial) <|
  zgd_e (fun d => zo_l d rfl rfl trivial) <|
  zgd_e (fun d => zo_l d rfl rfl trivial) <|
  zgd_e (fun d => zo_h d rfl rfl) <|
  zgd_e (fun d => zo_l d rfl rfl trivial) <|
  zgd_e (fun d => zo_h d rfl ⟨rfl, Nat.le_of_ble_eq_true rfl, _, _, _, Or.inl ⟨Nat.le_of_ble_eq_true rfl, rfl⟩, Nat.le_of_ble_eq_true rfl, zw_1434⟩) <|
  zgd_e (fun d => zo_l d rfl rfl trivial) <|
  zgd_e (fun d => zo_l d rfl rfl trivial) <|
  zgd_e (fun d => zo_l d rfl rfl trivial) <|
  zgd_e (fun d => zo_h d rfl rfl) <|
  zgd_e (fun d => zo_l d rfl rfl (by show ((34 : Nat) : Int) + (23) = ((57 : Nat) : Int); decide)) <|
  zgd_e (fun d => zo_l d rfl rfl trivial) <|
  zgd_e (fun d => zo_h d rfl ⟨rfl, Nat.le_of_ble_eq_true rfl, _, _, _, Or.inl ⟨Nat.le_of_ble_eq_true rfl, rfl⟩, Nat.le_of_ble_eq_true rfl, zw_1434⟩) <|
  zgd_e (fun d => zo_l d rfl rfl trivial) <|
  zgd_e (fun d => zo_l d rfl rfl trivial) <|
  zgd_e (fun d => zo_l d rfl rfl trivial) <|
  zgd_e (fun d => zo_h d rfl rfl) <|
  zgd_e (fun d => zo_l d rfl rfl trivial) <|
  zgd_e (fun d => zo_h d rfl ⟨rfl, Nat.le_of_ble_eq_true rfl, _, _, _, Or.inl ⟨Nat.le_of_ble_eq_true rfl, rfl⟩, Nat.le_of_ble_eq_true rfl, zw_1434⟩) <|
  zgd_e (fun d => zo_l d rfl rfl trivial) <|
  zgd_e (fun d => zo_l d rfl rfl trivial) <|
  zgd_e (fun d => zo_l d rfl rfl trivial) <|
  zgd_e (fun d => zo_h d rfl rfl) <|
  zgd_e (fun d => zo_l d rfl rfl trivial) <|
  zgd_e (fun d => zo_r d rfl) <|
  zgd_e (fun d => zo_l d rfl rfl trivial) <|
  zgd_e (fun d => zo_l d rfl rfl (by show ((60 : Nat) : Int) + (-57) = ((3 : Nat) : Int); decide)) <|
  zgd_e (fun d => zo_l d rfl rfl trivial) <|
  zgd_e (fun d => zo_l d rfl rfl trivial) <|
  zgd_e (fun d => zo_l d rfl rfl trivial) <|
  zgd_m h
theorem zdd_154_1 : ∀ q ∈ zc_154_1, decode prog_9_method_8_code q.1 = Except.ok (q.2.1, q.2.2.1) := zdd_of (by decide +kernel)
theorem zk_154_1 (xs : List Int32) {l : List zE} (h : ∀ q ∈ l, z_oke' (za_T xs) za_P za_M ⟨"LyndonBenchModel", "compares", "(IIII)I"⟩ prog_9_method_8_code q) : ∀ q ∈ zc_154_1 ++ l, z_oke' (za_T xs) za_P za_M ⟨"LyndonBenchModel", "compares", "(IIII)I"⟩ prog_9_method_8_code q :=
  zgd_y zdd_154_1 <|
  zgd_e (fun d => zo_r d rfl) <|
  zgd_m h
theorem zk_154 (xs : List Int32) : z_okm (za_T xs) za_P za_M 154 := z_okm_of ⟨"LyndonBenchModel", "compares", "(IIII)I"⟩ prog_9_method_8_code zc_154 _ rfl rfl rfl rfl
  (zk_154_0 xs <|
  zk_154_1 xs <|
  z_fn)
  (z_fn)
theorem zdd_155 : ∀ q ∈ zc_155, decode prog_9_method_9_code q.1 = Except.ok (q.2.1, q.2.2.1) := zdd_of (by decide +kernel)
theorem zk_155 (xs : List Int32) : z_okm (za_T xs) za_P za_M 155 := z_okm_of ⟨"LyndonBenchModel", "shelved", "(II)I"⟩ prog_9_method_9_code zc_155 _ rfl rfl rfl rfl
  (zgd_x zdd_155 <|
  zgd_d (fun d => zo_l d rfl rfl trivial) <|
  zgd_d (fun d => zo_l d rfl rfl trivial) <|
  zgd_d (fun d => zo_l d rfl rfl trivial) <|
  zgd_d (fun d => zo_l d rfl rfl trivial) <|
  zgd_d (fun d => zo_l d rfl rfl trivial) <|
  zgd_d (fun d => zo_l d rfl rfl trivial) <|
  zgd_d (fun d => zo_l d rfl rfl trivial) <|
  zgd_d (fun d => zo_h d rfl ⟨rfl, Nat.le_of_ble_eq_true rfl, _, _, _, Or.inl ⟨Nat.le_of_ble_eq_true rfl, rfl⟩, Nat.le_of_ble_eq_true rfl, zw_1434⟩) <|
  zgd_d (fun d => zo_l d rfl rfl trivial) <|
  zgd_d (fun d => zo_l d rfl rfl trivial) <|
  zgd_d (fun d => zo_l d rfl rfl trivial) <|
  zgd_d (fun d => zo_h d rfl rfl) <|
  zgd_d (fun d => zo_l d rfl rfl trivial) <|
  zgd_d (fun d => zo_l d rfl rfl trivial) <|
  zgd_d (fun d => zo_l d rfl rfl trivial) <|
  zgd_d (fun d => zo_l d rfl rfl trivial) <|
  zgd_d (fun d => zo_l d rfl rfl trivial) <|
  zgd_d (fun d => zo_l d rfl rfl trivial) <|
  zgd_d (fun d => zo_h d rfl ⟨rfl, Nat.le_of_ble_eq_true rfl, _, _, _, Or.inl ⟨Nat.le_of_ble_eq_true rfl, rfl⟩, Nat.le_of_ble_eq_true rfl, zw_1434⟩) <|
  zgd_d (fun d => zo_l d rfl rfl trivial) <|
  zgd_d (fun d => zo_l d rfl rfl trivial) <|
  zgd_d (fun d => zo_l d rfl rfl trivial) <|
  zgd_d (fun d => zo_h d rfl rfl) <|
  zgd_d (fun d => zo_v d rfl ⟨rfl, zd_154, zw_1428, Nat.le_of_ble_eq_true rfl, ⟨_, Or.inl ⟨Nat.le_of_ble_eq_true rfl, rfl⟩, rfl⟩, zw_1426, zw_90⟩) <|
  zgd_d (fun d => zo_r d rfl) <|
  zgd_n)
  (z_fn)
theorem zdd_156 : ∀ q ∈ zc_156, decode prog_9_method_10_code q.1 = Except.ok (q.2.1, q.2.2.1) := zdd_of (by decide +kernel)
theorem zk_156 (xs : List Int32) : z_okm (za_T xs) za_P za_M 156 := z_okm_of ⟨"LyndonBenchModel", "loads", "()V"⟩ prog_9_method_10_code zc_156 _ rfl rfl rfl rfl
  (zgd_x zdd_156 <|
  zgd_d (fun d => zo_l d rfl rfl trivial) <|
  zgd_d (fun d => zo_l d rfl rfl trivial) <|
  zgd_d (fun d => zo_h d rfl ⟨rfl, Nat.le_of_ble_eq_true rfl, _, _, _, Or.inl ⟨Nat.le_of_ble_eq_true rfl, rfl⟩, Nat.le_of_ble_eq_true rfl, zw_1434⟩) <|
  zgd_d (fun d => zo_l d rfl rfl trivial) <|
  zgd_d (fun d => zo_h d rfl rfl) <|
  zgd_d (fun d => zo_h d rfl ⟨rfl, Nat.le_of_ble_eq_true rfl, _, _, _, rfl, Nat.le_of_ble_eq_true rfl, zw_1448, Or.inl rfl⟩) <|
  zgd_d (fun d => zo_l d rfl rfl trivial) <|
  zgd_d (fun d => zo_l d rfl rfl trivial) <|
  zgd_d (fun d => zo_l d rfl rfl trivial) <|
  zgd_d (fun d => zo_l d rfl rfl trivial) <|
  zgd_d (fun d => zo_h d rfl ⟨rfl, Nat.le_of_ble_eq_true rfl, _, _, _, Or.inl ⟨Nat.le_of_ble_eq_true rfl, rfl⟩, Nat.le_of_ble_eq_true rfl, zw_1448⟩) <|
  zgd_d (fun d => zo_l d rfl rfl (by show ((17 : Nat) : Int) + (23) = ((40 : Nat) : Int); decide)) <|
  zgd_d (fun d => zo_l d rfl rfl trivial) <|
  zgd_d (fun d => zo_h d rfl ⟨rfl, Nat.le_of_ble_eq_true rfl, _, _, _, Or.inl ⟨Nat.le_of_ble_eq_true rfl, rfl⟩, Nat.le_of_ble_eq_true rfl, zw_1442⟩) <|
  zgd_d (fun d => zo_l d rfl rfl trivial) <|
  zgd_d (fun d => zo_l d rfl rfl trivial) <|
  zgd_d (fun d => zo_h d rfl ⟨rfl, Nat.le_of_ble_eq_true rfl, _, _, _, Or.inl ⟨Nat.le_of_ble_eq_true rfl, rfl⟩, Nat.le_of_ble_eq_true rfl, zw_1434⟩) <|
  zgd_d (fun d => zo_l d rfl rfl trivial) <|
  zgd_d (fun d => zo_l d rfl rfl trivial) <|
  zgd_d (fun d => zo_l d rfl rfl trivial) <|
  zgd_d (fun d => zo_h d rfl rfl) <|
  zgd_d (fun d => zo_h d rfl rfl) <|
  zgd_d (fun d => zo_l d rfl rfl trivial) <|
  zgd_d (fun d => zo_l d rfl rfl (by show ((37 : Nat) : Int) + (-25) = ((12 : Nat) : Int); decide)) <|
  zgd_d (fun d => zo_e d) <|
  zgd_n)
  (z_fn)
theorem zdd_157 : ∀ q ∈ zc_157, decode prog_9_method_11_code q.1 = Except.ok (q.2.1, q.2.2.1) := zdd_of (by decide +kernel)
theorem zk_157 (xs : List Int32) : z_okm (za_T xs) za_P za_M 157 := z_okm_of ⟨"LyndonBenchModel", "adds", "(I)V"⟩ prog_9_method_11_code zc_157 _ rfl rfl rfl rfl
  (zgd_x zdd_157 <|
  zgd_d (fun d => zo_l d rfl rfl trivial) <|
  zgd_d (fun d => zo_h d rfl ⟨rfl, Nat.le_of_ble_eq_true rfl, _, _, _, Or.inl ⟨Nat.le_of_ble_eq_true rfl, rfl⟩, Nat.le_of_ble_eq_true rfl, zw_1442⟩) <|
  zgd_d (fun d => zo_l d rfl rfl trivial) <|
  zgd_d (fun d => zo_h d rfl ⟨rfl, Nat.le_of_ble_eq_true rfl, _, _, _, Or.inl ⟨Nat.le_of_ble_eq_true rfl, rfl⟩, Nat.le_of_ble_eq_true rfl, zw_1448⟩) <|
  zgd_d (fun d => zo_l d rfl rfl trivial) <|
  zgd_d (fun d => zo_h d rfl rfl) <|
  zgd_d (fun d => zo_l d rfl rfl trivial) <|
  zgd_d (fun d => zo_l d rfl rfl trivial) <|
  zgd_d (fun d => zo_h d rfl ⟨rfl, Nat.le_of_ble_eq_true rfl, _, _, _, Or.inl ⟨Nat.le_of_ble_eq_true rfl, rfl⟩, Nat.le_of_ble_eq_true rfl, zw_1448⟩) <|
  zgd_d (fun d => zo_l d rfl rfl trivial) <|
  zgd_d (fun d => zo_l d rfl rfl trivial) <|
  zgd_d (fun d => zo_h d rfl ⟨rfl, Nat.le_of_ble_eq_true rfl, _, _, _, rfl, Nat.le_of_ble_eq_true rfl, zw_1448, Or.inl rfl⟩) <|
  zgd_d (fun d => zo_e d) <|
  zgd_n)
  (z_fn)
theorem zdd_158 : ∀ q ∈ zc_158, decode prog_9_method_12_code q.1 = Except.ok (q.2.1, q.2.2.1) := zdd_of (by decide +kernel)
theorem zk_158 (xs : List Int32) : z_okm (za_T xs) za_P za_M 158 := z_okm_of ⟨"LyndonBenchModel", "loadsRotated", "(I)V"⟩ prog_9_method_12_code zc_158 _ rfl rfl rfl rfl
  (zgd_x zdd_158 <|
  zgd_d (fun d => zo_l d rfl rfl trivial) <|
  zgd_d (fun d => zo_l d rfl rfl trivial) <|
  zgd_d (fun d => zo_h d rfl ⟨rfl, Nat.le_of_ble_eq_true rfl, _, _, _, Or.inl ⟨Nat.le_of_ble_eq_true rfl, rfl⟩, Nat.le_of_ble_eq_true rfl, zw_1434⟩) <|
  zgd_d (fun d => zo_l d rfl rfl trivial) <|
  zgd_d (fun d => zo_h d rfl rfl) <|
  zgd_d (fun d => zo_h d rfl ⟨rfl, Nat.le_of_ble_eq_true rfl, _, _, _, rfl, Nat.le_of_ble_eq_true rfl, zw_1448, Or.inl rfl⟩) <|
  zgd_d (fun d => zo_l d rfl rfl trivial) <|
  zgd_d (fun d => zo_l d rfl rfl trivial) <|
  zgd_d (fun d => zo_l d rfl rfl trivial) <|
  zgd_d (fun d => zo_l d rfl rfl trivial) <|
  zgd_d (fun d => zo_h d rfl ⟨rfl, Nat.le_of_ble_eq_true rfl, _, _, _, Or.inl ⟨Nat.le_of_ble_eq_true rfl, rfl⟩, Nat.le_of_ble_eq_true rfl, zw_1448⟩) <|
  zgd_d (fun d => zo_l d rfl rfl (by show ((17 : Nat) : Int) + (30) = ((47 : Nat) : Int); decide)) <|
  zgd_d (fun d => zo_l d rfl rfl trivial) <|
  zgd_d (fun d => zo_h d rfl ⟨rfl, Nat.le_of_ble_eq_true rfl, _, _, _, Or.inl ⟨Nat.le_of_ble_eq_true rfl, rfl⟩, Nat.le_of_ble_eq_true rfl, zw_1442⟩) <|
  zgd_d (fun d => zo_l d rfl rfl trivial) <|
  zgd_d (fun d => zo_l d rfl rfl trivial) <|
  zgd_d (fun d => zo_h d rfl ⟨rfl, Nat.le_of_ble_eq_true rfl, _, _, _, Or.inl ⟨Nat.le_of_ble_eq_true rfl, rfl⟩, Nat.le_of_ble_eq_true rfl, zw_1434⟩) <|
  zgd_d (fun d => zo_l d rfl rfl trivial) <|
  zgd_d (fun d => zo_l d rfl rfl trivial) <|
  zgd_d (fun d => zo_l d rfl rfl trivial) <|
  zgd_d (fun d => zo_l d rfl rfl trivial) <|
  zgd_d (fun d => zo_l d rfl rfl trivial) <|
  zgd_d (fun d => zo_h d rfl ⟨rfl, Nat.le_of_ble_eq_true rfl, _, _, _, Or.inl ⟨Nat.le_of_ble_eq_true rfl, rfl⟩, Nat.le_of_ble_eq_true rfl, zw_1448⟩) <|
  zgd_d (fun d => zo_l d rfl rfl trivial) <|
  zgd_d (fun d => zo_l d rfl rfl trivial) <|
  zgd_d (fun d => zo_h d rfl rfl) <|
  zgd_d (fun d => zo_h d rfl rfl) <|
  zgd_d (fun d => zo_l d rfl rfl trivial) <|
  zgd_d (fun d => zo_l d rfl rfl (by show ((44 : Nat) : Int) + (-32) = ((12 : Nat) : Int); decide)) <|
  zgd_d (fun d => zo_e d) <|
  zgd_n)
  (z_fn)
theorem zdd_159 : ∀ q ∈ zc_159, decode prog_9_method_13_code q.1 = Except.ok (q.2.1, q.2.2.1) := zdd_of (by decide +kernel)
theorem zk_159 (xs : List Int32) : z_okm (za_T xs) za_P za_M 159 := z_okm_of ⟨"LyndonBenchModel", "isLess", "(II)Z"⟩ prog_9_method_13_code zc_159 _ rfl rfl rfl rfl
  (zgd_x zdd_159 <|
  zgd_d (fun d => zo_l d rfl rfl trivial) <|
  zgd_d (fun d => zo_l d rfl rfl trivial) <|
  zgd_d (fun d => zo_l d rfl rfl trivial) <|
  zgd_d (fun d => zo_l d rfl rfl trivial) <|
  zgd_d (fun d => zo_h d rfl ⟨rfl, Nat.le_of_ble_eq_true rfl, _, _, _, Or.inl ⟨Nat.le_of_ble_eq_true rfl, rfl⟩, Nat.le_of_ble_eq_true rfl, zw_1448⟩) <|
  zgd_d (fun d => zo_l d rfl rfl (by show ((7 : Nat) : Int) + (49) = ((56 : Nat) : Int); decide)) <|
  zgd_d (fun d => zo_l d rfl rfl trivial) <|
  zgd_d (fun d => zo_h d rfl ⟨rfl, Nat.le_of_ble_eq_true rfl, _, _, _, Or.inl ⟨Nat.le_of_ble_eq_true rfl, rfl⟩, Nat.le_of_ble_eq_true rfl, zw_1442⟩) <|
  zgd_d (fun d => zo_l d rfl rfl trivial) <|
  zgd_d (fun d => zo_l d rfl rfl trivial) <|
  zgd_d (fun d => zo_l d rfl rfl trivial) <|
  zgd_d (fun d => zo_l d rfl rfl trivial) <|
  zgd_d (fun d => zo_l d rfl rfl trivial) <|
  zgd_d (fun d => zo_h d rfl rfl) <|
  zgd_d (fun d => zo_l d rfl rfl trivial) <|
  zgd_d (fun d => zo_l d rfl rfl trivial) <|
  zgd_d (fun d => zo_h d rfl ⟨rfl, Nat.le_of_ble_eq_true rfl, _, _, _, Or.inl ⟨Nat.le_of_ble_eq_true rfl, rfl⟩, Nat.le_of_ble_eq_true rfl, zw_1442⟩) <|
  zgd_d (fun d => zo_l d rfl rfl trivial) <|
  zgd_d (fun d => zo_h d rfl rfl) <|
  zgd_d (fun d => zo_l d rfl rfl trivial) <|
  zgd_d (fun d => zo_l d rfl rfl (by show ((30 : Nat) : Int) + (20) = ((50 : Nat) : Int); decide)) <|
  zgd_d (fun d => zo_l d rfl rfl trivial) <|
  zgd_d (fun d => zo_h d rfl ⟨rfl, Nat.le_of_ble_eq_true rfl, _, _, _, Or.inl ⟨Nat.le_of_ble_eq_true rfl, rfl⟩, Nat.le_of_ble_eq_true rfl, zw_1442⟩) <|
  zgd_d (fun d => zo_l d rfl rfl trivial) <|
  zgd_d (fun d => zo_h d rfl rfl) <|
  zgd_d (fun d => zo_l d rfl rfl trivial) <|
  zgd_d (fun d => zo_l d rfl rfl (by show ((41 : Nat) : Int) + (7) = ((48 : Nat) : Int); decide)) <|
  zgd_d (fun d => zo_l d rfl rfl trivial) <|
  zgd_d (fun d => zo_l d rfl rfl (by show ((45 : Nat) : Int) + (4) = ((49 : Nat) : Int); decide)) <|
  zgd_d (fun d => zo_l d rfl rfl trivial) <|
  zgd_d (fun d => zo_r d rfl) <|
  zgd_d (fun d => zo_l d rfl rfl trivial) <|
  zgd_d (fun d => zo_l d rfl rfl (by show ((53 : Nat) : Int) + (-51) = ((2 : Nat) : Int); decide)) <|
  zgd_d (fun d => zo_l d rfl rfl trivial) <|
  zgd_d (fun d => zo_r d rfl) <|
  zgd_n)
  (z_fn)
theorem zdd_160 : ∀ q ∈ zc_160, decode prog_9_method_14_code q.1 = Except.ok (q.2.1, q.2.2.1) := zdd_of (by decide +kernel)
theorem zk_160 (xs : List Int32) : z_okm (za_T xs) za_P za_M 160 := z_okm_of ⟨"LyndonBenchModel", "cuts", "()I"⟩ prog_9_method_14_code zc_160 _ rfl rfl rfl rfl
  (zgd_x zdd_160 <|
  zgd_d (fun d => zo_l d rfl rfl trivial) <|
  zgd_d (fun d => zo_l d rfl rfl trivial) <|
  zgd_d (fun d => zo_l d rfl rfl trivial) <|
  zgd_d (fun d => zo_l d rfl rfl trivial) <|
  zgd_d (fun d => zo_l d rfl rfl trivial) <|
  zgd_d (fun d => zo_l d rfl rfl trivial) <|
  zgd_d (fun d => zo_h d rfl ⟨rfl, Nat.le_of_ble_eq_true rfl, _, _, _, Or.inl ⟨Nat.le_of_ble_eq_true rfl, rfl⟩, Nat.le_of_ble_eq_true rfl, zw_1448⟩) <|
  zgd_d (fun d => zo_l d rfl rfl (by show ((9 : Nat) : Int) + (39) = ((48 : Nat) : Int); decide)) <|
  zgd_d (fun d => zo_l d rfl rfl trivial) <|
  zgd_d (fun d => zo_l d rfl rfl (by show ((13 : Nat) : Int) + (19) = ((32 : Nat) : Int); decide)) <|
  zgd_d (fun d => zo_l d rfl rfl trivial) <|
  zgd_d (fun d => zo_l d rfl rfl trivial) <|
  zgd_d (fun d => zo_l d rfl rfl trivial) <|
  zgd_d (fun d => zo_h d rfl ⟨rfl, Nat.le_of_ble_eq_true rfl, _, _, _, Or.inl ⟨Nat.le_of_ble_eq_true rfl, rfl⟩, Nat.le_of_ble_eq_true rfl, zw_1443⟩) <|
  zgd_d (fun d => zo_l d rfl rfl trivial) <|
  zgd_d (fun d => zo_l d rfl rfl trivial) <|
  zgd_d (fun d => zo_l d rfl rfl trivial) <|
  zgd_d (fun d => zo_h d rfl rfl) <|
  zgd_d (fun d => zo_v d rfl ⟨rfl, zd_159, zw_1296, Nat.le_of_ble_eq_true rfl, ⟨_, Or.inl ⟨Nat.le_of_ble_eq_true rfl, rfl⟩, rfl⟩, zw_1294, zw_57⟩) <|
  zgd_d (fun d => zo_l d rfl rfl (by show ((29 : Nat) : Int) + (13) = ((42 : Nat) : Int); decide)) <|
  zgd_d (fun d => zo_l d rfl rfl trivial) <|
  zgd_d (fun d => zo_h d rfl ⟨rfl, Nat.le_of_ble_eq_true rfl, _, _, _, Or.inl ⟨Nat.le_of_ble_eq_true rfl, rfl⟩, Nat.le_of_ble_eq_true rfl, zw_1443⟩) <|
  zgd_d (fun d => zo_l d rfl rfl trivial) <|
  zgd_d (fun d => zo_l d rfl rfl trivial) <|
  zgd_d (fun d => zo_h d rfl rfl) <|
  zgd_d (fun d => zo_l d rfl rfl trivial) <|
  zgd_d (fun d => zo_l d rfl rfl trivial) <|
  zgd_d (fun d => zo_l d rfl rfl (by show ((45 : Nat) : Int) + (-41) = ((4 : Nat) : Int); decide)) <|
  zgd_d (fun d => zo_l d rfl rfl trivial) <|
  zgd_d (fun d => zo_h d rfl ⟨rfl, Nat.le_of_ble_eq_true rfl, _, _, _, Or.inl ⟨Nat.le_of_ble_eq_true rfl, rfl⟩, Nat.le_of_ble_eq_true rfl, zw_1443⟩) <|
  zgd_d (fun d => zo_l d rfl rfl trivial) <|
  zgd_d (fun d => zo_l d rfl rfl trivial) <|
  zgd_d (fun d => zo_h d rfl ⟨rfl, Nat.le_of_ble_eq_true rfl, _, _, _, Or.inl ⟨Nat.le_of_ble_eq_true rfl, rfl⟩, Nat.le_of_ble_eq_true rfl, zw_1448⟩) <|
  zgd_d (fun d => zo_h d rfl rfl) <|
  zgd_d (fun d => zo_l d rfl rfl trivial) <|
  zgd_d (fun d => zo_r d rfl) <|
  zgd_n)
  (z_fn)
theorem zdd_161 : ∀ q ∈ zc_161, decode prog_9_method_15_code q.1 = Except.ok (q.2.1, q.2.2.1) := zdd_of (by decide +kernel)
theorem zk_161 (xs : List Int32) : z_okm (za_T xs) za_P za_M 161 := z_okm_of ⟨"LyndonBenchModel", "factors", "()I"⟩ prog_9_method_15_code zc_161 _ rfl rfl rfl rfl
  (zgd_x zdd_161 <|
  zgd_d (fun d => zo_l d rfl rfl trivial) <|
  zgd_d (fun d => zo_v d rfl ⟨rfl, zd_156, zw_1276, Nat.le_of_ble_eq_true rfl, ⟨_, Or.inl ⟨Nat.le_of_ble_eq_true rfl, rfl⟩, rfl⟩, zw_1274, zw_52⟩) <|
  zgd_d (fun d => zo_l d rfl rfl trivial) <|
  zgd_d (fun d => zo_v d rfl ⟨rfl, zd_160, zw_1292, Nat.le_of_ble_eq_true rfl, ⟨_, Or.inl ⟨Nat.le_of_ble_eq_true rfl, rfl⟩, rfl⟩, zw_1290, zw_56⟩) <|
  zgd_d (fun d => zo_r d rfl) <|
  zgd_n)
  (z_fn)
theorem zdd_162 : ∀ q ∈ zc_162, decode prog_9_method_16_code q.1 = Except.ok (q.2.1, q.2.2.1) := zdd_of (by decide +kernel)
theorem zk_162 (xs : List Int32) : z_okm (za_T xs) za_P za_M 162 := z_okm_of ⟨"LyndonBenchModel", "turned", "(I)I"⟩ prog_9_method_16_code zc_162 _ rfl rfl rfl rfl
  (zgd_x zdd_162 <|
  zgd_d (fun d => zo_l d rfl rfl trivial) <|
  zgd_d (fun d => zo_l d rfl rfl trivial) <|
  zgd_d (fun d => zo_l d rfl rfl trivial) <|
  zgd_d (fun d => zo_l d rfl rfl trivial) <|
  zgd_d (fun d => zo_h d rfl ⟨rfl, Nat.le_of_ble_eq_true rfl, _, _, _, Or.inl ⟨Nat.le_of_ble_eq_true rfl, rfl⟩, Nat.le_of_ble_eq_true rfl, zw_1448⟩) <|
  zgd_d (fun d => zo_l d rfl rfl (by show ((7 : Nat) : Int) + (42) = ((49 : Nat) : Int); decide)) <|
  zgd_d (fun d => zo_l d rfl rfl trivial) <|
  zgd_d (fun d => zo_h d rfl ⟨rfl, Nat.le_of_ble_eq_true rfl, _, _, _, Or.inl ⟨Nat.le_of_ble_eq_true rfl, rfl⟩, Nat.le_of_ble_eq_true rfl, zw_1442⟩) <|
  zgd_d (fun d => zo_l d rfl rfl trivial) <|
  zgd_d (fun d => zo_l d rfl rfl trivial) <|
  zgd_d (fun d => zo_l d rfl rfl trivial) <|
  zgd_d (fun d => zo_l d rfl rfl trivial) <|
  zgd_d (fun d => zo_h d rfl ⟨rfl, Nat.le_of_ble_eq_true rfl, _, _, _, Or.inl ⟨Nat.le_of_ble_eq_true rfl, rfl⟩, Nat.le_of_ble_eq_true rfl, zw_1448⟩) <|
  zgd_d (fun d => zo_l d rfl rfl trivial) <|
  zgd_d (fun d => zo_h d rfl rfl) <|
  zgd_d (fun d => zo_l d rfl rfl trivial) <|
  zgd_d (fun d => zo_l d rfl rfl trivial) <|
  zgd_d (fun d => zo_l d rfl rfl trivial) <|
  zgd_d (fun d => zo_h d rfl ⟨rfl, Nat.le_of_ble_eq_true rfl, _, _, _, Or.inl ⟨Nat.le_of_ble_eq_true rfl, rfl⟩, Nat.le_of_ble_eq_true rfl, zw_1442⟩) <|
  zgd_d (fun d => zo_l d rfl rfl trivial) <|
  zgd_d (fun d => zo_h d rfl rfl) <|
  zgd_d (fun d => zo_l d rfl rfl (by show ((31 : Nat) : Int) + (12) = ((43 : Nat) : Int); decide)) <|
  zgd_d (fun d => zo_l d rfl rfl trivial) <|
  zgd_d (fun d => zo_l d rfl rfl trivial) <|
  zgd_d (fun d => zo_h d rfl ⟨rfl, Nat.le_of_ble_eq_true rfl, _, _, _, Or.inl ⟨Nat.le_of_ble_eq_true rfl, rfl⟩, Nat.le_of_ble_eq_true rfl, zw_1442⟩) <|
  zgd_d (fun d => zo_l d rfl rfl trivial) <|
  zgd_d (fun d => zo_h d rfl rfl) <|
  zgd_d (fun d => zo_l d rfl rfl trivial) <|
  zgd_d (fun d => zo_r d rfl) <|
  zgd_d (fun d => zo_l d rfl rfl trivial) <|
  zgd_d (fun d => zo_l d rfl rfl (by show ((46 : Nat) : Int) + (-44) = ((2 : Nat) : Int); decide)) <|
  zgd_d (fun d => zo_l d rfl rfl trivial) <|
  zgd_d (fun d => zo_r d rfl) <|
  zgd_n)
  (z_fn)
theorem zdd_163 : ∀ q ∈ zc_163, decode prog_9_method_17_code q.1 = Except.ok (q.2.1, q.2.2.1) := zdd_of (by decide +kernel)
theorem zk_163 (xs : List Int32) : z_okm (za_T xs) za_P za_M 163 := z_okm_of ⟨"LyndonBenchModel", "isPrimitiveRow", "()Z"⟩ prog_9_method_17_code zc_163 _ rfl rfl rfl rfl
  (zgd_x zdd_163 <|
  zgd_d (fun d => zo_l d rfl rfl trivial) <|
  zgd_d (fun d => zo_l d rfl rfl trivial) <|
  zgd_d (fun d => zo_l d rfl rfl trivial) <|
  zgd_d (fun d => zo_l d rfl rfl trivial) <|
  zgd_d (fun d => zo_h d rfl ⟨rfl, Nat.le_of_ble_eq_true rfl, _, _, _, Or.inl ⟨Nat.le_of_ble_eq_true rfl, rfl⟩, Nat.le_of_ble_eq_true rfl, zw_1448⟩) <|
  zgd_d (fun d => zo_l d rfl rfl (by show ((7 : Nat) : Int) + (19) = ((26 : Nat) : Int); decide)) <|
  zgd_d (fun d => zo_l d rfl rfl trivial) <|
  zgd_d (fun d => zo_l d rfl rfl trivial) <|
  zgd_d (fun d => zo_v d rfl ⟨rfl, zd_162, zw_1360, Nat.le_of_ble_eq_true rfl, ⟨_, Or.inl ⟨Nat.le_of_ble_eq_true rfl, rfl⟩, rfl⟩, zw_1358, zw_73⟩) <|
  zgd_d (fun d => zo_l d rfl rfl (by show ((15 : Nat) : Int) + (5) = ((20 : Nat) : Int); decide)) <|
  zgd_d (fun d => zo_l d rfl rfl trivial) <|
  zgd_d (fun d => zo_r d rfl) <|
  zgd_d (fun d => zo_l d rfl rfl trivial) <|
  zgd_d (fun d => zo_l d rfl rfl (by show ((23 : Nat) : Int) + (-21) = ((2 : Nat) : Int); decide)) <|
  zgd_d (fun d => zo_l d rfl rfl trivial) <|
  zgd_d (fun d => zo_h d rfl ⟨rfl, Nat.le_of_ble_eq_true rfl, _, _, _, Or.inl ⟨Nat.le_of_ble_eq_true rfl, rfl⟩, Nat.le_of_ble_eq_true rfl, zw_1448⟩) <|
  zgd_d (fun d => zo_l d rfl rfl (by show ((30 : Nat) : Int) + (7) = ((37 : Nat) : Int); decide)) <|
  zgd_d (fun d => zo_l d rfl rfl trivial) <|
  zgd_d (fun d => zo_l d rfl rfl (by show ((34 : Nat) : Int) + (4) = ((38 : Nat) : Int); decide)) <|
  zgd_d (fun d => zo_l d rfl rfl trivial) <|
  zgd_d (fun d => zo_r d rfl) <|
  zgd_n)
  (z_fn)
theorem zdd_164 : ∀ q ∈ zc_164, decode prog_9_method_18_code q.1 = Except.ok (q.2.1, q.2.2.1) := zdd_of (by decide +kernel)
theorem zk_164 (xs : List Int32) : z_okm (za_T xs) za_P za_M 164 := z_okm_of ⟨"LyndonBenchModel", "isLeastRow", "()Z"⟩ prog_9_method_18_code zc_164 _ rfl rfl rfl rfl
  (zgd_x zdd_164 <|
  zgd_d (fun d => zo_l d rfl rfl trivial) <|
  zgd_d (fun d => zo_l d rfl rfl trivial) <|
  zgd_d (fun d => zo_l d rfl rfl trivial) <|
  zgd_d (fun d => zo_l d rfl rfl trivial) <|
  zgd_d (fun d => zo_h d rfl ⟨rfl, Nat.le_of_ble_eq_true rfl, _, _, _, Or.inl ⟨Nat.le_of_ble_eq_true rfl, rfl⟩, Nat.le_of_ble_eq_true rfl, zw_1448⟩) <|
  zgd_d (fun d => zo_l d rfl rfl (by show ((7 : Nat) : Int) + (19) = ((26 : Nat) : Int); decide)) <|
  zgd_d (fun d => zo_l d rfl rfl trivial) <|
  zgd_d (fun d => zo_l d rfl rfl trivial) <|
  zgd_d (fun d => zo_v d rfl ⟨rfl, zd_162, zw_1360, Nat.le_of_ble_eq_true rfl, ⟨_, Or.inl ⟨Nat.le_of_ble_eq_true rfl, rfl⟩, rfl⟩, zw_1358, zw_73⟩) <|
  zgd_d (fun d => zo_l d rfl rfl (by show ((15 : Nat) : Int) + (5) = ((20 : Nat) : Int); decide)) <|
  zgd_d (fun d => zo_l d rfl rfl trivial) <|
  zgd_d (fun d => zo_r d rfl) <|
  zgd_d (fun d => zo_l d rfl rfl trivial) <|
  zgd_d (fun d => zo_l d rfl rfl (by show ((23 : Nat) : Int) + (-21) = ((2 : Nat) : Int); decide)) <|
  zgd_d (fun d => zo_l d rfl rfl trivial) <|
  zgd_d (fun d => zo_h d rfl ⟨rfl, Nat.le_of_ble_eq_true rfl, _, _, _, Or.inl ⟨Nat.le_of_ble_eq_true rfl, rfl⟩, Nat.le_of_ble_eq_true rfl, zw_1448⟩) <|
  zgd_d (fun d => zo_l d rfl rfl (by show ((30 : Nat) : Int) + (7) = ((37 : Nat) : Int); decide)) <|
  zgd_d (fun d => zo_l d rfl rfl trivial) <|
  zgd_d (fun d => zo_l d rfl rfl (by show ((34 : Nat) : Int) + (4) = ((38 : Nat) : Int); decide)) <|
  zgd_d (fun d => zo_l d rfl rfl trivial) <|
  zgd_d (fun d => zo_r d rfl) <|
  zgd_n)
  (z_fn)
theorem zdd_165_0 : ∀ q ∈ zc_165_0, decode prog_9_method_19_code q.1 = Except.ok (q.2.1, q.2.2.1) := zdd_of (by decide +kernel)
theorem zk_165_0 (xs : List Int32) {l : List zE} (h : ∀ q ∈ l, z_oke' (za_T xs) za_P za_M ⟨"LyndonBenchModel", "isBeginning", "()Z"⟩ prog_9_method_19_code q) : ∀ q ∈ zc_165_0 ++ l, z_oke' (za_T xs) za_P za_M ⟨"LyndonBenchModel", "isBeginning", "()Z"⟩ prog_9_method_19_code q :=
  zgd_y zdd_165_0 <|
  zgd_e (fun d => zo_l d rfl rfl trivial) <|
  zgd_e (fun d => zo_l d rfl rfl trivial) <|
  zgd_e (fun d => zo_l d rfl rfl trivial) <|
  zgd_e (fun d => zo_l d rfl rfl trivial) <|
  zgd_e (fun d => zo_h d rfl ⟨rfl, Nat.le_of_ble_eq_true rfl, _, _, _, Or.inl ⟨Nat.le_of_ble_eq_true rfl, rfl⟩, Nat.le_of_ble_eq_true rfl, zw_1448⟩) <|
  zgd_e (fun d => zo_l d rfl rfl (by show ((7 : Nat) : Int) + (73) = ((80 : Nat) : Int); decide)) <|
  zgd_e (fun d => zo_l d rfl rfl trivial) <|
  zgd_e (fun d => zo_l d rfl rfl trivial) <|
  zgd_e (fun d => zo_l d rfl rfl trivial) <|
  zgd_e (fun d => zo_l d rfl rfl trivial) <|
  zgd_e (fun d => zo_l d rfl rfl trivial) <|
  zgd_e (fun d => zo_l d rfl rfl trivial) <|
  zgd_e (fun d => zo_h d rfl ⟨rfl, Nat.le_of_ble_eq_true rfl, _, _, _, Or.inl ⟨Nat.le_of_ble_eq_true rfl, rfl⟩, Nat.le_of_ble_eq_true rfl, zw_1448⟩) <|
  zgd_e (fun d => zo_l d rfl rfl (by show ((19 : Nat) : Int) + (26) = ((45 : Nat) : Int); decide)) <|
  zgd_e (fun d => zo_l d rfl rfl trivial) <|
  zgd_e (fun d => zo_h d rfl ⟨rfl, Nat.le_of_ble_eq_true rfl, _, _, _, Or.inl ⟨Nat.le_of_ble_eq_true rfl, rfl⟩, Nat.le_of_ble_eq_true rfl, zw_1442⟩) <|
  zgd_e (fun d => zo_l d rfl rfl trivial) <|
  zgd_e (fun d => zo_l d rfl rfl trivial) <|
  zgd_e (fun d => zo_l d rfl rfl trivial) <|
  zgd_e (fun d => zo_h d rfl rfl) <|
  zgd_e (fun d => zo_l d rfl rfl trivial) <|
  zgd_e (fun d => zo_h d rfl ⟨rfl, Nat.le_of_ble_eq_true rfl, _, _, _, Or.inl ⟨Nat.le_of_ble_eq_true rfl, rfl⟩, Nat.le_of_ble_eq_true rfl, zw_1442⟩) <|
  zgd_e (fun d => zo_l d rfl rfl trivial) <|
  zgd_e (fun d => zo_h d rfl rfl) <|
  zgd_e (fun d => zo_l d rfl rfl (by show ((36 : Nat) : Int) + (9) = ((45 : Nat) : Int); decide)) <|
  zgd_e (fun d => zo_l d rfl rfl trivial) <|
  zgd_e (fun d => zo_l d rfl rfl (by show ((42 : Nat) : Int) + (-30) = ((12 : Nat) : Int); decide)) <|
  zgd_e (fun d => zo_l d rfl rfl trivial) <|
  zgd_e (fun d => zo_l d rfl rfl trivial) <|
  zgd_e (fun d => zo_l d rfl rfl trivial) <|
  zgd_e (fun d => zo_l d rfl rfl trivial) <|
  zgd_e (fun d => zo_h d rfl ⟨rfl, Nat.le_of_ble_eq_true rfl, _, _, _, Or.inl ⟨Nat.le_of_ble_eq_true rfl, rfl⟩, Nat.le_of_ble_eq_true rfl, zw_1448⟩) <|
  zgd_e (fun d => zo_l d rfl rfl (by show ((52 : Nat) : Int) + (22) = ((74 : Nat) : Int); decide)) <|
  zgd_e (fun d => zo_l d rfl rfl trivial) <|
  zgd_e (fun d => zo_h d rfl ⟨rfl, Nat.le_of_ble_eq_true rfl, _, _, _, Or.inl ⟨Nat.le_of_ble_eq_true rfl, rfl⟩, Nat.le_of_ble_eq_true rfl, zw_1442⟩) <|
  zgd_e (fun d => zo_l d rfl rfl trivial) <|
  zgd_e (fun d => zo_l d rfl rfl trivial) <|
  zgd_e (fun d => zo_l d rfl rfl trivial) <|
  zgd_e (fun d => zo_h d rfl rfl) <|
  zgd_e (fun d => zo_l d rfl rfl trivial) <|
  zgd_m h
theorem zdd_165_1 : ∀ q ∈ zc_165_1, decode prog_9_method_19_code q.1 = Except.ok (q.2.1, q.2.2.1) := zdd_of (by decide +kernel)
theorem zk_165_1 (xs : List Int32) {l : List zE} (h : ∀ q ∈ l, z_oke' (za_T xs) za_P za_M ⟨"LyndonBenchModel", "isBeginning", "()Z"⟩ prog_9_method_19_code q) : ∀ q ∈ zc_165_1 ++ l, z_oke' (za_T xs) za_P za_M ⟨"LyndonBenchModel", "isBeginning", "()Z"⟩ prog_9_method_19_code q :=
  zgd_y zdd_165_1 <|
  zgd_e (fun d => zo_h d rfl ⟨rfl, Nat.le_of_ble_eq_true rfl, _, _, _, Or.inl ⟨Nat.le_of_ble_eq_true rfl, rfl⟩, Nat.le_of_ble_eq_true rfl, zw_1442⟩) <|
  zgd_e (fun d => zo_l d rfl rfl trivial) <|
  zgd_e (fun d => zo_h d rfl rfl) <|
  zgd_e (fun d => zo_l d rfl rfl (by show ((69 : Nat) : Int) + (5) = ((74 : Nat) : Int); decide)) <|
  zgd_e (fun d => zo_l d rfl rfl trivial) <|
  zgd_e (fun d => zo_r d rfl) <|
  zgd_e (fun d => zo_l d rfl rfl trivial) <|
  zgd_e (fun d => zo_l d rfl rfl (by show ((77 : Nat) : Int) + (-75) = ((2 : Nat) : Int); decide)) <|
  zgd_e (fun d => zo_l d rfl rfl trivial) <|
  zgd_e (fun d => zo_h d rfl ⟨rfl, Nat.le_of_ble_eq_true rfl, _, _, _, Or.inl ⟨Nat.le_of_ble_eq_true rfl, rfl⟩, Nat.le_of_ble_eq_true rfl, zw_1448⟩) <|
  zgd_e (fun d => zo_l d rfl rfl (by show ((84 : Nat) : Int) + (7) = ((91 : Nat) : Int); decide)) <|
  zgd_e (fun d => zo_l d rfl rfl trivial) <|
  zgd_e (fun d => zo_l d rfl rfl (by show ((88 : Nat) : Int) + (4) = ((92 : Nat) : Int); decide)) <|
  zgd_e (fun d => zo_l d rfl rfl trivial) <|
  zgd_e (fun d => zo_r d rfl) <|
  zgd_m h
theorem zk_165 (xs : List Int32) : z_okm (za_T xs) za_P za_M 165 := z_okm_of ⟨"LyndonBenchModel", "isBeginning", "()Z"⟩ prog_9_method_19_code zc_165 _ rfl rfl rfl rfl
  (zk_165_0 xs <|
  zk_165_1 xs <|
  z_fn)
  (z_fn)
theorem zdd_166 : ∀ q ∈ zc_166, decode prog_9_method_20_code q.1 = Except.ok (q.2.1, q.2.2.1) := zdd_of (by decide +kernel)
theorem zk_166 (xs : List Int32) : z_okm (za_T xs) za_P za_M 166 := z_okm_of ⟨"LyndonBenchModel", "why", "()I"⟩ prog_9_method_20_code zc_166 _ rfl rfl rfl rfl
  (zgd_x zdd_166 <|
  zgd_d (fun d => zo_l d rfl rfl trivial) <|
  zgd_d (fun d => zo_v d rfl ⟨rfl, zd_156, zw_1276, Nat.le_of_ble_eq_true rfl, ⟨_, Or.inl ⟨Nat.le_of_ble_eq_true rfl, rfl⟩, rfl⟩, zw_1274, zw_52⟩) <|
  zgd_d (fun d => zo_l d rfl rfl trivial) <|
  zgd_d (fun d => zo_h d rfl ⟨rfl, Nat.le_of_ble_eq_true rfl, _, _, _, Or.inl ⟨Nat.le_of_ble_eq_true rfl, rfl⟩, Nat.le_of_ble_eq_true rfl, zw_1448⟩) <|
  zgd_d (fun d => zo_l d rfl rfl (by show ((8 : Nat) : Int) + (5) = ((13 : Nat) : Int); decide)) <|
  zgd_d (fun d => zo_l d rfl rfl trivial) <|
  zgd_d (fun d => zo_r d rfl) <|
  zgd_d (fun d => zo_l d rfl rfl trivial) <|
  zgd_d (fun d => zo_v d rfl ⟨rfl, zd_163, zw_1356, Nat.le_of_ble_eq_true rfl, ⟨_, Or.inl ⟨Nat.le_of_ble_eq_true rfl, rfl⟩, rfl⟩, zw_1354, zw_72⟩) <|
  zgd_d (fun d => zo_l d rfl rfl (by show ((17 : Nat) : Int) + (5) = ((22 : Nat) : Int); decide)) <|
  zgd_d (fun d => zo_l d rfl rfl trivial) <|
  zgd_d (fun d => zo_r d rfl) <|
  zgd_d (fun d => zo_l d rfl rfl trivial) <|
  zgd_d (fun d => zo_v d rfl ⟨rfl, zd_164, zw_1364, Nat.le_of_ble_eq_true rfl, ⟨_, Or.inl ⟨Nat.le_of_ble_eq_true rfl, rfl⟩, rfl⟩, zw_1362, zw_74⟩) <|
  zgd_d (fun d => zo_l d rfl rfl (by show ((26 : Nat) : Int) + (7) = ((33 : Nat) : Int); decide)) <|
  zgd_d (fun d => zo_l d rfl rfl trivial) <|
  zgd_d (fun d => zo_l d rfl rfl (by show ((30 : Nat) : Int) + (4) = ((34 : Nat) : Int); decide)) <|
  zgd_d (fun d => zo_l d rfl rfl trivial) <|
  zgd_d (fun d => zo_r d rfl) <|
  zgd_n)
  (z_fn)
theorem zdd_167_0 : ∀ q ∈ zc_167_0, decode prog_9_method_21_code q.1 = Except.ok (q.2.1, q.2.2.1) := zdd_of (by decide +kernel)
theorem zk_167_0 (xs : List Int32) {l : List zE} (h : ∀ q ∈ l, z_oke' (za_T xs) za_P za_M ⟨"LyndonBenchModel", "period", "()I"⟩ prog_9_method_21_code q) : ∀ q ∈ zc_167_0 ++ l, z_oke' (za_T xs) za_P za_M ⟨"LyndonBenchModel", "period", "()I"⟩ prog_9_method_21_code q :=
  zgd_y zdd_167_0 <|
  zgd_e (fun d => zo_l d rfl rfl trivial) <|
  zgd_e (fun d => zo_l d rfl rfl trivial) <|
  zgd_e (fun d => zo_l d rfl rfl trivial) <|
  zgd_e (fun d => zo_l d rfl rfl trivial) <|
  zgd_e (fun d => zo_h d rfl ⟨rfl, Nat.le_of_ble_eq_true rfl, _, _, _, Or.inl ⟨Nat.le_of_ble_eq_true rfl, rfl⟩, Nat.le_of_ble_eq_true rfl, zw_1434⟩) <|
  zgd_e (fun d => zo_l d rfl rfl trivial) <|
  zgd_e (fun d => zo_h d rfl rfl) <|
  zgd_e (fun d => zo_l d rfl rfl (by show ((9 : Nat) : Int) + (64) = ((73 : Nat) : Int); decide)) <|
  zgd_e (fun d => zo_l d rfl rfl trivial) <|
  zgd_e (fun d => zo_l d rfl rfl trivial) <|
  zgd_e (fun d => zo_l d rfl rfl trivial) <|
  zgd_e (fun d => zo_l d rfl rfl trivial) <|
  zgd_e (fun d => zo_l d rfl rfl trivial) <|
  zgd_e (fun d => zo_l d rfl rfl trivial) <|
  zgd_e (fun d => zo_h d rfl ⟨rfl, Nat.le_of_ble_eq_true rfl, _, _, _, Or.inl ⟨Nat.le_of_ble_eq_true rfl, rfl⟩, Nat.le_of_ble_eq_true rfl, zw_1434⟩) <|
  zgd_e (fun d => zo_l d rfl rfl trivial) <|
  zgd_e (fun d => zo_h d rfl rfl) <|
  zgd_e (fun d => zo_l d rfl rfl (by show ((23 : Nat) : Int) + (30) = ((53 : Nat) : Int); decide)) <|
  zgd_e (fun d => zo_l d rfl rfl trivial) <|
  zgd_e (fun d => zo_h d rfl ⟨rfl, Nat.le_of_ble_eq_true rfl, _, _, _, Or.inl ⟨Nat.le_of_ble_eq_true rfl, rfl⟩, Nat.le_of_ble_eq_true rfl, zw_1434⟩) <|
  zgd_e (fun d => zo_l d rfl rfl trivial) <|
  zgd_e (fun d => zo_l d rfl rfl trivial) <|
  zgd_e (fun d => zo_l d rfl rfl trivial) <|
  zgd_e (fun d => zo_h d rfl rfl) <|
  zgd_e (fun d => zo_l d rfl rfl trivial) <|
  zgd_e (fun d => zo_h d rfl ⟨rfl, Nat.le_of_ble_eq_true rfl, _, _, _, Or.inl ⟨Nat.le_of_ble_eq_true rfl, rfl⟩, Nat.le_of_ble_eq_true rfl, zw_1434⟩) <|
  zgd_e (fun d => zo_l d rfl rfl trivial) <|
  zgd_e (fun d => zo_l d rfl rfl trivial) <|
  zgd_e (fun d => zo_l d rfl rfl trivial) <|
  zgd_e (fun d => zo_l d rfl rfl trivial) <|
  zgd_e (fun d => zo_l d rfl rfl trivial) <|
  zgd_e (fun d => zo_h d rfl rfl) <|
  zgd_e (fun d => zo_l d rfl rfl (by show ((44 : Nat) : Int) + (9) = ((53 : Nat) : Int); decide)) <|
  zgd_e (fun d => zo_l d rfl rfl trivial) <|
  zgd_e (fun d => zo_l d rfl rfl (by show ((50 : Nat) : Int) + (-36) = ((14 : Nat) : Int); decide)) <|
  zgd_e (fun d => zo_l d rfl rfl trivial) <|
  zgd_e (fun d => zo_l d rfl rfl trivial) <|
  zgd_e (fun d => zo_l d rfl rfl trivial) <|
  zgd_e (fun d => zo_l d rfl rfl trivial) <|
  zgd_e (fun d => zo_h d rfl ⟨rfl, Nat.le_of_ble_eq_true rfl, _, _, _, Or.inl ⟨Nat.le_of_ble_eq_true rfl, rfl⟩, Nat.le_of_ble_eq_true rfl, zw_1434⟩) <|
  zgd_m h
theorem zdd_167_1 : ∀ q ∈ zc_167_1, decode prog_9_method_21_code q.1 = Except.ok (q.2.1, q.2.2.1) := zdd_of (by decide +kernel)
theorem zk_167_1 (xs : List Int32) {l : List zE} (h : ∀ q ∈ l, z_oke' (za_T xs) za_P za_M ⟨"LyndonBenchModel", "period", "()I"⟩ prog_9_method_21_code q) : ∀ q ∈ zc_167_1 ++ l, z_oke' (za_T xs) za_P za_M ⟨"LyndonBenchModel", "period", "()I"⟩ prog_9_method_21_code q :=
  zgd_y zdd_167_1 <|
  zgd_e (fun d => zo_l d rfl rfl trivial) <|
  zgd_e (fun d => zo_h d rfl rfl) <|
  zgd_e (fun d => zo_l d rfl rfl (by show ((62 : Nat) : Int) + (5) = ((67 : Nat) : Int); decide)) <|
  zgd_e (fun d => zo_l d rfl rfl trivial) <|
  zgd_e (fun d => zo_r d rfl) <|
  zgd_e (fun d => zo_l d rfl rfl trivial) <|
  zgd_e (fun d => zo_l d rfl rfl (by show ((70 : Nat) : Int) + (-68) = ((2 : Nat) : Int); decide)) <|
  zgd_e (fun d => zo_l d rfl rfl trivial) <|
  zgd_e (fun d => zo_r d rfl) <|
  zgd_m h
theorem zk_167 (xs : List Int32) : z_okm (za_T xs) za_P za_M 167 := z_okm_of ⟨"LyndonBenchModel", "period", "()I"⟩ prog_9_method_21_code zc_167 _ rfl rfl rfl rfl
  (zk_167_0 xs <|
  zk_167_1 xs <|
  z_fn)
  (z_fn)
theorem zdd_168_0 : ∀ q ∈ zc_168_0, decode prog_9_method_22_code q.1 = Except.ok (q.2.1, q.2.2.1) := zdd_of (by decide +kernel)
theorem zk_168_0 (xs : List Int32) {l : List zE} (h : ∀ q ∈ l, z_oke' (za_T xs) za_P za_M ⟨"LyndonBenchModel", "rotations", "(II)I"⟩ prog_9_method_22_code q) : ∀ q ∈ zc_168_0 ++ l, z_oke' (za_T xs) za_P za_M ⟨"LyndonBenchModel", "rotations", "(II)I"⟩ prog_9_method_22_code q :=
  zgd_y zdd_168_0 <|
  zgd_e (fun d => zo_l d rfl rfl trivial) <|
  zgd_e (fun d => zo_l d rfl rfl trivial) <|
  zgd_e (fun d => zo_l d rfl rfl trivial) <|
  zgd_e (fun d => zo_l d rfl rfl trivial) <|
  zgd_e (fun d => zo_h d rfl ⟨rfl, Nat.le_of_ble_eq_true rfl, _, _, _, Or.inl ⟨Nat.le_of_ble_eq_true rfl, rfl⟩, Nat.le_of_ble_eq_true rfl, zw_1434⟩) <|
  zgd_e (fun d => zo_l d rfl rfl trivial) <|
  zgd_e (fun d => zo_h d rfl rfl) <|
  zgd_e (fun d => zo_l d rfl rfl (by show ((9 : Nat) : Int) + (54) = ((63 : Nat) : Int); decide)) <|
  zgd_e (fun d => zo_l d rfl rfl trivial) <|
  zgd_e (fun d => zo_h d rfl ⟨rfl, Nat.le_of_ble_eq_true rfl, _, _, _, Or.inl ⟨Nat.le_of_ble_eq_true rfl, rfl⟩, Nat.le_of_ble_eq_true rfl, zw_1434⟩) <|
  zgd_e (fun d => zo_l d rfl rfl trivial) <|
  zgd_e (fun d => zo_l d rfl rfl trivial) <|
  zgd_e (fun d => zo_l d rfl rfl trivial) <|
  zgd_e (fun d => zo_l d rfl rfl trivial) <|
  zgd_e (fun d => zo_l d rfl rfl trivial) <|
  zgd_e (fun d => zo_h d rfl ⟨rfl, Nat.le_of_ble_eq_true rfl, _, _, _, Or.inl ⟨Nat.le_of_ble_eq_true rfl, rfl⟩, Nat.le_of_ble_eq_true rfl, zw_1434⟩) <|
  zgd_e (fun d => zo_l d rfl rfl trivial) <|
  zgd_e (fun d => zo_h d rfl rfl) <|
  zgd_e (fun d => zo_l d rfl rfl trivial) <|
  zgd_e (fun d => zo_l d rfl rfl trivial) <|
  zgd_e (fun d => zo_h d rfl rfl) <|
  zgd_e (fun d => zo_l d rfl rfl trivial) <|
  zgd_e (fun d => zo_h d rfl ⟨rfl, Nat.le_of_ble_eq_true rfl, _, _, _, Or.inl ⟨Nat.le_of_ble_eq_true rfl, rfl⟩, Nat.le_of_ble_eq_true rfl, zw_1434⟩) <|
  zgd_e (fun d => zo_l d rfl rfl trivial) <|
  zgd_e (fun d => zo_l d rfl rfl trivial) <|
  zgd_e (fun d => zo_l d rfl rfl trivial) <|
  zgd_e (fun d => zo_l d rfl rfl trivial) <|
  zgd_e (fun d => zo_l d rfl rfl trivial) <|
  zgd_e (fun d => zo_h d rfl ⟨rfl, Nat.le_of_ble_eq_true rfl, _, _, _, Or.inl ⟨Nat.le_of_ble_eq_true rfl, rfl⟩, Nat.le_of_ble_eq_true rfl, zw_1434⟩) <|
  zgd_e (fun d => zo_l d rfl rfl trivial) <|
  zgd_e (fun d => zo_h d rfl rfl) <|
  zgd_e (fun d => zo_l d rfl rfl trivial) <|
  zgd_e (fun d => zo_l d rfl rfl trivial) <|
  zgd_e (fun d => zo_h d rfl rfl) <|
  zgd_e (fun d => zo_l d rfl rfl trivial) <|
  zgd_e (fun d => zo_l d rfl rfl trivial) <|
  zgd_e (fun d => zo_l d rfl rfl trivial) <|
  zgd_e (fun d => zo_l d rfl rfl (by show ((51 : Nat) : Int) + (6) = ((57 : Nat) : Int); decide)) <|
  zgd_e (fun d => zo_l d rfl rfl trivial) <|
  zgd_e (fun d => zo_r d rfl) <|
  zgd_m h
theorem zdd_168_1 : ∀ q ∈ zc_168_1, decode prog_9_method_22_code q.1 = Except.ok (q.2.1, q.2.2.1) := zdd_of (by decide +kernel)
theorem zk_168_1 (xs : List Int32) {l : List zE} (h : ∀ q ∈ l, z_oke' (za_T xs) za_P za_M ⟨"LyndonBenchModel", "rotations", "(II)I"⟩ prog_9_method_22_code q) : ∀ q ∈ zc_168_1 ++ l, z_oke' (za_T xs) za_P za_M ⟨"LyndonBenchModel", "rotations", "(II)I"⟩ prog_9_method_22_code q :=
  zgd_y zdd_168_1 <|
  zgd_e (fun d => zo_l d rfl rfl trivial) <|
  zgd_e (fun d => zo_l d rfl rfl (by show ((60 : Nat) : Int) + (-58) = ((2 : Nat) : Int); decide)) <|
  zgd_e (fun d => zo_l d rfl rfl trivial) <|
  zgd_e (fun d => zo_r d rfl) <|
  zgd_m h
theorem zk_168 (xs : List Int32) : z_okm (za_T xs) za_P za_M 168 := z_okm_of ⟨"LyndonBenchModel", "rotations", "(II)I"⟩ prog_9_method_22_code zc_168 _ rfl rfl rfl rfl
  (zk_168_0 xs <|
  zk_168_1 xs <|
  z_fn)
  (z_fn)
theorem zdd_169 : ∀ q ∈ zc_169, decode prog_9_method_23_code q.1 = Except.ok (q.2.1, q.2.2.1) := zdd_of (by decide +kernel)
theorem zk_169 (xs : List Int32) : z_okm (za_T xs) za_P za_M 169 := z_okm_of ⟨"LyndonBenchModel", "least", "()I"⟩ prog_9_method_23_code zc_169 _ rfl rfl rfl rfl
  (zgd_x zdd_169 <|
  zgd_d (fun d => zo_l d rfl rfl trivial) <|
  zgd_d (fun d => zo_l d rfl rfl trivial) <|
  zgd_d (fun d => zo_l d rfl rfl trivial) <|
  zgd_d (fun d => zo_l d rfl rfl trivial) <|
  zgd_d (fun d => zo_l d rfl rfl trivial) <|
  zgd_d (fun d => zo_l d rfl rfl trivial) <|
  zgd_d (fun d => zo_h d rfl ⟨rfl, Nat.le_of_ble_eq_true rfl, _, _, _, Or.inl ⟨Nat.le_of_ble_eq_true rfl, rfl⟩, Nat.le_of_ble_eq_true rfl, zw_1434⟩) <|
  zgd_d (fun d => zo_l d rfl rfl trivial) <|
  zgd_d (fun d => zo_h d rfl rfl) <|
  zgd_d (fun d => zo_l d rfl rfl (by show ((11 : Nat) : Int) + (24) = ((35 : Nat) : Int); decide)) <|
  zgd_d (fun d => zo_l d rfl rfl trivial) <|
  zgd_d (fun d => zo_l d rfl rfl trivial) <|
  zgd_d (fun d => zo_l d rfl rfl trivial) <|
  zgd_d (fun d => zo_v d rfl ⟨rfl, zd_168, zw_1340, Nat.le_of_ble_eq_true rfl, ⟨_, Or.inl ⟨Nat.le_of_ble_eq_true rfl, rfl⟩, rfl⟩, zw_1338, zw_68⟩) <|
  zgd_d (fun d => zo_l d rfl rfl (by show ((20 : Nat) : Int) + (7) = ((27 : Nat) : Int); decide)) <|
  zgd_d (fun d => zo_l d rfl rfl trivial) <|
  zgd_d (fun d => zo_l d rfl rfl (by show ((24 : Nat) : Int) + (4) = ((28 : Nat) : Int); decide)) <|
  zgd_d (fun d => zo_l d rfl rfl trivial) <|
  zgd_d (fun d => zo_l d rfl rfl trivial) <|
  zgd_d (fun d => zo_l d rfl rfl trivial) <|
  zgd_d (fun d => zo_l d rfl rfl (by show ((32 : Nat) : Int) + (-28) = ((4 : Nat) : Int); decide)) <|
  zgd_d (fun d => zo_l d rfl rfl trivial) <|
  zgd_d (fun d => zo_r d rfl) <|
  zgd_n)
  (z_fn)
theorem zdd_170_0 : ∀ q ∈ zc_170_0, decode prog_9_method_24_code q.1 = Except.ok (q.2.1, q.2.2.1) := zdd_of (by decide +kernel)
theorem zk_170_0 (xs : List Int32) {l : List zE} (h : ∀ q ∈ l, z_oke' (za_T xs) za_P za_M ⟨"LyndonBenchModel", "suffix", "(I)I"⟩ prog_9_method_24_code q) : ∀ q ∈ zc_170_0 ++ l, z_oke' (za_T xs) za_P za_M ⟨"LyndonBenchModel", "suffix", "(I)I"⟩ prog_9_method_24_code q :=
  zgd_y zdd_170_0 <|
  zgd_e (fun d => zo_l d rfl rfl trivial) <|
  zgd_e (fun d => zo_l d rfl rfl trivial) <|
  zgd_e (fun d => zo_l d rfl rfl trivial) <|
  zgd_e (fun d => zo_l d rfl rfl trivial) <|
  zgd_e (fun d => zo_l d rfl rfl trivial) <|
  zgd_e (fun d => zo_l d rfl rfl trivial) <|
  zgd_e (fun d => zo_h d rfl ⟨rfl, Nat.le_of_ble_eq_true rfl, _, _, _, Or.inl ⟨Nat.le_of_ble_eq_true rfl, rfl⟩, Nat.le_of_ble_eq_true rfl, zw_1434⟩) <|
  zgd_e (fun d => zo_l d rfl rfl trivial) <|
  zgd_e (fun d => zo_h d rfl rfl) <|
  zgd_e (fun d => zo_l d rfl rfl (by show ((11 : Nat) : Int) + (47) = ((58 : Nat) : Int); decide)) <|
  zgd_e (fun d => zo_l d rfl rfl trivial) <|
  zgd_e (fun d => zo_l d rfl rfl trivial) <|
  zgd_e (fun d => zo_l d rfl rfl (by show ((16 : Nat) : Int) + (34) = ((50 : Nat) : Int); decide)) <|
  zgd_e (fun d => zo_l d rfl rfl trivial) <|
  zgd_e (fun d => zo_l d rfl rfl trivial) <|
  zgd_e (fun d => zo_l d rfl rfl trivial) <|
  zgd_e (fun d => zo_l d rfl rfl trivial) <|
  zgd_e (fun d => zo_l d rfl rfl trivial) <|
  zgd_e (fun d => zo_l d rfl rfl trivial) <|
  zgd_e (fun d => zo_h d rfl ⟨rfl, Nat.le_of_ble_eq_true rfl, _, _, _, Or.inl ⟨Nat.le_of_ble_eq_true rfl, rfl⟩, Nat.le_of_ble_eq_true rfl, zw_1434⟩) <|
  zgd_e (fun d => zo_l d rfl rfl trivial) <|
  zgd_e (fun d => zo_h d rfl rfl) <|
  zgd_e (fun d => zo_l d rfl rfl trivial) <|
  zgd_e (fun d => zo_l d rfl rfl trivial) <|
  zgd_e (fun d => zo_l d rfl rfl trivial) <|
  zgd_e (fun d => zo_l d rfl rfl trivial) <|
  zgd_e (fun d => zo_l d rfl rfl trivial) <|
  zgd_e (fun d => zo_l d rfl rfl trivial) <|
  zgd_e (fun d => zo_h d rfl ⟨rfl, Nat.le_of_ble_eq_true rfl, _, _, _, Or.inl ⟨Nat.le_of_ble_eq_true rfl, rfl⟩, Nat.le_of_ble_eq_true rfl, zw_1434⟩) <|
  zgd_e (fun d => zo_l d rfl rfl trivial) <|
  zgd_e (fun d => zo_h d rfl rfl) <|
  zgd_e (fun d => zo_l d rfl rfl trivial) <|
  zgd_e (fun d => zo_l d rfl rfl trivial) <|
  zgd_e (fun d => zo_v d rfl ⟨rfl, zd_154, zw_1428, Nat.le_of_ble_eq_true rfl, ⟨_, Or.inl ⟨Nat.le_of_ble_eq_true rfl, rfl⟩, rfl⟩, zw_1426, zw_90⟩) <|
  zgd_e (fun d => zo_l d rfl rfl trivial) <|
  zgd_e (fun d => zo_l d rfl rfl (by show ((47 : Nat) : Int) + (5) = ((52 : Nat) : Int); decide)) <|
  zgd_e (fun d => zo_l d rfl rfl trivial) <|
  zgd_e (fun d => zo_l d rfl rfl trivial) <|
  zgd_e (fun d => zo_l d rfl rfl trivial) <|
  zgd_e (fun d => zo_l d rfl rfl (by show ((55 : Nat) : Int) + (-51) = ((4 : Nat) : Int); decide)) <|
  zgd_m h
theorem zdd_170_1 : ∀ q ∈ zc_170_1, decode prog_9_method_24_code q.1 = Except.ok (q.2.1, q.2.2.1) := zdd_of (by decide +kernel)
theorem zk_170_1 (xs : List Int32) {l : List zE} (h : ∀ q ∈ l, z_oke' (za_T xs) za_P za_M ⟨"LyndonBenchModel", "suffix", "(I)I"⟩ prog_9_method_24_code q) : ∀ q ∈ zc_170_1 ++ l, z_oke' (za_T xs) za_P za_M ⟨"LyndonBenchModel", "suffix", "(I)I"⟩ prog_9_method_24_code q :=
  zgd_y zdd_170_1 <|
  zgd_e (fun d => zo_l d rfl rfl trivial) <|
  zgd_e (fun d => zo_r d rfl) <|
  zgd_m h
theorem zk_170 (xs : List Int32) : z_okm (za_T xs) za_P za_M 170 := z_okm_of ⟨"LyndonBenchModel", "suffix", "(I)I"⟩ prog_9_method_24_code zc_170 _ rfl rfl rfl rfl
  (zk_170_0 xs <|
  zk_170_1 xs <|
  z_fn)
  (z_fn)
theorem zdd_171 : ∀ q ∈ zc_171, decode prog_9_method_25_code q.1 = Except.ok (q.2.1, q.2.2.1) := zdd_of (by decide +kernel)
theorem zk_171 (xs : List Int32) : z_okm (za_T xs) za_P za_M 171 := z_okm_of ⟨"LyndonBenchModel", "power", "(I)I"⟩ prog_9_method_25_code zc_171 _ rfl rfl rfl rfl
  (zgd_x zdd_171 <|
  zgd_d (fun d => zo_l d rfl rfl trivial) <|
  zgd_d (fun d => zo_l d rfl rfl trivial) <|
  zgd_d (fun d => zo_l d rfl rfl trivial) <|
  zgd_d (fun d => zo_l d rfl rfl trivial) <|
  zgd_d (fun d => zo_l d rfl rfl trivial) <|
  zgd_d (fun d => zo_l d rfl rfl trivial) <|
  zgd_d (fun d => zo_l d rfl rfl (by show ((6 : Nat) : Int) + (25) = ((31 : Nat) : Int); decide)) <|
  zgd_d (fun d => zo_l d rfl rfl trivial) <|
  zgd_d (fun d => zo_l d rfl rfl trivial) <|
  zgd_d (fun d => zo_l d rfl rfl (by show ((13 : Nat) : Int) + (18) = ((31 : Nat) : Int); decide)) <|
  zgd_d (fun d => zo_l d rfl rfl trivial) <|
  zgd_d (fun d => zo_l d rfl rfl trivial) <|
  zgd_d (fun d => zo_h d rfl ⟨rfl, Nat.le_of_ble_eq_true rfl, _, _, _, Or.inl ⟨Nat.le_of_ble_eq_true rfl, rfl⟩, Nat.le_of_ble_eq_true rfl, zw_1434⟩) <|
  zgd_d (fun d => zo_l d rfl rfl trivial) <|
  zgd_d (fun d => zo_h d rfl rfl) <|
  zgd_d (fun d => zo_l d rfl rfl trivial) <|
  zgd_d (fun d => zo_l d rfl rfl trivial) <|
  zgd_d (fun d => zo_l d rfl rfl trivial) <|
  zgd_d (fun d => zo_l d rfl rfl (by show ((28 : Nat) : Int) + (-24) = ((4 : Nat) : Int); decide)) <|
  zgd_d (fun d => zo_l d rfl rfl trivial) <|
  zgd_d (fun d => zo_r d rfl) <|
  zgd_n)
  (z_fn)
theorem zdd_172 : ∀ q ∈ zc_172, decode prog_9_method_26_code q.1 = Except.ok (q.2.1, q.2.2.1) := zdd_of (by decide +kernel)
theorem zk_172 (xs : List Int32) : z_okm (za_T xs) za_P za_M 172 := z_okm_of ⟨"LyndonBenchModel", "spells", "(II)V"⟩ prog_9_method_26_code zc_172 _ rfl rfl rfl rfl
  (zgd_x zdd_172 <|
  zgd_d (fun d => zo_l d rfl rfl trivial) <|
  zgd_d (fun d => zo_l d rfl rfl trivial) <|
  zgd_d (fun d => zo_l d rfl rfl trivial) <|
  zgd_d (fun d => zo_l d rfl rfl trivial) <|
  zgd_d (fun d => zo_h d rfl ⟨rfl, Nat.le_of_ble_eq_true rfl, _, _, _, rfl, Nat.le_of_ble_eq_true rfl, zw_1448, Or.inl rfl⟩) <|
  zgd_d (fun d => zo_l d rfl rfl trivial) <|
  zgd_d (fun d => zo_l d rfl rfl trivial) <|
  zgd_d (fun d => zo_l d rfl rfl trivial) <|
  zgd_d (fun d => zo_l d rfl rfl trivial) <|
  zgd_d (fun d => zo_l d rfl rfl trivial) <|
  zgd_d (fun d => zo_l d rfl rfl (by show ((14 : Nat) : Int) + (33) = ((47 : Nat) : Int); decide)) <|
  zgd_d (fun d => zo_l d rfl rfl trivial) <|
  zgd_d (fun d => zo_h d rfl ⟨rfl, Nat.le_of_ble_eq_true rfl, _, _, _, Or.inl ⟨Nat.le_of_ble_eq_true rfl, rfl⟩, Nat.le_of_ble_eq_true rfl, zw_1442⟩) <|
  zgd_d (fun d => zo_l d rfl rfl trivial) <|
  zgd_d (fun d => zo_l d rfl rfl trivial) <|
  zgd_d (fun d => zo_l d rfl rfl trivial) <|
  zgd_d (fun d => zo_h d rfl ⟨rfl, Nat.le_of_ble_eq_true rfl, _, _, _, Or.inl ⟨Nat.le_of_ble_eq_true rfl, rfl⟩, Nat.le_of_ble_eq_true rfl, zw_1434⟩) <|
  zgd_d (fun d => zo_l d rfl rfl trivial) <|
  zgd_d (fun d => zo_h d rfl rfl) <|
  zgd_d (fun d => zo_l d rfl rfl trivial) <|
  zgd_d (fun d => zo_h d rfl rfl) <|
  zgd_d (fun d => zo_l d rfl rfl trivial) <|
  zgd_d (fun d => zo_l d rfl rfl trivial) <|
  zgd_d (fun d => zo_h d rfl ⟨rfl, Nat.le_of_ble_eq_true rfl, _, _, _, Or.inl ⟨Nat.le_of_ble_eq_true rfl, rfl⟩, Nat.le_of_ble_eq_true rfl, zw_1434⟩) <|
  zgd_d (fun d => zo_l d rfl rfl trivial) <|
  zgd_d (fun d => zo_h d rfl rfl) <|
  zgd_d (fun d => zo_l d rfl rfl trivial) <|
  zgd_d (fun d => zo_l d rfl rfl trivial) <|
  zgd_d (fun d => zo_l d rfl rfl trivial) <|
  zgd_d (fun d => zo_l d rfl rfl (by show ((44 : Nat) : Int) + (-32) = ((12 : Nat) : Int); decide)) <|
  zgd_d (fun d => zo_e d) <|
  zgd_n)
  (z_fn)
theorem zdd_173 : ∀ q ∈ zc_173, decode prog_9_method_27_code q.1 = Except.ok (q.2.1, q.2.2.1) := zdd_of (by decide +kernel)
theorem zk_173 (xs : List Int32) : z_okm (za_T xs) za_P za_M 173 := z_okm_of ⟨"LyndonBenchModel", "rootLength", "()I"⟩ prog_9_method_27_code zc_173 _ rfl rfl rfl rfl
  (zgd_x zdd_173 <|
  zgd_d (fun d => zo_l d rfl rfl trivial) <|
  zgd_d (fun d => zo_l d rfl rfl trivial) <|
  zgd_d (fun d => zo_l d rfl rfl trivial) <|
  zgd_d (fun d => zo_l d rfl rfl trivial) <|
  zgd_d (fun d => zo_h d rfl ⟨rfl, Nat.le_of_ble_eq_true rfl, _, _, _, Or.inl ⟨Nat.le_of_ble_eq_true rfl, rfl⟩, Nat.le_of_ble_eq_true rfl, zw_1448⟩) <|
  zgd_d (fun d => zo_l d rfl rfl (by show ((7 : Nat) : Int) + (19) = ((26 : Nat) : Int); decide)) <|
  zgd_d (fun d => zo_l d rfl rfl trivial) <|
  zgd_d (fun d => zo_l d rfl rfl trivial) <|
  zgd_d (fun d => zo_v d rfl ⟨rfl, zd_162, zw_1360, Nat.le_of_ble_eq_true rfl, ⟨_, Or.inl ⟨Nat.le_of_ble_eq_true rfl, rfl⟩, rfl⟩, zw_1358, zw_73⟩) <|
  zgd_d (fun d => zo_l d rfl rfl (by show ((15 : Nat) : Int) + (5) = ((20 : Nat) : Int); decide)) <|
  zgd_d (fun d => zo_l d rfl rfl trivial) <|
  zgd_d (fun d => zo_r d rfl) <|
  zgd_d (fun d => zo_l d rfl rfl trivial) <|
  zgd_d (fun d => zo_l d rfl rfl (by show ((23 : Nat) : Int) + (-21) = ((2 : Nat) : Int); decide)) <|
  zgd_d (fun d => zo_l d rfl rfl trivial) <|
  zgd_d (fun d => zo_h d rfl ⟨rfl, Nat.le_of_ble_eq_true rfl, _, _, _, Or.inl ⟨Nat.le_of_ble_eq_true rfl, rfl⟩, Nat.le_of_ble_eq_true rfl, zw_1448⟩) <|
  zgd_d (fun d => zo_r d rfl) <|
  zgd_n)
  (z_fn)
theorem zdd_174 : ∀ q ∈ zc_174, decode prog_9_method_28_code q.1 = Except.ok (q.2.1, q.2.2.1) := zdd_of (by decide +kernel)
theorem zk_174 (xs : List Int32) : z_okm (za_T xs) za_P za_M 174 := z_okm_of ⟨"LyndonBenchModel", "primitives", "(I)J"⟩ prog_9_method_28_code zc_174 _ rfl rfl rfl rfl
  (zgd_x zdd_174 <|
  zgd_d (fun d => zo_l d rfl rfl trivial) <|
  zgd_d (fun d => zo_l d rfl rfl trivial) <|
  zgd_d (fun d => zo_l d rfl rfl trivial) <|
  zgd_d (fun d => zo_l d rfl rfl trivial) <|
  zgd_d (fun d => zo_l d rfl rfl trivial) <|
  zgd_d (fun d => zo_l d rfl rfl trivial) <|
  zgd_d (fun d => zo_l d rfl rfl (by show ((8 : Nat) : Int) + (19) = ((27 : Nat) : Int); decide)) <|
  zgd_d (fun d => zo_l d rfl rfl trivial) <|
  zgd_d (fun d => zo_l d rfl rfl trivial) <|
  zgd_d (fun d => zo_h d rfl ⟨rfl, Nat.le_of_ble_eq_true rfl, _, _, _, Or.inl ⟨Nat.le_of_ble_eq_true rfl, rfl⟩, Nat.le_of_ble_eq_true rfl, zw_1434⟩) <|
  zgd_d (fun d => zo_l d rfl rfl trivial) <|
  zgd_d (fun d => zo_h d rfl rfl) <|
  zgd_d (fun d => zo_l d rfl rfl trivial) <|
  zgd_d (fun d => zo_l d rfl rfl trivial) <|
  zgd_d (fun d => zo_l d rfl rfl trivial) <|
  zgd_d (fun d => zo_l d rfl rfl trivial) <|
  zgd_d (fun d => zo_l d rfl rfl (by show ((24 : Nat) : Int) + (-19) = ((5 : Nat) : Int); decide)) <|
  zgd_d (fun d => zo_l d rfl rfl trivial) <|
  zgd_d (fun d => zo_l d rfl rfl trivial) <|
  zgd_d (fun d => zo_l d rfl rfl trivial) <|
  zgd_d (fun d => zo_l d rfl rfl trivial) <|
  zgd_d (fun d => zo_l d rfl rfl (by show ((33 : Nat) : Int) + (29) = ((62 : Nat) : Int); decide)) <|
  zgd_d (fun d => zo_l d rfl rfl trivial) <|
  zgd_d (fun d => zo_l d rfl rfl trivial) <|
  zgd_d (fun d => zo_l d rfl rfl trivial) <|
  zgd_d (fun d => zo_l d rfl rfl trivial) <|
  zgd_d (fun d => zo_l d rfl rfl (by show ((41 : Nat) : Int) + (12) = ((53 : Nat) : Int); decide)) <|
  zgd_d (fun d => zo_l d rfl rfl trivial) <|
  zgd_d (fun d => zo_l d rfl rfl trivial) <|
  zgd_d (fun d => zo_v d rfl ⟨rfl, zd_174, zw_1783, Nat.le_of_ble_eq_true rfl, ⟨_, Or.inl ⟨Nat.le_of_ble_eq_true rfl, rfl⟩, rfl⟩, zw_1781, zw_112⟩) <|
  zgd_d (fun d => zo_l d rfl rfl (by show ((50 : Nat) : Int) + (4) = ((54 : Nat) : Int); decide)) <|
  zgd_d (fun d => zo_l d rfl rfl trivial) <|
  zgd_d (fun d => zo_l d rfl rfl trivial) <|
  zgd_d (fun d => zo_l d rfl rfl trivial) <|
  zgd_d (fun d => zo_l d rfl rfl trivial) <|
  zgd_d (fun d => zo_l d rfl rfl (by show ((59 : Nat) : Int) + (-29) = ((30 : Nat) : Int); decide)) <|
  zgd_d (fun d => zo_l d rfl rfl trivial) <|
  zgd_d (fun d => zo_r d rfl) <|
  zgd_n)
  (z_fn)
theorem zdd_175 : ∀ q ∈ zc_175, decode prog_9_method_29_code q.1 = Except.ok (q.2.1, q.2.2.1) := zdd_of (by decide +kernel)
theorem zk_175 (xs : List Int32) : z_okm (za_T xs) za_P za_M 175 := z_okm_of ⟨"LyndonBenchModel", "rings", "(I)J"⟩ prog_9_method_29_code zc_175 _ rfl rfl rfl rfl
  (zgd_x zdd_175 <|
  zgd_d (fun d => zo_l d rfl rfl trivial) <|
  zgd_d (fun d => zo_l d rfl rfl trivial) <|
  zgd_d (fun d => zo_l d rfl rfl trivial) <|
  zgd_d (fun d => zo_l d rfl rfl trivial) <|
  zgd_d (fun d => zo_l d rfl rfl trivial) <|
  zgd_d (fun d => zo_l d rfl rfl trivial) <|
  zgd_d (fun d => zo_l d rfl rfl (by show ((8 : Nat) : Int) + (33) = ((41 : Nat) : Int); decide)) <|
  zgd_d (fun d => zo_l d rfl rfl trivial) <|
  zgd_d (fun d => zo_l d rfl rfl trivial) <|
  zgd_d (fun d => zo_l d rfl rfl trivial) <|
  zgd_d (fun d => zo_l d rfl rfl trivial) <|
  zgd_d (fun d => zo_l d rfl rfl (by show ((16 : Nat) : Int) + (16) = ((32 : Nat) : Int); decide)) <|
  zgd_d (fun d => zo_l d rfl rfl trivial) <|
  zgd_d (fun d => zo_l d rfl rfl trivial) <|
  zgd_d (fun d => zo_v d rfl ⟨rfl, zd_174, zw_1783, Nat.le_of_ble_eq_true rfl, ⟨_, Or.inl ⟨Nat.le_of_ble_eq_true rfl, rfl⟩, rfl⟩, zw_1781, zw_112⟩) <|
  zgd_d (fun d => zo_l d rfl rfl trivial) <|
  zgd_d (fun d => zo_l d rfl rfl trivial) <|
  zgd_d (fun d => zo_l d rfl rfl trivial) <|
  zgd_d (fun d => zo_l d rfl rfl (by show ((29 : Nat) : Int) + (4) = ((33 : Nat) : Int); decide)) <|
  zgd_d (fun d => zo_l d rfl rfl trivial) <|
  zgd_d (fun d => zo_l d rfl rfl trivial) <|
  zgd_d (fun d => zo_l d rfl rfl trivial) <|
  zgd_d (fun d => zo_l d rfl rfl trivial) <|
  zgd_d (fun d => zo_l d rfl rfl (by show ((38 : Nat) : Int) + (-33) = ((5 : Nat) : Int); decide)) <|
  zgd_d (fun d => zo_l d rfl rfl trivial) <|
  zgd_d (fun d => zo_r d rfl) <|
  zgd_n)
  (z_fn)
theorem zdd_176 : ∀ q ∈ zc_176, decode prog_9_method_30_code q.1 = Except.ok (q.2.1, q.2.2.1) := zdd_of (by decide +kernel)
theorem zk_176 (xs : List Int32) : z_okm (za_T xs) za_P za_M 176 := z_okm_of ⟨"LyndonBenchModel", "takes", "()I"⟩ prog_9_method_30_code zc_176 _ rfl rfl rfl rfl
  (zgd_x zdd_176 <|
  zgd_d (fun d => zo_l d rfl rfl trivial) <|
  zgd_d (fun d => zo_h d rfl ⟨rfl, Nat.le_of_ble_eq_true rfl, _, _, _, Or.inl ⟨Nat.le_of_ble_eq_true rfl, rfl⟩, Nat.le_of_ble_eq_true rfl, zw_1434⟩) <|
  zgd_d (fun d => zo_l d rfl rfl trivial) <|
  zgd_d (fun d => zo_l d rfl rfl trivial) <|
  zgd_d (fun d => zo_h d rfl ⟨rfl, Nat.le_of_ble_eq_true rfl, _, _, _, Or.inl ⟨Nat.le_of_ble_eq_true rfl, rfl⟩, Nat.le_of_ble_eq_true rfl, zw_1448⟩) <|
  zgd_d (fun d => zo_h d rfl rfl) <|
  zgd_d (fun d => zo_l d rfl rfl trivial) <|
  zgd_d (fun d => zo_l d rfl rfl trivial) <|
  zgd_d (fun d => zo_l d rfl rfl trivial) <|
  zgd_d (fun d => zo_l d rfl rfl trivial) <|
  zgd_d (fun d => zo_l d rfl rfl (by show ((15 : Nat) : Int) + (35) = ((50 : Nat) : Int); decide)) <|
  zgd_d (fun d => zo_l d rfl rfl trivial) <|
  zgd_d (fun d => zo_h d rfl ⟨rfl, Nat.le_of_ble_eq_true rfl, _, _, _, Or.inl ⟨Nat.le_of_ble_eq_true rfl, rfl⟩, Nat.le_of_ble_eq_true rfl, zw_1434⟩) <|
  zgd_d (fun d => zo_l d rfl rfl trivial) <|
  zgd_d (fun d => zo_l d rfl rfl trivial) <|
  zgd_d (fun d => zo_l d rfl rfl trivial) <|
  zgd_d (fun d => zo_l d rfl rfl trivial) <|
  zgd_d (fun d => zo_l d rfl rfl trivial) <|
  zgd_d (fun d => zo_h d rfl ⟨rfl, Nat.le_of_ble_eq_true rfl, _, _, _, Or.inl ⟨Nat.le_of_ble_eq_true rfl, rfl⟩, Nat.le_of_ble_eq_true rfl, zw_1448⟩) <|
  zgd_d (fun d => zo_l d rfl rfl (by show ((30 : Nat) : Int) + (12) = ((42 : Nat) : Int); decide)) <|
  zgd_d (fun d => zo_l d rfl rfl trivial) <|
  zgd_d (fun d => zo_h d rfl ⟨rfl, Nat.le_of_ble_eq_true rfl, _, _, _, Or.inl ⟨Nat.le_of_ble_eq_true rfl, rfl⟩, Nat.le_of_ble_eq_true rfl, zw_1442⟩) <|
  zgd_d (fun d => zo_l d rfl rfl trivial) <|
  zgd_d (fun d => zo_h d rfl rfl) <|
  zgd_d (fun d => zo_l d rfl rfl (by show ((39 : Nat) : Int) + (4) = ((43 : Nat) : Int); decide)) <|
  zgd_d (fun d => zo_l d rfl rfl trivial) <|
  zgd_d (fun d => zo_h d rfl rfl) <|
  zgd_d (fun d => zo_l d rfl rfl trivial) <|
  zgd_d (fun d => zo_l d rfl rfl (by show ((47 : Nat) : Int) + (-35) = ((12 : Nat) : Int); decide)) <|
  zgd_d (fun d => zo_l d rfl rfl trivial) <|
  zgd_d (fun d => zo_h d rfl ⟨rfl, Nat.le_of_ble_eq_true rfl, _, _, _, Or.inl ⟨Nat.le_of_ble_eq_true rfl, rfl⟩, Nat.le_of_ble_eq_true rfl, zw_1448⟩) <|
  zgd_d (fun d => zo_r d rfl) <|
  zgd_n)
  (z_fn)
theorem zdd_177 : ∀ q ∈ zc_177, decode prog_9_method_31_code q.1 = Except.ok (q.2.1, q.2.2.1) := zdd_of (by decide +kernel)
theorem zk_177 (xs : List Int32) : z_okm (za_T xs) za_P za_M 177 := z_okm_of ⟨"LyndonBenchModel", "appends", "(I)I"⟩ prog_9_method_31_code zc_177 _ rfl rfl rfl rfl
  (zgd_x zdd_177 <|
  zgd_d (fun d => zo_l d rfl rfl trivial) <|
  zgd_d (fun d => zo_v d rfl ⟨rfl, zd_156, zw_1276, Nat.le_of_ble_eq_true rfl, ⟨_, Or.inl ⟨Nat.le_of_ble_eq_true rfl, rfl⟩, rfl⟩, zw_1274, zw_52⟩) <|
  zgd_d (fun d => zo_l d rfl rfl trivial) <|
  zgd_d (fun d => zo_l d rfl rfl trivial) <|
  zgd_d (fun d => zo_v d rfl ⟨rfl, zd_157, zw_1432, Nat.le_of_ble_eq_true rfl, ⟨_, Or.inl ⟨Nat.le_of_ble_eq_true rfl, rfl⟩, rfl⟩, zw_1430, zw_91⟩) <|
  zgd_d (fun d => zo_l d rfl rfl trivial) <|
  zgd_d (fun d => zo_v d rfl ⟨rfl, zd_176, zw_1268, Nat.le_of_ble_eq_true rfl, ⟨_, Or.inl ⟨Nat.le_of_ble_eq_true rfl, rfl⟩, rfl⟩, zw_1266, zw_50⟩) <|
  zgd_d (fun d => zo_l d rfl rfl trivial) <|
  zgd_d (fun d => zo_l d rfl rfl trivial) <|
  zgd_d (fun d => zo_v d rfl ⟨rfl, zd_161, zw_1288, Nat.le_of_ble_eq_true rfl, ⟨_, Or.inl ⟨Nat.le_of_ble_eq_true rfl, rfl⟩, rfl⟩, zw_1286, zw_55⟩) <|
  zgd_d (fun d => zo_r d rfl) <|
  zgd_n)
  (z_fn)
theorem zdd_178 : ∀ q ∈ zc_178, decode prog_9_method_32_code q.1 = Except.ok (q.2.1, q.2.2.1) := zdd_of (by decide +kernel)
theorem zk_178 (xs : List Int32) : z_okm (za_T xs) za_P za_M 178 := z_okm_of ⟨"LyndonBenchModel", "drops", "(I)I"⟩ prog_9_method_32_code zc_178 _ rfl rfl rfl rfl
  (zgd_x zdd_178 <|
  zgd_d (fun d => zo_l d rfl rfl trivial) <|
  zgd_d (fun d => zo_v d rfl ⟨rfl, zd_156, zw_1276, Nat.le_of_ble_eq_true rfl, ⟨_, Or.inl ⟨Nat.le_of_ble_eq_true rfl, rfl⟩, rfl⟩, zw_1274, zw_52⟩) <|
  zgd_d (fun d => zo_l d rfl rfl trivial) <|
  zgd_d (fun d => zo_l d rfl rfl trivial) <|
  zgd_d (fun d => zo_h d rfl ⟨rfl, Nat.le_of_ble_eq_true rfl, _, _, _, Or.inl ⟨Nat.le_of_ble_eq_true rfl, rfl⟩, Nat.le_of_ble_eq_true rfl, zw_1448⟩) <|
  zgd_d (fun d => zo_l d rfl rfl trivial) <|
  zgd_d (fun d => zo_l d rfl rfl trivial) <|
  zgd_d (fun d => zo_h d rfl ⟨rfl, Nat.le_of_ble_eq_true rfl, _, _, _, rfl, Nat.le_of_ble_eq_true rfl, zw_1448, Or.inl rfl⟩) <|
  zgd_d (fun d => zo_l d rfl rfl trivial) <|
  zgd_d (fun d => zo_v d rfl ⟨rfl, zd_176, zw_1268, Nat.le_of_ble_eq_true rfl, ⟨_, Or.inl ⟨Nat.le_of_ble_eq_true rfl, rfl⟩, rfl⟩, zw_1266, zw_50⟩) <|
  zgd_d (fun d => zo_l d rfl rfl trivial) <|
  zgd_d (fun d => zo_l d rfl rfl trivial) <|
  zgd_d (fun d => zo_v d rfl ⟨rfl, zd_161, zw_1288, Nat.le_of_ble_eq_true rfl, ⟨_, Or.inl ⟨Nat.le_of_ble_eq_true rfl, rfl⟩, rfl⟩, zw_1286, zw_55⟩) <|
  zgd_d (fun d => zo_r d rfl) <|
  zgd_n)
  (z_fn)
theorem zdd_179 : ∀ q ∈ zc_179, decode prog_9_method_33_code q.1 = Except.ok (q.2.1, q.2.2.1) := zdd_of (by decide +kernel)
theorem zk_179 (xs : List Int32) : z_okm (za_T xs) za_P za_M 179 := z_okm_of ⟨"LyndonBenchModel", "parts", "(II)I"⟩ prog_9_method_33_code zc_179 _ rfl rfl rfl rfl
  (zgd_x zdd_179 <|
  zgd_d (fun d => zo_l d rfl rfl trivial) <|
  zgd_d (fun d => zo_l d rfl rfl trivial) <|
  zgd_d (fun d => zo_l d rfl rfl trivial) <|
  zgd_d (fun d => zo_l d rfl rfl trivial) <|
  zgd_d (fun d => zo_h d rfl ⟨rfl, Nat.le_of_ble_eq_true rfl, _, _, _, rfl, Nat.le_of_ble_eq_true rfl, zw_1448, Or.inl rfl⟩) <|
  zgd_d (fun d => zo_l d rfl rfl trivial) <|
  zgd_d (fun d => zo_l d rfl rfl trivial) <|
  zgd_d (fun d => zo_l d rfl rfl trivial) <|
  zgd_d (fun d => zo_l d rfl rfl trivial) <|
  zgd_d (fun d => zo_l d rfl rfl (by show ((11 : Nat) : Int) + (25) = ((36 : Nat) : Int); decide)) <|
  zgd_d (fun d => zo_l d rfl rfl trivial) <|
  zgd_d (fun d => zo_h d rfl ⟨rfl, Nat.le_of_ble_eq_true rfl, _, _, _, Or.inl ⟨Nat.le_of_ble_eq_true rfl, rfl⟩, Nat.le_of_ble_eq_true rfl, zw_1442⟩) <|
  zgd_d (fun d => zo_l d rfl rfl trivial) <|
  zgd_d (fun d => zo_l d rfl rfl trivial) <|
  zgd_d (fun d => zo_l d rfl rfl trivial) <|
  zgd_d (fun d => zo_l d rfl rfl trivial) <|
  zgd_d (fun d => zo_h d rfl ⟨rfl, Nat.le_of_ble_eq_true rfl, _, _, _, Or.inl ⟨Nat.le_of_ble_eq_true rfl, rfl⟩, Nat.le_of_ble_eq_true rfl, zw_1434⟩) <|
  zgd_d (fun d => zo_l d rfl rfl trivial) <|
  zgd_d (fun d => zo_l d rfl rfl trivial) <|
  zgd_d (fun d => zo_l d rfl rfl trivial) <|
  zgd_d (fun d => zo_h d rfl rfl) <|
  zgd_d (fun d => zo_h d rfl rfl) <|
  zgd_d (fun d => zo_l d rfl rfl trivial) <|
  zgd_d (fun d => zo_l d rfl rfl (by show ((33 : Nat) : Int) + (-24) = ((9 : Nat) : Int); decide)) <|
  zgd_d (fun d => zo_l d rfl rfl trivial) <|
  zgd_d (fun d => zo_v d rfl ⟨rfl, zd_176, zw_1268, Nat.le_of_ble_eq_true rfl, ⟨_, Or.inl ⟨Nat.le_of_ble_eq_true rfl, rfl⟩, rfl⟩, zw_1266, zw_50⟩) <|
  zgd_d (fun d => zo_r d rfl) <|
  zgd_n)
  (z_fn)
theorem zdd_180 : ∀ q ∈ zc_180, decode prog_9_method_34_code q.1 = Except.ok (q.2.1, q.2.2.1) := zdd_of (by decide +kernel)
theorem zk_180 (xs : List Int32) : z_okm (za_T xs) za_P za_M 180 := z_okm_of ⟨"LyndonBenchModel", "turns", "(I)I"⟩ prog_9_method_34_code zc_180 _ rfl rfl rfl rfl
  (zgd_x zdd_180 <|
  zgd_d (fun d => zo_l d rfl rfl trivial) <|
  zgd_d (fun d => zo_h d rfl ⟨rfl, Nat.le_of_ble_eq_true rfl, _, _, _, Or.inl ⟨Nat.le_of_ble_eq_true rfl, rfl⟩, Nat.le_of_ble_eq_true rfl, zw_1434⟩) <|
  zgd_d (fun d => zo_l d rfl rfl trivial) <|
  zgd_d (fun d => zo_h d rfl rfl) <|
  zgd_d (fun d => zo_l d rfl rfl (by show ((6 : Nat) : Int) + (13) = ((19 : Nat) : Int); decide)) <|
  zgd_d (fun d => zo_l d rfl rfl trivial) <|
  zgd_d (fun d => zo_l d rfl rfl trivial) <|
  zgd_d (fun d => zo_v d rfl ⟨rfl, zd_158, zw_1316, Nat.le_of_ble_eq_true rfl, ⟨_, Or.inl ⟨Nat.le_of_ble_eq_true rfl, rfl⟩, rfl⟩, zw_1314, zw_62⟩) <|
  zgd_d (fun d => zo_l d rfl rfl trivial) <|
  zgd_d (fun d => zo_v d rfl ⟨rfl, zd_176, zw_1268, Nat.le_of_ble_eq_true rfl, ⟨_, Or.inl ⟨Nat.le_of_ble_eq_true rfl, rfl⟩, rfl⟩, zw_1266, zw_50⟩) <|
  zgd_d (fun d => zo_l d rfl rfl trivial) <|
  zgd_d (fun d => zo_l d rfl rfl trivial) <|
  zgd_d (fun d => zo_v d rfl ⟨rfl, zd_161, zw_1288, Nat.le_of_ble_eq_true rfl, ⟨_, Or.inl ⟨Nat.le_of_ble_eq_true rfl, rfl⟩, rfl⟩, zw_1286, zw_55⟩) <|
  zgd_d (fun d => zo_r d rfl) <|
  zgd_n)
  (z_fn)
theorem zdd_181 : ∀ q ∈ zc_181, decode prog_9_method_35_code q.1 = Except.ok (q.2.1, q.2.2.1) := zdd_of (by decide +kernel)
theorem zk_181 (xs : List Int32) : z_okm (za_T xs) za_P za_M 181 := z_okm_of ⟨"LyndonBenchModel", "mirrors", "()I"⟩ prog_9_method_35_code zc_181 _ rfl rfl rfl rfl
  (zgd_x zdd_181 <|
  zgd_d (fun d => zo_l d rfl rfl trivial) <|
  zgd_d (fun d => zo_l d rfl rfl trivial) <|
  zgd_d (fun d => zo_h d rfl ⟨rfl, Nat.le_of_ble_eq_true rfl, _, _, _, Or.inl ⟨Nat.le_of_ble_eq_true rfl, rfl⟩, Nat.le_of_ble_eq_true rfl, zw_1434⟩) <|
  zgd_d (fun d => zo_l d rfl rfl trivial) <|
  zgd_d (fun d => zo_h d rfl rfl) <|
  zgd_d (fun d => zo_h d rfl ⟨rfl, Nat.le_of_ble_eq_true rfl, _, _, _, rfl, Nat.le_of_ble_eq_true rfl, zw_1448, Or.inl rfl⟩) <|
  zgd_d (fun d => zo_l d rfl rfl trivial) <|
  zgd_d (fun d => zo_l d rfl rfl trivial) <|
  zgd_d (fun d => zo_l d rfl rfl trivial) <|
  zgd_d (fun d => zo_l d rfl rfl trivial) <|
  zgd_d (fun d => zo_h d rfl ⟨rfl, Nat.le_of_ble_eq_true rfl, _, _, _, Or.inl ⟨Nat.le_of_ble_eq_true rfl, rfl⟩, Nat.le_of_ble_eq_true rfl, zw_1448⟩) <|
  zgd_d (fun d => zo_l d rfl rfl (by show ((17 : Nat) : Int) + (30) = ((47 : Nat) : Int); decide)) <|
  zgd_d (fun d => zo_l d rfl rfl trivial) <|
  zgd_d (fun d => zo_h d rfl ⟨rfl, Nat.le_of_ble_eq_true rfl, _, _, _, Or.inl ⟨Nat.le_of_ble_eq_true rfl, rfl⟩, Nat.le_of_ble_eq_true rfl, zw_1442⟩) <|
  zgd_d (fun d => zo_l d rfl rfl trivial) <|
  zgd_d (fun d => zo_l d rfl rfl trivial) <|
  zgd_d (fun d => zo_h d rfl ⟨rfl, Nat.le_of_ble_eq_true rfl, _, _, _, Or.inl ⟨Nat.le_of_ble_eq_true rfl, rfl⟩, Nat.le_of_ble_eq_true rfl, zw_1434⟩) <|
  zgd_d (fun d => zo_l d rfl rfl trivial) <|
  zgd_d (fun d => zo_l d rfl rfl trivial) <|
  zgd_d (fun d => zo_h d rfl ⟨rfl, Nat.le_of_ble_eq_true rfl, _, _, _, Or.inl ⟨Nat.le_of_ble_eq_true rfl, rfl⟩, Nat.le_of_ble_eq_true rfl, zw_1448⟩) <|
  zgd_d (fun d => zo_l d rfl rfl trivial) <|
  zgd_d (fun d => zo_l d rfl rfl trivial) <|
  zgd_d (fun d => zo_l d rfl rfl trivial) <|
  zgd_d (fun d => zo_l d rfl rfl trivial) <|
  zgd_d (fun d => zo_l d rfl rfl trivial) <|
  zgd_d (fun d => zo_h d rfl rfl) <|
  zgd_d (fun d => zo_h d rfl rfl) <|
  zgd_d (fun d => zo_l d rfl rfl trivial) <|
  zgd_d (fun d => zo_l d rfl rfl (by show ((44 : Nat) : Int) + (-32) = ((12 : Nat) : Int); decide)) <|
  zgd_d (fun d => zo_l d rfl rfl trivial) <|
  zgd_d (fun d => zo_v d rfl ⟨rfl, zd_176, zw_1268, Nat.le_of_ble_eq_true rfl, ⟨_, Or.inl ⟨Nat.le_of_ble_eq_true rfl, rfl⟩, rfl⟩, zw_1266, zw_50⟩) <|
  zgd_d (fun d => zo_l d rfl rfl trivial) <|
  zgd_d (fun d => zo_l d rfl rfl trivial) <|
  zgd_d (fun d => zo_v d rfl ⟨rfl, zd_161, zw_1288, Nat.le_of_ble_eq_true rfl, ⟨_, Or.inl ⟨Nat.le_of_ble_eq_true rfl, rfl⟩, rfl⟩, zw_1286, zw_55⟩) <|
  zgd_d (fun d => zo_r d rfl) <|
  zgd_n)
  (z_fn)
theorem zdd_182 : ∀ q ∈ zc_182, decode prog_9_method_36_code q.1 = Except.ok (q.2.1, q.2.2.1) := zdd_of (by decide +kernel)
theorem zk_182 (xs : List Int32) : z_okm (za_T xs) za_P za_M 182 := z_okm_of ⟨"LyndonBenchModel", "turnsToLeast", "()I"⟩ prog_9_method_36_code zc_182 _ rfl rfl rfl rfl
  (zgd_x zdd_182 <|
  zgd_d (fun d => zo_l d rfl rfl trivial) <|
  zgd_d (fun d => zo_v d rfl ⟨rfl, zd_169, zw_1336, Nat.le_of_ble_eq_true rfl, ⟨_, Or.inl ⟨Nat.le_of_ble_eq_true rfl, rfl⟩, rfl⟩, zw_1334, zw_67⟩) <|
  zgd_d (fun d => zo_l d rfl rfl trivial) <|
  zgd_d (fun d => zo_l d rfl rfl trivial) <|
  zgd_d (fun d => zo_l d rfl rfl trivial) <|
  zgd_d (fun d => zo_v d rfl ⟨rfl, zd_180, zw_1312, Nat.le_of_ble_eq_true rfl, ⟨_, Or.inl ⟨Nat.le_of_ble_eq_true rfl, rfl⟩, rfl⟩, zw_1310, zw_61⟩) <|
  zgd_d (fun d => zo_l d rfl rfl trivial) <|
  zgd_d (fun d => zo_l d rfl rfl trivial) <|
  zgd_d (fun d => zo_r d rfl) <|
  zgd_n)
  (z_fn)
theorem zdd_183_0 : ∀ q ∈ zc_183_0, decode prog_9_method_37_code q.1 = Except.ok (q.2.1, q.2.2.1) := zdd_of (by decide +kernel)
theorem zk_183_0 (xs : List Int32) {l : List zE} (h : ∀ q ∈ l, z_oke' (za_T xs) za_P za_M ⟨"LyndonBenchModel", "nexts", "(I)V"⟩ prog_9_method_37_code q) : ∀ q ∈ zc_183_0 ++ l, z_oke' (za_T xs) za_P za_M ⟨"LyndonBenchModel", "nexts", "(I)V"⟩ prog_9_method_37_code q :=
  zgd_y zdd_183_0 <|
  zgd_e (fun d => zo_l d rfl rfl trivial) <|
  zgd_e (fun d => zo_l d rfl rfl trivial) <|
  zgd_e (fun d => zo_h d rfl ⟨rfl, Nat.le_of_ble_eq_true rfl, _, _, _, rfl, Nat.le_of_ble_eq_true rfl, zw_1448, Or.inl rfl⟩) <|
  zgd_e (fun d => zo_l d rfl rfl trivial) <|
  zgd_e (fun d => zo_l d rfl rfl trivial) <|
  zgd_e (fun d => zo_l d rfl rfl trivial) <|
  zgd_e (fun d => zo_l d rfl rfl trivial) <|
  zgd_e (fun d => zo_l d rfl rfl (by show ((9 : Nat) : Int) + (30) = ((39 : Nat) : Int); decide)) <|
  zgd_e (fun d => zo_l d rfl rfl trivial) <|
  zgd_e (fun d => zo_h d rfl ⟨rfl, Nat.le_of_ble_eq_true rfl, _, _, _, Or.inl ⟨Nat.le_of_ble_eq_true rfl, rfl⟩, Nat.le_of_ble_eq_true rfl, zw_1442⟩) <|
  zgd_e (fun d => zo_l d rfl rfl trivial) <|
  zgd_e (fun d => zo_l d rfl rfl trivial) <|
  zgd_e (fun d => zo_h d rfl ⟨rfl, Nat.le_of_ble_eq_true rfl, _, _, _, Or.inl ⟨Nat.le_of_ble_eq_true rfl, rfl⟩, Nat.le_of_ble_eq_true rfl, zw_1434⟩) <|
  zgd_e (fun d => zo_l d rfl rfl trivial) <|
  zgd_e (fun d => zo_l d rfl rfl trivial) <|
  zgd_e (fun d => zo_l d rfl rfl trivial) <|
  zgd_e (fun d => zo_h d rfl ⟨rfl, Nat.le_of_ble_eq_true rfl, _, _, _, Or.inl ⟨Nat.le_of_ble_eq_true rfl, rfl⟩, Nat.le_of_ble_eq_true rfl, zw_1434⟩) <|
  zgd_e (fun d => zo_l d rfl rfl trivial) <|
  zgd_e (fun d => zo_h d rfl rfl) <|
  zgd_e (fun d => zo_l d rfl rfl trivial) <|
  zgd_e (fun d => zo_l d rfl rfl trivial) <|
  zgd_e (fun d => zo_h d rfl rfl) <|
  zgd_e (fun d => zo_h d rfl rfl) <|
  zgd_e (fun d => zo_l d rfl rfl trivial) <|
  zgd_e (fun d => zo_l d rfl rfl (by show ((36 : Nat) : Int) + (-29) = ((7 : Nat) : Int); decide)) <|
  zgd_e (fun d => zo_l d rfl rfl trivial) <|
  zgd_e (fun d => zo_h d rfl ⟨rfl, Nat.le_of_ble_eq_true rfl, _, _, _, Or.inl ⟨Nat.le_of_ble_eq_true rfl, rfl⟩, Nat.le_of_ble_eq_true rfl, zw_1448⟩) <|
  zgd_e (fun d => zo_l d rfl rfl (by show ((43 : Nat) : Int) + (38) = ((81 : Nat) : Int); decide)) <|
  zgd_e (fun d => zo_l d rfl rfl trivial) <|
  zgd_e (fun d => zo_h d rfl ⟨rfl, Nat.le_of_ble_eq_true rfl, _, _, _, Or.inl ⟨Nat.le_of_ble_eq_true rfl, rfl⟩, Nat.le_of_ble_eq_true rfl, zw_1442⟩) <|
  zgd_e (fun d => zo_l d rfl rfl trivial) <|
  zgd_e (fun d => zo_h d rfl ⟨rfl, Nat.le_of_ble_eq_true rfl, _, _, _, Or.inl ⟨Nat.le_of_ble_eq_true rfl, rfl⟩, Nat.le_of_ble_eq_true rfl, zw_1448⟩) <|
  zgd_e (fun d => zo_l d rfl rfl trivial) <|
  zgd_e (fun d => zo_l d rfl rfl trivial) <|
  zgd_e (fun d => zo_h d rfl rfl) <|
  zgd_e (fun d => zo_l d rfl rfl trivial) <|
  zgd_e (fun d => zo_h d rfl ⟨rfl, Nat.le_of_ble_eq_true rfl, _, _, _, Or.inl ⟨Nat.le_of_ble_eq_true rfl, rfl⟩, Nat.le_of_ble_eq_true rfl, zw_1434⟩) <|
  zgd_e (fun d => zo_l d rfl rfl trivial) <|
  zgd_e (fun d => zo_h d rfl rfl) <|
  zgd_e (fun d => zo_l d rfl rfl trivial) <|
  zgd_m h
theorem zdd_183_1 : ∀ q ∈ zc_183_1, decode prog_9_method_37_code q.1 = Except.ok (q.2.1, q.2.2.1) := zdd_of (by decide +kernel)
theorem zk_183_1 (xs : List Int32) {l : List zE} (h : ∀ q ∈ l, z_oke' (za_T xs) za_P za_M ⟨"LyndonBenchModel", "nexts", "(I)V"⟩ prog_9_method_37_code q) : ∀ q ∈ zc_183_1 ++ l, z_oke' (za_T xs) za_P za_M ⟨"LyndonBenchModel", "nexts", "(I)V"⟩ prog_9_method_37_code q :=
  zgd_y zdd_183_1 <|
  zgd_e (fun d => zo_l d rfl rfl trivial) <|
  zgd_e (fun d => zo_l d rfl rfl (by show ((65 : Nat) : Int) + (16) = ((81 : Nat) : Int); decide)) <|
  zgd_e (fun d => zo_l d rfl rfl trivial) <|
  zgd_e (fun d => zo_l d rfl rfl trivial) <|
  zgd_e (fun d => zo_h d rfl ⟨rfl, Nat.le_of_ble_eq_true rfl, _, _, _, Or.inl ⟨Nat.le_of_ble_eq_true rfl, rfl⟩, Nat.le_of_ble_eq_true rfl, zw_1448⟩) <|
  zgd_e (fun d => zo_l d rfl rfl trivial) <|
  zgd_e (fun d => zo_l d rfl rfl trivial) <|
  zgd_e (fun d => zo_h d rfl ⟨rfl, Nat.le_of_ble_eq_true rfl, _, _, _, rfl, Nat.le_of_ble_eq_true rfl, zw_1448, Or.inl rfl⟩) <|
  zgd_e (fun d => zo_l d rfl rfl (by show ((78 : Nat) : Int) + (-39) = ((39 : Nat) : Int); decide)) <|
  zgd_e (fun d => zo_l d rfl rfl trivial) <|
  zgd_e (fun d => zo_h d rfl ⟨rfl, Nat.le_of_ble_eq_true rfl, _, _, _, Or.inl ⟨Nat.le_of_ble_eq_true rfl, rfl⟩, Nat.le_of_ble_eq_true rfl, zw_1448⟩) <|
  zgd_e (fun d => zo_l d rfl rfl (by show ((85 : Nat) : Int) + (18) = ((103 : Nat) : Int); decide)) <|
  zgd_e (fun d => zo_l d rfl rfl trivial) <|
  zgd_e (fun d => zo_h d rfl ⟨rfl, Nat.le_of_ble_eq_true rfl, _, _, _, Or.inl ⟨Nat.le_of_ble_eq_true rfl, rfl⟩, Nat.le_of_ble_eq_true rfl, zw_1442⟩) <|
  zgd_e (fun d => zo_l d rfl rfl trivial) <|
  zgd_e (fun d => zo_h d rfl ⟨rfl, Nat.le_of_ble_eq_true rfl, _, _, _, Or.inl ⟨Nat.le_of_ble_eq_true rfl, rfl⟩, Nat.le_of_ble_eq_true rfl, zw_1448⟩) <|
  zgd_e (fun d => zo_l d rfl rfl trivial) <|
  zgd_e (fun d => zo_l d rfl rfl trivial) <|
  zgd_e (fun d => zo_l d rfl rfl trivial) <|
  zgd_e (fun d => zo_h d rfl rfl) <|
  zgd_e (fun d => zo_l d rfl rfl trivial) <|
  zgd_e (fun d => zo_l d rfl rfl trivial) <|
  zgd_e (fun d => zo_h d rfl rfl) <|
  zgd_e (fun d => zo_e d) <|
  zgd_m h
theorem zk_183 (xs : List Int32) : z_okm (za_T xs) za_P za_M 183 := z_okm_of ⟨"LyndonBenchModel", "nexts", "(I)V"⟩ prog_9_method_37_code zc_183 _ rfl rfl rfl rfl
  (zk_183_0 xs <|
  zk_183_1 xs <|
  z_fn)
  (z_fn)
