/-! The check of the tables, methods 121 to 182. -/
theorem zk_121 (xs : List Int32) : z_okm (za_T xs) za_P za_M 121 := z_okm_of ⟨"LyndonBench", "leastSuffix", "()I"⟩ prog_1_method_46_code zc_121 _ rfl rfl rfl rfl
  (z_fc (zo_l (by decide +kernel) rfl rfl trivial) <|
  z_fc (zo_h (by decide +kernel) rfl ⟨rfl, Nat.le_of_ble_eq_true rfl, _, _, _, Or.inl ⟨Nat.le_of_ble_eq_true rfl, rfl⟩, Nat.le_of_ble_eq_true rfl, zw_341⟩) <|
  z_fc (zo_h (by decide +kernel) rfl ⟨rfl, Nat.le_of_ble_eq_true rfl, _, _, _, Or.inl ⟨Nat.le_of_ble_eq_true rfl, rfl⟩, Nat.le_of_ble_eq_true rfl, zw_177⟩) <|
  z_fc (zo_l (by decide +kernel) rfl rfl trivial) <|
  z_fc (zo_v (by decide +kernel) rfl ⟨rfl, zd_74, zw_730, Nat.le_of_ble_eq_true rfl, ⟨_, Or.inl ⟨Nat.le_of_ble_eq_true rfl, rfl⟩, rfl⟩, zw_729, zw_731⟩) <|
  z_fc (zo_r (by decide +kernel) rfl) <|
  z_fn)
  (z_fn)
theorem zk_122 (xs : List Int32) : z_okm (za_T xs) za_P za_M 122 := z_okm_of ⟨"LyndonBench", "greatestSuffix", "()I"⟩ prog_1_method_47_code zc_122 _ rfl rfl rfl rfl
  (z_fc (zo_l (by decide +kernel) rfl rfl trivial) <|
  z_fc (zo_h (by decide +kernel) rfl ⟨rfl, Nat.le_of_ble_eq_true rfl, _, _, _, Or.inl ⟨Nat.le_of_ble_eq_true rfl, rfl⟩, Nat.le_of_ble_eq_true rfl, zw_341⟩) <|
  z_fc (zo_h (by decide +kernel) rfl ⟨rfl, Nat.le_of_ble_eq_true rfl, _, _, _, Or.inl ⟨Nat.le_of_ble_eq_true rfl, rfl⟩, Nat.le_of_ble_eq_true rfl, zw_177⟩) <|
  z_fc (zo_l (by decide +kernel) rfl rfl trivial) <|
  z_fc (zo_v (by decide +kernel) rfl ⟨rfl, zd_74, zw_730, Nat.le_of_ble_eq_true rfl, ⟨_, Or.inl ⟨Nat.le_of_ble_eq_true rfl, rfl⟩, rfl⟩, zw_729, zw_731⟩) <|
  z_fc (zo_r (by decide +kernel) rfl) <|
  z_fn)
  (z_fn)
theorem zk_123 (xs : List Int32) : z_okm (za_T xs) za_P za_M 123 := z_okm_of ⟨"LyndonBench", "lyndonWords", "(I)J"⟩ prog_1_method_48_code zc_123 _ rfl rfl rfl rfl
  (z_fc (zo_l (by decide +kernel) rfl rfl trivial) <|
  z_fc (zo_l (by decide +kernel) rfl rfl trivial) <|
  z_fc (zo_v (by decide +kernel) rfl ⟨rfl, zd_139, zw_1133, Nat.le_of_ble_eq_true rfl, ⟨_, Or.inl ⟨Nat.le_of_ble_eq_true rfl, rfl⟩, rfl⟩, zw_1131, zw_31⟩) <|
  z_fc (zo_l (by decide +kernel) rfl rfl trivial) <|
  z_fc (zo_h (by decide +kernel) rfl ⟨rfl, Nat.le_of_ble_eq_true rfl, _, _, _, Or.inl ⟨Nat.le_of_ble_eq_true rfl, rfl⟩, Nat.le_of_ble_eq_true rfl, zw_341⟩) <|
  z_fc (zo_h (by decide +kernel) rfl ⟨rfl, Nat.le_of_ble_eq_true rfl, _, _, _, Or.inl ⟨Nat.le_of_ble_eq_true rfl, rfl⟩, Nat.le_of_ble_eq_true rfl, zw_175⟩) <|
  z_fc (zo_l (by decide +kernel) rfl rfl trivial) <|
  z_fc (zo_h (by decide +kernel) rfl ⟨rfl, _, rfl, zw_760⟩) <|
  z_fc (zo_s (by decide +kernel) rfl ⟨zd_142, zw_762, zw_763⟩) <|
  z_fc (zo_r (by decide +kernel) rfl) <|
  z_fn)
  (z_fn)
theorem zk_124 (xs : List Int32) : z_okm (za_T xs) za_P za_M 124 := z_okm_of ⟨"LyndonBench", "necklaces", "(I)J"⟩ prog_1_method_49_code zc_124 _ rfl rfl rfl rfl
  (z_fc (zo_l (by decide +kernel) rfl rfl trivial) <|
  z_fc (zo_l (by decide +kernel) rfl rfl trivial) <|
  z_fc (zo_v (by decide +kernel) rfl ⟨rfl, zd_139, zw_1133, Nat.le_of_ble_eq_true rfl, ⟨_, Or.inl ⟨Nat.le_of_ble_eq_true rfl, rfl⟩, rfl⟩, zw_1131, zw_31⟩) <|
  z_fc (zo_l (by decide +kernel) rfl rfl trivial) <|
  z_fc (zo_h (by decide +kernel) rfl ⟨rfl, Nat.le_of_ble_eq_true rfl, _, _, _, Or.inl ⟨Nat.le_of_ble_eq_true rfl, rfl⟩, Nat.le_of_ble_eq_true rfl, zw_341⟩) <|
  z_fc (zo_h (by decide +kernel) rfl ⟨rfl, Nat.le_of_ble_eq_true rfl, _, _, _, Or.inl ⟨Nat.le_of_ble_eq_true rfl, rfl⟩, Nat.le_of_ble_eq_true rfl, zw_175⟩) <|
  z_fc (zo_l (by decide +kernel) rfl rfl trivial) <|
  z_fc (zo_h (by decide +kernel) rfl ⟨rfl, _, rfl, zw_768⟩) <|
  z_fc (zo_s (by decide +kernel) rfl ⟨zd_142, zw_762, zw_763⟩) <|
  z_fc (zo_r (by decide +kernel) rfl) <|
  z_fn)
  (z_fn)
theorem zk_125 (xs : List Int32) : z_okm (za_T xs) za_P za_M 125 := z_okm_of ⟨"LyndonBench", "bruijnLetter", "(II)I"⟩ prog_1_method_50_code zc_125 _ rfl rfl rfl rfl
  (z_fc (zo_l (by decide +kernel) rfl rfl trivial) <|
  z_fc (zo_l (by decide +kernel) rfl rfl trivial) <|
  z_fc (zo_l (by decide +kernel) rfl rfl (by show ((2 : Nat) : Int) + (23) = ((25 : Nat) : Int); decide)) <|
  z_fc (zo_l (by decide +kernel) rfl rfl trivial) <|
  z_fc (zo_l (by decide +kernel) rfl rfl trivial) <|
  z_fc (zo_l (by decide +kernel) rfl rfl (by show ((8 : Nat) : Int) + (17) = ((25 : Nat) : Int); decide)) <|
  z_fc (zo_l (by decide +kernel) rfl rfl trivial) <|
  z_fc (zo_h (by decide +kernel) rfl ⟨rfl, Nat.le_of_ble_eq_true rfl, _, _, _, Or.inl ⟨Nat.le_of_ble_eq_true rfl, rfl⟩, Nat.le_of_ble_eq_true rfl, zw_341⟩) <|
  z_fc (zo_h (by decide +kernel) rfl ⟨rfl, Nat.le_of_ble_eq_true rfl, _, _, _, Or.inl ⟨Nat.le_of_ble_eq_true rfl, rfl⟩, Nat.le_of_ble_eq_true rfl, zw_175⟩) <|
  z_fc (zo_l (by decide +kernel) rfl rfl trivial) <|
  z_fc (zo_s (by decide +kernel) rfl ⟨zd_141, zw_1112, zw_1113⟩) <|
  z_fc (zo_l (by decide +kernel) rfl rfl (by show ((22 : Nat) : Int) + (14) = ((36 : Nat) : Int); decide)) <|
  z_fc (zo_t (by decide +kernel) rfl ⟨["java/lang/RuntimeException", "java/lang/Exception"], 279, 81, 14, _, none, by decide +kernel, by decide +kernel, by decide, zw_804, zw_132, rfl, rfl, rfl, zt_0a, zt_0b, zt_0c_77, trivial, by decide +kernel, by decide +kernel, Or.inr ⟨rfl, by decide +kernel, by decide +kernel, by decide +kernel⟩⟩) <|
  z_fc (zo_l (by decide +kernel) rfl rfl trivial) <|
  z_fc (zo_l (by decide +kernel) rfl rfl (by show ((37 : Nat) : Int) + (7) = ((44 : Nat) : Int); decide)) <|
  z_fc (zo_l (by decide +kernel) rfl rfl trivial) <|
  z_fc (zo_l (by decide +kernel) rfl rfl (by show ((41 : Nat) : Int) + (9) = ((50 : Nat) : Int); decide)) <|
  z_fc (zo_l (by decide +kernel) rfl rfl trivial) <|
  z_fc (zo_l (by decide +kernel) rfl rfl trivial) <|
  z_fc (zo_l (by decide +kernel) rfl rfl trivial) <|
  z_fc (zo_v (by decide +kernel) rfl ⟨rfl, zd_146, zw_1153, Nat.le_of_ble_eq_true rfl, ⟨_, Or.inl ⟨Nat.le_of_ble_eq_true rfl, rfl⟩, rfl⟩, zw_1151, zw_32⟩) <|
  z_fc (zo_l (by decide +kernel) rfl rfl trivial) <|
  z_fc (zo_l (by decide +kernel) rfl rfl trivial) <|
  z_fc (zo_l (by decide +kernel) rfl rfl trivial) <|
  z_fc (zo_l (by decide +kernel) rfl rfl (by show ((53 : Nat) : Int) + (14) = ((67 : Nat) : Int); decide)) <|
  z_fc (zo_t (by decide +kernel) rfl ⟨["java/lang/RuntimeException", "java/lang/Exception"], 284, 196, 15, _, none, by decide +kernel, by decide +kernel, by decide, zw_993, zw_137, rfl, rfl, rfl, zt_4a, zt_4b, zt_4c_192, trivial, by decide +kernel, by decide +kernel, Or.inr ⟨rfl, by decide +kernel, by decide +kernel, by decide +kernel⟩⟩) <|
  z_fc (zo_l (by decide +kernel) rfl rfl trivial) <|
  z_fc (zo_r (by decide +kernel) rfl) <|
  z_fn)
  (z_fn)
theorem zk_126 (xs : List Int32) : z_okm (za_T xs) za_P za_M 126 := z_okm_of ⟨"LyndonBench", "keptCount", "()I"⟩ prog_1_method_51_code zc_126 _ rfl rfl rfl rfl
  (z_fc (zo_l (by decide +kernel) rfl rfl trivial) <|
  z_fc (zo_h (by decide +kernel) rfl ⟨rfl, Nat.le_of_ble_eq_true rfl, _, _, _, Or.inl ⟨Nat.le_of_ble_eq_true rfl, rfl⟩, Nat.le_of_ble_eq_true rfl, zw_341⟩) <|
  z_fc (zo_h (by decide +kernel) rfl ⟨rfl, Nat.le_of_ble_eq_true rfl, _, _, _, Or.inl ⟨Nat.le_of_ble_eq_true rfl, rfl⟩, Nat.le_of_ble_eq_true rfl, zw_181⟩) <|
  z_fc (zo_r (by decide +kernel) rfl) <|
  z_fn)
  (z_fn)
theorem zk_127 (xs : List Int32) : z_okm (za_T xs) za_P za_M 127 := z_okm_of ⟨"LyndonBench", "keptLength", "(I)I"⟩ prog_1_method_52_code zc_127 _ rfl rfl rfl rfl
  (z_fc (zo_l (by decide +kernel) rfl rfl trivial) <|
  z_fc (zo_h (by decide +kernel) rfl ⟨rfl, Nat.le_of_ble_eq_true rfl, _, _, _, Or.inl ⟨Nat.le_of_ble_eq_true rfl, rfl⟩, Nat.le_of_ble_eq_true rfl, zw_341⟩) <|
  z_fc (zo_l (by decide +kernel) rfl rfl trivial) <|
  z_fc (zo_v (by decide +kernel) rfl ⟨rfl, zd_34, zw_562, Nat.le_of_ble_eq_true rfl, ⟨_, Or.inl ⟨Nat.le_of_ble_eq_true rfl, rfl⟩, rfl⟩, zw_745, zw_563⟩) <|
  z_fc (zo_l (by decide +kernel) rfl rfl trivial) <|
  z_fc (zo_l (by decide +kernel) rfl rfl trivial) <|
  z_fc (zo_h (by decide +kernel) rfl ⟨rfl, by show ((10 : Nat) : Int) + (13) = ((23 : Nat) : Int); decide⟩) <|
  z_fc (zo_t (by decide +kernel) rfl ⟨["java/lang/RuntimeException", "java/lang/Exception"], 194, 196, 11, _, none, by decide +kernel, by decide +kernel, by decide, zw_993, zw_137, rfl, rfl, rfl, zt_4a, zt_4b, zt_4c_192, trivial, by decide +kernel, by decide +kernel, Or.inl ⟨by decide +kernel, by decide +kernel, by decide +kernel⟩⟩) <|
  z_fc (zo_l (by decide +kernel) rfl rfl trivial) <|
  z_fc (zo_h (by decide +kernel) rfl ⟨rfl, Nat.le_of_ble_eq_true rfl, _, _, _, Or.inl ⟨Nat.le_of_ble_eq_true rfl, rfl⟩, Nat.le_of_ble_eq_true rfl, zw_164⟩) <|
  z_fc (zo_r (by decide +kernel) rfl) <|
  z_fn)
  (z_fn)
theorem zk_128 (xs : List Int32) : z_okm (za_T xs) za_P za_M 128 := z_okm_of ⟨"LyndonBench", "keptLetter", "(II)I"⟩ prog_1_method_53_code zc_128 _ rfl rfl rfl rfl
  (z_fc (zo_l (by decide +kernel) rfl rfl trivial) <|
  z_fc (zo_h (by decide +kernel) rfl ⟨rfl, Nat.le_of_ble_eq_true rfl, _, _, _, Or.inl ⟨Nat.le_of_ble_eq_true rfl, rfl⟩, Nat.le_of_ble_eq_true rfl, zw_341⟩) <|
  z_fc (zo_l (by decide +kernel) rfl rfl trivial) <|
  z_fc (zo_v (by decide +kernel) rfl ⟨rfl, zd_34, zw_562, Nat.le_of_ble_eq_true rfl, ⟨_, Or.inl ⟨Nat.le_of_ble_eq_true rfl, rfl⟩, rfl⟩, zw_745, zw_563⟩) <|
  z_fc (zo_l (by decide +kernel) rfl rfl trivial) <|
  z_fc (zo_l (by decide +kernel) rfl rfl trivial) <|
  z_fc (zo_h (by decide +kernel) rfl ⟨rfl, by show ((10 : Nat) : Int) + (13) = ((23 : Nat) : Int); decide⟩) <|
  z_fc (zo_t (by decide +kernel) rfl ⟨["java/lang/RuntimeException", "java/lang/Exception"], 194, 196, 11, _, none, by decide +kernel, by decide +kernel, by decide, zw_993, zw_137, rfl, rfl, rfl, zt_4a, zt_4b, zt_4c_192, trivial, by decide +kernel, by decide +kernel, Or.inl ⟨by decide +kernel, by decide +kernel, by decide +kernel⟩⟩) <|
  z_fc (zo_l (by decide +kernel) rfl rfl trivial) <|
  z_fc (zo_l (by decide +kernel) rfl rfl trivial) <|
  z_fc (zo_v (by decide +kernel) rfl ⟨rfl, zd_43, zw_338, Nat.le_of_ble_eq_true rfl, ⟨_, Or.inl ⟨Nat.le_of_ble_eq_true rfl, rfl⟩, rfl⟩, zw_648, zw_339⟩) <|
  z_fc (zo_r (by decide +kernel) rfl) <|
  z_fn)
  (z_fn)
theorem zk_129 (xs : List Int32) : z_okm (za_T xs) za_P za_M 129 := z_okm_of ⟨"LyndonBench", "isShelfFalling", "()Z"⟩ prog_1_method_54_code zc_129 _ rfl rfl rfl rfl
  (z_fc (zo_l (by decide +kernel) rfl rfl trivial) <|
  z_fc (zo_l (by decide +kernel) rfl rfl trivial) <|
  z_fc (zo_l (by decide +kernel) rfl rfl trivial) <|
  z_fc (zo_l (by decide +kernel) rfl rfl trivial) <|
  z_fc (zo_h (by decide +kernel) rfl ⟨rfl, Nat.le_of_ble_eq_true rfl, _, _, _, Or.inl ⟨Nat.le_of_ble_eq_true rfl, rfl⟩, Nat.le_of_ble_eq_true rfl, zw_341⟩) <|
  z_fc (zo_h (by decide +kernel) rfl ⟨rfl, Nat.le_of_ble_eq_true rfl, _, _, _, Or.inl ⟨Nat.le_of_ble_eq_true rfl, rfl⟩, Nat.le_of_ble_eq_true rfl, zw_181⟩) <|
  z_fc (zo_l (by decide +kernel) rfl rfl (by show ((10 : Nat) : Int) + (57) = ((67 : Nat) : Int); decide)) <|
  z_fc (zo_l (by decide +kernel) rfl rfl trivial) <|
  z_fc (zo_h (by decide +kernel) rfl ⟨rfl, Nat.le_of_ble_eq_true rfl, _, _, _, Or.inl ⟨Nat.le_of_ble_eq_true rfl, rfl⟩, Nat.le_of_ble_eq_true rfl, zw_341⟩) <|
  z_fc (zo_l (by decide +kernel) rfl rfl trivial) <|
  z_fc (zo_v (by decide +kernel) rfl ⟨rfl, zd_34, zw_562, Nat.le_of_ble_eq_true rfl, ⟨_, Or.inl ⟨Nat.le_of_ble_eq_true rfl, rfl⟩, rfl⟩, zw_745, zw_563⟩) <|
  z_fc (zo_l (by decide +kernel) rfl rfl trivial) <|
  z_fc (zo_l (by decide +kernel) rfl rfl trivial) <|
  z_fc (zo_h (by decide +kernel) rfl ⟨rfl, Nat.le_of_ble_eq_true rfl, _, _, _, Or.inl ⟨Nat.le_of_ble_eq_true rfl, rfl⟩, Nat.le_of_ble_eq_true rfl, zw_341⟩) <|
  z_fc (zo_l (by decide +kernel) rfl rfl trivial) <|
  z_fc (zo_l (by decide +kernel) rfl rfl trivial) <|
  z_fc (zo_l (by decide +kernel) rfl rfl trivial) <|
  z_fc (zo_v (by decide +kernel) rfl ⟨rfl, zd_34, zw_562, Nat.le_of_ble_eq_true rfl, ⟨_, Or.inl ⟨Nat.le_of_ble_eq_true rfl, rfl⟩, rfl⟩, zw_745, zw_563⟩) <|
  z_fc (zo_l (by decide +kernel) rfl rfl trivial) <|
  z_fc (zo_l (by decide +kernel) rfl rfl trivial) <|
  z_fc (zo_h (by decide +kernel) rfl ⟨rfl, by show ((34 : Nat) : Int) + (27) = ((61 : Nat) : Int); decide⟩) <|
  z_fc (zo_l (by decide +kernel) rfl rfl trivial) <|
  z_fc (zo_h (by decide +kernel) rfl ⟨rfl, by show ((38 : Nat) : Int) + (23) = ((61 : Nat) : Int); decide⟩) <|
  z_fc (zo_l (by decide +kernel) rfl rfl trivial) <|
  z_fc (zo_l (by decide +kernel) rfl rfl trivial) <|
  z_fc (zo_l (by decide +kernel) rfl rfl trivial) <|
  z_fc (zo_h (by decide +kernel) rfl ⟨rfl, Nat.le_of_ble_eq_true rfl, _, _, _, Or.inl ⟨Nat.le_of_ble_eq_true rfl, rfl⟩, Nat.le_of_ble_eq_true rfl, zw_164⟩) <|
  z_fc (zo_l (by decide +kernel) rfl rfl trivial) <|
  z_fc (zo_l (by decide +kernel) rfl rfl trivial) <|
  z_fc (zo_l (by decide +kernel) rfl rfl trivial) <|
  z_fc (zo_h (by decide +kernel) rfl ⟨rfl, Nat.le_of_ble_eq_true rfl, _, _, _, Or.inl ⟨Nat.le_of_ble_eq_true rfl, rfl⟩, Nat.le_of_ble_eq_true rfl, zw_164⟩) <|
  z_fc (zo_v (by decide +kernel) rfl ⟨rfl, zd_58, zw_544, Nat.le_of_ble_eq_true rfl, ⟨_, Or.inl ⟨Nat.le_of_ble_eq_true rfl, rfl⟩, rfl⟩, zw_746, zw_545⟩) <|
  z_fc (zo_l (by decide +kernel) rfl rfl (by show ((56 : Nat) : Int) + (5) = ((61 : Nat) : Int); decide)) <|
  z_fc (zo_l (by decide +kernel) rfl rfl trivial) <|
  z_fc (zo_r (by decide +kernel) rfl) <|
  z_fc (zo_l (by decide +kernel) rfl rfl trivial) <|
  z_fc (zo_l (by decide +kernel) rfl rfl (by show ((64 : Nat) : Int) + (-62) = ((2 : Nat) : Int); decide)) <|
  z_fc (zo_l (by decide +kernel) rfl rfl trivial) <|
  z_fc (zo_r (by decide +kernel) rfl) <|
  z_fn)
  (z_fn)
theorem zk_130 (xs : List Int32) : z_okm (za_T xs) za_P za_M 130 := z_okm_of ⟨"LyndonBench", "greatestKept", "()I"⟩ prog_1_method_55_code zc_130 _ rfl rfl rfl rfl
  (z_fc (zo_l (by decide +kernel) rfl rfl trivial) <|
  z_fc (zo_h (by decide +kernel) rfl ⟨rfl, Nat.le_of_ble_eq_true rfl, _, _, _, Or.inl ⟨Nat.le_of_ble_eq_true rfl, rfl⟩, Nat.le_of_ble_eq_true rfl, zw_341⟩) <|
  z_fc (zo_l (by decide +kernel) rfl rfl trivial) <|
  z_fc (zo_v (by decide +kernel) rfl ⟨rfl, zd_38, zw_584, Nat.le_of_ble_eq_true rfl, ⟨_, Or.inl ⟨Nat.le_of_ble_eq_true rfl, rfl⟩, rfl⟩, zw_751, zw_585⟩) <|
  z_fc (zo_r (by decide +kernel) rfl) <|
  z_fn)
  (z_fn)
theorem zk_131 (xs : List Int32) : z_okm (za_T xs) za_P za_M 131 := z_okm_of ⟨"LyndonBench", "meanFactor", "()D"⟩ prog_1_method_56_code zc_131 _ rfl rfl rfl rfl
  (z_fc (zo_l (by decide +kernel) rfl rfl trivial) <|
  z_fc (zo_h (by decide +kernel) rfl ⟨rfl, Nat.le_of_ble_eq_true rfl, _, _, _, Or.inl ⟨Nat.le_of_ble_eq_true rfl, rfl⟩, Nat.le_of_ble_eq_true rfl, zw_341⟩) <|
  z_fc (zo_h (by decide +kernel) rfl ⟨rfl, Nat.le_of_ble_eq_true rfl, _, _, _, Or.inl ⟨Nat.le_of_ble_eq_true rfl, rfl⟩, Nat.le_of_ble_eq_true rfl, zw_177⟩) <|
  z_fc (zo_v (by decide +kernel) rfl ⟨rfl, zd_61, zw_609, Nat.le_of_ble_eq_true rfl, ⟨_, Or.inl ⟨Nat.le_of_ble_eq_true rfl, rfl⟩, rfl⟩, zw_608, zw_610⟩) <|
  z_fc (zo_l (by decide +kernel) rfl rfl trivial) <|
  z_fc (zo_l (by decide +kernel) rfl rfl trivial) <|
  z_fc (zo_l (by decide +kernel) rfl rfl (by show ((12 : Nat) : Int) + (7) = ((19 : Nat) : Int); decide)) <|
  z_fc (zo_l (by decide +kernel) rfl rfl trivial) <|
  z_fc (zo_l (by decide +kernel) rfl rfl (by show ((16 : Nat) : Int) + (17) = ((33 : Nat) : Int); decide)) <|
  z_fc (zo_l (by decide +kernel) rfl rfl trivial) <|
  z_fc (zo_h (by decide +kernel) rfl ⟨rfl, Nat.le_of_ble_eq_true rfl, _, _, _, Or.inl ⟨Nat.le_of_ble_eq_true rfl, rfl⟩, Nat.le_of_ble_eq_true rfl, zw_341⟩) <|
  z_fc (zo_h (by decide +kernel) rfl ⟨rfl, Nat.le_of_ble_eq_true rfl, _, _, _, Or.inl ⟨Nat.le_of_ble_eq_true rfl, rfl⟩, Nat.le_of_ble_eq_true rfl, zw_177⟩) <|
  z_fc (zo_h (by decide +kernel) rfl ⟨rfl, Nat.le_of_ble_eq_true rfl, _, _, _, Or.inl ⟨Nat.le_of_ble_eq_true rfl, rfl⟩, Nat.le_of_ble_eq_true rfl, zw_164⟩) <|
  z_fc (zo_l (by decide +kernel) rfl rfl trivial) <|
  z_fc (zo_l (by decide +kernel) rfl rfl trivial) <|
  z_fc (zo_l (by decide +kernel) rfl rfl trivial) <|
  z_fc (zo_l (by decide +kernel) rfl rfl trivial) <|
  z_fc (zo_r (by decide +kernel) rfl) <|
  z_fn)
  (z_fn)
theorem zk_132 (xs : List Int32) : z_okm (za_T xs) za_P za_M 132 := z_okm_of ⟨"LyndonBench", "lyndonShare", "()F"⟩ prog_1_method_57_code zc_132 _ rfl rfl rfl rfl
  (z_fc (zo_l (by decide +kernel) rfl rfl trivial) <|
  z_fc (zo_h (by decide +kernel) rfl ⟨rfl, Nat.le_of_ble_eq_true rfl, _, _, _, Or.inl ⟨Nat.le_of_ble_eq_true rfl, rfl⟩, Nat.le_of_ble_eq_true rfl, zw_341⟩) <|
  z_fc (zo_h (by decide +kernel) rfl ⟨rfl, Nat.le_of_ble_eq_true rfl, _, _, _, Or.inl ⟨Nat.le_of_ble_eq_true rfl, rfl⟩, Nat.le_of_ble_eq_true rfl, zw_175⟩) <|
  z_fc (zo_l (by decide +kernel) rfl rfl trivial) <|
  z_fc (zo_h (by decide +kernel) rfl ⟨rfl, _, rfl, zw_760⟩) <|
  z_fc (zo_s (by decide +kernel) rfl ⟨zd_142, zw_762, zw_763⟩) <|
  z_fc (zo_l (by decide +kernel) rfl rfl trivial) <|
  z_fc (zo_l (by decide +kernel) rfl rfl trivial) <|
  z_fc (zo_l (by decide +kernel) rfl rfl trivial) <|
  z_fc (zo_h (by decide +kernel) rfl ⟨rfl, Nat.le_of_ble_eq_true rfl, _, _, _, Or.inl ⟨Nat.le_of_ble_eq_true rfl, rfl⟩, Nat.le_of_ble_eq_true rfl, zw_341⟩) <|
  z_fc (zo_h (by decide +kernel) rfl ⟨rfl, Nat.le_of_ble_eq_true rfl, _, _, _, Or.inl ⟨Nat.le_of_ble_eq_true rfl, rfl⟩, Nat.le_of_ble_eq_true rfl, zw_175⟩) <|
  z_fc (zo_l (by decide +kernel) rfl rfl trivial) <|
  z_fc (zo_h (by decide +kernel) rfl ⟨rfl, _, rfl, zw_768⟩) <|
  z_fc (zo_s (by decide +kernel) rfl ⟨zd_142, zw_762, zw_763⟩) <|
  z_fc (zo_l (by decide +kernel) rfl rfl trivial) <|
  z_fc (zo_l (by decide +kernel) rfl rfl trivial) <|
  z_fc (zo_l (by decide +kernel) rfl rfl trivial) <|
  z_fc (zo_l (by decide +kernel) rfl rfl trivial) <|
  z_fc (zo_l (by decide +kernel) rfl rfl trivial) <|
  z_fc (zo_l (by decide +kernel) rfl rfl (by show ((37 : Nat) : Int) + (9) = ((46 : Nat) : Int); decide)) <|
  z_fc (zo_l (by decide +kernel) rfl rfl trivial) <|
  z_fc (zo_l (by decide +kernel) rfl rfl trivial) <|
  z_fc (zo_l (by decide +kernel) rfl rfl trivial) <|
  z_fc (zo_l (by decide +kernel) rfl rfl (by show ((43 : Nat) : Int) + (4) = ((47 : Nat) : Int); decide)) <|
  z_fc (zo_l (by decide +kernel) rfl rfl trivial) <|
  z_fc (zo_r (by decide +kernel) rfl) <|
  z_fn)
  (z_fn)
theorem zk_133_0 (xs : List Int32) {l : List zE} (h : ∀ q ∈ l, z_oke' (za_T xs) za_P za_M ⟨"LyndonBench", "violations", "()I"⟩ prog_1_method_58_code q) : ∀ q ∈ zc_133_0 ++ l, z_oke' (za_T xs) za_P za_M ⟨"LyndonBench", "violations", "()I"⟩ prog_1_method_58_code q :=
  z_fc (zo_l (by decide +kernel) rfl rfl trivial) <|
  z_fc (zo_h (by decide +kernel) rfl ⟨rfl, Nat.le_of_ble_eq_true rfl, _, _, _, Or.inl ⟨Nat.le_of_ble_eq_true rfl, rfl⟩, Nat.le_of_ble_eq_true rfl, zw_341⟩) <|
  z_fc (zo_h (by decide +kernel) rfl ⟨rfl, Nat.le_of_ble_eq_true rfl, _, _, _, Or.inl ⟨Nat.le_of_ble_eq_true rfl, rfl⟩, Nat.le_of_ble_eq_true rfl, zw_177⟩) <|
  z_fc (zo_l (by decide +kernel) rfl rfl trivial) <|
  z_fc (zo_l (by decide +kernel) rfl rfl trivial) <|
  z_fc (zo_l (by decide +kernel) rfl rfl trivial) <|
  z_fc (zo_l (by decide +kernel) rfl rfl trivial) <|
  z_fc (zo_l (by decide +kernel) rfl rfl trivial) <|
  z_fc (zo_l (by decide +kernel) rfl rfl trivial) <|
  z_fc (zo_l (by decide +kernel) rfl rfl trivial) <|
  z_fc (zo_l (by decide +kernel) rfl rfl trivial) <|
  z_fc (zo_l (by decide +kernel) rfl rfl trivial) <|
  z_fc (zo_l (by decide +kernel) rfl rfl trivial) <|
  z_fc (zo_l (by decide +kernel) rfl rfl trivial) <|
  z_fc (zo_h (by decide +kernel) rfl ⟨rfl, Nat.le_of_ble_eq_true rfl, _, _, _, Or.inl ⟨Nat.le_of_ble_eq_true rfl, rfl⟩, Nat.le_of_ble_eq_true rfl, zw_164⟩) <|
  z_fc (zo_l (by decide +kernel) rfl rfl (by show ((24 : Nat) : Int) + (70) = ((94 : Nat) : Int); decide)) <|
  z_fc (zo_l (by decide +kernel) rfl rfl trivial) <|
  z_fc (zo_l (by decide +kernel) rfl rfl trivial) <|
  z_fc (zo_h (by decide +kernel) rfl ⟨rfl, Nat.le_of_ble_eq_true rfl, _, _, _, Or.inl ⟨Nat.le_of_ble_eq_true rfl, rfl⟩, Nat.le_of_ble_eq_true rfl, zw_164⟩) <|
  z_fc (zo_l (by decide +kernel) rfl rfl (by show ((33 : Nat) : Int) + (61) = ((94 : Nat) : Int); decide)) <|
  z_fc (zo_l (by decide +kernel) rfl rfl trivial) <|
  z_fc (zo_l (by decide +kernel) rfl rfl trivial) <|
  z_fc (zo_v (by decide +kernel) rfl ⟨rfl, zd_59, zw_518, Nat.le_of_ble_eq_true rfl, ⟨_, Or.inl ⟨Nat.le_of_ble_eq_true rfl, rfl⟩, rfl⟩, zw_707, zw_519⟩) <|
  z_fc (zo_l (by decide +kernel) rfl rfl trivial) <|
  z_fc (zo_l (by decide +kernel) rfl rfl trivial) <|
  z_fc (zo_l (by decide +kernel) rfl rfl trivial) <|
  z_fc (zo_l (by decide +kernel) rfl rfl trivial) <|
  z_fc (zo_v (by decide +kernel) rfl ⟨rfl, zd_67, zw_775, Nat.le_of_ble_eq_true rfl, ⟨_, Or.inl ⟨Nat.le_of_ble_eq_true rfl, rfl⟩, rfl⟩, zw_774, zw_776⟩) <|
  z_fc (zo_l (by decide +kernel) rfl rfl (by show ((52 : Nat) : Int) + (6) = ((58 : Nat) : Int); decide)) <|
  z_fc (zo_l (by decide +kernel) rfl rfl trivial) <|
  z_fc (zo_l (by decide +kernel) rfl rfl trivial) <|
  z_fc (zo_l (by decide +kernel) rfl rfl (by show ((60 : Nat) : Int) + (21) = ((81 : Nat) : Int); decide)) <|
  z_fc (zo_l (by decide +kernel) rfl rfl trivial) <|
  z_fc (zo_l (by decide +kernel) rfl rfl trivial) <|
  z_fc (zo_l (by decide +kernel) rfl rfl trivial) <|
  z_fc (zo_l (by decide +kernel) rfl rfl trivial) <|
  z_fc (zo_l (by decide +kernel) rfl rfl trivial) <|
  z_fc (zo_l (by decide +kernel) rfl rfl trivial) <|
  z_fc (zo_v (by decide +kernel) rfl ⟨rfl, zd_58, zw_544, Nat.le_of_ble_eq_true rfl, ⟨_, Or.inl ⟨Nat.le_of_ble_eq_true rfl, rfl⟩, rfl⟩, zw_746, zw_545⟩) <|
  z_fc (zo_l (by decide +kernel) rfl rfl (by show ((75 : Nat) : Int) + (6) = ((81 : Nat) : Int); decide)) <|
  h
theorem zk_133_1 (xs : List Int32) {l : List zE} (h : ∀ q ∈ l, z_oke' (za_T xs) za_P za_M ⟨"LyndonBench", "violations", "()I"⟩ prog_1_method_58_code q) : ∀ q ∈ zc_133_1 ++ l, z_oke' (za_T xs) za_P za_M ⟨"LyndonBench", "violations", "()I"⟩ prog_1_method_58_code q :=
  z_fc (zo_l (by decide +kernel) rfl rfl trivial) <|
  z_fc (zo_l (by decide +kernel) rfl rfl trivial) <|
  z_fc (zo_l (by decide +kernel) rfl rfl trivial) <|
  z_fc (zo_l (by decide +kernel) rfl rfl trivial) <|
  z_fc (zo_l (by decide +kernel) rfl rfl trivial) <|
  z_fc (zo_l (by decide +kernel) rfl rfl trivial) <|
  z_fc (zo_l (by decide +kernel) rfl rfl (by show ((91 : Nat) : Int) + (-73) = ((18 : Nat) : Int); decide)) <|
  z_fc (zo_l (by decide +kernel) rfl rfl trivial) <|
  z_fc (zo_l (by decide +kernel) rfl rfl trivial) <|
  z_fc (zo_h (by decide +kernel) rfl ⟨rfl, Nat.le_of_ble_eq_true rfl, _, _, _, Or.inl ⟨Nat.le_of_ble_eq_true rfl, rfl⟩, Nat.le_of_ble_eq_true rfl, zw_164⟩) <|
  z_fc (zo_l (by decide +kernel) rfl rfl (by show ((100 : Nat) : Int) + (6) = ((106 : Nat) : Int); decide)) <|
  z_fc (zo_l (by decide +kernel) rfl rfl trivial) <|
  z_fc (zo_l (by decide +kernel) rfl rfl trivial) <|
  z_fc (zo_h (by decide +kernel) rfl ⟨rfl, Nat.le_of_ble_eq_true rfl, _, _, _, Or.inl ⟨Nat.le_of_ble_eq_true rfl, rfl⟩, Nat.le_of_ble_eq_true rfl, zw_164⟩) <|
  z_fc (zo_l (by decide +kernel) rfl rfl (by show ((110 : Nat) : Int) + (15) = ((125 : Nat) : Int); decide)) <|
  z_fc (zo_l (by decide +kernel) rfl rfl trivial) <|
  z_fc (zo_l (by decide +kernel) rfl rfl trivial) <|
  z_fc (zo_l (by decide +kernel) rfl rfl trivial) <|
  z_fc (zo_v (by decide +kernel) rfl ⟨rfl, zd_74, zw_730, Nat.le_of_ble_eq_true rfl, ⟨_, Or.inl ⟨Nat.le_of_ble_eq_true rfl, rfl⟩, rfl⟩, zw_729, zw_731⟩) <|
  z_fc (zo_l (by decide +kernel) rfl rfl (by show ((119 : Nat) : Int) + (6) = ((125 : Nat) : Int); decide)) <|
  z_fc (zo_l (by decide +kernel) rfl rfl trivial) <|
  z_fc (zo_l (by decide +kernel) rfl rfl trivial) <|
  z_fc (zo_r (by decide +kernel) rfl) <|
  h
theorem zk_133 (xs : List Int32) : z_okm (za_T xs) za_P za_M 133 := z_okm_of ⟨"LyndonBench", "violations", "()I"⟩ prog_1_method_58_code zc_133 _ rfl rfl rfl rfl
  (zk_133_0 xs <|
  zk_133_1 xs <|
  z_fn)
  (z_fn)
theorem zk_134_0 (xs : List Int32) {l : List zE} (h : ∀ q ∈ l, z_oke' (za_T xs) za_P za_M ⟨"LyndonBench", "writeFactors", "()I"⟩ prog_1_method_59_code q) : ∀ q ∈ zc_134_0 ++ l, z_oke' (za_T xs) za_P za_M ⟨"LyndonBench", "writeFactors", "()I"⟩ prog_1_method_59_code q :=
  z_fc (zo_l (by decide +kernel) rfl rfl trivial) <|
  z_fc (zo_h (by decide +kernel) rfl ⟨rfl, Nat.le_of_ble_eq_true rfl, _, _, _, Or.inl ⟨Nat.le_of_ble_eq_true rfl, rfl⟩, Nat.le_of_ble_eq_true rfl, zw_341⟩) <|
  z_fc (zo_h (by decide +kernel) rfl ⟨rfl, Nat.le_of_ble_eq_true rfl, _, _, _, Or.inl ⟨Nat.le_of_ble_eq_true rfl, rfl⟩, Nat.le_of_ble_eq_true rfl, zw_177⟩) <|
  z_fc (zo_l (by decide +kernel) rfl rfl trivial) <|
  z_fc (zo_l (by decide +kernel) rfl rfl trivial) <|
  z_fc (zo_h (by decide +kernel) rfl ⟨rfl, Nat.le_of_ble_eq_true rfl, _, _, _, Or.inl ⟨Nat.le_of_ble_eq_true rfl, rfl⟩, Nat.le_of_ble_eq_true rfl, zw_346⟩) <|
  z_fc (zo_v (by decide +kernel) rfl ⟨rfl, zd_45, zw_268, Nat.le_of_ble_eq_true rfl, ⟨_, Or.inl ⟨Nat.le_of_ble_eq_true rfl, rfl⟩, rfl⟩, zw_588, zw_269⟩) <|
  z_fc (zo_l (by decide +kernel) rfl rfl trivial) <|
  z_fc (zo_l (by decide +kernel) rfl rfl trivial) <|
  z_fc (zo_l (by decide +kernel) rfl rfl trivial) <|
  z_fc (zo_l (by decide +kernel) rfl rfl trivial) <|
  z_fc (zo_l (by decide +kernel) rfl rfl trivial) <|
  z_fc (zo_l (by decide +kernel) rfl rfl trivial) <|
  z_fc (zo_h (by decide +kernel) rfl ⟨rfl, Nat.le_of_ble_eq_true rfl, _, _, _, Or.inl ⟨Nat.le_of_ble_eq_true rfl, rfl⟩, Nat.le_of_ble_eq_true rfl, zw_164⟩) <|
  z_fc (zo_l (by decide +kernel) rfl rfl (by show ((24 : Nat) : Int) + (91) = ((115 : Nat) : Int); decide)) <|
  z_fc (zo_l (by decide +kernel) rfl rfl trivial) <|
  z_fc (zo_l (by decide +kernel) rfl rfl trivial) <|
  z_fc (zo_h (by decide +kernel) rfl ⟨rfl, Nat.le_of_ble_eq_true rfl, _, _, _, Or.inl ⟨Nat.le_of_ble_eq_true rfl, rfl⟩, Nat.le_of_ble_eq_true rfl, zw_164⟩) <|
  z_fc (zo_l (by decide +kernel) rfl rfl (by show ((32 : Nat) : Int) + (83) = ((115 : Nat) : Int); decide)) <|
  z_fc (zo_l (by decide +kernel) rfl rfl trivial) <|
  z_fc (zo_l (by decide +kernel) rfl rfl trivial) <|
  z_fc (zo_v (by decide +kernel) rfl ⟨rfl, zd_59, zw_518, Nat.le_of_ble_eq_true rfl, ⟨_, Or.inl ⟨Nat.le_of_ble_eq_true rfl, rfl⟩, rfl⟩, zw_707, zw_519⟩) <|
  z_fc (zo_l (by decide +kernel) rfl rfl trivial) <|
  z_fc (zo_l (by decide +kernel) rfl rfl trivial) <|
  z_fc (zo_l (by decide +kernel) rfl rfl trivial) <|
  z_fc (zo_l (by decide +kernel) rfl rfl trivial) <|
  z_fc (zo_v (by decide +kernel) rfl ⟨rfl, zd_66, zw_783, Nat.le_of_ble_eq_true rfl, ⟨_, Or.inl ⟨Nat.le_of_ble_eq_true rfl, rfl⟩, rfl⟩, zw_782, zw_784⟩) <|
  z_fc (zo_l (by decide +kernel) rfl rfl trivial) <|
  z_fc (zo_l (by decide +kernel) rfl rfl trivial) <|
  z_fc (zo_l (by decide +kernel) rfl rfl (by show ((52 : Nat) : Int) + (12) = ((64 : Nat) : Int); decide)) <|
  z_fc (zo_l (by decide +kernel) rfl rfl trivial) <|
  z_fc (zo_h (by decide +kernel) rfl ⟨rfl, Nat.le_of_ble_eq_true rfl, _, _, _, Or.inl ⟨Nat.le_of_ble_eq_true rfl, rfl⟩, Nat.le_of_ble_eq_true rfl, zw_346⟩) <|
  z_fc (zo_l (by decide +kernel) rfl rfl trivial) <|
  z_fc (zo_v (by decide +kernel) rfl ⟨rfl, zd_46, zw_325, Nat.le_of_ble_eq_true rfl, ⟨_, Or.inl ⟨Nat.le_of_ble_eq_true rfl, rfl⟩, rfl⟩, zw_786, zw_326⟩) <|
  z_fc (zo_l (by decide +kernel) rfl rfl trivial) <|
  z_fc (zo_h (by decide +kernel) rfl ⟨rfl, Nat.le_of_ble_eq_true rfl, _, _, _, Or.inl ⟨Nat.le_of_ble_eq_true rfl, rfl⟩, Nat.le_of_ble_eq_true rfl, zw_346⟩) <|
  z_fc (zo_l (by decide +kernel) rfl rfl trivial) <|
  z_fc (zo_l (by decide +kernel) rfl rfl trivial) <|
  z_fc (zo_l (by decide +kernel) rfl rfl trivial) <|
  z_fc (zo_v (by decide +kernel) rfl ⟨rfl, zd_49, zw_334, Nat.le_of_ble_eq_true rfl, ⟨_, Or.inl ⟨Nat.le_of_ble_eq_true rfl, rfl⟩, rfl⟩, zw_787, zw_335⟩) <|
  h
theorem zk_134_1 (xs : List Int32) {l : List zE} (h : ∀ q ∈ l, z_oke' (za_T xs) za_P za_M ⟨"LyndonBench", "writeFactors", "()I"⟩ prog_1_method_59_code q) : ∀ q ∈ zc_134_1 ++ l, z_oke' (za_T xs) za_P za_M ⟨"LyndonBench", "writeFactors", "()I"⟩ prog_1_method_59_code q :=
  z_fc (zo_l (by decide +kernel) rfl rfl trivial) <|
  z_fc (zo_l (by decide +kernel) rfl rfl trivial) <|
  z_fc (zo_l (by decide +kernel) rfl rfl (by show ((78 : Nat) : Int) + (21) = ((99 : Nat) : Int); decide)) <|
  z_fc (zo_l (by decide +kernel) rfl rfl trivial) <|
  z_fc (zo_h (by decide +kernel) rfl ⟨rfl, Nat.le_of_ble_eq_true rfl, _, _, _, Or.inl ⟨Nat.le_of_ble_eq_true rfl, rfl⟩, Nat.le_of_ble_eq_true rfl, zw_346⟩) <|
  z_fc (zo_l (by decide +kernel) rfl rfl trivial) <|
  z_fc (zo_v (by decide +kernel) rfl ⟨rfl, zd_46, zw_325, Nat.le_of_ble_eq_true rfl, ⟨_, Or.inl ⟨Nat.le_of_ble_eq_true rfl, rfl⟩, rfl⟩, zw_786, zw_326⟩) <|
  z_fc (zo_l (by decide +kernel) rfl rfl trivial) <|
  z_fc (zo_h (by decide +kernel) rfl ⟨rfl, Nat.le_of_ble_eq_true rfl, _, _, _, Or.inl ⟨Nat.le_of_ble_eq_true rfl, rfl⟩, Nat.le_of_ble_eq_true rfl, zw_346⟩) <|
  z_fc (zo_l (by decide +kernel) rfl rfl trivial) <|
  z_fc (zo_v (by decide +kernel) rfl ⟨rfl, zd_50, zw_789, Nat.le_of_ble_eq_true rfl, ⟨_, Or.inl ⟨Nat.le_of_ble_eq_true rfl, rfl⟩, rfl⟩, zw_788, zw_790⟩) <|
  z_fc (zo_l (by decide +kernel) rfl rfl trivial) <|
  z_fc (zo_l (by decide +kernel) rfl rfl trivial) <|
  z_fc (zo_l (by decide +kernel) rfl rfl trivial) <|
  z_fc (zo_l (by decide +kernel) rfl rfl trivial) <|
  z_fc (zo_l (by decide +kernel) rfl rfl trivial) <|
  z_fc (zo_l (by decide +kernel) rfl rfl trivial) <|
  z_fc (zo_l (by decide +kernel) rfl rfl trivial) <|
  z_fc (zo_l (by decide +kernel) rfl rfl trivial) <|
  z_fc (zo_l (by decide +kernel) rfl rfl trivial) <|
  z_fc (zo_l (by decide +kernel) rfl rfl (by show ((112 : Nat) : Int) + (-93) = ((19 : Nat) : Int); decide)) <|
  z_fc (zo_l (by decide +kernel) rfl rfl trivial) <|
  z_fc (zo_h (by decide +kernel) rfl ⟨rfl, Nat.le_of_ble_eq_true rfl, _, _, _, Or.inl ⟨Nat.le_of_ble_eq_true rfl, rfl⟩, Nat.le_of_ble_eq_true rfl, zw_346⟩) <|
  z_fc (zo_h (by decide +kernel) rfl ⟨rfl, Nat.le_of_ble_eq_true rfl, _, _, _, Or.inl ⟨Nat.le_of_ble_eq_true rfl, rfl⟩, Nat.le_of_ble_eq_true rfl, zw_164⟩) <|
  z_fc (zo_r (by decide +kernel) rfl) <|
  h
theorem zk_134 (xs : List Int32) : z_okm (za_T xs) za_P za_M 134 := z_okm_of ⟨"LyndonBench", "writeFactors", "()I"⟩ prog_1_method_59_code zc_134 _ rfl rfl rfl rfl
  (zk_134_0 xs <|
  zk_134_1 xs <|
  z_fn)
  (z_fn)
theorem zk_135 (xs : List Int32) : z_okm (za_T xs) za_P za_M 135 := z_okm_of ⟨"LyndonBench", "reportByte", "(I)I"⟩ prog_1_method_60_code zc_135 _ rfl rfl rfl rfl
  (z_fc (zo_l (by decide +kernel) rfl rfl trivial) <|
  z_fc (zo_h (by decide +kernel) rfl ⟨rfl, Nat.le_of_ble_eq_true rfl, _, _, _, Or.inl ⟨Nat.le_of_ble_eq_true rfl, rfl⟩, Nat.le_of_ble_eq_true rfl, zw_346⟩) <|
  z_fc (zo_l (by decide +kernel) rfl rfl trivial) <|
  z_fc (zo_v (by decide +kernel) rfl ⟨rfl, zd_43, zw_338, Nat.le_of_ble_eq_true rfl, ⟨_, Or.inl ⟨Nat.le_of_ble_eq_true rfl, rfl⟩, rfl⟩, zw_648, zw_339⟩) <|
  z_fc (zo_r (by decide +kernel) rfl) <|
  z_fn)
  (z_fn)
theorem zk_136 (xs : List Int32) : z_okm (za_T xs) za_P za_M 136 := z_okm_of ⟨"LyndonBench", "checkLetter", "(I)V"⟩ prog_1_method_61_code zc_136 _ rfl rfl rfl rfl
  (z_fc (zo_l (by decide +kernel) rfl rfl trivial) <|
  z_fc (zo_h (by decide +kernel) rfl ⟨rfl, Nat.le_of_ble_eq_true rfl, _, _, _, Or.inl ⟨Nat.le_of_ble_eq_true rfl, rfl⟩, Nat.le_of_ble_eq_true rfl, zw_341⟩) <|
  z_fc (zo_l (by decide +kernel) rfl rfl trivial) <|
  z_fc (zo_v (by decide +kernel) rfl ⟨rfl, zd_31, zw_447, Nat.le_of_ble_eq_true rfl, ⟨_, Or.inl ⟨Nat.le_of_ble_eq_true rfl, rfl⟩, rfl⟩, zw_913, zw_448⟩) <|
  z_fc (zo_l (by decide +kernel) rfl rfl (by show ((8 : Nat) : Int) + (14) = ((22 : Nat) : Int); decide)) <|
  z_fc (zo_t (by decide +kernel) rfl ⟨["java/lang/RuntimeException", "java/lang/Exception"], 295, 81, 16, _, none, by decide +kernel, by decide +kernel, by decide, zw_804, zw_132, rfl, rfl, rfl, zt_0a, zt_0b, zt_0c_77, trivial, by decide +kernel, by decide +kernel, Or.inr ⟨rfl, by decide +kernel, by decide +kernel, by decide +kernel⟩⟩) <|
  z_fc (zo_e (by decide +kernel)) <|
  z_fn)
  (z_fn)
theorem zk_137 (xs : List Int32) : z_okm (za_T xs) za_P za_M 137 := z_okm_of ⟨"LyndonBench", "checkCount", "(I)V"⟩ prog_1_method_62_code zc_137 _ rfl rfl rfl rfl
  (z_fc (zo_l (by decide +kernel) rfl rfl trivial) <|
  z_fc (zo_l (by decide +kernel) rfl rfl (by show ((1 : Nat) : Int) + (17) = ((18 : Nat) : Int); decide)) <|
  z_fc (zo_l (by decide +kernel) rfl rfl trivial) <|
  z_fc (zo_l (by decide +kernel) rfl rfl trivial) <|
  z_fc (zo_h (by decide +kernel) rfl ⟨rfl, Nat.le_of_ble_eq_true rfl, _, _, _, Or.inl ⟨Nat.le_of_ble_eq_true rfl, rfl⟩, Nat.le_of_ble_eq_true rfl, zw_341⟩) <|
  z_fc (zo_h (by decide +kernel) rfl ⟨rfl, Nat.le_of_ble_eq_true rfl, _, _, _, Or.inl ⟨Nat.le_of_ble_eq_true rfl, rfl⟩, Nat.le_of_ble_eq_true rfl, zw_177⟩) <|
  z_fc (zo_h (by decide +kernel) rfl ⟨rfl, Nat.le_of_ble_eq_true rfl, _, _, _, Or.inl ⟨Nat.le_of_ble_eq_true rfl, rfl⟩, Nat.le_of_ble_eq_true rfl, zw_164⟩) <|
  z_fc (zo_l (by decide +kernel) rfl rfl (by show ((15 : Nat) : Int) + (14) = ((29 : Nat) : Int); decide)) <|
  z_fc (zo_t (by decide +kernel) rfl ⟨["java/lang/RuntimeException", "java/lang/Exception"], 297, 81, 17, _, none, by decide +kernel, by decide +kernel, by decide, zw_804, zw_132, rfl, rfl, rfl, zt_0a, zt_0b, zt_0c_77, trivial, by decide +kernel, by decide +kernel, Or.inr ⟨rfl, by decide +kernel, by decide +kernel, by decide +kernel⟩⟩) <|
  z_fc (zo_e (by decide +kernel)) <|
  z_fn)
  (z_fn)
theorem zk_138 (xs : List Int32) : z_okm (za_T xs) za_P za_M 138 := z_okm_of ⟨"LyndonBench", "checkPart", "(II)V"⟩ prog_1_method_63_code zc_138 _ rfl rfl rfl rfl
  (z_fc (zo_l (by decide +kernel) rfl rfl trivial) <|
  z_fc (zo_l (by decide +kernel) rfl rfl (by show ((1 : Nat) : Int) + (22) = ((23 : Nat) : Int); decide)) <|
  z_fc (zo_l (by decide +kernel) rfl rfl trivial) <|
  z_fc (zo_l (by decide +kernel) rfl rfl trivial) <|
  z_fc (zo_l (by decide +kernel) rfl rfl (by show ((6 : Nat) : Int) + (17) = ((23 : Nat) : Int); decide)) <|
  z_fc (zo_l (by decide +kernel) rfl rfl trivial) <|
  z_fc (zo_l (by decide +kernel) rfl rfl trivial) <|
  z_fc (zo_h (by decide +kernel) rfl ⟨rfl, Nat.le_of_ble_eq_true rfl, _, _, _, Or.inl ⟨Nat.le_of_ble_eq_true rfl, rfl⟩, Nat.le_of_ble_eq_true rfl, zw_341⟩) <|
  z_fc (zo_h (by decide +kernel) rfl ⟨rfl, Nat.le_of_ble_eq_true rfl, _, _, _, Or.inl ⟨Nat.le_of_ble_eq_true rfl, rfl⟩, Nat.le_of_ble_eq_true rfl, zw_177⟩) <|
  z_fc (zo_h (by decide +kernel) rfl ⟨rfl, Nat.le_of_ble_eq_true rfl, _, _, _, Or.inl ⟨Nat.le_of_ble_eq_true rfl, rfl⟩, Nat.le_of_ble_eq_true rfl, zw_164⟩) <|
  z_fc (zo_l (by decide +kernel) rfl rfl (by show ((20 : Nat) : Int) + (14) = ((34 : Nat) : Int); decide)) <|
  z_fc (zo_t (by decide +kernel) rfl ⟨["java/lang/RuntimeException", "java/lang/Exception"], 299, 81, 18, _, none, by decide +kernel, by decide +kernel, by decide, zw_804, zw_132, rfl, rfl, rfl, zt_0a, zt_0b, zt_0c_77, trivial, by decide +kernel, by decide +kernel, Or.inr ⟨rfl, by decide +kernel, by decide +kernel, by decide +kernel⟩⟩) <|
  z_fc (zo_e (by decide +kernel)) <|
  z_fn)
  (z_fn)
theorem zk_139 (xs : List Int32) : z_okm (za_T xs) za_P za_M 139 := z_okm_of ⟨"LyndonBench", "checkCountedLength", "(I)V"⟩ prog_1_method_64_code zc_139 _ rfl rfl rfl rfl
  (z_fc (zo_l (by decide +kernel) rfl rfl trivial) <|
  z_fc (zo_l (by decide +kernel) rfl rfl trivial) <|
  z_fc (zo_l (by decide +kernel) rfl rfl (by show ((2 : Nat) : Int) + (9) = ((11 : Nat) : Int); decide)) <|
  z_fc (zo_l (by decide +kernel) rfl rfl trivial) <|
  z_fc (zo_l (by decide +kernel) rfl rfl trivial) <|
  z_fc (zo_l (by decide +kernel) rfl rfl (by show ((8 : Nat) : Int) + (14) = ((22 : Nat) : Int); decide)) <|
  z_fc (zo_t (by decide +kernel) rfl ⟨["java/lang/RuntimeException", "java/lang/Exception"], 301, 81, 19, _, none, by decide +kernel, by decide +kernel, by decide, zw_804, zw_132, rfl, rfl, rfl, zt_0a, zt_0b, zt_0c_77, trivial, by decide +kernel, by decide +kernel, Or.inr ⟨rfl, by decide +kernel, by decide +kernel, by decide +kernel⟩⟩) <|
  z_fc (zo_e (by decide +kernel)) <|
  z_fn)
  (z_fn)
theorem zk_140 (xs : List Int32) : z_okm (za_T xs) za_P za_M 140 := z_okm_of ⟨"LyndonBench", "checkedBegin", "(I)I"⟩ prog_1_method_65_code zc_140 _ rfl rfl rfl rfl
  (z_fc (zo_l (by decide +kernel) rfl rfl trivial) <|
  z_fc (zo_h (by decide +kernel) rfl ⟨rfl, Nat.le_of_ble_eq_true rfl, _, _, _, Or.inl ⟨Nat.le_of_ble_eq_true rfl, rfl⟩, Nat.le_of_ble_eq_true rfl, zw_341⟩) <|
  z_fc (zo_h (by decide +kernel) rfl ⟨rfl, Nat.le_of_ble_eq_true rfl, _, _, _, Or.inl ⟨Nat.le_of_ble_eq_true rfl, rfl⟩, Nat.le_of_ble_eq_true rfl, zw_177⟩) <|
  z_fc (zo_l (by decide +kernel) rfl rfl trivial) <|
  z_fc (zo_v (by decide +kernel) rfl ⟨rfl, zd_63, zw_536, Nat.le_of_ble_eq_true rfl, ⟨_, Or.inl ⟨Nat.le_of_ble_eq_true rfl, rfl⟩, rfl⟩, zw_992, zw_537⟩) <|
  z_fc (zo_l (by decide +kernel) rfl rfl trivial) <|
  z_fc (zo_l (by decide +kernel) rfl rfl trivial) <|
  z_fc (zo_l (by decide +kernel) rfl rfl trivial) <|
  z_fc (zo_l (by decide +kernel) rfl rfl (by show ((14 : Nat) : Int) + (14) = ((28 : Nat) : Int); decide)) <|
  z_fc (zo_t (by decide +kernel) rfl ⟨["java/lang/RuntimeException", "java/lang/Exception"], 306, 196, 20, _, none, by decide +kernel, by decide +kernel, by decide, zw_993, zw_137, rfl, rfl, rfl, zt_4a, zt_4b, zt_4c_192, trivial, by decide +kernel, by decide +kernel, Or.inr ⟨rfl, by decide +kernel, by decide +kernel, by decide +kernel⟩⟩) <|
  z_fc (zo_l (by decide +kernel) rfl rfl trivial) <|
  z_fc (zo_r (by decide +kernel) rfl) <|
  z_fn)
  (z_fn)
theorem zk_141 (xs : List Int32) : z_okm (za_T xs) za_P za_M 141 := z_okm_of ⟨"LyndonBench", "fitsRow", "(II)Z"⟩ prog_1_method_66_code zc_141 _ rfl rfl rfl rfl
  (z_fc (zo_l (by decide +kernel) rfl rfl trivial) <|
  z_fc (zo_l (by decide +kernel) rfl rfl trivial) <|
  z_fc (zo_l (by decide +kernel) rfl rfl trivial) <|
  z_fc (zo_l (by decide +kernel) rfl rfl trivial) <|
  z_fc (zo_l (by decide +kernel) rfl rfl trivial) <|
  z_fc (zo_l (by decide +kernel) rfl rfl trivial) <|
  z_fc (zo_l (by decide +kernel) rfl rfl (by show ((8 : Nat) : Int) + (22) = ((30 : Nat) : Int); decide)) <|
  z_fc (zo_l (by decide +kernel) rfl rfl trivial) <|
  z_fc (zo_h (by decide +kernel) rfl ⟨rfl, _, rfl, zw_1115⟩) <|
  z_fc (zo_l (by decide +kernel) rfl rfl trivial) <|
  z_fc (zo_l (by decide +kernel) rfl rfl (by show ((16 : Nat) : Int) + (14) = ((30 : Nat) : Int); decide)) <|
  z_fc (zo_l (by decide +kernel) rfl rfl trivial) <|
  z_fc (zo_l (by decide +kernel) rfl rfl trivial) <|
  z_fc (zo_l (by decide +kernel) rfl rfl trivial) <|
  z_fc (zo_l (by decide +kernel) rfl rfl trivial) <|
  z_fc (zo_l (by decide +kernel) rfl rfl trivial) <|
  z_fc (zo_l (by decide +kernel) rfl rfl trivial) <|
  z_fc (zo_l (by decide +kernel) rfl rfl (by show ((27 : Nat) : Int) + (-22) = ((5 : Nat) : Int); decide)) <|
  z_fc (zo_l (by decide +kernel) rfl rfl trivial) <|
  z_fc (zo_h (by decide +kernel) rfl ⟨rfl, _, rfl, zw_1115⟩) <|
  z_fc (zo_l (by decide +kernel) rfl rfl trivial) <|
  z_fc (zo_l (by decide +kernel) rfl rfl (by show ((35 : Nat) : Int) + (7) = ((42 : Nat) : Int); decide)) <|
  z_fc (zo_l (by decide +kernel) rfl rfl trivial) <|
  z_fc (zo_l (by decide +kernel) rfl rfl (by show ((39 : Nat) : Int) + (4) = ((43 : Nat) : Int); decide)) <|
  z_fc (zo_l (by decide +kernel) rfl rfl trivial) <|
  z_fc (zo_r (by decide +kernel) rfl) <|
  z_fn)
  (z_fn)
theorem zk_142 (xs : List Int32) : z_okm (za_T xs) za_P za_M 142 := z_okm_of ⟨"LyndonBench", "weighPowers", "(II[I)J"⟩ prog_1_method_67_code zc_142 _ rfl rfl rfl rfl
  (z_fc (zo_l (by decide +kernel) rfl rfl trivial) <|
  z_fc (zo_l (by decide +kernel) rfl rfl trivial) <|
  z_fc (zo_l (by decide +kernel) rfl rfl (by show ((2 : Nat) : Int) + (5) = ((7 : Nat) : Int); decide)) <|
  z_fc (zo_l (by decide +kernel) rfl rfl trivial) <|
  z_fc (zo_r (by decide +kernel) rfl) <|
  z_fc (zo_l (by decide +kernel) rfl rfl trivial) <|
  z_fc (zo_l (by decide +kernel) rfl rfl trivial) <|
  z_fc (zo_l (by decide +kernel) rfl rfl trivial) <|
  z_fc (zo_l (by decide +kernel) rfl rfl trivial) <|
  z_fc (zo_l (by decide +kernel) rfl rfl trivial) <|
  z_fc (zo_l (by decide +kernel) rfl rfl trivial) <|
  z_fc (zo_l (by decide +kernel) rfl rfl (by show ((15 : Nat) : Int) + (40) = ((55 : Nat) : Int); decide)) <|
  z_fc (zo_l (by decide +kernel) rfl rfl trivial) <|
  z_fc (zo_l (by decide +kernel) rfl rfl trivial) <|
  z_fc (zo_h (by decide +kernel) rfl rfl) <|
  z_fc (zo_l (by decide +kernel) rfl rfl (by show ((22 : Nat) : Int) + (33) = ((55 : Nat) : Int); decide)) <|
  z_fc (zo_l (by decide +kernel) rfl rfl trivial) <|
  z_fc (zo_l (by decide +kernel) rfl rfl trivial) <|
  z_fc (zo_l (by decide +kernel) rfl rfl trivial) <|
  z_fc (zo_l (by decide +kernel) rfl rfl (by show ((29 : Nat) : Int) + (20) = ((49 : Nat) : Int); decide)) <|
  z_fc (zo_l (by decide +kernel) rfl rfl trivial) <|
  z_fc (zo_l (by decide +kernel) rfl rfl trivial) <|
  z_fc (zo_l (by decide +kernel) rfl rfl trivial) <|
  z_fc (zo_h (by decide +kernel) rfl rfl) <|
  z_fc (zo_l (by decide +kernel) rfl rfl trivial) <|
  z_fc (zo_l (by decide +kernel) rfl rfl trivial) <|
  z_fc (zo_l (by decide +kernel) rfl rfl trivial) <|
  z_fc (zo_l (by decide +kernel) rfl rfl trivial) <|
  z_fc (zo_l (by decide +kernel) rfl rfl trivial) <|
  z_fc (zo_s (by decide +kernel) rfl ⟨zd_143, zw_765, zw_766⟩) <|
  z_fc (zo_l (by decide +kernel) rfl rfl trivial) <|
  z_fc (zo_l (by decide +kernel) rfl rfl trivial) <|
  z_fc (zo_l (by decide +kernel) rfl rfl trivial) <|
  z_fc (zo_l (by decide +kernel) rfl rfl trivial) <|
  z_fc (zo_l (by decide +kernel) rfl rfl (by show ((52 : Nat) : Int) + (-40) = ((12 : Nat) : Int); decide)) <|
  z_fc (zo_l (by decide +kernel) rfl rfl trivial) <|
  z_fc (zo_l (by decide +kernel) rfl rfl trivial) <|
  z_fc (zo_l (by decide +kernel) rfl rfl trivial) <|
  z_fc (zo_l (by decide +kernel) rfl rfl trivial) <|
  z_fc (zo_r (by decide +kernel) rfl) <|
  z_fn)
  (z_fn)
theorem zk_143 (xs : List Int32) : z_okm (za_T xs) za_P za_M 143 := z_okm_of ⟨"LyndonBench", "power", "(II)J"⟩ prog_1_method_68_code zc_143 _ rfl rfl rfl rfl
  (z_fc (zo_l (by decide +kernel) rfl rfl trivial) <|
  z_fc (zo_l (by decide +kernel) rfl rfl trivial) <|
  z_fc (zo_l (by decide +kernel) rfl rfl trivial) <|
  z_fc (zo_l (by decide +kernel) rfl rfl trivial) <|
  z_fc (zo_l (by decide +kernel) rfl rfl trivial) <|
  z_fc (zo_l (by decide +kernel) rfl rfl trivial) <|
  z_fc (zo_l (by decide +kernel) rfl rfl (by show ((8 : Nat) : Int) + (14) = ((22 : Nat) : Int); decide)) <|
  z_fc (zo_l (by decide +kernel) rfl rfl trivial) <|
  z_fc (zo_l (by decide +kernel) rfl rfl trivial) <|
  z_fc (zo_l (by decide +kernel) rfl rfl trivial) <|
  z_fc (zo_l (by decide +kernel) rfl rfl trivial) <|
  z_fc (zo_l (by decide +kernel) rfl rfl trivial) <|
  z_fc (zo_l (by decide +kernel) rfl rfl trivial) <|
  z_fc (zo_l (by decide +kernel) rfl rfl (by show ((19 : Nat) : Int) + (-14) = ((5 : Nat) : Int); decide)) <|
  z_fc (zo_l (by decide +kernel) rfl rfl trivial) <|
  z_fc (zo_r (by decide +kernel) rfl) <|
  z_fn)
  (z_fn)
theorem zk_144 (xs : List Int32) : z_okm (za_T xs) za_P za_M 144 := z_okm_of ⟨"LyndonBench", "startListing", "()V"⟩ prog_1_method_69_code zc_144 _ rfl rfl rfl rfl
  (z_fc (zo_l (by decide +kernel) rfl rfl trivial) <|
  z_fc (zo_h (by decide +kernel) rfl ⟨rfl, Nat.le_of_ble_eq_true rfl, _, _, _, Or.inl ⟨Nat.le_of_ble_eq_true rfl, rfl⟩, Nat.le_of_ble_eq_true rfl, zw_347⟩) <|
  z_fc (zo_v (by decide +kernel) rfl ⟨rfl, zd_45, zw_268, Nat.le_of_ble_eq_true rfl, ⟨_, Or.inl ⟨Nat.le_of_ble_eq_true rfl, rfl⟩, rfl⟩, zw_588, zw_269⟩) <|
  z_fc (zo_l (by decide +kernel) rfl rfl trivial) <|
  z_fc (zo_h (by decide +kernel) rfl ⟨rfl, Nat.le_of_ble_eq_true rfl, _, _, _, Or.inl ⟨Nat.le_of_ble_eq_true rfl, rfl⟩, Nat.le_of_ble_eq_true rfl, zw_347⟩) <|
  z_fc (zo_l (by decide +kernel) rfl rfl trivial) <|
  z_fc (zo_v (by decide +kernel) rfl ⟨rfl, zd_46, zw_325, Nat.le_of_ble_eq_true rfl, ⟨_, Or.inl ⟨Nat.le_of_ble_eq_true rfl, rfl⟩, rfl⟩, zw_786, zw_326⟩) <|
  z_fc (zo_e (by decide +kernel)) <|
  z_fn)
  (z_fn)
theorem zk_145_0 (xs : List Int32) {l : List zE} (h : ∀ q ∈ l, z_oke' (za_T xs) za_P za_M ⟨"LyndonBench", "countSmaller", "(II)I"⟩ prog_1_method_70_code q) : ∀ q ∈ zc_145_0 ++ l, z_oke' (za_T xs) za_P za_M ⟨"LyndonBench", "countSmaller", "(II)I"⟩ prog_1_method_70_code q :=
  z_fc (zo_l (by decide +kernel) rfl rfl trivial) <|
  z_fc (zo_l (by decide +kernel) rfl rfl trivial) <|
  z_fc (zo_l (by decide +kernel) rfl rfl trivial) <|
  z_fc (zo_l (by decide +kernel) rfl rfl trivial) <|
  z_fc (zo_l (by decide +kernel) rfl rfl trivial) <|
  z_fc (zo_l (by decide +kernel) rfl rfl trivial) <|
  z_fc (zo_l (by decide +kernel) rfl rfl trivial) <|
  z_fc (zo_v (by decide +kernel) rfl ⟨rfl, zd_144, zw_1122, Nat.le_of_ble_eq_true rfl, ⟨_, Or.inl ⟨Nat.le_of_ble_eq_true rfl, rfl⟩, rfl⟩, zw_1120, zw_30⟩) <|
  z_fc (zo_l (by decide +kernel) rfl rfl trivial) <|
  z_fc (zo_l (by decide +kernel) rfl rfl trivial) <|
  z_fc (zo_l (by decide +kernel) rfl rfl trivial) <|
  z_fc (zo_l (by decide +kernel) rfl rfl trivial) <|
  z_fc (zo_l (by decide +kernel) rfl rfl trivial) <|
  z_fc (zo_l (by decide +kernel) rfl rfl trivial) <|
  z_fc (zo_l (by decide +kernel) rfl rfl (by show ((21 : Nat) : Int) + (78) = ((99 : Nat) : Int); decide)) <|
  z_fc (zo_l (by decide +kernel) rfl rfl trivial) <|
  z_fc (zo_h (by decide +kernel) rfl ⟨rfl, Nat.le_of_ble_eq_true rfl, _, _, _, Or.inl ⟨Nat.le_of_ble_eq_true rfl, rfl⟩, Nat.le_of_ble_eq_true rfl, zw_347⟩) <|
  z_fc (zo_h (by decide +kernel) rfl ⟨rfl, Nat.le_of_ble_eq_true rfl, _, _, _, Or.inl ⟨Nat.le_of_ble_eq_true rfl, rfl⟩, Nat.le_of_ble_eq_true rfl, zw_164⟩) <|
  z_fc (zo_l (by decide +kernel) rfl rfl (by show ((31 : Nat) : Int) + (68) = ((99 : Nat) : Int); decide)) <|
  z_fc (zo_l (by decide +kernel) rfl rfl trivial) <|
  z_fc (zo_h (by decide +kernel) rfl ⟨rfl, Nat.le_of_ble_eq_true rfl, _, _, _, Or.inl ⟨Nat.le_of_ble_eq_true rfl, rfl⟩, Nat.le_of_ble_eq_true rfl, zw_347⟩) <|
  z_fc (zo_l (by decide +kernel) rfl rfl trivial) <|
  z_fc (zo_l (by decide +kernel) rfl rfl trivial) <|
  z_fc (zo_h (by decide +kernel) rfl ⟨rfl, Nat.le_of_ble_eq_true rfl, _, _, _, Or.inl ⟨Nat.le_of_ble_eq_true rfl, rfl⟩, Nat.le_of_ble_eq_true rfl, zw_347⟩) <|
  z_fc (zo_h (by decide +kernel) rfl ⟨rfl, Nat.le_of_ble_eq_true rfl, _, _, _, Or.inl ⟨Nat.le_of_ble_eq_true rfl, rfl⟩, Nat.le_of_ble_eq_true rfl, zw_164⟩) <|
  z_fc (zo_l (by decide +kernel) rfl rfl trivial) <|
  z_fc (zo_h (by decide +kernel) rfl ⟨rfl, Nat.le_of_ble_eq_true rfl, _, _, _, Or.inl ⟨Nat.le_of_ble_eq_true rfl, rfl⟩, Nat.le_of_ble_eq_true rfl, zw_341⟩) <|
  z_fc (zo_h (by decide +kernel) rfl ⟨rfl, Nat.le_of_ble_eq_true rfl, _, _, _, Or.inl ⟨Nat.le_of_ble_eq_true rfl, rfl⟩, Nat.le_of_ble_eq_true rfl, zw_177⟩) <|
  z_fc (zo_l (by decide +kernel) rfl rfl trivial) <|
  z_fc (zo_l (by decide +kernel) rfl rfl trivial) <|
  z_fc (zo_v (by decide +kernel) rfl ⟨rfl, zd_58, zw_544, Nat.le_of_ble_eq_true rfl, ⟨_, Or.inl ⟨Nat.le_of_ble_eq_true rfl, rfl⟩, rfl⟩, zw_746, zw_545⟩) <|
  z_fc (zo_l (by decide +kernel) rfl rfl (by show ((58 : Nat) : Int) + (6) = ((64 : Nat) : Int); decide)) <|
  z_fc (zo_l (by decide +kernel) rfl rfl trivial) <|
  z_fc (zo_r (by decide +kernel) rfl) <|
  z_fc (zo_l (by decide +kernel) rfl rfl trivial) <|
  z_fc (zo_h (by decide +kernel) rfl ⟨rfl, Nat.le_of_ble_eq_true rfl, _, _, _, Or.inl ⟨Nat.le_of_ble_eq_true rfl, rfl⟩, Nat.le_of_ble_eq_true rfl, zw_347⟩) <|
  z_fc (zo_h (by decide +kernel) rfl ⟨rfl, Nat.le_of_ble_eq_true rfl, _, _, _, Or.inl ⟨Nat.le_of_ble_eq_true rfl, rfl⟩, Nat.le_of_ble_eq_true rfl, zw_164⟩) <|
  z_fc (zo_l (by decide +kernel) rfl rfl trivial) <|
  z_fc (zo_l (by decide +kernel) rfl rfl (by show ((72 : Nat) : Int) + (6) = ((78 : Nat) : Int); decide)) <|
  z_fc (zo_l (by decide +kernel) rfl rfl trivial) <|
  h
theorem zk_145_1 (xs : List Int32) {l : List zE} (h : ∀ q ∈ l, z_oke' (za_T xs) za_P za_M ⟨"LyndonBench", "countSmaller", "(II)I"⟩ prog_1_method_70_code q) : ∀ q ∈ zc_145_1 ++ l, z_oke' (za_T xs) za_P za_M ⟨"LyndonBench", "countSmaller", "(II)I"⟩ prog_1_method_70_code q :=
  z_fc (zo_l (by decide +kernel) rfl rfl trivial) <|
  z_fc (zo_h (by decide +kernel) rfl ⟨rfl, Nat.le_of_ble_eq_true rfl, _, _, _, Or.inl ⟨Nat.le_of_ble_eq_true rfl, rfl⟩, Nat.le_of_ble_eq_true rfl, zw_347⟩) <|
  z_fc (zo_l (by decide +kernel) rfl rfl trivial) <|
  z_fc (zo_l (by decide +kernel) rfl rfl trivial) <|
  z_fc (zo_h (by decide +kernel) rfl ⟨rfl, Nat.le_of_ble_eq_true rfl, _, _, _, Or.inl ⟨Nat.le_of_ble_eq_true rfl, rfl⟩, Nat.le_of_ble_eq_true rfl, zw_341⟩) <|
  z_fc (zo_v (by decide +kernel) rfl ⟨rfl, zd_32, zw_523, Nat.le_of_ble_eq_true rfl, ⟨_, Or.inl ⟨Nat.le_of_ble_eq_true rfl, rfl⟩, rfl⟩, zw_978, zw_524⟩) <|
  z_fc (zo_v (by decide +kernel) rfl ⟨rfl, zd_75, zw_528, Nat.le_of_ble_eq_true rfl, ⟨_, Or.inl ⟨Nat.le_of_ble_eq_true rfl, rfl⟩, rfl⟩, zw_979, zw_529⟩) <|
  z_fc (zo_l (by decide +kernel) rfl rfl trivial) <|
  z_fc (zo_l (by decide +kernel) rfl rfl (by show ((96 : Nat) : Int) + (-82) = ((14 : Nat) : Int); decide)) <|
  z_fc (zo_l (by decide +kernel) rfl rfl trivial) <|
  z_fc (zo_r (by decide +kernel) rfl) <|
  h
theorem zk_145 (xs : List Int32) : z_okm (za_T xs) za_P za_M 145 := z_okm_of ⟨"LyndonBench", "countSmaller", "(II)I"⟩ prog_1_method_70_code zc_145 _ rfl rfl rfl rfl
  (zk_145_0 xs <|
  zk_145_1 xs <|
  z_fn)
  (z_fn)
theorem zk_146_0 (xs : List Int32) {l : List zE} (h : ∀ q ∈ l, z_oke' (za_T xs) za_P za_M ⟨"LyndonBench", "findRowLetter", "(II)I"⟩ prog_1_method_71_code q) : ∀ q ∈ zc_146_0 ++ l, z_oke' (za_T xs) za_P za_M ⟨"LyndonBench", "findRowLetter", "(II)I"⟩ prog_1_method_71_code q :=
  z_fc (zo_l (by decide +kernel) rfl rfl trivial) <|
  z_fc (zo_l (by decide +kernel) rfl rfl trivial) <|
  z_fc (zo_l (by decide +kernel) rfl rfl trivial) <|
  z_fc (zo_v (by decide +kernel) rfl ⟨rfl, zd_144, zw_1122, Nat.le_of_ble_eq_true rfl, ⟨_, Or.inl ⟨Nat.le_of_ble_eq_true rfl, rfl⟩, rfl⟩, zw_1120, zw_30⟩) <|
  z_fc (zo_l (by decide +kernel) rfl rfl trivial) <|
  z_fc (zo_l (by decide +kernel) rfl rfl trivial) <|
  z_fc (zo_l (by decide +kernel) rfl rfl trivial) <|
  z_fc (zo_l (by decide +kernel) rfl rfl trivial) <|
  z_fc (zo_l (by decide +kernel) rfl rfl trivial) <|
  z_fc (zo_l (by decide +kernel) rfl rfl trivial) <|
  z_fc (zo_l (by decide +kernel) rfl rfl (by show ((16 : Nat) : Int) + (80) = ((96 : Nat) : Int); decide)) <|
  z_fc (zo_l (by decide +kernel) rfl rfl trivial) <|
  z_fc (zo_h (by decide +kernel) rfl ⟨rfl, Nat.le_of_ble_eq_true rfl, _, _, _, Or.inl ⟨Nat.le_of_ble_eq_true rfl, rfl⟩, Nat.le_of_ble_eq_true rfl, zw_347⟩) <|
  z_fc (zo_h (by decide +kernel) rfl ⟨rfl, Nat.le_of_ble_eq_true rfl, _, _, _, Or.inl ⟨Nat.le_of_ble_eq_true rfl, rfl⟩, Nat.le_of_ble_eq_true rfl, zw_164⟩) <|
  z_fc (zo_l (by decide +kernel) rfl rfl (by show ((26 : Nat) : Int) + (70) = ((96 : Nat) : Int); decide)) <|
  z_fc (zo_l (by decide +kernel) rfl rfl trivial) <|
  z_fc (zo_l (by decide +kernel) rfl rfl trivial) <|
  z_fc (zo_h (by decide +kernel) rfl ⟨rfl, Nat.le_of_ble_eq_true rfl, _, _, _, Or.inl ⟨Nat.le_of_ble_eq_true rfl, rfl⟩, Nat.le_of_ble_eq_true rfl, zw_347⟩) <|
  z_fc (zo_h (by decide +kernel) rfl ⟨rfl, Nat.le_of_ble_eq_true rfl, _, _, _, Or.inl ⟨Nat.le_of_ble_eq_true rfl, rfl⟩, Nat.le_of_ble_eq_true rfl, zw_164⟩) <|
  z_fc (zo_l (by decide +kernel) rfl rfl trivial) <|
  z_fc (zo_l (by decide +kernel) rfl rfl (by show ((38 : Nat) : Int) + (37) = ((75 : Nat) : Int); decide)) <|
  z_fc (zo_l (by decide +kernel) rfl rfl trivial) <|
  z_fc (zo_l (by decide +kernel) rfl rfl trivial) <|
  z_fc (zo_l (by decide +kernel) rfl rfl trivial) <|
  z_fc (zo_h (by decide +kernel) rfl ⟨rfl, Nat.le_of_ble_eq_true rfl, _, _, _, Or.inl ⟨Nat.le_of_ble_eq_true rfl, rfl⟩, Nat.le_of_ble_eq_true rfl, zw_347⟩) <|
  z_fc (zo_h (by decide +kernel) rfl ⟨rfl, Nat.le_of_ble_eq_true rfl, _, _, _, Or.inl ⟨Nat.le_of_ble_eq_true rfl, rfl⟩, Nat.le_of_ble_eq_true rfl, zw_164⟩) <|
  z_fc (zo_l (by decide +kernel) rfl rfl trivial) <|
  z_fc (zo_l (by decide +kernel) rfl rfl (by show ((51 : Nat) : Int) + (14) = ((65 : Nat) : Int); decide)) <|
  z_fc (zo_l (by decide +kernel) rfl rfl trivial) <|
  z_fc (zo_h (by decide +kernel) rfl ⟨rfl, Nat.le_of_ble_eq_true rfl, _, _, _, Or.inl ⟨Nat.le_of_ble_eq_true rfl, rfl⟩, Nat.le_of_ble_eq_true rfl, zw_347⟩) <|
  z_fc (zo_l (by decide +kernel) rfl rfl trivial) <|
  z_fc (zo_l (by decide +kernel) rfl rfl trivial) <|
  z_fc (zo_l (by decide +kernel) rfl rfl trivial) <|
  z_fc (zo_v (by decide +kernel) rfl ⟨rfl, zd_43, zw_338, Nat.le_of_ble_eq_true rfl, ⟨_, Or.inl ⟨Nat.le_of_ble_eq_true rfl, rfl⟩, rfl⟩, zw_648, zw_339⟩) <|
  z_fc (zo_r (by decide +kernel) rfl) <|
  z_fc (zo_l (by decide +kernel) rfl rfl trivial) <|
  z_fc (zo_l (by decide +kernel) rfl rfl trivial) <|
  z_fc (zo_h (by decide +kernel) rfl ⟨rfl, Nat.le_of_ble_eq_true rfl, _, _, _, Or.inl ⟨Nat.le_of_ble_eq_true rfl, rfl⟩, Nat.le_of_ble_eq_true rfl, zw_347⟩) <|
  z_fc (zo_h (by decide +kernel) rfl ⟨rfl, Nat.le_of_ble_eq_true rfl, _, _, _, Or.inl ⟨Nat.le_of_ble_eq_true rfl, rfl⟩, Nat.le_of_ble_eq_true rfl, zw_164⟩) <|
  z_fc (zo_l (by decide +kernel) rfl rfl trivial) <|
  h
theorem zk_146_1 (xs : List Int32) {l : List zE} (h : ∀ q ∈ l, z_oke' (za_T xs) za_P za_M ⟨"LyndonBench", "findRowLetter", "(II)I"⟩ prog_1_method_71_code q) : ∀ q ∈ zc_146_1 ++ l, z_oke' (za_T xs) za_P za_M ⟨"LyndonBench", "findRowLetter", "(II)I"⟩ prog_1_method_71_code q :=
  z_fc (zo_l (by decide +kernel) rfl rfl trivial) <|
  z_fc (zo_l (by decide +kernel) rfl rfl trivial) <|
  z_fc (zo_h (by decide +kernel) rfl ⟨rfl, Nat.le_of_ble_eq_true rfl, _, _, _, Or.inl ⟨Nat.le_of_ble_eq_true rfl, rfl⟩, Nat.le_of_ble_eq_true rfl, zw_347⟩) <|
  z_fc (zo_l (by decide +kernel) rfl rfl trivial) <|
  z_fc (zo_l (by decide +kernel) rfl rfl trivial) <|
  z_fc (zo_h (by decide +kernel) rfl ⟨rfl, Nat.le_of_ble_eq_true rfl, _, _, _, Or.inl ⟨Nat.le_of_ble_eq_true rfl, rfl⟩, Nat.le_of_ble_eq_true rfl, zw_341⟩) <|
  z_fc (zo_v (by decide +kernel) rfl ⟨rfl, zd_32, zw_523, Nat.le_of_ble_eq_true rfl, ⟨_, Or.inl ⟨Nat.le_of_ble_eq_true rfl, rfl⟩, rfl⟩, zw_978, zw_524⟩) <|
  z_fc (zo_v (by decide +kernel) rfl ⟨rfl, zd_75, zw_528, Nat.le_of_ble_eq_true rfl, ⟨_, Or.inl ⟨Nat.le_of_ble_eq_true rfl, rfl⟩, rfl⟩, zw_979, zw_529⟩) <|
  z_fc (zo_l (by decide +kernel) rfl rfl trivial) <|
  z_fc (zo_l (by decide +kernel) rfl rfl (by show ((93 : Nat) : Int) + (-84) = ((9 : Nat) : Int); decide)) <|
  z_fc (zo_l (by decide +kernel) rfl rfl trivial) <|
  z_fc (zo_r (by decide +kernel) rfl) <|
  h
theorem zk_146 (xs : List Int32) : z_okm (za_T xs) za_P za_M 146 := z_okm_of ⟨"LyndonBench", "findRowLetter", "(II)I"⟩ prog_1_method_71_code zc_146 _ rfl rfl rfl rfl
  (zk_146_0 xs <|
  zk_146_1 xs <|
  z_fn)
  (z_fn)
theorem zk_147_0 (xs : List Int32) {l : List zE} (h : ∀ q ∈ l, z_oke' (za_T xs) za_P za_M ⟨"LyndonBenchModel", "<init>", "()V"⟩ prog_9_method_1_code q) : ∀ q ∈ zc_147_0 ++ l, z_oke' (za_T xs) za_P za_M ⟨"LyndonBenchModel", "<init>", "()V"⟩ prog_9_method_1_code q :=
  z_fc (zo_l (by decide +kernel) rfl rfl trivial) <|
  z_fc (zo_h (by decide +kernel) rfl ⟨rfl, zw_1175, zw_145, zw_146⟩) <|
  z_fc (zo_l (by decide +kernel) rfl rfl trivial) <|
  z_fc (zo_l (by decide +kernel) rfl rfl trivial) <|
  z_fc (zo_h (by decide +kernel) rfl ⟨rfl, zw_260⟩) <|
  z_fc (zo_h (by decide +kernel) rfl ⟨rfl, Nat.le_of_ble_eq_true rfl, _, _, _, rfl, Nat.le_of_ble_eq_true rfl, zw_1434, Or.inr ⟨rfl, rfl, rfl⟩⟩) <|
  z_fc (zo_l (by decide +kernel) rfl rfl trivial) <|
  z_fc (zo_l (by decide +kernel) rfl rfl trivial) <|
  z_fc (zo_h (by decide +kernel) rfl ⟨rfl, zw_260⟩) <|
  z_fc (zo_h (by decide +kernel) rfl ⟨rfl, Nat.le_of_ble_eq_true rfl, _, _, _, rfl, Nat.le_of_ble_eq_true rfl, zw_1435, Or.inr ⟨rfl, rfl, rfl⟩⟩) <|
  z_fc (zo_l (by decide +kernel) rfl rfl trivial) <|
  z_fc (zo_l (by decide +kernel) rfl rfl trivial) <|
  z_fc (zo_h (by decide +kernel) rfl ⟨rfl, zw_260⟩) <|
  z_fc (zo_h (by decide +kernel) rfl ⟨rfl, Nat.le_of_ble_eq_true rfl, _, _, _, rfl, Nat.le_of_ble_eq_true rfl, zw_1436, Or.inr ⟨rfl, rfl, rfl⟩⟩) <|
  z_fc (zo_l (by decide +kernel) rfl rfl trivial) <|
  z_fc (zo_l (by decide +kernel) rfl rfl trivial) <|
  z_fc (zo_h (by decide +kernel) rfl ⟨rfl, zw_260⟩) <|
  z_fc (zo_h (by decide +kernel) rfl ⟨rfl, Nat.le_of_ble_eq_true rfl, _, _, _, rfl, Nat.le_of_ble_eq_true rfl, zw_1437, Or.inr ⟨rfl, rfl, rfl⟩⟩) <|
  z_fc (zo_l (by decide +kernel) rfl rfl trivial) <|
  z_fc (zo_l (by decide +kernel) rfl rfl trivial) <|
  z_fc (zo_h (by decide +kernel) rfl ⟨rfl, zw_260⟩) <|
  z_fc (zo_h (by decide +kernel) rfl ⟨rfl, Nat.le_of_ble_eq_true rfl, _, _, _, rfl, Nat.le_of_ble_eq_true rfl, zw_1440, Or.inr ⟨rfl, rfl, rfl⟩⟩) <|
  z_fc (zo_l (by decide +kernel) rfl rfl trivial) <|
  z_fc (zo_l (by decide +kernel) rfl rfl trivial) <|
  z_fc (zo_h (by decide +kernel) rfl ⟨rfl, zw_260⟩) <|
  z_fc (zo_h (by decide +kernel) rfl ⟨rfl, Nat.le_of_ble_eq_true rfl, _, _, _, rfl, Nat.le_of_ble_eq_true rfl, zw_1441, Or.inr ⟨rfl, rfl, rfl⟩⟩) <|
  z_fc (zo_l (by decide +kernel) rfl rfl trivial) <|
  z_fc (zo_l (by decide +kernel) rfl rfl trivial) <|
  z_fc (zo_h (by decide +kernel) rfl ⟨rfl, zw_260⟩) <|
  z_fc (zo_h (by decide +kernel) rfl ⟨rfl, Nat.le_of_ble_eq_true rfl, _, _, _, rfl, Nat.le_of_ble_eq_true rfl, zw_1442, Or.inr ⟨rfl, rfl, rfl⟩⟩) <|
  z_fc (zo_l (by decide +kernel) rfl rfl trivial) <|
  z_fc (zo_l (by decide +kernel) rfl rfl trivial) <|
  z_fc (zo_h (by decide +kernel) rfl ⟨rfl, zw_260⟩) <|
  z_fc (zo_h (by decide +kernel) rfl ⟨rfl, Nat.le_of_ble_eq_true rfl, _, _, _, rfl, Nat.le_of_ble_eq_true rfl, zw_1443, Or.inr ⟨rfl, rfl, rfl⟩⟩) <|
  z_fc (zo_l (by decide +kernel) rfl rfl trivial) <|
  z_fc (zo_l (by decide +kernel) rfl rfl trivial) <|
  z_fc (zo_h (by decide +kernel) rfl ⟨rfl, Nat.le_of_ble_eq_true rfl, _, _, _, rfl, Nat.le_of_ble_eq_true rfl, zw_1447, Or.inl rfl⟩) <|
  z_fc (zo_l (by decide +kernel) rfl rfl trivial) <|
  z_fc (zo_l (by decide +kernel) rfl rfl trivial) <|
  z_fc (zo_h (by decide +kernel) rfl ⟨rfl, zw_1507⟩) <|
  h
theorem zk_147_1 (xs : List Int32) {l : List zE} (h : ∀ q ∈ l, z_oke' (za_T xs) za_P za_M ⟨"LyndonBenchModel", "<init>", "()V"⟩ prog_9_method_1_code q) : ∀ q ∈ zc_147_1 ++ l, z_oke' (za_T xs) za_P za_M ⟨"LyndonBenchModel", "<init>", "()V"⟩ prog_9_method_1_code q :=
  z_fc (zo_h (by decide +kernel) rfl ⟨rfl, Nat.le_of_ble_eq_true rfl, _, _, _, rfl, Nat.le_of_ble_eq_true rfl, zw_1449, Or.inr ⟨rfl, rfl, rfl⟩⟩) <|
  z_fc (zo_l (by decide +kernel) rfl rfl trivial) <|
  z_fc (zo_l (by decide +kernel) rfl rfl trivial) <|
  z_fc (zo_h (by decide +kernel) rfl ⟨rfl, zw_260⟩) <|
  z_fc (zo_h (by decide +kernel) rfl ⟨rfl, Nat.le_of_ble_eq_true rfl, _, _, _, rfl, Nat.le_of_ble_eq_true rfl, zw_1457, Or.inr ⟨rfl, rfl, rfl⟩⟩) <|
  z_fc (zo_l (by decide +kernel) rfl rfl trivial) <|
  z_fc (zo_h (by decide +kernel) rfl ⟨rfl, Or.inr ⟨rfl, _, rfl, rfl, rfl⟩⟩) <|
  z_fc (zo_v (by decide +kernel) rfl ⟨rfl, zd_195, zw_1179, Nat.le_of_ble_eq_true rfl, ⟨_, Or.inl ⟨Nat.le_of_ble_eq_true rfl, rfl⟩, rfl⟩, zw_1177, zw_33⟩) <|
  z_fc (zo_l (by decide +kernel) rfl rfl trivial) <|
  z_fc (zo_v (by decide +kernel) rfl ⟨rfl, zd_221, zw_1185, Nat.le_of_ble_eq_true rfl, ⟨_, Or.inl ⟨Nat.le_of_ble_eq_true rfl, rfl⟩, rfl⟩, zw_1183, zw_34⟩) <|
  z_fc (zo_l (by decide +kernel) rfl rfl trivial) <|
  z_fc (zo_l (by decide +kernel) rfl rfl trivial) <|
  z_fc (zo_l (by decide +kernel) rfl rfl trivial) <|
  z_fc (zo_h (by decide +kernel) rfl ⟨rfl, Nat.le_of_ble_eq_true rfl, _, _, _, rfl, Nat.le_of_ble_eq_true rfl, zw_1451, Or.inl rfl⟩) <|
  z_fc (zo_e (by decide +kernel)) <|
  h
theorem zk_147 (xs : List Int32) : z_okm (za_T xs) za_P za_M 147 := z_okm_of ⟨"LyndonBenchModel", "<init>", "()V"⟩ prog_9_method_1_code zc_147 _ rfl rfl rfl rfl
  (zk_147_0 xs <|
  zk_147_1 xs <|
  z_fn)
  (z_fn)
theorem zk_148 (xs : List Int32) : z_okm (za_T xs) za_P za_M 148 := z_okm_of ⟨"LyndonBenchModel", "in", "(III)Z"⟩ prog_9_method_3_code zc_148 _ rfl rfl rfl rfl
  (z_fc (zo_l (by decide +kernel) rfl rfl trivial) <|
  z_fc (zo_l (by decide +kernel) rfl rfl trivial) <|
  z_fc (zo_l (by decide +kernel) rfl rfl (by show ((2 : Nat) : Int) + (12) = ((14 : Nat) : Int); decide)) <|
  z_fc (zo_l (by decide +kernel) rfl rfl trivial) <|
  z_fc (zo_l (by decide +kernel) rfl rfl trivial) <|
  z_fc (zo_l (by decide +kernel) rfl rfl (by show ((7 : Nat) : Int) + (7) = ((14 : Nat) : Int); decide)) <|
  z_fc (zo_l (by decide +kernel) rfl rfl trivial) <|
  z_fc (zo_l (by decide +kernel) rfl rfl (by show ((11 : Nat) : Int) + (4) = ((15 : Nat) : Int); decide)) <|
  z_fc (zo_l (by decide +kernel) rfl rfl trivial) <|
  z_fc (zo_r (by decide +kernel) rfl) <|
  z_fn)
  (z_fn)
theorem zk_149 (xs : List Int32) : z_okm (za_T xs) za_P za_M 149 := z_okm_of ⟨"LyndonBenchModel", "throwsOne", "(Z)Z"⟩ prog_9_method_4_code zc_149 _ rfl rfl rfl rfl
  (z_fc (zo_l (by decide +kernel) rfl rfl trivial) <|
  z_fc (zo_l (by decide +kernel) rfl rfl trivial) <|
  z_fc (zo_l (by decide +kernel) rfl rfl (by show ((2 : Nat) : Int) + (7) = ((9 : Nat) : Int); decide)) <|
  z_fc (zo_l (by decide +kernel) rfl rfl trivial) <|
  z_fc (zo_l (by decide +kernel) rfl rfl (by show ((6 : Nat) : Int) + (4) = ((10 : Nat) : Int); decide)) <|
  z_fc (zo_l (by decide +kernel) rfl rfl trivial) <|
  z_fc (zo_h (by decide +kernel) rfl ⟨rfl, Nat.le_of_ble_eq_true rfl, _, _, _, rfl, Nat.le_of_ble_eq_true rfl, zw_1451, Or.inl rfl⟩) <|
  z_fc (zo_l (by decide +kernel) rfl rfl trivial) <|
  z_fc (zo_r (by decide +kernel) rfl) <|
  z_fn)
  (z_fn)
theorem zk_150 (xs : List Int32) : z_okm (za_T xs) za_P za_M 150 := z_okm_of ⟨"LyndonBenchModel", "throwsOne", "(ZZ)Z"⟩ prog_9_method_5_code zc_150 _ rfl rfl rfl rfl
  (z_fc (zo_l (by decide +kernel) rfl rfl trivial) <|
  z_fc (zo_l (by decide +kernel) rfl rfl trivial) <|
  z_fc (zo_l (by decide +kernel) rfl rfl (by show ((2 : Nat) : Int) + (7) = ((9 : Nat) : Int); decide)) <|
  z_fc (zo_l (by decide +kernel) rfl rfl trivial) <|
  z_fc (zo_l (by decide +kernel) rfl rfl (by show ((6 : Nat) : Int) + (12) = ((18 : Nat) : Int); decide)) <|
  z_fc (zo_l (by decide +kernel) rfl rfl trivial) <|
  z_fc (zo_l (by decide +kernel) rfl rfl (by show ((10 : Nat) : Int) + (7) = ((17 : Nat) : Int); decide)) <|
  z_fc (zo_l (by decide +kernel) rfl rfl trivial) <|
  z_fc (zo_l (by decide +kernel) rfl rfl (by show ((14 : Nat) : Int) + (4) = ((18 : Nat) : Int); decide)) <|
  z_fc (zo_l (by decide +kernel) rfl rfl trivial) <|
  z_fc (zo_h (by decide +kernel) rfl ⟨rfl, Nat.le_of_ble_eq_true rfl, _, _, _, rfl, Nat.le_of_ble_eq_true rfl, zw_1451, Or.inl rfl⟩) <|
  z_fc (zo_l (by decide +kernel) rfl rfl trivial) <|
  z_fc (zo_l (by decide +kernel) rfl rfl (by show ((22 : Nat) : Int) + (7) = ((29 : Nat) : Int); decide)) <|
  z_fc (zo_l (by decide +kernel) rfl rfl trivial) <|
  z_fc (zo_l (by decide +kernel) rfl rfl (by show ((26 : Nat) : Int) + (7) = ((33 : Nat) : Int); decide)) <|
  z_fc (zo_l (by decide +kernel) rfl rfl trivial) <|
  z_fc (zo_l (by decide +kernel) rfl rfl (by show ((30 : Nat) : Int) + (4) = ((34 : Nat) : Int); decide)) <|
  z_fc (zo_l (by decide +kernel) rfl rfl trivial) <|
  z_fc (zo_r (by decide +kernel) rfl) <|
  z_fn)
  (z_fn)
theorem zk_151 (xs : List Int32) : z_okm (za_T xs) za_P za_M 151 := z_okm_of ⟨"LyndonBenchModel", "isLetter", "(I)Z"⟩ prog_9_method_6_code zc_151 _ rfl rfl rfl rfl
  (z_fc (zo_l (by decide +kernel) rfl rfl trivial) <|
  z_fc (zo_l (by decide +kernel) rfl rfl trivial) <|
  z_fc (zo_l (by decide +kernel) rfl rfl trivial) <|
  z_fc (zo_l (by decide +kernel) rfl rfl trivial) <|
  z_fc (zo_h (by decide +kernel) rfl ⟨rfl, Nat.le_of_ble_eq_true rfl, _, _, _, Or.inl ⟨Nat.le_of_ble_eq_true rfl, rfl⟩, Nat.le_of_ble_eq_true rfl, zw_1434⟩) <|
  z_fc (zo_l (by decide +kernel) rfl rfl trivial) <|
  z_fc (zo_h (by decide +kernel) rfl rfl) <|
  z_fc (zo_l (by decide +kernel) rfl rfl trivial) <|
  z_fc (zo_l (by decide +kernel) rfl rfl trivial) <|
  z_fc (zo_l (by decide +kernel) rfl rfl trivial) <|
  z_fc (zo_s (by decide +kernel) rfl ⟨zd_148, zw_1215, zw_1216⟩) <|
  z_fc (zo_r (by decide +kernel) rfl) <|
  z_fn)
  (z_fn)
theorem zk_152 (xs : List Int32) : z_okm (za_T xs) za_P za_M 152 := z_okm_of ⟨"LyndonBenchModel", "isShelved", "(I)Z"⟩ prog_9_method_7_code zc_152 _ rfl rfl rfl rfl
  (z_fc (zo_l (by decide +kernel) rfl rfl trivial) <|
  z_fc (zo_l (by decide +kernel) rfl rfl trivial) <|
  z_fc (zo_l (by decide +kernel) rfl rfl trivial) <|
  z_fc (zo_h (by decide +kernel) rfl ⟨rfl, Nat.le_of_ble_eq_true rfl, _, _, _, Or.inl ⟨Nat.le_of_ble_eq_true rfl, rfl⟩, Nat.le_of_ble_eq_true rfl, zw_1434⟩) <|
  z_fc (zo_l (by decide +kernel) rfl rfl trivial) <|
  z_fc (zo_h (by decide +kernel) rfl rfl) <|
  z_fc (zo_l (by decide +kernel) rfl rfl trivial) <|
  z_fc (zo_l (by decide +kernel) rfl rfl trivial) <|
  z_fc (zo_s (by decide +kernel) rfl ⟨zd_148, zw_1215, zw_1216⟩) <|
  z_fc (zo_r (by decide +kernel) rfl) <|
  z_fn)
  (z_fn)
theorem zk_153_0 (xs : List Int32) {l : List zE} (h : ∀ q ∈ l, z_oke' (za_T xs) za_P za_M ⟨"LyndonBenchModel", "compares", "(IIII)I"⟩ prog_9_method_8_code q) : ∀ q ∈ zc_153_0 ++ l, z_oke' (za_T xs) za_P za_M ⟨"LyndonBenchModel", "compares", "(IIII)I"⟩ prog_9_method_8_code q :=
  z_fc (zo_l (by decide +kernel) rfl rfl trivial) <|
  z_fc (zo_l (by decide +kernel) rfl rfl trivial) <|
  z_fc (zo_l (by decide +kernel) rfl rfl trivial) <|
  z_fc (zo_l (by decide +kernel) rfl rfl trivial) <|
  z_fc (zo_l (by decide +kernel) rfl rfl (by show ((6 : Nat) : Int) + (57) = ((63 : Nat) : Int); decide)) <|
  z_fc (zo_l (by decide +kernel) rfl rfl trivial) <|
  z_fc (zo_l (by decide +kernel) rfl rfl trivial) <|
  z_fc (zo_l (by decide +kernel) rfl rfl (by show ((13 : Nat) : Int) + (50) = ((63 : Nat) : Int); decide)) <|
  z_fc (zo_l (by decide +kernel) rfl rfl trivial) <|
  z_fc (zo_h (by decide +kernel) rfl ⟨rfl, Nat.le_of_ble_eq_true rfl, _, _, _, Or.inl ⟨Nat.le_of_ble_eq_true rfl, rfl⟩, Nat.le_of_ble_eq_true rfl, zw_1434⟩) <|
  z_fc (zo_l (by decide +kernel) rfl rfl trivial) <|
  z_fc (zo_l (by decide +kernel) rfl rfl trivial) <|
  z_fc (zo_l (by decide +kernel) rfl rfl trivial) <|
  z_fc (zo_h (by decide +kernel) rfl rfl) <|
  z_fc (zo_l (by decide +kernel) rfl rfl trivial) <|
  z_fc (zo_h (by decide +kernel) rfl ⟨rfl, Nat.le_of_ble_eq_true rfl, _, _, _, Or.inl ⟨Nat.le_of_ble_eq_true rfl, rfl⟩, Nat.le_of_ble_eq_true rfl, zw_1434⟩) <|
  z_fc (zo_l (by decide +kernel) rfl rfl trivial) <|
  z_fc (zo_l (by decide +kernel) rfl rfl trivial) <|
  z_fc (zo_l (by decide +kernel) rfl rfl trivial) <|
  z_fc (zo_h (by decide +kernel) rfl rfl) <|
  z_fc (zo_l (by decide +kernel) rfl rfl (by show ((34 : Nat) : Int) + (23) = ((57 : Nat) : Int); decide)) <|
  z_fc (zo_l (by decide +kernel) rfl rfl trivial) <|
  z_fc (zo_h (by decide +kernel) rfl ⟨rfl, Nat.le_of_ble_eq_true rfl, _, _, _, Or.inl ⟨Nat.le_of_ble_eq_true rfl, rfl⟩, Nat.le_of_ble_eq_true rfl, zw_1434⟩) <|
  z_fc (zo_l (by decide +kernel) rfl rfl trivial) <|
  z_fc (zo_l (by decide +kernel) rfl rfl trivial) <|
  z_fc (zo_l (by decide +kernel) rfl rfl trivial) <|
  z_fc (zo_h (by decide +kernel) rfl rfl) <|
  z_fc (zo_l (by decide +kernel) rfl rfl trivial) <|
  z_fc (zo_h (by decide +kernel) rfl ⟨rfl, Nat.le_of_ble_eq_true rfl, _, _, _, Or.inl ⟨Nat.le_of_ble_eq_true rfl, rfl⟩, Nat.le_of_ble_eq_true rfl, zw_1434⟩) <|
  z_fc (zo_l (by decide +kernel) rfl rfl trivial) <|
  z_fc (zo_l (by decide +kernel) rfl rfl trivial) <|
  z_fc (zo_l (by decide +kernel) rfl rfl trivial) <|
  z_fc (zo_h (by decide +kernel) rfl rfl) <|
  z_fc (zo_l (by decide +kernel) rfl rfl trivial) <|
  z_fc (zo_r (by decide +kernel) rfl) <|
  z_fc (zo_l (by decide +kernel) rfl rfl trivial) <|
  z_fc (zo_l (by decide +kernel) rfl rfl (by show ((60 : Nat) : Int) + (-57) = ((3 : Nat) : Int); decide)) <|
  z_fc (zo_l (by decide +kernel) rfl rfl trivial) <|
  z_fc (zo_l (by decide +kernel) rfl rfl trivial) <|
  z_fc (zo_l (by decide +kernel) rfl rfl trivial) <|
  h
theorem zk_153_1 (xs : List Int32) {l : List zE} (h : ∀ q ∈ l, z_oke' (za_T xs) za_P za_M ⟨"LyndonBenchModel", "compares", "(IIII)I"⟩ prog_9_method_8_code q) : ∀ q ∈ zc_153_1 ++ l, z_oke' (za_T xs) za_P za_M ⟨"LyndonBenchModel", "compares", "(IIII)I"⟩ prog_9_method_8_code q :=
  z_fc (zo_r (by decide +kernel) rfl) <|
  h
theorem zk_153 (xs : List Int32) : z_okm (za_T xs) za_P za_M 153 := z_okm_of ⟨"LyndonBenchModel", "compares", "(IIII)I"⟩ prog_9_method_8_code zc_153 _ rfl rfl rfl rfl
  (zk_153_0 xs <|
  zk_153_1 xs <|
  z_fn)
  (z_fn)
theorem zk_154 (xs : List Int32) : z_okm (za_T xs) za_P za_M 154 := z_okm_of ⟨"LyndonBenchModel", "shelved", "(II)I"⟩ prog_9_method_9_code zc_154 _ rfl rfl rfl rfl
  (z_fc (zo_l (by decide +kernel) rfl rfl trivial) <|
  z_fc (zo_l (by decide +kernel) rfl rfl trivial) <|
  z_fc (zo_l (by decide +kernel) rfl rfl trivial) <|
  z_fc (zo_l (by decide +kernel) rfl rfl trivial) <|
  z_fc (zo_l (by decide +kernel) rfl rfl trivial) <|
  z_fc (zo_l (by decide +kernel) rfl rfl trivial) <|
  z_fc (zo_l (by decide +kernel) rfl rfl trivial) <|
  z_fc (zo_h (by decide +kernel) rfl ⟨rfl, Nat.le_of_ble_eq_true rfl, _, _, _, Or.inl ⟨Nat.le_of_ble_eq_true rfl, rfl⟩, Nat.le_of_ble_eq_true rfl, zw_1434⟩) <|
  z_fc (zo_l (by decide +kernel) rfl rfl trivial) <|
  z_fc (zo_l (by decide +kernel) rfl rfl trivial) <|
  z_fc (zo_l (by decide +kernel) rfl rfl trivial) <|
  z_fc (zo_h (by decide +kernel) rfl rfl) <|
  z_fc (zo_l (by decide +kernel) rfl rfl trivial) <|
  z_fc (zo_l (by decide +kernel) rfl rfl trivial) <|
  z_fc (zo_l (by decide +kernel) rfl rfl trivial) <|
  z_fc (zo_l (by decide +kernel) rfl rfl trivial) <|
  z_fc (zo_l (by decide +kernel) rfl rfl trivial) <|
  z_fc (zo_l (by decide +kernel) rfl rfl trivial) <|
  z_fc (zo_h (by decide +kernel) rfl ⟨rfl, Nat.le_of_ble_eq_true rfl, _, _, _, Or.inl ⟨Nat.le_of_ble_eq_true rfl, rfl⟩, Nat.le_of_ble_eq_true rfl, zw_1434⟩) <|
  z_fc (zo_l (by decide +kernel) rfl rfl trivial) <|
  z_fc (zo_l (by decide +kernel) rfl rfl trivial) <|
  z_fc (zo_l (by decide +kernel) rfl rfl trivial) <|
  z_fc (zo_h (by decide +kernel) rfl rfl) <|
  z_fc (zo_v (by decide +kernel) rfl ⟨rfl, zd_153, zw_1428, Nat.le_of_ble_eq_true rfl, ⟨_, Or.inl ⟨Nat.le_of_ble_eq_true rfl, rfl⟩, rfl⟩, zw_1426, zw_90⟩) <|
  z_fc (zo_r (by decide +kernel) rfl) <|
  z_fn)
  (z_fn)
theorem zk_155 (xs : List Int32) : z_okm (za_T xs) za_P za_M 155 := z_okm_of ⟨"LyndonBenchModel", "loads", "()V"⟩ prog_9_method_10_code zc_155 _ rfl rfl rfl rfl
  (z_fc (zo_l (by decide +kernel) rfl rfl trivial) <|
  z_fc (zo_l (by decide +kernel) rfl rfl trivial) <|
  z_fc (zo_h (by decide +kernel) rfl ⟨rfl, Nat.le_of_ble_eq_true rfl, _, _, _, Or.inl ⟨Nat.le_of_ble_eq_true rfl, rfl⟩, Nat.le_of_ble_eq_true rfl, zw_1434⟩) <|
  z_fc (zo_l (by decide +kernel) rfl rfl trivial) <|
  z_fc (zo_h (by decide +kernel) rfl rfl) <|
  z_fc (zo_h (by decide +kernel) rfl ⟨rfl, Nat.le_of_ble_eq_true rfl, _, _, _, rfl, Nat.le_of_ble_eq_true rfl, zw_1448, Or.inl rfl⟩) <|
  z_fc (zo_l (by decide +kernel) rfl rfl trivial) <|
  z_fc (zo_l (by decide +kernel) rfl rfl trivial) <|
  z_fc (zo_l (by decide +kernel) rfl rfl trivial) <|
  z_fc (zo_l (by decide +kernel) rfl rfl trivial) <|
  z_fc (zo_h (by decide +kernel) rfl ⟨rfl, Nat.le_of_ble_eq_true rfl, _, _, _, Or.inl ⟨Nat.le_of_ble_eq_true rfl, rfl⟩, Nat.le_of_ble_eq_true rfl, zw_1448⟩) <|
  z_fc (zo_l (by decide +kernel) rfl rfl (by show ((17 : Nat) : Int) + (23) = ((40 : Nat) : Int); decide)) <|
  z_fc (zo_l (by decide +kernel) rfl rfl trivial) <|
  z_fc (zo_h (by decide +kernel) rfl ⟨rfl, Nat.le_of_ble_eq_true rfl, _, _, _, Or.inl ⟨Nat.le_of_ble_eq_true rfl, rfl⟩, Nat.le_of_ble_eq_true rfl, zw_1442⟩) <|
  z_fc (zo_l (by decide +kernel) rfl rfl trivial) <|
  z_fc (zo_l (by decide +kernel) rfl rfl trivial) <|
  z_fc (zo_h (by decide +kernel) rfl ⟨rfl, Nat.le_of_ble_eq_true rfl, _, _, _, Or.inl ⟨Nat.le_of_ble_eq_true rfl, rfl⟩, Nat.le_of_ble_eq_true rfl, zw_1434⟩) <|
  z_fc (zo_l (by decide +kernel) rfl rfl trivial) <|
  z_fc (zo_l (by decide +kernel) rfl rfl trivial) <|
  z_fc (zo_l (by decide +kernel) rfl rfl trivial) <|
  z_fc (zo_h (by decide +kernel) rfl rfl) <|
  z_fc (zo_h (by decide +kernel) rfl rfl) <|
  z_fc (zo_l (by decide +kernel) rfl rfl trivial) <|
  z_fc (zo_l (by decide +kernel) rfl rfl (by show ((37 : Nat) : Int) + (-25) = ((12 : Nat) : Int); decide)) <|
  z_fc (zo_e (by decide +kernel)) <|
  z_fn)
  (z_fn)
theorem zk_156 (xs : List Int32) : z_okm (za_T xs) za_P za_M 156 := z_okm_of ⟨"LyndonBenchModel", "adds", "(I)V"⟩ prog_9_method_11_code zc_156 _ rfl rfl rfl rfl
  (z_fc (zo_l (by decide +kernel) rfl rfl trivial) <|
  z_fc (zo_h (by decide +kernel) rfl ⟨rfl, Nat.le_of_ble_eq_true rfl, _, _, _, Or.inl ⟨Nat.le_of_ble_eq_true rfl, rfl⟩, Nat.le_of_ble_eq_true rfl, zw_1442⟩) <|
  z_fc (zo_l (by decide +kernel) rfl rfl trivial) <|
  z_fc (zo_h (by decide +kernel) rfl ⟨rfl, Nat.le_of_ble_eq_true rfl, _, _, _, Or.inl ⟨Nat.le_of_ble_eq_true rfl, rfl⟩, Nat.le_of_ble_eq_true rfl, zw_1448⟩) <|
  z_fc (zo_l (by decide +kernel) rfl rfl trivial) <|
  z_fc (zo_h (by decide +kernel) rfl rfl) <|
  z_fc (zo_l (by decide +kernel) rfl rfl trivial) <|
  z_fc (zo_l (by decide +kernel) rfl rfl trivial) <|
  z_fc (zo_h (by decide +kernel) rfl ⟨rfl, Nat.le_of_ble_eq_true rfl, _, _, _, Or.inl ⟨Nat.le_of_ble_eq_true rfl, rfl⟩, Nat.le_of_ble_eq_true rfl, zw_1448⟩) <|
  z_fc (zo_l (by decide +kernel) rfl rfl trivial) <|
  z_fc (zo_l (by decide +kernel) rfl rfl trivial) <|
  z_fc (zo_h (by decide +kernel) rfl ⟨rfl, Nat.le_of_ble_eq_true rfl, _, _, _, rfl, Nat.le_of_ble_eq_true rfl, zw_1448, Or.inl rfl⟩) <|
  z_fc (zo_e (by decide +kernel)) <|
  z_fn)
  (z_fn)
theorem zk_157 (xs : List Int32) : z_okm (za_T xs) za_P za_M 157 := z_okm_of ⟨"LyndonBenchModel", "loadsRotated", "(I)V"⟩ prog_9_method_12_code zc_157 _ rfl rfl rfl rfl
  (z_fc (zo_l (by decide +kernel) rfl rfl trivial) <|
  z_fc (zo_l (by decide +kernel) rfl rfl trivial) <|
  z_fc (zo_h (by decide +kernel) rfl ⟨rfl, Nat.le_of_ble_eq_true rfl, _, _, _, Or.inl ⟨Nat.le_of_ble_eq_true rfl, rfl⟩, Nat.le_of_ble_eq_true rfl, zw_1434⟩) <|
  z_fc (zo_l (by decide +kernel) rfl rfl trivial) <|
  z_fc (zo_h (by decide +kernel) rfl rfl) <|
  z_fc (zo_h (by decide +kernel) rfl ⟨rfl, Nat.le_of_ble_eq_true rfl, _, _, _, rfl, Nat.le_of_ble_eq_true rfl, zw_1448, Or.inl rfl⟩) <|
  z_fc (zo_l (by decide +kernel) rfl rfl trivial) <|
  z_fc (zo_l (by decide +kernel) rfl rfl trivial) <|
  z_fc (zo_l (by decide +kernel) rfl rfl trivial) <|
  z_fc (zo_l (by decide +kernel) rfl rfl trivial) <|
  z_fc (zo_h (by decide +kernel) rfl ⟨rfl, Nat.le_of_ble_eq_true rfl, _, _, _, Or.inl ⟨Nat.le_of_ble_eq_true rfl, rfl⟩, Nat.le_of_ble_eq_true rfl, zw_1448⟩) <|
  z_fc (zo_l (by decide +kernel) rfl rfl (by show ((17 : Nat) : Int) + (30) = ((47 : Nat) : Int); decide)) <|
  z_fc (zo_l (by decide +kernel) rfl rfl trivial) <|
  z_fc (zo_h (by decide +kernel) rfl ⟨rfl, Nat.le_of_ble_eq_true rfl, _, _, _, Or.inl ⟨Nat.le_of_ble_eq_true rfl, rfl⟩, Nat.le_of_ble_eq_true rfl, zw_1442⟩) <|
  z_fc (zo_l (by decide +kernel) rfl rfl trivial) <|
  z_fc (zo_l (by decide +kernel) rfl rfl trivial) <|
  z_fc (zo_h (by decide +kernel) rfl ⟨rfl, Nat.le_of_ble_eq_true rfl, _, _, _, Or.inl ⟨Nat.le_of_ble_eq_true rfl, rfl⟩, Nat.le_of_ble_eq_true rfl, zw_1434⟩) <|
  z_fc (zo_l (by decide +kernel) rfl rfl trivial) <|
  z_fc (zo_l (by decide +kernel) rfl rfl trivial) <|
  z_fc (zo_l (by decide +kernel) rfl rfl trivial) <|
  z_fc (zo_l (by decide +kernel) rfl rfl trivial) <|
  z_fc (zo_l (by decide +kernel) rfl rfl trivial) <|
  z_fc (zo_h (by decide +kernel) rfl ⟨rfl, Nat.le_of_ble_eq_true rfl, _, _, _, Or.inl ⟨Nat.le_of_ble_eq_true rfl, rfl⟩, Nat.le_of_ble_eq_true rfl, zw_1448⟩) <|
  z_fc (zo_l (by decide +kernel) rfl rfl trivial) <|
  z_fc (zo_l (by decide +kernel) rfl rfl trivial) <|
  z_fc (zo_h (by decide +kernel) rfl rfl) <|
  z_fc (zo_h (by decide +kernel) rfl rfl) <|
  z_fc (zo_l (by decide +kernel) rfl rfl trivial) <|
  z_fc (zo_l (by decide +kernel) rfl rfl (by show ((44 : Nat) : Int) + (-32) = ((12 : Nat) : Int); decide)) <|
  z_fc (zo_e (by decide +kernel)) <|
  z_fn)
  (z_fn)
theorem zk_158 (xs : List Int32) : z_okm (za_T xs) za_P za_M 158 := z_okm_of ⟨"LyndonBenchModel", "isLess", "(II)Z"⟩ prog_9_method_13_code zc_158 _ rfl rfl rfl rfl
  (z_fc (zo_l (by decide +kernel) rfl rfl trivial) <|
  z_fc (zo_l (by decide +kernel) rfl rfl trivial) <|
  z_fc (zo_l (by decide +kernel) rfl rfl trivial) <|
  z_fc (zo_l (by decide +kernel) rfl rfl trivial) <|
  z_fc (zo_h (by decide +kernel) rfl ⟨rfl, Nat.le_of_ble_eq_true rfl, _, _, _, Or.inl ⟨Nat.le_of_ble_eq_true rfl, rfl⟩, Nat.le_of_ble_eq_true rfl, zw_1448⟩) <|
  z_fc (zo_l (by decide +kernel) rfl rfl (by show ((7 : Nat) : Int) + (49) = ((56 : Nat) : Int); decide)) <|
  z_fc (zo_l (by decide +kernel) rfl rfl trivial) <|
  z_fc (zo_h (by decide +kernel) rfl ⟨rfl, Nat.le_of_ble_eq_true rfl, _, _, _, Or.inl ⟨Nat.le_of_ble_eq_true rfl, rfl⟩, Nat.le_of_ble_eq_true rfl, zw_1442⟩) <|
  z_fc (zo_l (by decide +kernel) rfl rfl trivial) <|
  z_fc (zo_l (by decide +kernel) rfl rfl trivial) <|
  z_fc (zo_l (by decide +kernel) rfl rfl trivial) <|
  z_fc (zo_l (by decide +kernel) rfl rfl trivial) <|
  z_fc (zo_l (by decide +kernel) rfl rfl trivial) <|
  z_fc (zo_h (by decide +kernel) rfl rfl) <|
  z_fc (zo_l (by decide +kernel) rfl rfl trivial) <|
  z_fc (zo_l (by decide +kernel) rfl rfl trivial) <|
  z_fc (zo_h (by decide +kernel) rfl ⟨rfl, Nat.le_of_ble_eq_true rfl, _, _, _, Or.inl ⟨Nat.le_of_ble_eq_true rfl, rfl⟩, Nat.le_of_ble_eq_true rfl, zw_1442⟩) <|
  z_fc (zo_l (by decide +kernel) rfl rfl trivial) <|
  z_fc (zo_h (by decide +kernel) rfl rfl) <|
  z_fc (zo_l (by decide +kernel) rfl rfl trivial) <|
  z_fc (zo_l (by decide +kernel) rfl rfl (by show ((30 : Nat) : Int) + (20) = ((50 : Nat) : Int); decide)) <|
  z_fc (zo_l (by decide +kernel) rfl rfl trivial) <|
  z_fc (zo_h (by decide +kernel) rfl ⟨rfl, Nat.le_of_ble_eq_true rfl, _, _, _, Or.inl ⟨Nat.le_of_ble_eq_true rfl, rfl⟩, Nat.le_of_ble_eq_true rfl, zw_1442⟩) <|
  z_fc (zo_l (by decide +kernel) rfl rfl trivial) <|
  z_fc (zo_h (by decide +kernel) rfl rfl) <|
  z_fc (zo_l (by decide +kernel) rfl rfl trivial) <|
  z_fc (zo_l (by decide +kernel) rfl rfl (by show ((41 : Nat) : Int) + (7) = ((48 : Nat) : Int); decide)) <|
  z_fc (zo_l (by decide +kernel) rfl rfl trivial) <|
  z_fc (zo_l (by decide +kernel) rfl rfl (by show ((45 : Nat) : Int) + (4) = ((49 : Nat) : Int); decide)) <|
  z_fc (zo_l (by decide +kernel) rfl rfl trivial) <|
  z_fc (zo_r (by decide +kernel) rfl) <|
  z_fc (zo_l (by decide +kernel) rfl rfl trivial) <|
  z_fc (zo_l (by decide +kernel) rfl rfl (by show ((53 : Nat) : Int) + (-51) = ((2 : Nat) : Int); decide)) <|
  z_fc (zo_l (by decide +kernel) rfl rfl trivial) <|
  z_fc (zo_r (by decide +kernel) rfl) <|
  z_fn)
  (z_fn)
theorem zk_159 (xs : List Int32) : z_okm (za_T xs) za_P za_M 159 := z_okm_of ⟨"LyndonBenchModel", "cuts", "()I"⟩ prog_9_method_14_code zc_159 _ rfl rfl rfl rfl
  (z_fc (zo_l (by decide +kernel) rfl rfl trivial) <|
  z_fc (zo_l (by decide +kernel) rfl rfl trivial) <|
  z_fc (zo_l (by decide +kernel) rfl rfl trivial) <|
  z_fc (zo_l (by decide +kernel) rfl rfl trivial) <|
  z_fc (zo_l (by decide +kernel) rfl rfl trivial) <|
  z_fc (zo_l (by decide +kernel) rfl rfl trivial) <|
  z_fc (zo_h (by decide +kernel) rfl ⟨rfl, Nat.le_of_ble_eq_true rfl, _, _, _, Or.inl ⟨Nat.le_of_ble_eq_true rfl, rfl⟩, Nat.le_of_ble_eq_true rfl, zw_1448⟩) <|
  z_fc (zo_l (by decide +kernel) rfl rfl (by show ((9 : Nat) : Int) + (39) = ((48 : Nat) : Int); decide)) <|
  z_fc (zo_l (by decide +kernel) rfl rfl trivial) <|
  z_fc (zo_l (by decide +kernel) rfl rfl (by show ((13 : Nat) : Int) + (19) = ((32 : Nat) : Int); decide)) <|
  z_fc (zo_l (by decide +kernel) rfl rfl trivial) <|
  z_fc (zo_l (by decide +kernel) rfl rfl trivial) <|
  z_fc (zo_l (by decide +kernel) rfl rfl trivial) <|
  z_fc (zo_h (by decide +kernel) rfl ⟨rfl, Nat.le_of_ble_eq_true rfl, _, _, _, Or.inl ⟨Nat.le_of_ble_eq_true rfl, rfl⟩, Nat.le_of_ble_eq_true rfl, zw_1443⟩) <|
  z_fc (zo_l (by decide +kernel) rfl rfl trivial) <|
  z_fc (zo_l (by decide +kernel) rfl rfl trivial) <|
  z_fc (zo_l (by decide +kernel) rfl rfl trivial) <|
  z_fc (zo_h (by decide +kernel) rfl rfl) <|
  z_fc (zo_v (by decide +kernel) rfl ⟨rfl, zd_158, zw_1296, Nat.le_of_ble_eq_true rfl, ⟨_, Or.inl ⟨Nat.le_of_ble_eq_true rfl, rfl⟩, rfl⟩, zw_1294, zw_57⟩) <|
  z_fc (zo_l (by decide +kernel) rfl rfl (by show ((29 : Nat) : Int) + (13) = ((42 : Nat) : Int); decide)) <|
  z_fc (zo_l (by decide +kernel) rfl rfl trivial) <|
  z_fc (zo_h (by decide +kernel) rfl ⟨rfl, Nat.le_of_ble_eq_true rfl, _, _, _, Or.inl ⟨Nat.le_of_ble_eq_true rfl, rfl⟩, Nat.le_of_ble_eq_true rfl, zw_1443⟩) <|
  z_fc (zo_l (by decide +kernel) rfl rfl trivial) <|
  z_fc (zo_l (by decide +kernel) rfl rfl trivial) <|
  z_fc (zo_h (by decide +kernel) rfl rfl) <|
  z_fc (zo_l (by decide +kernel) rfl rfl trivial) <|
  z_fc (zo_l (by decide +kernel) rfl rfl trivial) <|
  z_fc (zo_l (by decide +kernel) rfl rfl (by show ((45 : Nat) : Int) + (-41) = ((4 : Nat) : Int); decide)) <|
  z_fc (zo_l (by decide +kernel) rfl rfl trivial) <|
  z_fc (zo_h (by decide +kernel) rfl ⟨rfl, Nat.le_of_ble_eq_true rfl, _, _, _, Or.inl ⟨Nat.le_of_ble_eq_true rfl, rfl⟩, Nat.le_of_ble_eq_true rfl, zw_1443⟩) <|
  z_fc (zo_l (by decide +kernel) rfl rfl trivial) <|
  z_fc (zo_l (by decide +kernel) rfl rfl trivial) <|
  z_fc (zo_h (by decide +kernel) rfl ⟨rfl, Nat.le_of_ble_eq_true rfl, _, _, _, Or.inl ⟨Nat.le_of_ble_eq_true rfl, rfl⟩, Nat.le_of_ble_eq_true rfl, zw_1448⟩) <|
  z_fc (zo_h (by decide +kernel) rfl rfl) <|
  z_fc (zo_l (by decide +kernel) rfl rfl trivial) <|
  z_fc (zo_r (by decide +kernel) rfl) <|
  z_fn)
  (z_fn)
theorem zk_160 (xs : List Int32) : z_okm (za_T xs) za_P za_M 160 := z_okm_of ⟨"LyndonBenchModel", "factors", "()I"⟩ prog_9_method_15_code zc_160 _ rfl rfl rfl rfl
  (z_fc (zo_l (by decide +kernel) rfl rfl trivial) <|
  z_fc (zo_v (by decide +kernel) rfl ⟨rfl, zd_155, zw_1276, Nat.le_of_ble_eq_true rfl, ⟨_, Or.inl ⟨Nat.le_of_ble_eq_true rfl, rfl⟩, rfl⟩, zw_1274, zw_52⟩) <|
  z_fc (zo_l (by decide +kernel) rfl rfl trivial) <|
  z_fc (zo_v (by decide +kernel) rfl ⟨rfl, zd_159, zw_1292, Nat.le_of_ble_eq_true rfl, ⟨_, Or.inl ⟨Nat.le_of_ble_eq_true rfl, rfl⟩, rfl⟩, zw_1290, zw_56⟩) <|
  z_fc (zo_r (by decide +kernel) rfl) <|
  z_fn)
  (z_fn)
theorem zk_161 (xs : List Int32) : z_okm (za_T xs) za_P za_M 161 := z_okm_of ⟨"LyndonBenchModel", "turned", "(I)I"⟩ prog_9_method_16_code zc_161 _ rfl rfl rfl rfl
  (z_fc (zo_l (by decide +kernel) rfl rfl trivial) <|
  z_fc (zo_l (by decide +kernel) rfl rfl trivial) <|
  z_fc (zo_l (by decide +kernel) rfl rfl trivial) <|
  z_fc (zo_l (by decide +kernel) rfl rfl trivial) <|
  z_fc (zo_h (by decide +kernel) rfl ⟨rfl, Nat.le_of_ble_eq_true rfl, _, _, _, Or.inl ⟨Nat.le_of_ble_eq_true rfl, rfl⟩, Nat.le_of_ble_eq_true rfl, zw_1448⟩) <|
  z_fc (zo_l (by decide +kernel) rfl rfl (by show ((7 : Nat) : Int) + (42) = ((49 : Nat) : Int); decide)) <|
  z_fc (zo_l (by decide +kernel) rfl rfl trivial) <|
  z_fc (zo_h (by decide +kernel) rfl ⟨rfl, Nat.le_of_ble_eq_true rfl, _, _, _, Or.inl ⟨Nat.le_of_ble_eq_true rfl, rfl⟩, Nat.le_of_ble_eq_true rfl, zw_1442⟩) <|
  z_fc (zo_l (by decide +kernel) rfl rfl trivial) <|
  z_fc (zo_l (by decide +kernel) rfl rfl trivial) <|
  z_fc (zo_l (by decide +kernel) rfl rfl trivial) <|
  z_fc (zo_l (by decide +kernel) rfl rfl trivial) <|
  z_fc (zo_h (by decide +kernel) rfl ⟨rfl, Nat.le_of_ble_eq_true rfl, _, _, _, Or.inl ⟨Nat.le_of_ble_eq_true rfl, rfl⟩, Nat.le_of_ble_eq_true rfl, zw_1448⟩) <|
  z_fc (zo_l (by decide +kernel) rfl rfl trivial) <|
  z_fc (zo_h (by decide +kernel) rfl rfl) <|
  z_fc (zo_l (by decide +kernel) rfl rfl trivial) <|
  z_fc (zo_l (by decide +kernel) rfl rfl trivial) <|
  z_fc (zo_l (by decide +kernel) rfl rfl trivial) <|
  z_fc (zo_h (by decide +kernel) rfl ⟨rfl, Nat.le_of_ble_eq_true rfl, _, _, _, Or.inl ⟨Nat.le_of_ble_eq_true rfl, rfl⟩, Nat.le_of_ble_eq_true rfl, zw_1442⟩) <|
  z_fc (zo_l (by decide +kernel) rfl rfl trivial) <|
  z_fc (zo_h (by decide +kernel) rfl rfl) <|
  z_fc (zo_l (by decide +kernel) rfl rfl (by show ((31 : Nat) : Int) + (12) = ((43 : Nat) : Int); decide)) <|
  z_fc (zo_l (by decide +kernel) rfl rfl trivial) <|
  z_fc (zo_l (by decide +kernel) rfl rfl trivial) <|
  z_fc (zo_h (by decide +kernel) rfl ⟨rfl, Nat.le_of_ble_eq_true rfl, _, _, _, Or.inl ⟨Nat.le_of_ble_eq_true rfl, rfl⟩, Nat.le_of_ble_eq_true rfl, zw_1442⟩) <|
  z_fc (zo_l (by decide +kernel) rfl rfl trivial) <|
  z_fc (zo_h (by decide +kernel) rfl rfl) <|
  z_fc (zo_l (by decide +kernel) rfl rfl trivial) <|
  z_fc (zo_r (by decide +kernel) rfl) <|
  z_fc (zo_l (by decide +kernel) rfl rfl trivial) <|
  z_fc (zo_l (by decide +kernel) rfl rfl (by show ((46 : Nat) : Int) + (-44) = ((2 : Nat) : Int); decide)) <|
  z_fc (zo_l (by decide +kernel) rfl rfl trivial) <|
  z_fc (zo_r (by decide +kernel) rfl) <|
  z_fn)
  (z_fn)
theorem zk_162 (xs : List Int32) : z_okm (za_T xs) za_P za_M 162 := z_okm_of ⟨"LyndonBenchModel", "isPrimitiveRow", "()Z"⟩ prog_9_method_17_code zc_162 _ rfl rfl rfl rfl
  (z_fc (zo_l (by decide +kernel) rfl rfl trivial) <|
  z_fc (zo_l (by decide +kernel) rfl rfl trivial) <|
  z_fc (zo_l (by decide +kernel) rfl rfl trivial) <|
  z_fc (zo_l (by decide +kernel) rfl rfl trivial) <|
  z_fc (zo_h (by decide +kernel) rfl ⟨rfl, Nat.le_of_ble_eq_true rfl, _, _, _, Or.inl ⟨Nat.le_of_ble_eq_true rfl, rfl⟩, Nat.le_of_ble_eq_true rfl, zw_1448⟩) <|
  z_fc (zo_l (by decide +kernel) rfl rfl (by show ((7 : Nat) : Int) + (19) = ((26 : Nat) : Int); decide)) <|
  z_fc (zo_l (by decide +kernel) rfl rfl trivial) <|
  z_fc (zo_l (by decide +kernel) rfl rfl trivial) <|
  z_fc (zo_v (by decide +kernel) rfl ⟨rfl, zd_161, zw_1360, Nat.le_of_ble_eq_true rfl, ⟨_, Or.inl ⟨Nat.le_of_ble_eq_true rfl, rfl⟩, rfl⟩, zw_1358, zw_73⟩) <|
  z_fc (zo_l (by decide +kernel) rfl rfl (by show ((15 : Nat) : Int) + (5) = ((20 : Nat) : Int); decide)) <|
  z_fc (zo_l (by decide +kernel) rfl rfl trivial) <|
  z_fc (zo_r (by decide +kernel) rfl) <|
  z_fc (zo_l (by decide +kernel) rfl rfl trivial) <|
  z_fc (zo_l (by decide +kernel) rfl rfl (by show ((23 : Nat) : Int) + (-21) = ((2 : Nat) : Int); decide)) <|
  z_fc (zo_l (by decide +kernel) rfl rfl trivial) <|
  z_fc (zo_h (by decide +kernel) rfl ⟨rfl, Nat.le_of_ble_eq_true rfl, _, _, _, Or.inl ⟨Nat.le_of_ble_eq_true rfl, rfl⟩, Nat.le_of_ble_eq_true rfl, zw_1448⟩) <|
  z_fc (zo_l (by decide +kernel) rfl rfl (by show ((30 : Nat) : Int) + (7) = ((37 : Nat) : Int); decide)) <|
  z_fc (zo_l (by decide +kernel) rfl rfl trivial) <|
  z_fc (zo_l (by decide +kernel) rfl rfl (by show ((34 : Nat) : Int) + (4) = ((38 : Nat) : Int); decide)) <|
  z_fc (zo_l (by decide +kernel) rfl rfl trivial) <|
  z_fc (zo_r (by decide +kernel) rfl) <|
  z_fn)
  (z_fn)
theorem zk_163 (xs : List Int32) : z_okm (za_T xs) za_P za_M 163 := z_okm_of ⟨"LyndonBenchModel", "isLeastRow", "()Z"⟩ prog_9_method_18_code zc_163 _ rfl rfl rfl rfl
  (z_fc (zo_l (by decide +kernel) rfl rfl trivial) <|
  z_fc (zo_l (by decide +kernel) rfl rfl trivial) <|
  z_fc (zo_l (by decide +kernel) rfl rfl trivial) <|
  z_fc (zo_l (by decide +kernel) rfl rfl trivial) <|
  z_fc (zo_h (by decide +kernel) rfl ⟨rfl, Nat.le_of_ble_eq_true rfl, _, _, _, Or.inl ⟨Nat.le_of_ble_eq_true rfl, rfl⟩, Nat.le_of_ble_eq_true rfl, zw_1448⟩) <|
  z_fc (zo_l (by decide +kernel) rfl rfl (by show ((7 : Nat) : Int) + (19) = ((26 : Nat) : Int); decide)) <|
  z_fc (zo_l (by decide +kernel) rfl rfl trivial) <|
  z_fc (zo_l (by decide +kernel) rfl rfl trivial) <|
  z_fc (zo_v (by decide +kernel) rfl ⟨rfl, zd_161, zw_1360, Nat.le_of_ble_eq_true rfl, ⟨_, Or.inl ⟨Nat.le_of_ble_eq_true rfl, rfl⟩, rfl⟩, zw_1358, zw_73⟩) <|
  z_fc (zo_l (by decide +kernel) rfl rfl (by show ((15 : Nat) : Int) + (5) = ((20 : Nat) : Int); decide)) <|
  z_fc (zo_l (by decide +kernel) rfl rfl trivial) <|
  z_fc (zo_r (by decide +kernel) rfl) <|
  z_fc (zo_l (by decide +kernel) rfl rfl trivial) <|
  z_fc (zo_l (by decide +kernel) rfl rfl (by show ((23 : Nat) : Int) + (-21) = ((2 : Nat) : Int); decide)) <|
  z_fc (zo_l (by decide +kernel) rfl rfl trivial) <|
  z_fc (zo_h (by decide +kernel) rfl ⟨rfl, Nat.le_of_ble_eq_true rfl, _, _, _, Or.inl ⟨Nat.le_of_ble_eq_true rfl, rfl⟩, Nat.le_of_ble_eq_true rfl, zw_1448⟩) <|
  z_fc (zo_l (by decide +kernel) rfl rfl (by show ((30 : Nat) : Int) + (7) = ((37 : Nat) : Int); decide)) <|
  z_fc (zo_l (by decide +kernel) rfl rfl trivial) <|
  z_fc (zo_l (by decide +kernel) rfl rfl (by show ((34 : Nat) : Int) + (4) = ((38 : Nat) : Int); decide)) <|
  z_fc (zo_l (by decide +kernel) rfl rfl trivial) <|
  z_fc (zo_r (by decide +kernel) rfl) <|
  z_fn)
  (z_fn)
theorem zk_164_0 (xs : List Int32) {l : List zE} (h : ∀ q ∈ l, z_oke' (za_T xs) za_P za_M ⟨"LyndonBenchModel", "isBeginning", "()Z"⟩ prog_9_method_19_code q) : ∀ q ∈ zc_164_0 ++ l, z_oke' (za_T xs) za_P za_M ⟨"LyndonBenchModel", "isBeginning", "()Z"⟩ prog_9_method_19_code q :=
  z_fc (zo_l (by decide +kernel) rfl rfl trivial) <|
  z_fc (zo_l (by decide +kernel) rfl rfl trivial) <|
  z_fc (zo_l (by decide +kernel) rfl rfl trivial) <|
  z_fc (zo_l (by decide +kernel) rfl rfl trivial) <|
  z_fc (zo_h (by decide +kernel) rfl ⟨rfl, Nat.le_of_ble_eq_true rfl, _, _, _, Or.inl ⟨Nat.le_of_ble_eq_true rfl, rfl⟩, Nat.le_of_ble_eq_true rfl, zw_1448⟩) <|
  z_fc (zo_l (by decide +kernel) rfl rfl (by show ((7 : Nat) : Int) + (73) = ((80 : Nat) : Int); decide)) <|
  z_fc (zo_l (by decide +kernel) rfl rfl trivial) <|
  z_fc (zo_l (by decide +kernel) rfl rfl trivial) <|
  z_fc (zo_l (by decide +kernel) rfl rfl trivial) <|
  z_fc (zo_l (by decide +kernel) rfl rfl trivial) <|
  z_fc (zo_l (by decide +kernel) rfl rfl trivial) <|
  z_fc (zo_l (by decide +kernel) rfl rfl trivial) <|
  z_fc (zo_h (by decide +kernel) rfl ⟨rfl, Nat.le_of_ble_eq_true rfl, _, _, _, Or.inl ⟨Nat.le_of_ble_eq_true rfl, rfl⟩, Nat.le_of_ble_eq_true rfl, zw_1448⟩) <|
  z_fc (zo_l (by decide +kernel) rfl rfl (by show ((19 : Nat) : Int) + (26) = ((45 : Nat) : Int); decide)) <|
  z_fc (zo_l (by decide +kernel) rfl rfl trivial) <|
  z_fc (zo_h (by decide +kernel) rfl ⟨rfl, Nat.le_of_ble_eq_true rfl, _, _, _, Or.inl ⟨Nat.le_of_ble_eq_true rfl, rfl⟩, Nat.le_of_ble_eq_true rfl, zw_1442⟩) <|
  z_fc (zo_l (by decide +kernel) rfl rfl trivial) <|
  z_fc (zo_l (by decide +kernel) rfl rfl trivial) <|
  z_fc (zo_l (by decide +kernel) rfl rfl trivial) <|
  z_fc (zo_h (by decide +kernel) rfl rfl) <|
  z_fc (zo_l (by decide +kernel) rfl rfl trivial) <|
  z_fc (zo_h (by decide +kernel) rfl ⟨rfl, Nat.le_of_ble_eq_true rfl, _, _, _, Or.inl ⟨Nat.le_of_ble_eq_true rfl, rfl⟩, Nat.le_of_ble_eq_true rfl, zw_1442⟩) <|
  z_fc (zo_l (by decide +kernel) rfl rfl trivial) <|
  z_fc (zo_h (by decide +kernel) rfl rfl) <|
  z_fc (zo_l (by decide +kernel) rfl rfl (by show ((36 : Nat) : Int) + (9) = ((45 : Nat) : Int); decide)) <|
  z_fc (zo_l (by decide +kernel) rfl rfl trivial) <|
  z_fc (zo_l (by decide +kernel) rfl rfl (by show ((42 : Nat) : Int) + (-30) = ((12 : Nat) : Int); decide)) <|
  z_fc (zo_l (by decide +kernel) rfl rfl trivial) <|
  z_fc (zo_l (by decide +kernel) rfl rfl trivial) <|
  z_fc (zo_l (by decide +kernel) rfl rfl trivial) <|
  z_fc (zo_l (by decide +kernel) rfl rfl trivial) <|
  z_fc (zo_h (by decide +kernel) rfl ⟨rfl, Nat.le_of_ble_eq_true rfl, _, _, _, Or.inl ⟨Nat.le_of_ble_eq_true rfl, rfl⟩, Nat.le_of_ble_eq_true rfl, zw_1448⟩) <|
  z_fc (zo_l (by decide +kernel) rfl rfl (by show ((52 : Nat) : Int) + (22) = ((74 : Nat) : Int); decide)) <|
  z_fc (zo_l (by decide +kernel) rfl rfl trivial) <|
  z_fc (zo_h (by decide +kernel) rfl ⟨rfl, Nat.le_of_ble_eq_true rfl, _, _, _, Or.inl ⟨Nat.le_of_ble_eq_true rfl, rfl⟩, Nat.le_of_ble_eq_true rfl, zw_1442⟩) <|
  z_fc (zo_l (by decide +kernel) rfl rfl trivial) <|
  z_fc (zo_l (by decide +kernel) rfl rfl trivial) <|
  z_fc (zo_l (by decide +kernel) rfl rfl trivial) <|
  z_fc (zo_h (by decide +kernel) rfl rfl) <|
  z_fc (zo_l (by decide +kernel) rfl rfl trivial) <|
  h
theorem zk_164_1 (xs : List Int32) {l : List zE} (h : ∀ q ∈ l, z_oke' (za_T xs) za_P za_M ⟨"LyndonBenchModel", "isBeginning", "()Z"⟩ prog_9_method_19_code q) : ∀ q ∈ zc_164_1 ++ l, z_oke' (za_T xs) za_P za_M ⟨"LyndonBenchModel", "isBeginning", "()Z"⟩ prog_9_method_19_code q :=
  z_fc (zo_h (by decide +kernel) rfl ⟨rfl, Nat.le_of_ble_eq_true rfl, _, _, _, Or.inl ⟨Nat.le_of_ble_eq_true rfl, rfl⟩, Nat.le_of_ble_eq_true rfl, zw_1442⟩) <|
  z_fc (zo_l (by decide +kernel) rfl rfl trivial) <|
  z_fc (zo_h (by decide +kernel) rfl rfl) <|
  z_fc (zo_l (by decide +kernel) rfl rfl (by show ((69 : Nat) : Int) + (5) = ((74 : Nat) : Int); decide)) <|
  z_fc (zo_l (by decide +kernel) rfl rfl trivial) <|
  z_fc (zo_r (by decide +kernel) rfl) <|
  z_fc (zo_l (by decide +kernel) rfl rfl trivial) <|
  z_fc (zo_l (by decide +kernel) rfl rfl (by show ((77 : Nat) : Int) + (-75) = ((2 : Nat) : Int); decide)) <|
  z_fc (zo_l (by decide +kernel) rfl rfl trivial) <|
  z_fc (zo_h (by decide +kernel) rfl ⟨rfl, Nat.le_of_ble_eq_true rfl, _, _, _, Or.inl ⟨Nat.le_of_ble_eq_true rfl, rfl⟩, Nat.le_of_ble_eq_true rfl, zw_1448⟩) <|
  z_fc (zo_l (by decide +kernel) rfl rfl (by show ((84 : Nat) : Int) + (7) = ((91 : Nat) : Int); decide)) <|
  z_fc (zo_l (by decide +kernel) rfl rfl trivial) <|
  z_fc (zo_l (by decide +kernel) rfl rfl (by show ((88 : Nat) : Int) + (4) = ((92 : Nat) : Int); decide)) <|
  z_fc (zo_l (by decide +kernel) rfl rfl trivial) <|
  z_fc (zo_r (by decide +kernel) rfl) <|
  h
theorem zk_164 (xs : List Int32) : z_okm (za_T xs) za_P za_M 164 := z_okm_of ⟨"LyndonBenchModel", "isBeginning", "()Z"⟩ prog_9_method_19_code zc_164 _ rfl rfl rfl rfl
  (zk_164_0 xs <|
  zk_164_1 xs <|
  z_fn)
  (z_fn)
theorem zk_165 (xs : List Int32) : z_okm (za_T xs) za_P za_M 165 := z_okm_of ⟨"LyndonBenchModel", "why", "()I"⟩ prog_9_method_20_code zc_165 _ rfl rfl rfl rfl
  (z_fc (zo_l (by decide +kernel) rfl rfl trivial) <|
  z_fc (zo_v (by decide +kernel) rfl ⟨rfl, zd_155, zw_1276, Nat.le_of_ble_eq_true rfl, ⟨_, Or.inl ⟨Nat.le_of_ble_eq_true rfl, rfl⟩, rfl⟩, zw_1274, zw_52⟩) <|
  z_fc (zo_l (by decide +kernel) rfl rfl trivial) <|
  z_fc (zo_h (by decide +kernel) rfl ⟨rfl, Nat.le_of_ble_eq_true rfl, _, _, _, Or.inl ⟨Nat.le_of_ble_eq_true rfl, rfl⟩, Nat.le_of_ble_eq_true rfl, zw_1448⟩) <|
  z_fc (zo_l (by decide +kernel) rfl rfl (by show ((8 : Nat) : Int) + (5) = ((13 : Nat) : Int); decide)) <|
  z_fc (zo_l (by decide +kernel) rfl rfl trivial) <|
  z_fc (zo_r (by decide +kernel) rfl) <|
  z_fc (zo_l (by decide +kernel) rfl rfl trivial) <|
  z_fc (zo_v (by decide +kernel) rfl ⟨rfl, zd_162, zw_1356, Nat.le_of_ble_eq_true rfl, ⟨_, Or.inl ⟨Nat.le_of_ble_eq_true rfl, rfl⟩, rfl⟩, zw_1354, zw_72⟩) <|
  z_fc (zo_l (by decide +kernel) rfl rfl (by show ((17 : Nat) : Int) + (5) = ((22 : Nat) : Int); decide)) <|
  z_fc (zo_l (by decide +kernel) rfl rfl trivial) <|
  z_fc (zo_r (by decide +kernel) rfl) <|
  z_fc (zo_l (by decide +kernel) rfl rfl trivial) <|
  z_fc (zo_v (by decide +kernel) rfl ⟨rfl, zd_163, zw_1364, Nat.le_of_ble_eq_true rfl, ⟨_, Or.inl ⟨Nat.le_of_ble_eq_true rfl, rfl⟩, rfl⟩, zw_1362, zw_74⟩) <|
  z_fc (zo_l (by decide +kernel) rfl rfl (by show ((26 : Nat) : Int) + (7) = ((33 : Nat) : Int); decide)) <|
  z_fc (zo_l (by decide +kernel) rfl rfl trivial) <|
  z_fc (zo_l (by decide +kernel) rfl rfl (by show ((30 : Nat) : Int) + (4) = ((34 : Nat) : Int); decide)) <|
  z_fc (zo_l (by decide +kernel) rfl rfl trivial) <|
  z_fc (zo_r (by decide +kernel) rfl) <|
  z_fn)
  (z_fn)
theorem zk_166_0 (xs : List Int32) {l : List zE} (h : ∀ q ∈ l, z_oke' (za_T xs) za_P za_M ⟨"LyndonBenchModel", "period", "()I"⟩ prog_9_method_21_code q) : ∀ q ∈ zc_166_0 ++ l, z_oke' (za_T xs) za_P za_M ⟨"LyndonBenchModel", "period", "()I"⟩ prog_9_method_21_code q :=
  z_fc (zo_l (by decide +kernel) rfl rfl trivial) <|
  z_fc (zo_l (by decide +kernel) rfl rfl trivial) <|
  z_fc (zo_l (by decide +kernel) rfl rfl trivial) <|
  z_fc (zo_l (by decide +kernel) rfl rfl trivial) <|
  z_fc (zo_h (by decide +kernel) rfl ⟨rfl, Nat.le_of_ble_eq_true rfl, _, _, _, Or.inl ⟨Nat.le_of_ble_eq_true rfl, rfl⟩, Nat.le_of_ble_eq_true rfl, zw_1434⟩) <|
  z_fc (zo_l (by decide +kernel) rfl rfl trivial) <|
  z_fc (zo_h (by decide +kernel) rfl rfl) <|
  z_fc (zo_l (by decide +kernel) rfl rfl (by show ((9 : Nat) : Int) + (64) = ((73 : Nat) : Int); decide)) <|
  z_fc (zo_l (by decide +kernel) rfl rfl trivial) <|
  z_fc (zo_l (by decide +kernel) rfl rfl trivial) <|
  z_fc (zo_l (by decide +kernel) rfl rfl trivial) <|
  z_fc (zo_l (by decide +kernel) rfl rfl trivial) <|
  z_fc (zo_l (by decide +kernel) rfl rfl trivial) <|
  z_fc (zo_l (by decide +kernel) rfl rfl trivial) <|
  z_fc (zo_h (by decide +kernel) rfl ⟨rfl, Nat.le_of_ble_eq_true rfl, _, _, _, Or.inl ⟨Nat.le_of_ble_eq_true rfl, rfl⟩, Nat.le_of_ble_eq_true rfl, zw_1434⟩) <|
  z_fc (zo_l (by decide +kernel) rfl rfl trivial) <|
  z_fc (zo_h (by decide +kernel) rfl rfl) <|
  z_fc (zo_l (by decide +kernel) rfl rfl (by show ((23 : Nat) : Int) + (30) = ((53 : Nat) : Int); decide)) <|
  z_fc (zo_l (by decide +kernel) rfl rfl trivial) <|
  z_fc (zo_h (by decide +kernel) rfl ⟨rfl, Nat.le_of_ble_eq_true rfl, _, _, _, Or.inl ⟨Nat.le_of_ble_eq_true rfl, rfl⟩, Nat.le_of_ble_eq_true rfl, zw_1434⟩) <|
  z_fc (zo_l (by decide +kernel) rfl rfl trivial) <|
  z_fc (zo_l (by decide +kernel) rfl rfl trivial) <|
  z_fc (zo_l (by decide +kernel) rfl rfl trivial) <|
  z_fc (zo_h (by decide +kernel) rfl rfl) <|
  z_fc (zo_l (by decide +kernel) rfl rfl trivial) <|
  z_fc (zo_h (by decide +kernel) rfl ⟨rfl, Nat.le_of_ble_eq_true rfl, _, _, _, Or.inl ⟨Nat.le_of_ble_eq_true rfl, rfl⟩, Nat.le_of_ble_eq_true rfl, zw_1434⟩) <|
  z_fc (zo_l (by decide +kernel) rfl rfl trivial) <|
  z_fc (zo_l (by decide +kernel) rfl rfl trivial) <|
  z_fc (zo_l (by decide +kernel) rfl rfl trivial) <|
  z_fc (zo_l (by decide +kernel) rfl rfl trivial) <|
  z_fc (zo_l (by decide +kernel) rfl rfl trivial) <|
  z_fc (zo_h (by decide +kernel) rfl rfl) <|
  z_fc (zo_l (by decide +kernel) rfl rfl (by show ((44 : Nat) : Int) + (9) = ((53 : Nat) : Int); decide)) <|
  z_fc (zo_l (by decide +kernel) rfl rfl trivial) <|
  z_fc (zo_l (by decide +kernel) rfl rfl (by show ((50 : Nat) : Int) + (-36) = ((14 : Nat) : Int); decide)) <|
  z_fc (zo_l (by decide +kernel) rfl rfl trivial) <|
  z_fc (zo_l (by decide +kernel) rfl rfl trivial) <|
  z_fc (zo_l (by decide +kernel) rfl rfl trivial) <|
  z_fc (zo_l (by decide +kernel) rfl rfl trivial) <|
  z_fc (zo_h (by decide +kernel) rfl ⟨rfl, Nat.le_of_ble_eq_true rfl, _, _, _, Or.inl ⟨Nat.le_of_ble_eq_true rfl, rfl⟩, Nat.le_of_ble_eq_true rfl, zw_1434⟩) <|
  h
theorem zk_166_1 (xs : List Int32) {l : List zE} (h : ∀ q ∈ l, z_oke' (za_T xs) za_P za_M ⟨"LyndonBenchModel", "period", "()I"⟩ prog_9_method_21_code q) : ∀ q ∈ zc_166_1 ++ l, z_oke' (za_T xs) za_P za_M ⟨"LyndonBenchModel", "period", "()I"⟩ prog_9_method_21_code q :=
  z_fc (zo_l (by decide +kernel) rfl rfl trivial) <|
  z_fc (zo_h (by decide +kernel) rfl rfl) <|
  z_fc (zo_l (by decide +kernel) rfl rfl (by show ((62 : Nat) : Int) + (5) = ((67 : Nat) : Int); decide)) <|
  z_fc (zo_l (by decide +kernel) rfl rfl trivial) <|
  z_fc (zo_r (by decide +kernel) rfl) <|
  z_fc (zo_l (by decide +kernel) rfl rfl trivial) <|
  z_fc (zo_l (by decide +kernel) rfl rfl (by show ((70 : Nat) : Int) + (-68) = ((2 : Nat) : Int); decide)) <|
  z_fc (zo_l (by decide +kernel) rfl rfl trivial) <|
  z_fc (zo_r (by decide +kernel) rfl) <|
  h
theorem zk_166 (xs : List Int32) : z_okm (za_T xs) za_P za_M 166 := z_okm_of ⟨"LyndonBenchModel", "period", "()I"⟩ prog_9_method_21_code zc_166 _ rfl rfl rfl rfl
  (zk_166_0 xs <|
  zk_166_1 xs <|
  z_fn)
  (z_fn)
theorem zk_167_0 (xs : List Int32) {l : List zE} (h : ∀ q ∈ l, z_oke' (za_T xs) za_P za_M ⟨"LyndonBenchModel", "rotations", "(II)I"⟩ prog_9_method_22_code q) : ∀ q ∈ zc_167_0 ++ l, z_oke' (za_T xs) za_P za_M ⟨"LyndonBenchModel", "rotations", "(II)I"⟩ prog_9_method_22_code q :=
  z_fc (zo_l (by decide +kernel) rfl rfl trivial) <|
  z_fc (zo_l (by decide +kernel) rfl rfl trivial) <|
  z_fc (zo_l (by decide +kernel) rfl rfl trivial) <|
  z_fc (zo_l (by decide +kernel) rfl rfl trivial) <|
  z_fc (zo_h (by decide +kernel) rfl ⟨rfl, Nat.le_of_ble_eq_true rfl, _, _, _, Or.inl ⟨Nat.le_of_ble_eq_true rfl, rfl⟩, Nat.le_of_ble_eq_true rfl, zw_1434⟩) <|
  z_fc (zo_l (by decide +kernel) rfl rfl trivial) <|
  z_fc (zo_h (by decide +kernel) rfl rfl) <|
  z_fc (zo_l (by decide +kernel) rfl rfl (by show ((9 : Nat) : Int) + (54) = ((63 : Nat) : Int); decide)) <|
  z_fc (zo_l (by decide +kernel) rfl rfl trivial) <|
  z_fc (zo_h (by decide +kernel) rfl ⟨rfl, Nat.le_of_ble_eq_true rfl, _, _, _, Or.inl ⟨Nat.le_of_ble_eq_true rfl, rfl⟩, Nat.le_of_ble_eq_true rfl, zw_1434⟩) <|
  z_fc (zo_l (by decide +kernel) rfl rfl trivial) <|
  z_fc (zo_l (by decide +kernel) rfl rfl trivial) <|
  z_fc (zo_l (by decide +kernel) rfl rfl trivial) <|
  z_fc (zo_l (by decide +kernel) rfl rfl trivial) <|
  z_fc (zo_l (by decide +kernel) rfl rfl trivial) <|
  z_fc (zo_h (by decide +kernel) rfl ⟨rfl, Nat.le_of_ble_eq_true rfl, _, _, _, Or.inl ⟨Nat.le_of_ble_eq_true rfl, rfl⟩, Nat.le_of_ble_eq_true rfl, zw_1434⟩) <|
  z_fc (zo_l (by decide +kernel) rfl rfl trivial) <|
  z_fc (zo_h (by decide +kernel) rfl rfl) <|
  z_fc (zo_l (by decide +kernel) rfl rfl trivial) <|
  z_fc (zo_l (by decide +kernel) rfl rfl trivial) <|
  z_fc (zo_h (by decide +kernel) rfl rfl) <|
  z_fc (zo_l (by decide +kernel) rfl rfl trivial) <|
  z_fc (zo_h (by decide +kernel) rfl ⟨rfl, Nat.le_of_ble_eq_true rfl, _, _, _, Or.inl ⟨Nat.le_of_ble_eq_true rfl, rfl⟩, Nat.le_of_ble_eq_true rfl, zw_1434⟩) <|
  z_fc (zo_l (by decide +kernel) rfl rfl trivial) <|
  z_fc (zo_l (by decide +kernel) rfl rfl trivial) <|
  z_fc (zo_l (by decide +kernel) rfl rfl trivial) <|
  z_fc (zo_l (by decide +kernel) rfl rfl trivial) <|
  z_fc (zo_l (by decide +kernel) rfl rfl trivial) <|
  z_fc (zo_h (by decide +kernel) rfl ⟨rfl, Nat.le_of_ble_eq_true rfl, _, _, _, Or.inl ⟨Nat.le_of_ble_eq_true rfl, rfl⟩, Nat.le_of_ble_eq_true rfl, zw_1434⟩) <|
  z_fc (zo_l (by decide +kernel) rfl rfl trivial) <|
  z_fc (zo_h (by decide +kernel) rfl rfl) <|
  z_fc (zo_l (by decide +kernel) rfl rfl trivial) <|
  z_fc (zo_l (by decide +kernel) rfl rfl trivial) <|
  z_fc (zo_h (by decide +kernel) rfl rfl) <|
  z_fc (zo_l (by decide +kernel) rfl rfl trivial) <|
  z_fc (zo_l (by decide +kernel) rfl rfl trivial) <|
  z_fc (zo_l (by decide +kernel) rfl rfl trivial) <|
  z_fc (zo_l (by decide +kernel) rfl rfl (by show ((51 : Nat) : Int) + (6) = ((57 : Nat) : Int); decide)) <|
  z_fc (zo_l (by decide +kernel) rfl rfl trivial) <|
  z_fc (zo_r (by decide +kernel) rfl) <|
  h
theorem zk_167_1 (xs : List Int32) {l : List zE} (h : ∀ q ∈ l, z_oke' (za_T xs) za_P za_M ⟨"LyndonBenchModel", "rotations", "(II)I"⟩ prog_9_method_22_code q) : ∀ q ∈ zc_167_1 ++ l, z_oke' (za_T xs) za_P za_M ⟨"LyndonBenchModel", "rotations", "(II)I"⟩ prog_9_method_22_code q :=
  z_fc (zo_l (by decide +kernel) rfl rfl trivial) <|
  z_fc (zo_l (by decide +kernel) rfl rfl (by show ((60 : Nat) : Int) + (-58) = ((2 : Nat) : Int); decide)) <|
  z_fc (zo_l (by decide +kernel) rfl rfl trivial) <|
  z_fc (zo_r (by decide +kernel) rfl) <|
  h
theorem zk_167 (xs : List Int32) : z_okm (za_T xs) za_P za_M 167 := z_okm_of ⟨"LyndonBenchModel", "rotations", "(II)I"⟩ prog_9_method_22_code zc_167 _ rfl rfl rfl rfl
  (zk_167_0 xs <|
  zk_167_1 xs <|
  z_fn)
  (z_fn)
theorem zk_168 (xs : List Int32) : z_okm (za_T xs) za_P za_M 168 := z_okm_of ⟨"LyndonBenchModel", "least", "()I"⟩ prog_9_method_23_code zc_168 _ rfl rfl rfl rfl
  (z_fc (zo_l (by decide +kernel) rfl rfl trivial) <|
  z_fc (zo_l (by decide +kernel) rfl rfl trivial) <|
  z_fc (zo_l (by decide +kernel) rfl rfl trivial) <|
  z_fc (zo_l (by decide +kernel) rfl rfl trivial) <|
  z_fc (zo_l (by decide +kernel) rfl rfl trivial) <|
  z_fc (zo_l (by decide +kernel) rfl rfl trivial) <|
  z_fc (zo_h (by decide +kernel) rfl ⟨rfl, Nat.le_of_ble_eq_true rfl, _, _, _, Or.inl ⟨Nat.le_of_ble_eq_true rfl, rfl⟩, Nat.le_of_ble_eq_true rfl, zw_1434⟩) <|
  z_fc (zo_l (by decide +kernel) rfl rfl trivial) <|
  z_fc (zo_h (by decide +kernel) rfl rfl) <|
  z_fc (zo_l (by decide +kernel) rfl rfl (by show ((11 : Nat) : Int) + (24) = ((35 : Nat) : Int); decide)) <|
  z_fc (zo_l (by decide +kernel) rfl rfl trivial) <|
  z_fc (zo_l (by decide +kernel) rfl rfl trivial) <|
  z_fc (zo_l (by decide +kernel) rfl rfl trivial) <|
  z_fc (zo_v (by decide +kernel) rfl ⟨rfl, zd_167, zw_1340, Nat.le_of_ble_eq_true rfl, ⟨_, Or.inl ⟨Nat.le_of_ble_eq_true rfl, rfl⟩, rfl⟩, zw_1338, zw_68⟩) <|
  z_fc (zo_l (by decide +kernel) rfl rfl (by show ((20 : Nat) : Int) + (7) = ((27 : Nat) : Int); decide)) <|
  z_fc (zo_l (by decide +kernel) rfl rfl trivial) <|
  z_fc (zo_l (by decide +kernel) rfl rfl (by show ((24 : Nat) : Int) + (4) = ((28 : Nat) : Int); decide)) <|
  z_fc (zo_l (by decide +kernel) rfl rfl trivial) <|
  z_fc (zo_l (by decide +kernel) rfl rfl trivial) <|
  z_fc (zo_l (by decide +kernel) rfl rfl trivial) <|
  z_fc (zo_l (by decide +kernel) rfl rfl (by show ((32 : Nat) : Int) + (-28) = ((4 : Nat) : Int); decide)) <|
  z_fc (zo_l (by decide +kernel) rfl rfl trivial) <|
  z_fc (zo_r (by decide +kernel) rfl) <|
  z_fn)
  (z_fn)
theorem zk_169_0 (xs : List Int32) {l : List zE} (h : ∀ q ∈ l, z_oke' (za_T xs) za_P za_M ⟨"LyndonBenchModel", "suffix", "(I)I"⟩ prog_9_method_24_code q) : ∀ q ∈ zc_169_0 ++ l, z_oke' (za_T xs) za_P za_M ⟨"LyndonBenchModel", "suffix", "(I)I"⟩ prog_9_method_24_code q :=
  z_fc (zo_l (by decide +kernel) rfl rfl trivial) <|
  z_fc (zo_l (by decide +kernel) rfl rfl trivial) <|
  z_fc (zo_l (by decide +kernel) rfl rfl trivial) <|
  z_fc (zo_l (by decide +kernel) rfl rfl trivial) <|
  z_fc (zo_l (by decide +kernel) rfl rfl trivial) <|
  z_fc (zo_l (by decide +kernel) rfl rfl trivial) <|
  z_fc (zo_h (by decide +kernel) rfl ⟨rfl, Nat.le_of_ble_eq_true rfl, _, _, _, Or.inl ⟨Nat.le_of_ble_eq_true rfl, rfl⟩, Nat.le_of_ble_eq_true rfl, zw_1434⟩) <|
  z_fc (zo_l (by decide +kernel) rfl rfl trivial) <|
  z_fc (zo_h (by decide +kernel) rfl rfl) <|
  z_fc (zo_l (by decide +kernel) rfl rfl (by show ((11 : Nat) : Int) + (47) = ((58 : Nat) : Int); decide)) <|
  z_fc (zo_l (by decide +kernel) rfl rfl trivial) <|
  z_fc (zo_l (by decide +kernel) rfl rfl trivial) <|
  z_fc (zo_l (by decide +kernel) rfl rfl (by show ((16 : Nat) : Int) + (34) = ((50 : Nat) : Int); decide)) <|
  z_fc (zo_l (by decide +kernel) rfl rfl trivial) <|
  z_fc (zo_l (by decide +kernel) rfl rfl trivial) <|
  z_fc (zo_l (by decide +kernel) rfl rfl trivial) <|
  z_fc (zo_l (by decide +kernel) rfl rfl trivial) <|
  z_fc (zo_l (by decide +kernel) rfl rfl trivial) <|
  z_fc (zo_l (by decide +kernel) rfl rfl trivial) <|
  z_fc (zo_h (by decide +kernel) rfl ⟨rfl, Nat.le_of_ble_eq_true rfl, _, _, _, Or.inl ⟨Nat.le_of_ble_eq_true rfl, rfl⟩, Nat.le_of_ble_eq_true rfl, zw_1434⟩) <|
  z_fc (zo_l (by decide +kernel) rfl rfl trivial) <|
  z_fc (zo_h (by decide +kernel) rfl rfl) <|
  z_fc (zo_l (by decide +kernel) rfl rfl trivial) <|
  z_fc (zo_l (by decide +kernel) rfl rfl trivial) <|
  z_fc (zo_l (by decide +kernel) rfl rfl trivial) <|
  z_fc (zo_l (by decide +kernel) rfl rfl trivial) <|
  z_fc (zo_l (by decide +kernel) rfl rfl trivial) <|
  z_fc (zo_l (by decide +kernel) rfl rfl trivial) <|
  z_fc (zo_h (by decide +kernel) rfl ⟨rfl, Nat.le_of_ble_eq_true rfl, _, _, _, Or.inl ⟨Nat.le_of_ble_eq_true rfl, rfl⟩, Nat.le_of_ble_eq_true rfl, zw_1434⟩) <|
  z_fc (zo_l (by decide +kernel) rfl rfl trivial) <|
  z_fc (zo_h (by decide +kernel) rfl rfl) <|
  z_fc (zo_l (by decide +kernel) rfl rfl trivial) <|
  z_fc (zo_l (by decide +kernel) rfl rfl trivial) <|
  z_fc (zo_v (by decide +kernel) rfl ⟨rfl, zd_153, zw_1428, Nat.le_of_ble_eq_true rfl, ⟨_, Or.inl ⟨Nat.le_of_ble_eq_true rfl, rfl⟩, rfl⟩, zw_1426, zw_90⟩) <|
  z_fc (zo_l (by decide +kernel) rfl rfl trivial) <|
  z_fc (zo_l (by decide +kernel) rfl rfl (by show ((47 : Nat) : Int) + (5) = ((52 : Nat) : Int); decide)) <|
  z_fc (zo_l (by decide +kernel) rfl rfl trivial) <|
  z_fc (zo_l (by decide +kernel) rfl rfl trivial) <|
  z_fc (zo_l (by decide +kernel) rfl rfl trivial) <|
  z_fc (zo_l (by decide +kernel) rfl rfl (by show ((55 : Nat) : Int) + (-51) = ((4 : Nat) : Int); decide)) <|
  h
theorem zk_169_1 (xs : List Int32) {l : List zE} (h : ∀ q ∈ l, z_oke' (za_T xs) za_P za_M ⟨"LyndonBenchModel", "suffix", "(I)I"⟩ prog_9_method_24_code q) : ∀ q ∈ zc_169_1 ++ l, z_oke' (za_T xs) za_P za_M ⟨"LyndonBenchModel", "suffix", "(I)I"⟩ prog_9_method_24_code q :=
  z_fc (zo_l (by decide +kernel) rfl rfl trivial) <|
  z_fc (zo_r (by decide +kernel) rfl) <|
  h
theorem zk_169 (xs : List Int32) : z_okm (za_T xs) za_P za_M 169 := z_okm_of ⟨"LyndonBenchModel", "suffix", "(I)I"⟩ prog_9_method_24_code zc_169 _ rfl rfl rfl rfl
  (zk_169_0 xs <|
  zk_169_1 xs <|
  z_fn)
  (z_fn)
theorem zk_170 (xs : List Int32) : z_okm (za_T xs) za_P za_M 170 := z_okm_of ⟨"LyndonBenchModel", "power", "(I)I"⟩ prog_9_method_25_code zc_170 _ rfl rfl rfl rfl
  (z_fc (zo_l (by decide +kernel) rfl rfl trivial) <|
  z_fc (zo_l (by decide +kernel) rfl rfl trivial) <|
  z_fc (zo_l (by decide +kernel) rfl rfl trivial) <|
  z_fc (zo_l (by decide +kernel) rfl rfl trivial) <|
  z_fc (zo_l (by decide +kernel) rfl rfl trivial) <|
  z_fc (zo_l (by decide +kernel) rfl rfl trivial) <|
  z_fc (zo_l (by decide +kernel) rfl rfl (by show ((6 : Nat) : Int) + (25) = ((31 : Nat) : Int); decide)) <|
  z_fc (zo_l (by decide +kernel) rfl rfl trivial) <|
  z_fc (zo_l (by decide +kernel) rfl rfl trivial) <|
  z_fc (zo_l (by decide +kernel) rfl rfl (by show ((13 : Nat) : Int) + (18) = ((31 : Nat) : Int); decide)) <|
  z_fc (zo_l (by decide +kernel) rfl rfl trivial) <|
  z_fc (zo_l (by decide +kernel) rfl rfl trivial) <|
  z_fc (zo_h (by decide +kernel) rfl ⟨rfl, Nat.le_of_ble_eq_true rfl, _, _, _, Or.inl ⟨Nat.le_of_ble_eq_true rfl, rfl⟩, Nat.le_of_ble_eq_true rfl, zw_1434⟩) <|
  z_fc (zo_l (by decide +kernel) rfl rfl trivial) <|
  z_fc (zo_h (by decide +kernel) rfl rfl) <|
  z_fc (zo_l (by decide +kernel) rfl rfl trivial) <|
  z_fc (zo_l (by decide +kernel) rfl rfl trivial) <|
  z_fc (zo_l (by decide +kernel) rfl rfl trivial) <|
  z_fc (zo_l (by decide +kernel) rfl rfl (by show ((28 : Nat) : Int) + (-24) = ((4 : Nat) : Int); decide)) <|
  z_fc (zo_l (by decide +kernel) rfl rfl trivial) <|
  z_fc (zo_r (by decide +kernel) rfl) <|
  z_fn)
  (z_fn)
theorem zk_171 (xs : List Int32) : z_okm (za_T xs) za_P za_M 171 := z_okm_of ⟨"LyndonBenchModel", "spells", "(II)V"⟩ prog_9_method_26_code zc_171 _ rfl rfl rfl rfl
  (z_fc (zo_l (by decide +kernel) rfl rfl trivial) <|
  z_fc (zo_l (by decide +kernel) rfl rfl trivial) <|
  z_fc (zo_l (by decide +kernel) rfl rfl trivial) <|
  z_fc (zo_l (by decide +kernel) rfl rfl trivial) <|
  z_fc (zo_h (by decide +kernel) rfl ⟨rfl, Nat.le_of_ble_eq_true rfl, _, _, _, rfl, Nat.le_of_ble_eq_true rfl, zw_1448, Or.inl rfl⟩) <|
  z_fc (zo_l (by decide +kernel) rfl rfl trivial) <|
  z_fc (zo_l (by decide +kernel) rfl rfl trivial) <|
  z_fc (zo_l (by decide +kernel) rfl rfl trivial) <|
  z_fc (zo_l (by decide +kernel) rfl rfl trivial) <|
  z_fc (zo_l (by decide +kernel) rfl rfl trivial) <|
  z_fc (zo_l (by decide +kernel) rfl rfl (by show ((14 : Nat) : Int) + (33) = ((47 : Nat) : Int); decide)) <|
  z_fc (zo_l (by decide +kernel) rfl rfl trivial) <|
  z_fc (zo_h (by decide +kernel) rfl ⟨rfl, Nat.le_of_ble_eq_true rfl, _, _, _, Or.inl ⟨Nat.le_of_ble_eq_true rfl, rfl⟩, Nat.le_of_ble_eq_true rfl, zw_1442⟩) <|
  z_fc (zo_l (by decide +kernel) rfl rfl trivial) <|
  z_fc (zo_l (by decide +kernel) rfl rfl trivial) <|
  z_fc (zo_l (by decide +kernel) rfl rfl trivial) <|
  z_fc (zo_h (by decide +kernel) rfl ⟨rfl, Nat.le_of_ble_eq_true rfl, _, _, _, Or.inl ⟨Nat.le_of_ble_eq_true rfl, rfl⟩, Nat.le_of_ble_eq_true rfl, zw_1434⟩) <|
  z_fc (zo_l (by decide +kernel) rfl rfl trivial) <|
  z_fc (zo_h (by decide +kernel) rfl rfl) <|
  z_fc (zo_l (by decide +kernel) rfl rfl trivial) <|
  z_fc (zo_h (by decide +kernel) rfl rfl) <|
  z_fc (zo_l (by decide +kernel) rfl rfl trivial) <|
  z_fc (zo_l (by decide +kernel) rfl rfl trivial) <|
  z_fc (zo_h (by decide +kernel) rfl ⟨rfl, Nat.le_of_ble_eq_true rfl, _, _, _, Or.inl ⟨Nat.le_of_ble_eq_true rfl, rfl⟩, Nat.le_of_ble_eq_true rfl, zw_1434⟩) <|
  z_fc (zo_l (by decide +kernel) rfl rfl trivial) <|
  z_fc (zo_h (by decide +kernel) rfl rfl) <|
  z_fc (zo_l (by decide +kernel) rfl rfl trivial) <|
  z_fc (zo_l (by decide +kernel) rfl rfl trivial) <|
  z_fc (zo_l (by decide +kernel) rfl rfl trivial) <|
  z_fc (zo_l (by decide +kernel) rfl rfl (by show ((44 : Nat) : Int) + (-32) = ((12 : Nat) : Int); decide)) <|
  z_fc (zo_e (by decide +kernel)) <|
  z_fn)
  (z_fn)
theorem zk_172 (xs : List Int32) : z_okm (za_T xs) za_P za_M 172 := z_okm_of ⟨"LyndonBenchModel", "rootLength", "()I"⟩ prog_9_method_27_code zc_172 _ rfl rfl rfl rfl
  (z_fc (zo_l (by decide +kernel) rfl rfl trivial) <|
  z_fc (zo_l (by decide +kernel) rfl rfl trivial) <|
  z_fc (zo_l (by decide +kernel) rfl rfl trivial) <|
  z_fc (zo_l (by decide +kernel) rfl rfl trivial) <|
  z_fc (zo_h (by decide +kernel) rfl ⟨rfl, Nat.le_of_ble_eq_true rfl, _, _, _, Or.inl ⟨Nat.le_of_ble_eq_true rfl, rfl⟩, Nat.le_of_ble_eq_true rfl, zw_1448⟩) <|
  z_fc (zo_l (by decide +kernel) rfl rfl (by show ((7 : Nat) : Int) + (19) = ((26 : Nat) : Int); decide)) <|
  z_fc (zo_l (by decide +kernel) rfl rfl trivial) <|
  z_fc (zo_l (by decide +kernel) rfl rfl trivial) <|
  z_fc (zo_v (by decide +kernel) rfl ⟨rfl, zd_161, zw_1360, Nat.le_of_ble_eq_true rfl, ⟨_, Or.inl ⟨Nat.le_of_ble_eq_true rfl, rfl⟩, rfl⟩, zw_1358, zw_73⟩) <|
  z_fc (zo_l (by decide +kernel) rfl rfl (by show ((15 : Nat) : Int) + (5) = ((20 : Nat) : Int); decide)) <|
  z_fc (zo_l (by decide +kernel) rfl rfl trivial) <|
  z_fc (zo_r (by decide +kernel) rfl) <|
  z_fc (zo_l (by decide +kernel) rfl rfl trivial) <|
  z_fc (zo_l (by decide +kernel) rfl rfl (by show ((23 : Nat) : Int) + (-21) = ((2 : Nat) : Int); decide)) <|
  z_fc (zo_l (by decide +kernel) rfl rfl trivial) <|
  z_fc (zo_h (by decide +kernel) rfl ⟨rfl, Nat.le_of_ble_eq_true rfl, _, _, _, Or.inl ⟨Nat.le_of_ble_eq_true rfl, rfl⟩, Nat.le_of_ble_eq_true rfl, zw_1448⟩) <|
  z_fc (zo_r (by decide +kernel) rfl) <|
  z_fn)
  (z_fn)
theorem zk_173 (xs : List Int32) : z_okm (za_T xs) za_P za_M 173 := z_okm_of ⟨"LyndonBenchModel", "primitives", "(I)J"⟩ prog_9_method_28_code zc_173 _ rfl rfl rfl rfl
  (z_fc (zo_l (by decide +kernel) rfl rfl trivial) <|
  z_fc (zo_l (by decide +kernel) rfl rfl trivial) <|
  z_fc (zo_l (by decide +kernel) rfl rfl trivial) <|
  z_fc (zo_l (by decide +kernel) rfl rfl trivial) <|
  z_fc (zo_l (by decide +kernel) rfl rfl trivial) <|
  z_fc (zo_l (by decide +kernel) rfl rfl trivial) <|
  z_fc (zo_l (by decide +kernel) rfl rfl (by show ((8 : Nat) : Int) + (19) = ((27 : Nat) : Int); decide)) <|
  z_fc (zo_l (by decide +kernel) rfl rfl trivial) <|
  z_fc (zo_l (by decide +kernel) rfl rfl trivial) <|
  z_fc (zo_h (by decide +kernel) rfl ⟨rfl, Nat.le_of_ble_eq_true rfl, _, _, _, Or.inl ⟨Nat.le_of_ble_eq_true rfl, rfl⟩, Nat.le_of_ble_eq_true rfl, zw_1434⟩) <|
  z_fc (zo_l (by decide +kernel) rfl rfl trivial) <|
  z_fc (zo_h (by decide +kernel) rfl rfl) <|
  z_fc (zo_l (by decide +kernel) rfl rfl trivial) <|
  z_fc (zo_l (by decide +kernel) rfl rfl trivial) <|
  z_fc (zo_l (by decide +kernel) rfl rfl trivial) <|
  z_fc (zo_l (by decide +kernel) rfl rfl trivial) <|
  z_fc (zo_l (by decide +kernel) rfl rfl (by show ((24 : Nat) : Int) + (-19) = ((5 : Nat) : Int); decide)) <|
  z_fc (zo_l (by decide +kernel) rfl rfl trivial) <|
  z_fc (zo_l (by decide +kernel) rfl rfl trivial) <|
  z_fc (zo_l (by decide +kernel) rfl rfl trivial) <|
  z_fc (zo_l (by decide +kernel) rfl rfl trivial) <|
  z_fc (zo_l (by decide +kernel) rfl rfl (by show ((33 : Nat) : Int) + (29) = ((62 : Nat) : Int); decide)) <|
  z_fc (zo_l (by decide +kernel) rfl rfl trivial) <|
  z_fc (zo_l (by decide +kernel) rfl rfl trivial) <|
  z_fc (zo_l (by decide +kernel) rfl rfl trivial) <|
  z_fc (zo_l (by decide +kernel) rfl rfl trivial) <|
  z_fc (zo_l (by decide +kernel) rfl rfl (by show ((41 : Nat) : Int) + (12) = ((53 : Nat) : Int); decide)) <|
  z_fc (zo_l (by decide +kernel) rfl rfl trivial) <|
  z_fc (zo_l (by decide +kernel) rfl rfl trivial) <|
  z_fc (zo_v (by decide +kernel) rfl ⟨rfl, zd_173, zw_1779, Nat.le_of_ble_eq_true rfl, ⟨_, Or.inl ⟨Nat.le_of_ble_eq_true rfl, rfl⟩, rfl⟩, zw_1777, zw_112⟩) <|
  z_fc (zo_l (by decide +kernel) rfl rfl (by show ((50 : Nat) : Int) + (4) = ((54 : Nat) : Int); decide)) <|
  z_fc (zo_l (by decide +kernel) rfl rfl trivial) <|
  z_fc (zo_l (by decide +kernel) rfl rfl trivial) <|
  z_fc (zo_l (by decide +kernel) rfl rfl trivial) <|
  z_fc (zo_l (by decide +kernel) rfl rfl trivial) <|
  z_fc (zo_l (by decide +kernel) rfl rfl (by show ((59 : Nat) : Int) + (-29) = ((30 : Nat) : Int); decide)) <|
  z_fc (zo_l (by decide +kernel) rfl rfl trivial) <|
  z_fc (zo_r (by decide +kernel) rfl) <|
  z_fn)
  (z_fn)
theorem zk_174 (xs : List Int32) : z_okm (za_T xs) za_P za_M 174 := z_okm_of ⟨"LyndonBenchModel", "rings", "(I)J"⟩ prog_9_method_29_code zc_174 _ rfl rfl rfl rfl
  (z_fc (zo_l (by decide +kernel) rfl rfl trivial) <|
  z_fc (zo_l (by decide +kernel) rfl rfl trivial) <|
  z_fc (zo_l (by decide +kernel) rfl rfl trivial) <|
  z_fc (zo_l (by decide +kernel) rfl rfl trivial) <|
  z_fc (zo_l (by decide +kernel) rfl rfl trivial) <|
  z_fc (zo_l (by decide +kernel) rfl rfl trivial) <|
  z_fc (zo_l (by decide +kernel) rfl rfl (by show ((8 : Nat) : Int) + (33) = ((41 : Nat) : Int); decide)) <|
  z_fc (zo_l (by decide +kernel) rfl rfl trivial) <|
  z_fc (zo_l (by decide +kernel) rfl rfl trivial) <|
  z_fc (zo_l (by decide +kernel) rfl rfl trivial) <|
  z_fc (zo_l (by decide +kernel) rfl rfl trivial) <|
  z_fc (zo_l (by decide +kernel) rfl rfl (by show ((16 : Nat) : Int) + (16) = ((32 : Nat) : Int); decide)) <|
  z_fc (zo_l (by decide +kernel) rfl rfl trivial) <|
  z_fc (zo_l (by decide +kernel) rfl rfl trivial) <|
  z_fc (zo_v (by decide +kernel) rfl ⟨rfl, zd_173, zw_1779, Nat.le_of_ble_eq_true rfl, ⟨_, Or.inl ⟨Nat.le_of_ble_eq_true rfl, rfl⟩, rfl⟩, zw_1777, zw_112⟩) <|
  z_fc (zo_l (by decide +kernel) rfl rfl trivial) <|
  z_fc (zo_l (by decide +kernel) rfl rfl trivial) <|
  z_fc (zo_l (by decide +kernel) rfl rfl trivial) <|
  z_fc (zo_l (by decide +kernel) rfl rfl (by show ((29 : Nat) : Int) + (4) = ((33 : Nat) : Int); decide)) <|
  z_fc (zo_l (by decide +kernel) rfl rfl trivial) <|
  z_fc (zo_l (by decide +kernel) rfl rfl trivial) <|
  z_fc (zo_l (by decide +kernel) rfl rfl trivial) <|
  z_fc (zo_l (by decide +kernel) rfl rfl trivial) <|
  z_fc (zo_l (by decide +kernel) rfl rfl (by show ((38 : Nat) : Int) + (-33) = ((5 : Nat) : Int); decide)) <|
  z_fc (zo_l (by decide +kernel) rfl rfl trivial) <|
  z_fc (zo_r (by decide +kernel) rfl) <|
  z_fn)
  (z_fn)
theorem zk_175 (xs : List Int32) : z_okm (za_T xs) za_P za_M 175 := z_okm_of ⟨"LyndonBenchModel", "takes", "()I"⟩ prog_9_method_30_code zc_175 _ rfl rfl rfl rfl
  (z_fc (zo_l (by decide +kernel) rfl rfl trivial) <|
  z_fc (zo_h (by decide +kernel) rfl ⟨rfl, Nat.le_of_ble_eq_true rfl, _, _, _, Or.inl ⟨Nat.le_of_ble_eq_true rfl, rfl⟩, Nat.le_of_ble_eq_true rfl, zw_1434⟩) <|
  z_fc (zo_l (by decide +kernel) rfl rfl trivial) <|
  z_fc (zo_l (by decide +kernel) rfl rfl trivial) <|
  z_fc (zo_h (by decide +kernel) rfl ⟨rfl, Nat.le_of_ble_eq_true rfl, _, _, _, Or.inl ⟨Nat.le_of_ble_eq_true rfl, rfl⟩, Nat.le_of_ble_eq_true rfl, zw_1448⟩) <|
  z_fc (zo_h (by decide +kernel) rfl rfl) <|
  z_fc (zo_l (by decide +kernel) rfl rfl trivial) <|
  z_fc (zo_l (by decide +kernel) rfl rfl trivial) <|
  z_fc (zo_l (by decide +kernel) rfl rfl trivial) <|
  z_fc (zo_l (by decide +kernel) rfl rfl trivial) <|
  z_fc (zo_l (by decide +kernel) rfl rfl (by show ((15 : Nat) : Int) + (35) = ((50 : Nat) : Int); decide)) <|
  z_fc (zo_l (by decide +kernel) rfl rfl trivial) <|
  z_fc (zo_h (by decide +kernel) rfl ⟨rfl, Nat.le_of_ble_eq_true rfl, _, _, _, Or.inl ⟨Nat.le_of_ble_eq_true rfl, rfl⟩, Nat.le_of_ble_eq_true rfl, zw_1434⟩) <|
  z_fc (zo_l (by decide +kernel) rfl rfl trivial) <|
  z_fc (zo_l (by decide +kernel) rfl rfl trivial) <|
  z_fc (zo_l (by decide +kernel) rfl rfl trivial) <|
  z_fc (zo_l (by decide +kernel) rfl rfl trivial) <|
  z_fc (zo_l (by decide +kernel) rfl rfl trivial) <|
  z_fc (zo_h (by decide +kernel) rfl ⟨rfl, Nat.le_of_ble_eq_true rfl, _, _, _, Or.inl ⟨Nat.le_of_ble_eq_true rfl, rfl⟩, Nat.le_of_ble_eq_true rfl, zw_1448⟩) <|
  z_fc (zo_l (by decide +kernel) rfl rfl (by show ((30 : Nat) : Int) + (12) = ((42 : Nat) : Int); decide)) <|
  z_fc (zo_l (by decide +kernel) rfl rfl trivial) <|
  z_fc (zo_h (by decide +kernel) rfl ⟨rfl, Nat.le_of_ble_eq_true rfl, _, _, _, Or.inl ⟨Nat.le_of_ble_eq_true rfl, rfl⟩, Nat.le_of_ble_eq_true rfl, zw_1442⟩) <|
  z_fc (zo_l (by decide +kernel) rfl rfl trivial) <|
  z_fc (zo_h (by decide +kernel) rfl rfl) <|
  z_fc (zo_l (by decide +kernel) rfl rfl (by show ((39 : Nat) : Int) + (4) = ((43 : Nat) : Int); decide)) <|
  z_fc (zo_l (by decide +kernel) rfl rfl trivial) <|
  z_fc (zo_h (by decide +kernel) rfl rfl) <|
  z_fc (zo_l (by decide +kernel) rfl rfl trivial) <|
  z_fc (zo_l (by decide +kernel) rfl rfl (by show ((47 : Nat) : Int) + (-35) = ((12 : Nat) : Int); decide)) <|
  z_fc (zo_l (by decide +kernel) rfl rfl trivial) <|
  z_fc (zo_h (by decide +kernel) rfl ⟨rfl, Nat.le_of_ble_eq_true rfl, _, _, _, Or.inl ⟨Nat.le_of_ble_eq_true rfl, rfl⟩, Nat.le_of_ble_eq_true rfl, zw_1448⟩) <|
  z_fc (zo_r (by decide +kernel) rfl) <|
  z_fn)
  (z_fn)
theorem zk_176 (xs : List Int32) : z_okm (za_T xs) za_P za_M 176 := z_okm_of ⟨"LyndonBenchModel", "appends", "(I)I"⟩ prog_9_method_31_code zc_176 _ rfl rfl rfl rfl
  (z_fc (zo_l (by decide +kernel) rfl rfl trivial) <|
  z_fc (zo_v (by decide +kernel) rfl ⟨rfl, zd_155, zw_1276, Nat.le_of_ble_eq_true rfl, ⟨_, Or.inl ⟨Nat.le_of_ble_eq_true rfl, rfl⟩, rfl⟩, zw_1274, zw_52⟩) <|
  z_fc (zo_l (by decide +kernel) rfl rfl trivial) <|
  z_fc (zo_l (by decide +kernel) rfl rfl trivial) <|
  z_fc (zo_v (by decide +kernel) rfl ⟨rfl, zd_156, zw_1432, Nat.le_of_ble_eq_true rfl, ⟨_, Or.inl ⟨Nat.le_of_ble_eq_true rfl, rfl⟩, rfl⟩, zw_1430, zw_91⟩) <|
  z_fc (zo_l (by decide +kernel) rfl rfl trivial) <|
  z_fc (zo_v (by decide +kernel) rfl ⟨rfl, zd_175, zw_1268, Nat.le_of_ble_eq_true rfl, ⟨_, Or.inl ⟨Nat.le_of_ble_eq_true rfl, rfl⟩, rfl⟩, zw_1266, zw_50⟩) <|
  z_fc (zo_l (by decide +kernel) rfl rfl trivial) <|
  z_fc (zo_l (by decide +kernel) rfl rfl trivial) <|
  z_fc (zo_v (by decide +kernel) rfl ⟨rfl, zd_160, zw_1288, Nat.le_of_ble_eq_true rfl, ⟨_, Or.inl ⟨Nat.le_of_ble_eq_true rfl, rfl⟩, rfl⟩, zw_1286, zw_55⟩) <|
  z_fc (zo_r (by decide +kernel) rfl) <|
  z_fn)
  (z_fn)
theorem zk_177 (xs : List Int32) : z_okm (za_T xs) za_P za_M 177 := z_okm_of ⟨"LyndonBenchModel", "drops", "(I)I"⟩ prog_9_method_32_code zc_177 _ rfl rfl rfl rfl
  (z_fc (zo_l (by decide +kernel) rfl rfl trivial) <|
  z_fc (zo_v (by decide +kernel) rfl ⟨rfl, zd_155, zw_1276, Nat.le_of_ble_eq_true rfl, ⟨_, Or.inl ⟨Nat.le_of_ble_eq_true rfl, rfl⟩, rfl⟩, zw_1274, zw_52⟩) <|
  z_fc (zo_l (by decide +kernel) rfl rfl trivial) <|
  z_fc (zo_l (by decide +kernel) rfl rfl trivial) <|
  z_fc (zo_h (by decide +kernel) rfl ⟨rfl, Nat.le_of_ble_eq_true rfl, _, _, _, Or.inl ⟨Nat.le_of_ble_eq_true rfl, rfl⟩, Nat.le_of_ble_eq_true rfl, zw_1448⟩) <|
  z_fc (zo_l (by decide +kernel) rfl rfl trivial) <|
  z_fc (zo_l (by decide +kernel) rfl rfl trivial) <|
  z_fc (zo_h (by decide +kernel) rfl ⟨rfl, Nat.le_of_ble_eq_true rfl, _, _, _, rfl, Nat.le_of_ble_eq_true rfl, zw_1448, Or.inl rfl⟩) <|
  z_fc (zo_l (by decide +kernel) rfl rfl trivial) <|
  z_fc (zo_v (by decide +kernel) rfl ⟨rfl, zd_175, zw_1268, Nat.le_of_ble_eq_true rfl, ⟨_, Or.inl ⟨Nat.le_of_ble_eq_true rfl, rfl⟩, rfl⟩, zw_1266, zw_50⟩) <|
  z_fc (zo_l (by decide +kernel) rfl rfl trivial) <|
  z_fc (zo_l (by decide +kernel) rfl rfl trivial) <|
  z_fc (zo_v (by decide +kernel) rfl ⟨rfl, zd_160, zw_1288, Nat.le_of_ble_eq_true rfl, ⟨_, Or.inl ⟨Nat.le_of_ble_eq_true rfl, rfl⟩, rfl⟩, zw_1286, zw_55⟩) <|
  z_fc (zo_r (by decide +kernel) rfl) <|
  z_fn)
  (z_fn)
theorem zk_178 (xs : List Int32) : z_okm (za_T xs) za_P za_M 178 := z_okm_of ⟨"LyndonBenchModel", "parts", "(II)I"⟩ prog_9_method_33_code zc_178 _ rfl rfl rfl rfl
  (z_fc (zo_l (by decide +kernel) rfl rfl trivial) <|
  z_fc (zo_l (by decide +kernel) rfl rfl trivial) <|
  z_fc (zo_l (by decide +kernel) rfl rfl trivial) <|
  z_fc (zo_l (by decide +kernel) rfl rfl trivial) <|
  z_fc (zo_h (by decide +kernel) rfl ⟨rfl, Nat.le_of_ble_eq_true rfl, _, _, _, rfl, Nat.le_of_ble_eq_true rfl, zw_1448, Or.inl rfl⟩) <|
  z_fc (zo_l (by decide +kernel) rfl rfl trivial) <|
  z_fc (zo_l (by decide +kernel) rfl rfl trivial) <|
  z_fc (zo_l (by decide +kernel) rfl rfl trivial) <|
  z_fc (zo_l (by decide +kernel) rfl rfl trivial) <|
  z_fc (zo_l (by decide +kernel) rfl rfl (by show ((11 : Nat) : Int) + (25) = ((36 : Nat) : Int); decide)) <|
  z_fc (zo_l (by decide +kernel) rfl rfl trivial) <|
  z_fc (zo_h (by decide +kernel) rfl ⟨rfl, Nat.le_of_ble_eq_true rfl, _, _, _, Or.inl ⟨Nat.le_of_ble_eq_true rfl, rfl⟩, Nat.le_of_ble_eq_true rfl, zw_1442⟩) <|
  z_fc (zo_l (by decide +kernel) rfl rfl trivial) <|
  z_fc (zo_l (by decide +kernel) rfl rfl trivial) <|
  z_fc (zo_l (by decide +kernel) rfl rfl trivial) <|
  z_fc (zo_l (by decide +kernel) rfl rfl trivial) <|
  z_fc (zo_h (by decide +kernel) rfl ⟨rfl, Nat.le_of_ble_eq_true rfl, _, _, _, Or.inl ⟨Nat.le_of_ble_eq_true rfl, rfl⟩, Nat.le_of_ble_eq_true rfl, zw_1434⟩) <|
  z_fc (zo_l (by decide +kernel) rfl rfl trivial) <|
  z_fc (zo_l (by decide +kernel) rfl rfl trivial) <|
  z_fc (zo_l (by decide +kernel) rfl rfl trivial) <|
  z_fc (zo_h (by decide +kernel) rfl rfl) <|
  z_fc (zo_h (by decide +kernel) rfl rfl) <|
  z_fc (zo_l (by decide +kernel) rfl rfl trivial) <|
  z_fc (zo_l (by decide +kernel) rfl rfl (by show ((33 : Nat) : Int) + (-24) = ((9 : Nat) : Int); decide)) <|
  z_fc (zo_l (by decide +kernel) rfl rfl trivial) <|
  z_fc (zo_v (by decide +kernel) rfl ⟨rfl, zd_175, zw_1268, Nat.le_of_ble_eq_true rfl, ⟨_, Or.inl ⟨Nat.le_of_ble_eq_true rfl, rfl⟩, rfl⟩, zw_1266, zw_50⟩) <|
  z_fc (zo_r (by decide +kernel) rfl) <|
  z_fn)
  (z_fn)
theorem zk_179 (xs : List Int32) : z_okm (za_T xs) za_P za_M 179 := z_okm_of ⟨"LyndonBenchModel", "turns", "(I)I"⟩ prog_9_method_34_code zc_179 _ rfl rfl rfl rfl
  (z_fc (zo_l (by decide +kernel) rfl rfl trivial) <|
  z_fc (zo_h (by decide +kernel) rfl ⟨rfl, Nat.le_of_ble_eq_true rfl, _, _, _, Or.inl ⟨Nat.le_of_ble_eq_true rfl, rfl⟩, Nat.le_of_ble_eq_true rfl, zw_1434⟩) <|
  z_fc (zo_l (by decide +kernel) rfl rfl trivial) <|
  z_fc (zo_h (by decide +kernel) rfl rfl) <|
  z_fc (zo_l (by decide +kernel) rfl rfl (by show ((6 : Nat) : Int) + (13) = ((19 : Nat) : Int); decide)) <|
  z_fc (zo_l (by decide +kernel) rfl rfl trivial) <|
  z_fc (zo_l (by decide +kernel) rfl rfl trivial) <|
  z_fc (zo_v (by decide +kernel) rfl ⟨rfl, zd_157, zw_1316, Nat.le_of_ble_eq_true rfl, ⟨_, Or.inl ⟨Nat.le_of_ble_eq_true rfl, rfl⟩, rfl⟩, zw_1314, zw_62⟩) <|
  z_fc (zo_l (by decide +kernel) rfl rfl trivial) <|
  z_fc (zo_v (by decide +kernel) rfl ⟨rfl, zd_175, zw_1268, Nat.le_of_ble_eq_true rfl, ⟨_, Or.inl ⟨Nat.le_of_ble_eq_true rfl, rfl⟩, rfl⟩, zw_1266, zw_50⟩) <|
  z_fc (zo_l (by decide +kernel) rfl rfl trivial) <|
  z_fc (zo_l (by decide +kernel) rfl rfl trivial) <|
  z_fc (zo_v (by decide +kernel) rfl ⟨rfl, zd_160, zw_1288, Nat.le_of_ble_eq_true rfl, ⟨_, Or.inl ⟨Nat.le_of_ble_eq_true rfl, rfl⟩, rfl⟩, zw_1286, zw_55⟩) <|
  z_fc (zo_r (by decide +kernel) rfl) <|
  z_fn)
  (z_fn)
theorem zk_180 (xs : List Int32) : z_okm (za_T xs) za_P za_M 180 := z_okm_of ⟨"LyndonBenchModel", "mirrors", "()I"⟩ prog_9_method_35_code zc_180 _ rfl rfl rfl rfl
  (z_fc (zo_l (by decide +kernel) rfl rfl trivial) <|
  z_fc (zo_l (by decide +kernel) rfl rfl trivial) <|
  z_fc (zo_h (by decide +kernel) rfl ⟨rfl, Nat.le_of_ble_eq_true rfl, _, _, _, Or.inl ⟨Nat.le_of_ble_eq_true rfl, rfl⟩, Nat.le_of_ble_eq_true rfl, zw_1434⟩) <|
  z_fc (zo_l (by decide +kernel) rfl rfl trivial) <|
  z_fc (zo_h (by decide +kernel) rfl rfl) <|
  z_fc (zo_h (by decide +kernel) rfl ⟨rfl, Nat.le_of_ble_eq_true rfl, _, _, _, rfl, Nat.le_of_ble_eq_true rfl, zw_1448, Or.inl rfl⟩) <|
  z_fc (zo_l (by decide +kernel) rfl rfl trivial) <|
  z_fc (zo_l (by decide +kernel) rfl rfl trivial) <|
  z_fc (zo_l (by decide +kernel) rfl rfl trivial) <|
  z_fc (zo_l (by decide +kernel) rfl rfl trivial) <|
  z_fc (zo_h (by decide +kernel) rfl ⟨rfl, Nat.le_of_ble_eq_true rfl, _, _, _, Or.inl ⟨Nat.le_of_ble_eq_true rfl, rfl⟩, Nat.le_of_ble_eq_true rfl, zw_1448⟩) <|
  z_fc (zo_l (by decide +kernel) rfl rfl (by show ((17 : Nat) : Int) + (30) = ((47 : Nat) : Int); decide)) <|
  z_fc (zo_l (by decide +kernel) rfl rfl trivial) <|
  z_fc (zo_h (by decide +kernel) rfl ⟨rfl, Nat.le_of_ble_eq_true rfl, _, _, _, Or.inl ⟨Nat.le_of_ble_eq_true rfl, rfl⟩, Nat.le_of_ble_eq_true rfl, zw_1442⟩) <|
  z_fc (zo_l (by decide +kernel) rfl rfl trivial) <|
  z_fc (zo_l (by decide +kernel) rfl rfl trivial) <|
  z_fc (zo_h (by decide +kernel) rfl ⟨rfl, Nat.le_of_ble_eq_true rfl, _, _, _, Or.inl ⟨Nat.le_of_ble_eq_true rfl, rfl⟩, Nat.le_of_ble_eq_true rfl, zw_1434⟩) <|
  z_fc (zo_l (by decide +kernel) rfl rfl trivial) <|
  z_fc (zo_l (by decide +kernel) rfl rfl trivial) <|
  z_fc (zo_h (by decide +kernel) rfl ⟨rfl, Nat.le_of_ble_eq_true rfl, _, _, _, Or.inl ⟨Nat.le_of_ble_eq_true rfl, rfl⟩, Nat.le_of_ble_eq_true rfl, zw_1448⟩) <|
  z_fc (zo_l (by decide +kernel) rfl rfl trivial) <|
  z_fc (zo_l (by decide +kernel) rfl rfl trivial) <|
  z_fc (zo_l (by decide +kernel) rfl rfl trivial) <|
  z_fc (zo_l (by decide +kernel) rfl rfl trivial) <|
  z_fc (zo_l (by decide +kernel) rfl rfl trivial) <|
  z_fc (zo_h (by decide +kernel) rfl rfl) <|
  z_fc (zo_h (by decide +kernel) rfl rfl) <|
  z_fc (zo_l (by decide +kernel) rfl rfl trivial) <|
  z_fc (zo_l (by decide +kernel) rfl rfl (by show ((44 : Nat) : Int) + (-32) = ((12 : Nat) : Int); decide)) <|
  z_fc (zo_l (by decide +kernel) rfl rfl trivial) <|
  z_fc (zo_v (by decide +kernel) rfl ⟨rfl, zd_175, zw_1268, Nat.le_of_ble_eq_true rfl, ⟨_, Or.inl ⟨Nat.le_of_ble_eq_true rfl, rfl⟩, rfl⟩, zw_1266, zw_50⟩) <|
  z_fc (zo_l (by decide +kernel) rfl rfl trivial) <|
  z_fc (zo_l (by decide +kernel) rfl rfl trivial) <|
  z_fc (zo_v (by decide +kernel) rfl ⟨rfl, zd_160, zw_1288, Nat.le_of_ble_eq_true rfl, ⟨_, Or.inl ⟨Nat.le_of_ble_eq_true rfl, rfl⟩, rfl⟩, zw_1286, zw_55⟩) <|
  z_fc (zo_r (by decide +kernel) rfl) <|
  z_fn)
  (z_fn)
theorem zk_181 (xs : List Int32) : z_okm (za_T xs) za_P za_M 181 := z_okm_of ⟨"LyndonBenchModel", "turnsToLeast", "()I"⟩ prog_9_method_36_code zc_181 _ rfl rfl rfl rfl
  (z_fc (zo_l (by decide +kernel) rfl rfl trivial) <|
  z_fc (zo_v (by decide +kernel) rfl ⟨rfl, zd_168, zw_1336, Nat.le_of_ble_eq_true rfl, ⟨_, Or.inl ⟨Nat.le_of_ble_eq_true rfl, rfl⟩, rfl⟩, zw_1334, zw_67⟩) <|
  z_fc (zo_l (by decide +kernel) rfl rfl trivial) <|
  z_fc (zo_l (by decide +kernel) rfl rfl trivial) <|
  z_fc (zo_l (by decide +kernel) rfl rfl trivial) <|
  z_fc (zo_v (by decide +kernel) rfl ⟨rfl, zd_179, zw_1312, Nat.le_of_ble_eq_true rfl, ⟨_, Or.inl ⟨Nat.le_of_ble_eq_true rfl, rfl⟩, rfl⟩, zw_1310, zw_61⟩) <|
  z_fc (zo_l (by decide +kernel) rfl rfl trivial) <|
  z_fc (zo_l (by decide +kernel) rfl rfl trivial) <|
  z_fc (zo_r (by decide +kernel) rfl) <|
  z_fn)
  (z_fn)
theorem zk_182_0 (xs : List Int32) {l : List zE} (h : ∀ q ∈ l, z_oke' (za_T xs) za_P za_M ⟨"LyndonBenchModel", "nexts", "(I)V"⟩ prog_9_method_37_code q) : ∀ q ∈ zc_182_0 ++ l, z_oke' (za_T xs) za_P za_M ⟨"LyndonBenchModel", "nexts", "(I)V"⟩ prog_9_method_37_code q :=
  z_fc (zo_l (by decide +kernel) rfl rfl trivial) <|
  z_fc (zo_l (by decide +kernel) rfl rfl trivial) <|
  z_fc (zo_h (by decide +kernel) rfl ⟨rfl, Nat.le_of_ble_eq_true rfl, _, _, _, rfl, Nat.le_of_ble_eq_true rfl, zw_1448, Or.inl rfl⟩) <|
  z_fc (zo_l (by decide +kernel) rfl rfl trivial) <|
  z_fc (zo_l (by decide +kernel) rfl rfl trivial) <|
  z_fc (zo_l (by decide +kernel) rfl rfl trivial) <|
  z_fc (zo_l (by decide +kernel) rfl rfl trivial) <|
  z_fc (zo_l (by decide +kernel) rfl rfl (by show ((9 : Nat) : Int) + (30) = ((39 : Nat) : Int); decide)) <|
  z_fc (zo_l (by decide +kernel) rfl rfl trivial) <|
  z_fc (zo_h (by decide +kernel) rfl ⟨rfl, Nat.le_of_ble_eq_true rfl, _, _, _, Or.inl ⟨Nat.le_of_ble_eq_true rfl, rfl⟩, Nat.le_of_ble_eq_true rfl, zw_1442⟩) <|
  z_fc (zo_l (by decide +kernel) rfl rfl trivial) <|
  z_fc (zo_l (by decide +kernel) rfl rfl trivial) <|
  z_fc (zo_h (by decide +kernel) rfl ⟨rfl, Nat.le_of_ble_eq_true rfl, _, _, _, Or.inl ⟨Nat.le_of_ble_eq_true rfl, rfl⟩, Nat.le_of_ble_eq_true rfl, zw_1434⟩) <|
  z_fc (zo_l (by decide +kernel) rfl rfl trivial) <|
  z_fc (zo_l (by decide +kernel) rfl rfl trivial) <|
  z_fc (zo_l (by decide +kernel) rfl rfl trivial) <|
  z_fc (zo_h (by decide +kernel) rfl ⟨rfl, Nat.le_of_ble_eq_true rfl, _, _, _, Or.inl ⟨Nat.le_of_ble_eq_true rfl, rfl⟩, Nat.le_of_ble_eq_true rfl, zw_1434⟩) <|
  z_fc (zo_l (by decide +kernel) rfl rfl trivial) <|
  z_fc (zo_h (by decide +kernel) rfl rfl) <|
  z_fc (zo_l (by decide +kernel) rfl rfl trivial) <|
  z_fc (zo_l (by decide +kernel) rfl rfl trivial) <|
  z_fc (zo_h (by decide +kernel) rfl rfl) <|
  z_fc (zo_h (by decide +kernel) rfl rfl) <|
  z_fc (zo_l (by decide +kernel) rfl rfl trivial) <|
  z_fc (zo_l (by decide +kernel) rfl rfl (by show ((36 : Nat) : Int) + (-29) = ((7 : Nat) : Int); decide)) <|
  z_fc (zo_l (by decide +kernel) rfl rfl trivial) <|
  z_fc (zo_h (by decide +kernel) rfl ⟨rfl, Nat.le_of_ble_eq_true rfl, _, _, _, Or.inl ⟨Nat.le_of_ble_eq_true rfl, rfl⟩, Nat.le_of_ble_eq_true rfl, zw_1448⟩) <|
  z_fc (zo_l (by decide +kernel) rfl rfl (by show ((43 : Nat) : Int) + (38) = ((81 : Nat) : Int); decide)) <|
  z_fc (zo_l (by decide +kernel) rfl rfl trivial) <|
  z_fc (zo_h (by decide +kernel) rfl ⟨rfl, Nat.le_of_ble_eq_true rfl, _, _, _, Or.inl ⟨Nat.le_of_ble_eq_true rfl, rfl⟩, Nat.le_of_ble_eq_true rfl, zw_1442⟩) <|
  z_fc (zo_l (by decide +kernel) rfl rfl trivial) <|
  z_fc (zo_h (by decide +kernel) rfl ⟨rfl, Nat.le_of_ble_eq_true rfl, _, _, _, Or.inl ⟨Nat.le_of_ble_eq_true rfl, rfl⟩, Nat.le_of_ble_eq_true rfl, zw_1448⟩) <|
  z_fc (zo_l (by decide +kernel) rfl rfl trivial) <|
  z_fc (zo_l (by decide +kernel) rfl rfl trivial) <|
  z_fc (zo_h (by decide +kernel) rfl rfl) <|
  z_fc (zo_l (by decide +kernel) rfl rfl trivial) <|
  z_fc (zo_h (by decide +kernel) rfl ⟨rfl, Nat.le_of_ble_eq_true rfl, _, _, _, Or.inl ⟨Nat.le_of_ble_eq_true rfl, rfl⟩, Nat.le_of_ble_eq_true rfl, zw_1434⟩) <|
  z_fc (zo_l (by decide +kernel) rfl rfl trivial) <|
  z_fc (zo_h (by decide +kernel) rfl rfl) <|
  z_fc (zo_l (by decide +kernel) rfl rfl trivial) <|
  h
theorem zk_182_1 (xs : List Int32) {l : List zE} (h : ∀ q ∈ l, z_oke' (za_T xs) za_P za_M ⟨"LyndonBenchModel", "nexts", "(I)V"⟩ prog_9_method_37_code q) : ∀ q ∈ zc_182_1 ++ l, z_oke' (za_T xs) za_P za_M ⟨"LyndonBenchModel", "nexts", "(I)V"⟩ prog_9_method_37_code q :=
  z_fc (zo_l (by decide +kernel) rfl rfl trivial) <|
  z_fc (zo_l (by decide +kernel) rfl rfl (by show ((65 : Nat) : Int) + (16) = ((81 : Nat) : Int); decide)) <|
  z_fc (zo_l (by decide +kernel) rfl rfl trivial) <|
  z_fc (zo_l (by decide +kernel) rfl rfl trivial) <|
  z_fc (zo_h (by decide +kernel) rfl ⟨rfl, Nat.le_of_ble_eq_true rfl, _, _, _, Or.inl ⟨Nat.le_of_ble_eq_true rfl, rfl⟩, Nat.le_of_ble_eq_true rfl, zw_1448⟩) <|
  z_fc (zo_l (by decide +kernel) rfl rfl trivial) <|
  z_fc (zo_l (by decide +kernel) rfl rfl trivial) <|
  z_fc (zo_h (by decide +kernel) rfl ⟨rfl, Nat.le_of_ble_eq_true rfl, _, _, _, rfl, Nat.le_of_ble_eq_true rfl, zw_1448, Or.inl rfl⟩) <|
  z_fc (zo_l (by decide +kernel) rfl rfl (by show ((78 : Nat) : Int) + (-39) = ((39 : Nat) : Int); decide)) <|
  z_fc (zo_l (by decide +kernel) rfl rfl trivial) <|
  z_fc (zo_h (by decide +kernel) rfl ⟨rfl, Nat.le_of_ble_eq_true rfl, _, _, _, Or.inl ⟨Nat.le_of_ble_eq_true rfl, rfl⟩, Nat.le_of_ble_eq_true rfl, zw_1448⟩) <|
  z_fc (zo_l (by decide +kernel) rfl rfl (by show ((85 : Nat) : Int) + (18) = ((103 : Nat) : Int); decide)) <|
  z_fc (zo_l (by decide +kernel) rfl rfl trivial) <|
  z_fc (zo_h (by decide +kernel) rfl ⟨rfl, Nat.le_of_ble_eq_true rfl, _, _, _, Or.inl ⟨Nat.le_of_ble_eq_true rfl, rfl⟩, Nat.le_of_ble_eq_true rfl, zw_1442⟩) <|
  z_fc (zo_l (by decide +kernel) rfl rfl trivial) <|
  z_fc (zo_h (by decide +kernel) rfl ⟨rfl, Nat.le_of_ble_eq_true rfl, _, _, _, Or.inl ⟨Nat.le_of_ble_eq_true rfl, rfl⟩, Nat.le_of_ble_eq_true rfl, zw_1448⟩) <|
  z_fc (zo_l (by decide +kernel) rfl rfl trivial) <|
  z_fc (zo_l (by decide +kernel) rfl rfl trivial) <|
  z_fc (zo_l (by decide +kernel) rfl rfl trivial) <|
  z_fc (zo_h (by decide +kernel) rfl rfl) <|
  z_fc (zo_l (by decide +kernel) rfl rfl trivial) <|
  z_fc (zo_l (by decide +kernel) rfl rfl trivial) <|
  z_fc (zo_h (by decide +kernel) rfl rfl) <|
  z_fc (zo_e (by decide +kernel)) <|
  h
theorem zk_182 (xs : List Int32) : z_okm (za_T xs) za_P za_M 182 := z_okm_of ⟨"LyndonBenchModel", "nexts", "(I)V"⟩ prog_9_method_37_code zc_182 _ rfl rfl rfl rfl
  (zk_182_0 xs <|
  zk_182_1 xs <|
  z_fn)
  (z_fn)
