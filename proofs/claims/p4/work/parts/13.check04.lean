/-! The check of the tables, methods 228 to 297. -/
theorem zk_228 (xs : List Int32) : z_okm (za_T xs) za_P za_M 228 := z_okm_of ⟨"LyndonBenchModel", "setLetters", "(I)I"⟩ prog_9_method_83_code zc_228 _ rfl rfl rfl rfl
  (z_fc (zo_l (by decide +kernel) rfl rfl trivial) <|
  z_fc (zo_l (by decide +kernel) rfl rfl trivial) <|
  z_fc (zo_l (by decide +kernel) rfl rfl trivial) <|
  z_fc (zo_s (by decide +kernel) rfl ⟨zd_148, zw_1215, zw_1216⟩) <|
  z_fc (zo_l (by decide +kernel) rfl rfl (by show ((7 : Nat) : Int) + (7) = ((14 : Nat) : Int); decide)) <|
  z_fc (zo_l (by decide +kernel) rfl rfl trivial) <|
  z_fc (zo_l (by decide +kernel) rfl rfl (by show ((11 : Nat) : Int) + (4) = ((15 : Nat) : Int); decide)) <|
  z_fc (zo_l (by decide +kernel) rfl rfl trivial) <|
  z_fc (zo_l (by decide +kernel) rfl rfl trivial) <|
  z_fc (zo_l (by decide +kernel) rfl rfl trivial) <|
  z_fc (zo_l (by decide +kernel) rfl rfl trivial) <|
  z_fc (zo_l (by decide +kernel) rfl rfl trivial) <|
  z_fc (zo_l (by decide +kernel) rfl rfl (by show ((19 : Nat) : Int) + (15) = ((34 : Nat) : Int); decide)) <|
  z_fc (zo_l (by decide +kernel) rfl rfl trivial) <|
  z_fc (zo_l (by decide +kernel) rfl rfl trivial) <|
  z_fc (zo_v (by decide +kernel) rfl ⟨rfl, zd_194, zw_1542, Nat.le_of_ble_eq_true rfl, ⟨_, Or.inl ⟨Nat.le_of_ble_eq_true rfl, rfl⟩, rfl⟩, zw_1540, zw_96⟩) <|
  z_fc (zo_l (by decide +kernel) rfl rfl (by show ((27 : Nat) : Int) + (7) = ((34 : Nat) : Int); decide)) <|
  z_fc (zo_l (by decide +kernel) rfl rfl trivial) <|
  z_fc (zo_l (by decide +kernel) rfl rfl (by show ((31 : Nat) : Int) + (4) = ((35 : Nat) : Int); decide)) <|
  z_fc (zo_l (by decide +kernel) rfl rfl trivial) <|
  z_fc (zo_v (by decide +kernel) rfl ⟨rfl, zd_150, zw_1547, Nat.le_of_ble_eq_true rfl, ⟨_, Or.inl ⟨Nat.le_of_ble_eq_true rfl, rfl⟩, rfl⟩, zw_1545, zw_97⟩) <|
  z_fc (zo_l (by decide +kernel) rfl rfl (by show ((38 : Nat) : Int) + (5) = ((43 : Nat) : Int); decide)) <|
  z_fc (zo_l (by decide +kernel) rfl rfl trivial) <|
  z_fc (zo_r (by decide +kernel) rfl) <|
  z_fc (zo_l (by decide +kernel) rfl rfl trivial) <|
  z_fc (zo_v (by decide +kernel) rfl ⟨rfl, zd_225, zw_1530, Nat.le_of_ble_eq_true rfl, ⟨_, Or.inl ⟨Nat.le_of_ble_eq_true rfl, rfl⟩, rfl⟩, zw_1528, zw_94⟩) <|
  z_fc (zo_l (by decide +kernel) rfl rfl trivial) <|
  z_fc (zo_h (by decide +kernel) rfl ⟨rfl, Nat.le_of_ble_eq_true rfl, _, _, _, Or.inl ⟨Nat.le_of_ble_eq_true rfl, rfl⟩, Nat.le_of_ble_eq_true rfl, zw_1434⟩) <|
  z_fc (zo_l (by decide +kernel) rfl rfl trivial) <|
  z_fc (zo_h (by decide +kernel) rfl rfl) <|
  z_fc (zo_l (by decide +kernel) rfl rfl trivial) <|
  z_fc (zo_l (by decide +kernel) rfl rfl trivial) <|
  z_fc (zo_h (by decide +kernel) rfl ⟨rfl, Nat.le_of_ble_eq_true rfl, _, _, _, Or.inl ⟨Nat.le_of_ble_eq_true rfl, rfl⟩, Nat.le_of_ble_eq_true rfl, zw_1434⟩) <|
  z_fc (zo_l (by decide +kernel) rfl rfl trivial) <|
  z_fc (zo_l (by decide +kernel) rfl rfl trivial) <|
  z_fc (zo_h (by decide +kernel) rfl rfl) <|
  z_fc (zo_l (by decide +kernel) rfl rfl trivial) <|
  z_fc (zo_l (by decide +kernel) rfl rfl trivial) <|
  z_fc (zo_v (by decide +kernel) rfl ⟨rfl, zd_226, zw_1534, Nat.le_of_ble_eq_true rfl, ⟨_, Or.inl ⟨Nat.le_of_ble_eq_true rfl, rfl⟩, rfl⟩, zw_1532, zw_95⟩) <|
  z_fc (zo_r (by decide +kernel) rfl) <|
  z_fn)
  (z_fn)
theorem zk_229_0 (xs : List Int32) {l : List zE} (h : ∀ q ∈ l, z_oke' (za_T xs) za_P za_M ⟨"LyndonBenchModel", "readText", "()I"⟩ prog_9_method_84_code q) : ∀ q ∈ zc_229_0 ++ l, z_oke' (za_T xs) za_P za_M ⟨"LyndonBenchModel", "readText", "()I"⟩ prog_9_method_84_code q :=
  z_fc (zo_l (by decide +kernel) rfl rfl trivial) <|
  z_fc (zo_l (by decide +kernel) rfl rfl trivial) <|
  z_fc (zo_l (by decide +kernel) rfl rfl trivial) <|
  z_fc (zo_l (by decide +kernel) rfl rfl trivial) <|
  z_fc (zo_h (by decide +kernel) rfl ⟨rfl, Nat.le_of_ble_eq_true rfl, _, _, _, Or.inl ⟨Nat.le_of_ble_eq_true rfl, rfl⟩, Nat.le_of_ble_eq_true rfl, zw_1444⟩) <|
  z_fc (zo_l (by decide +kernel) rfl rfl (by show ((7 : Nat) : Int) + (22) = ((29 : Nat) : Int); decide)) <|
  z_fc (zo_l (by decide +kernel) rfl rfl trivial) <|
  z_fc (zo_l (by decide +kernel) rfl rfl trivial) <|
  z_fc (zo_h (by decide +kernel) rfl ⟨rfl, Nat.le_of_ble_eq_true rfl, _, _, _, Or.inl ⟨Nat.le_of_ble_eq_true rfl, rfl⟩, Nat.le_of_ble_eq_true rfl, zw_1440⟩) <|
  z_fc (zo_l (by decide +kernel) rfl rfl trivial) <|
  z_fc (zo_h (by decide +kernel) rfl rfl) <|
  z_fc (zo_v (by decide +kernel) rfl ⟨rfl, zd_151, zw_1260, Nat.le_of_ble_eq_true rfl, ⟨_, Or.inl ⟨Nat.le_of_ble_eq_true rfl, rfl⟩, rfl⟩, zw_1258, zw_48⟩) <|
  z_fc (zo_l (by decide +kernel) rfl rfl (by show ((20 : Nat) : Int) + (9) = ((29 : Nat) : Int); decide)) <|
  z_fc (zo_l (by decide +kernel) rfl rfl trivial) <|
  z_fc (zo_l (by decide +kernel) rfl rfl (by show ((26 : Nat) : Int) + (-24) = ((2 : Nat) : Int); decide)) <|
  z_fc (zo_l (by decide +kernel) rfl rfl trivial) <|
  z_fc (zo_l (by decide +kernel) rfl rfl trivial) <|
  z_fc (zo_l (by decide +kernel) rfl rfl trivial) <|
  z_fc (zo_l (by decide +kernel) rfl rfl (by show ((33 : Nat) : Int) + (7) = ((40 : Nat) : Int); decide)) <|
  z_fc (zo_l (by decide +kernel) rfl rfl trivial) <|
  z_fc (zo_l (by decide +kernel) rfl rfl (by show ((37 : Nat) : Int) + (4) = ((41 : Nat) : Int); decide)) <|
  z_fc (zo_l (by decide +kernel) rfl rfl trivial) <|
  z_fc (zo_v (by decide +kernel) rfl ⟨rfl, zd_149, zw_1522, Nat.le_of_ble_eq_true rfl, ⟨_, Or.inl ⟨Nat.le_of_ble_eq_true rfl, rfl⟩, rfl⟩, zw_1520, zw_93⟩) <|
  z_fc (zo_l (by decide +kernel) rfl rfl (by show ((44 : Nat) : Int) + (5) = ((49 : Nat) : Int); decide)) <|
  z_fc (zo_l (by decide +kernel) rfl rfl trivial) <|
  z_fc (zo_r (by decide +kernel) rfl) <|
  z_fc (zo_l (by decide +kernel) rfl rfl trivial) <|
  z_fc (zo_v (by decide +kernel) rfl ⟨rfl, zd_225, zw_1530, Nat.le_of_ble_eq_true rfl, ⟨_, Or.inl ⟨Nat.le_of_ble_eq_true rfl, rfl⟩, rfl⟩, zw_1528, zw_94⟩) <|
  z_fc (zo_l (by decide +kernel) rfl rfl trivial) <|
  z_fc (zo_l (by decide +kernel) rfl rfl trivial) <|
  z_fc (zo_h (by decide +kernel) rfl ⟨rfl, Nat.le_of_ble_eq_true rfl, _, _, _, rfl, Nat.le_of_ble_eq_true rfl, zw_1448, Or.inl rfl⟩) <|
  z_fc (zo_l (by decide +kernel) rfl rfl trivial) <|
  z_fc (zo_l (by decide +kernel) rfl rfl trivial) <|
  z_fc (zo_l (by decide +kernel) rfl rfl trivial) <|
  z_fc (zo_l (by decide +kernel) rfl rfl trivial) <|
  z_fc (zo_l (by decide +kernel) rfl rfl (by show ((62 : Nat) : Int) + (22) = ((84 : Nat) : Int); decide)) <|
  z_fc (zo_l (by decide +kernel) rfl rfl trivial) <|
  z_fc (zo_l (by decide +kernel) rfl rfl trivial) <|
  z_fc (zo_h (by decide +kernel) rfl ⟨rfl, Nat.le_of_ble_eq_true rfl, _, _, _, Or.inl ⟨Nat.le_of_ble_eq_true rfl, rfl⟩, Nat.le_of_ble_eq_true rfl, zw_1440⟩) <|
  z_fc (zo_l (by decide +kernel) rfl rfl trivial) <|
  h
theorem zk_229_1 (xs : List Int32) {l : List zE} (h : ∀ q ∈ l, z_oke' (za_T xs) za_P za_M ⟨"LyndonBenchModel", "readText", "()I"⟩ prog_9_method_84_code q) : ∀ q ∈ zc_229_1 ++ l, z_oke' (za_T xs) za_P za_M ⟨"LyndonBenchModel", "readText", "()I"⟩ prog_9_method_84_code q :=
  z_fc (zo_h (by decide +kernel) rfl rfl) <|
  z_fc (zo_l (by decide +kernel) rfl rfl trivial) <|
  z_fc (zo_l (by decide +kernel) rfl rfl trivial) <|
  z_fc (zo_v (by decide +kernel) rfl ⟨rfl, zd_156, zw_1432, Nat.le_of_ble_eq_true rfl, ⟨_, Or.inl ⟨Nat.le_of_ble_eq_true rfl, rfl⟩, rfl⟩, zw_1430, zw_91⟩) <|
  z_fc (zo_l (by decide +kernel) rfl rfl trivial) <|
  z_fc (zo_l (by decide +kernel) rfl rfl (by show ((81 : Nat) : Int) + (-21) = ((60 : Nat) : Int); decide)) <|
  z_fc (zo_l (by decide +kernel) rfl rfl trivial) <|
  z_fc (zo_l (by decide +kernel) rfl rfl trivial) <|
  z_fc (zo_h (by decide +kernel) rfl ⟨rfl, Nat.le_of_ble_eq_true rfl, _, _, _, rfl, Nat.le_of_ble_eq_true rfl, zw_1444, Or.inl rfl⟩) <|
  z_fc (zo_l (by decide +kernel) rfl rfl trivial) <|
  z_fc (zo_l (by decide +kernel) rfl rfl trivial) <|
  z_fc (zo_v (by decide +kernel) rfl ⟨rfl, zd_175, zw_1268, Nat.le_of_ble_eq_true rfl, ⟨_, Or.inl ⟨Nat.le_of_ble_eq_true rfl, rfl⟩, rfl⟩, zw_1266, zw_50⟩) <|
  z_fc (zo_v (by decide +kernel) rfl ⟨rfl, zd_226, zw_1534, Nat.le_of_ble_eq_true rfl, ⟨_, Or.inl ⟨Nat.le_of_ble_eq_true rfl, rfl⟩, rfl⟩, zw_1532, zw_95⟩) <|
  z_fc (zo_r (by decide +kernel) rfl) <|
  h
theorem zk_229 (xs : List Int32) : z_okm (za_T xs) za_P za_M 229 := z_okm_of ⟨"LyndonBenchModel", "readText", "()I"⟩ prog_9_method_84_code zc_229 _ rfl rfl rfl rfl
  (zk_229_0 xs <|
  zk_229_1 xs <|
  z_fn)
  (z_fn)
theorem zk_230 (xs : List Int32) : z_okm (za_T xs) za_P za_M 230 := z_okm_of ⟨"LyndonBenchModel", "appendLetter", "(I)I"⟩ prog_9_method_85_code zc_230 _ rfl rfl rfl rfl
  (z_fc (zo_l (by decide +kernel) rfl rfl trivial) <|
  z_fc (zo_l (by decide +kernel) rfl rfl trivial) <|
  z_fc (zo_l (by decide +kernel) rfl rfl trivial) <|
  z_fc (zo_v (by decide +kernel) rfl ⟨rfl, zd_151, zw_1260, Nat.le_of_ble_eq_true rfl, ⟨_, Or.inl ⟨Nat.le_of_ble_eq_true rfl, rfl⟩, rfl⟩, zw_1258, zw_48⟩) <|
  z_fc (zo_l (by decide +kernel) rfl rfl (by show ((6 : Nat) : Int) + (7) = ((13 : Nat) : Int); decide)) <|
  z_fc (zo_l (by decide +kernel) rfl rfl trivial) <|
  z_fc (zo_l (by decide +kernel) rfl rfl (by show ((10 : Nat) : Int) + (4) = ((14 : Nat) : Int); decide)) <|
  z_fc (zo_l (by decide +kernel) rfl rfl trivial) <|
  z_fc (zo_l (by decide +kernel) rfl rfl trivial) <|
  z_fc (zo_h (by decide +kernel) rfl ⟨rfl, Nat.le_of_ble_eq_true rfl, _, _, _, Or.inl ⟨Nat.le_of_ble_eq_true rfl, rfl⟩, Nat.le_of_ble_eq_true rfl, zw_1434⟩) <|
  z_fc (zo_l (by decide +kernel) rfl rfl trivial) <|
  z_fc (zo_h (by decide +kernel) rfl rfl) <|
  z_fc (zo_l (by decide +kernel) rfl rfl trivial) <|
  z_fc (zo_l (by decide +kernel) rfl rfl (by show ((22 : Nat) : Int) + (7) = ((29 : Nat) : Int); decide)) <|
  z_fc (zo_l (by decide +kernel) rfl rfl trivial) <|
  z_fc (zo_l (by decide +kernel) rfl rfl (by show ((26 : Nat) : Int) + (4) = ((30 : Nat) : Int); decide)) <|
  z_fc (zo_l (by decide +kernel) rfl rfl trivial) <|
  z_fc (zo_v (by decide +kernel) rfl ⟨rfl, zd_150, zw_1547, Nat.le_of_ble_eq_true rfl, ⟨_, Or.inl ⟨Nat.le_of_ble_eq_true rfl, rfl⟩, rfl⟩, zw_1545, zw_97⟩) <|
  z_fc (zo_l (by decide +kernel) rfl rfl (by show ((33 : Nat) : Int) + (5) = ((38 : Nat) : Int); decide)) <|
  z_fc (zo_l (by decide +kernel) rfl rfl trivial) <|
  z_fc (zo_r (by decide +kernel) rfl) <|
  z_fc (zo_l (by decide +kernel) rfl rfl trivial) <|
  z_fc (zo_v (by decide +kernel) rfl ⟨rfl, zd_225, zw_1530, Nat.le_of_ble_eq_true rfl, ⟨_, Or.inl ⟨Nat.le_of_ble_eq_true rfl, rfl⟩, rfl⟩, zw_1528, zw_94⟩) <|
  z_fc (zo_l (by decide +kernel) rfl rfl trivial) <|
  z_fc (zo_l (by decide +kernel) rfl rfl trivial) <|
  z_fc (zo_l (by decide +kernel) rfl rfl trivial) <|
  z_fc (zo_l (by decide +kernel) rfl rfl trivial) <|
  z_fc (zo_l (by decide +kernel) rfl rfl trivial) <|
  z_fc (zo_v (by decide +kernel) rfl ⟨rfl, zd_176, zw_1559, Nat.le_of_ble_eq_true rfl, ⟨_, Or.inl ⟨Nat.le_of_ble_eq_true rfl, rfl⟩, rfl⟩, zw_1557, zw_98⟩) <|
  z_fc (zo_v (by decide +kernel) rfl ⟨rfl, zd_226, zw_1534, Nat.le_of_ble_eq_true rfl, ⟨_, Or.inl ⟨Nat.le_of_ble_eq_true rfl, rfl⟩, rfl⟩, zw_1532, zw_95⟩) <|
  z_fc (zo_r (by decide +kernel) rfl) <|
  z_fn)
  (z_fn)
theorem zk_231 (xs : List Int32) : z_okm (za_T xs) za_P za_M 231 := z_okm_of ⟨"LyndonBenchModel", "dropLast", "(I)I"⟩ prog_9_method_86_code zc_231 _ rfl rfl rfl rfl
  (z_fc (zo_l (by decide +kernel) rfl rfl trivial) <|
  z_fc (zo_l (by decide +kernel) rfl rfl trivial) <|
  z_fc (zo_l (by decide +kernel) rfl rfl trivial) <|
  z_fc (zo_l (by decide +kernel) rfl rfl trivial) <|
  z_fc (zo_h (by decide +kernel) rfl ⟨rfl, Nat.le_of_ble_eq_true rfl, _, _, _, Or.inl ⟨Nat.le_of_ble_eq_true rfl, rfl⟩, Nat.le_of_ble_eq_true rfl, zw_1434⟩) <|
  z_fc (zo_l (by decide +kernel) rfl rfl trivial) <|
  z_fc (zo_h (by decide +kernel) rfl rfl) <|
  z_fc (zo_s (by decide +kernel) rfl ⟨zd_148, zw_1215, zw_1216⟩) <|
  z_fc (zo_l (by decide +kernel) rfl rfl (by show ((12 : Nat) : Int) + (7) = ((19 : Nat) : Int); decide)) <|
  z_fc (zo_l (by decide +kernel) rfl rfl trivial) <|
  z_fc (zo_l (by decide +kernel) rfl rfl (by show ((16 : Nat) : Int) + (4) = ((20 : Nat) : Int); decide)) <|
  z_fc (zo_l (by decide +kernel) rfl rfl trivial) <|
  z_fc (zo_v (by decide +kernel) rfl ⟨rfl, zd_149, zw_1522, Nat.le_of_ble_eq_true rfl, ⟨_, Or.inl ⟨Nat.le_of_ble_eq_true rfl, rfl⟩, rfl⟩, zw_1520, zw_93⟩) <|
  z_fc (zo_l (by decide +kernel) rfl rfl (by show ((23 : Nat) : Int) + (5) = ((28 : Nat) : Int); decide)) <|
  z_fc (zo_l (by decide +kernel) rfl rfl trivial) <|
  z_fc (zo_r (by decide +kernel) rfl) <|
  z_fc (zo_l (by decide +kernel) rfl rfl trivial) <|
  z_fc (zo_v (by decide +kernel) rfl ⟨rfl, zd_225, zw_1530, Nat.le_of_ble_eq_true rfl, ⟨_, Or.inl ⟨Nat.le_of_ble_eq_true rfl, rfl⟩, rfl⟩, zw_1528, zw_94⟩) <|
  z_fc (zo_l (by decide +kernel) rfl rfl trivial) <|
  z_fc (zo_l (by decide +kernel) rfl rfl trivial) <|
  z_fc (zo_l (by decide +kernel) rfl rfl trivial) <|
  z_fc (zo_v (by decide +kernel) rfl ⟨rfl, zd_177, zw_1284, Nat.le_of_ble_eq_true rfl, ⟨_, Or.inl ⟨Nat.le_of_ble_eq_true rfl, rfl⟩, rfl⟩, zw_1282, zw_54⟩) <|
  z_fc (zo_v (by decide +kernel) rfl ⟨rfl, zd_226, zw_1534, Nat.le_of_ble_eq_true rfl, ⟨_, Or.inl ⟨Nat.le_of_ble_eq_true rfl, rfl⟩, rfl⟩, zw_1532, zw_95⟩) <|
  z_fc (zo_r (by decide +kernel) rfl) <|
  z_fn)
  (z_fn)
theorem zk_232 (xs : List Int32) : z_okm (za_T xs) za_P za_M 232 := z_okm_of ⟨"LyndonBenchModel", "cutPart", "(II)I"⟩ prog_9_method_87_code zc_232 _ rfl rfl rfl rfl
  (z_fc (zo_l (by decide +kernel) rfl rfl trivial) <|
  z_fc (zo_l (by decide +kernel) rfl rfl trivial) <|
  z_fc (zo_l (by decide +kernel) rfl rfl (by show ((2 : Nat) : Int) + (18) = ((20 : Nat) : Int); decide)) <|
  z_fc (zo_l (by decide +kernel) rfl rfl trivial) <|
  z_fc (zo_l (by decide +kernel) rfl rfl trivial) <|
  z_fc (zo_l (by decide +kernel) rfl rfl (by show ((7 : Nat) : Int) + (13) = ((20 : Nat) : Int); decide)) <|
  z_fc (zo_l (by decide +kernel) rfl rfl trivial) <|
  z_fc (zo_l (by decide +kernel) rfl rfl trivial) <|
  z_fc (zo_h (by decide +kernel) rfl ⟨rfl, Nat.le_of_ble_eq_true rfl, _, _, _, Or.inl ⟨Nat.le_of_ble_eq_true rfl, rfl⟩, Nat.le_of_ble_eq_true rfl, zw_1434⟩) <|
  z_fc (zo_l (by decide +kernel) rfl rfl trivial) <|
  z_fc (zo_h (by decide +kernel) rfl rfl) <|
  z_fc (zo_l (by decide +kernel) rfl rfl (by show ((17 : Nat) : Int) + (7) = ((24 : Nat) : Int); decide)) <|
  z_fc (zo_l (by decide +kernel) rfl rfl trivial) <|
  z_fc (zo_l (by decide +kernel) rfl rfl (by show ((21 : Nat) : Int) + (4) = ((25 : Nat) : Int); decide)) <|
  z_fc (zo_l (by decide +kernel) rfl rfl trivial) <|
  z_fc (zo_v (by decide +kernel) rfl ⟨rfl, zd_149, zw_1522, Nat.le_of_ble_eq_true rfl, ⟨_, Or.inl ⟨Nat.le_of_ble_eq_true rfl, rfl⟩, rfl⟩, zw_1520, zw_93⟩) <|
  z_fc (zo_l (by decide +kernel) rfl rfl (by show ((28 : Nat) : Int) + (5) = ((33 : Nat) : Int); decide)) <|
  z_fc (zo_l (by decide +kernel) rfl rfl trivial) <|
  z_fc (zo_r (by decide +kernel) rfl) <|
  z_fc (zo_l (by decide +kernel) rfl rfl trivial) <|
  z_fc (zo_v (by decide +kernel) rfl ⟨rfl, zd_225, zw_1530, Nat.le_of_ble_eq_true rfl, ⟨_, Or.inl ⟨Nat.le_of_ble_eq_true rfl, rfl⟩, rfl⟩, zw_1528, zw_94⟩) <|
  z_fc (zo_l (by decide +kernel) rfl rfl trivial) <|
  z_fc (zo_l (by decide +kernel) rfl rfl trivial) <|
  z_fc (zo_l (by decide +kernel) rfl rfl trivial) <|
  z_fc (zo_l (by decide +kernel) rfl rfl trivial) <|
  z_fc (zo_v (by decide +kernel) rfl ⟨rfl, zd_178, zw_1304, Nat.le_of_ble_eq_true rfl, ⟨_, Or.inl ⟨Nat.le_of_ble_eq_true rfl, rfl⟩, rfl⟩, zw_1302, zw_59⟩) <|
  z_fc (zo_v (by decide +kernel) rfl ⟨rfl, zd_226, zw_1534, Nat.le_of_ble_eq_true rfl, ⟨_, Or.inl ⟨Nat.le_of_ble_eq_true rfl, rfl⟩, rfl⟩, zw_1532, zw_95⟩) <|
  z_fc (zo_r (by decide +kernel) rfl) <|
  z_fn)
  (z_fn)
theorem zk_233 (xs : List Int32) : z_okm (za_T xs) za_P za_M 233 := z_okm_of ⟨"LyndonBenchModel", "rotate", "(I)I"⟩ prog_9_method_88_code zc_233 _ rfl rfl rfl rfl
  (z_fc (zo_l (by decide +kernel) rfl rfl trivial) <|
  z_fc (zo_l (by decide +kernel) rfl rfl trivial) <|
  z_fc (zo_l (by decide +kernel) rfl rfl trivial) <|
  z_fc (zo_l (by decide +kernel) rfl rfl trivial) <|
  z_fc (zo_h (by decide +kernel) rfl ⟨rfl, Nat.le_of_ble_eq_true rfl, _, _, _, Or.inl ⟨Nat.le_of_ble_eq_true rfl, rfl⟩, Nat.le_of_ble_eq_true rfl, zw_1434⟩) <|
  z_fc (zo_l (by decide +kernel) rfl rfl trivial) <|
  z_fc (zo_h (by decide +kernel) rfl rfl) <|
  z_fc (zo_s (by decide +kernel) rfl ⟨zd_148, zw_1215, zw_1216⟩) <|
  z_fc (zo_l (by decide +kernel) rfl rfl (by show ((12 : Nat) : Int) + (7) = ((19 : Nat) : Int); decide)) <|
  z_fc (zo_l (by decide +kernel) rfl rfl trivial) <|
  z_fc (zo_l (by decide +kernel) rfl rfl (by show ((16 : Nat) : Int) + (4) = ((20 : Nat) : Int); decide)) <|
  z_fc (zo_l (by decide +kernel) rfl rfl trivial) <|
  z_fc (zo_v (by decide +kernel) rfl ⟨rfl, zd_149, zw_1522, Nat.le_of_ble_eq_true rfl, ⟨_, Or.inl ⟨Nat.le_of_ble_eq_true rfl, rfl⟩, rfl⟩, zw_1520, zw_93⟩) <|
  z_fc (zo_l (by decide +kernel) rfl rfl (by show ((23 : Nat) : Int) + (5) = ((28 : Nat) : Int); decide)) <|
  z_fc (zo_l (by decide +kernel) rfl rfl trivial) <|
  z_fc (zo_r (by decide +kernel) rfl) <|
  z_fc (zo_l (by decide +kernel) rfl rfl trivial) <|
  z_fc (zo_v (by decide +kernel) rfl ⟨rfl, zd_225, zw_1530, Nat.le_of_ble_eq_true rfl, ⟨_, Or.inl ⟨Nat.le_of_ble_eq_true rfl, rfl⟩, rfl⟩, zw_1528, zw_94⟩) <|
  z_fc (zo_l (by decide +kernel) rfl rfl trivial) <|
  z_fc (zo_l (by decide +kernel) rfl rfl trivial) <|
  z_fc (zo_l (by decide +kernel) rfl rfl trivial) <|
  z_fc (zo_v (by decide +kernel) rfl ⟨rfl, zd_179, zw_1312, Nat.le_of_ble_eq_true rfl, ⟨_, Or.inl ⟨Nat.le_of_ble_eq_true rfl, rfl⟩, rfl⟩, zw_1310, zw_61⟩) <|
  z_fc (zo_v (by decide +kernel) rfl ⟨rfl, zd_226, zw_1534, Nat.le_of_ble_eq_true rfl, ⟨_, Or.inl ⟨Nat.le_of_ble_eq_true rfl, rfl⟩, rfl⟩, zw_1532, zw_95⟩) <|
  z_fc (zo_r (by decide +kernel) rfl) <|
  z_fn)
  (z_fn)
theorem zk_234 (xs : List Int32) : z_okm (za_T xs) za_P za_M 234 := z_okm_of ⟨"LyndonBenchModel", "reverse", "()I"⟩ prog_9_method_89_code zc_234 _ rfl rfl rfl rfl
  (z_fc (zo_l (by decide +kernel) rfl rfl trivial) <|
  z_fc (zo_l (by decide +kernel) rfl rfl trivial) <|
  z_fc (zo_h (by decide +kernel) rfl ⟨rfl, Nat.le_of_ble_eq_true rfl, _, _, _, rfl, Nat.le_of_ble_eq_true rfl, zw_1451, Or.inl rfl⟩) <|
  z_fc (zo_l (by decide +kernel) rfl rfl trivial) <|
  z_fc (zo_v (by decide +kernel) rfl ⟨rfl, zd_225, zw_1530, Nat.le_of_ble_eq_true rfl, ⟨_, Or.inl ⟨Nat.le_of_ble_eq_true rfl, rfl⟩, rfl⟩, zw_1528, zw_94⟩) <|
  z_fc (zo_l (by decide +kernel) rfl rfl trivial) <|
  z_fc (zo_l (by decide +kernel) rfl rfl trivial) <|
  z_fc (zo_v (by decide +kernel) rfl ⟨rfl, zd_180, zw_1324, Nat.le_of_ble_eq_true rfl, ⟨_, Or.inl ⟨Nat.le_of_ble_eq_true rfl, rfl⟩, rfl⟩, zw_1322, zw_64⟩) <|
  z_fc (zo_v (by decide +kernel) rfl ⟨rfl, zd_226, zw_1534, Nat.le_of_ble_eq_true rfl, ⟨_, Or.inl ⟨Nat.le_of_ble_eq_true rfl, rfl⟩, rfl⟩, zw_1532, zw_95⟩) <|
  z_fc (zo_r (by decide +kernel) rfl) <|
  z_fn)
  (z_fn)
theorem zk_235 (xs : List Int32) : z_okm (za_T xs) za_P za_M 235 := z_okm_of ⟨"LyndonBenchModel", "rotateToLeast", "()I"⟩ prog_9_method_90_code zc_235 _ rfl rfl rfl rfl
  (z_fc (zo_l (by decide +kernel) rfl rfl trivial) <|
  z_fc (zo_l (by decide +kernel) rfl rfl trivial) <|
  z_fc (zo_h (by decide +kernel) rfl ⟨rfl, Nat.le_of_ble_eq_true rfl, _, _, _, Or.inl ⟨Nat.le_of_ble_eq_true rfl, rfl⟩, Nat.le_of_ble_eq_true rfl, zw_1434⟩) <|
  z_fc (zo_l (by decide +kernel) rfl rfl trivial) <|
  z_fc (zo_h (by decide +kernel) rfl rfl) <|
  z_fc (zo_l (by decide +kernel) rfl rfl (by show ((7 : Nat) : Int) + (7) = ((14 : Nat) : Int); decide)) <|
  z_fc (zo_l (by decide +kernel) rfl rfl trivial) <|
  z_fc (zo_l (by decide +kernel) rfl rfl (by show ((11 : Nat) : Int) + (4) = ((15 : Nat) : Int); decide)) <|
  z_fc (zo_l (by decide +kernel) rfl rfl trivial) <|
  z_fc (zo_v (by decide +kernel) rfl ⟨rfl, zd_149, zw_1522, Nat.le_of_ble_eq_true rfl, ⟨_, Or.inl ⟨Nat.le_of_ble_eq_true rfl, rfl⟩, rfl⟩, zw_1520, zw_93⟩) <|
  z_fc (zo_l (by decide +kernel) rfl rfl (by show ((18 : Nat) : Int) + (5) = ((23 : Nat) : Int); decide)) <|
  z_fc (zo_l (by decide +kernel) rfl rfl trivial) <|
  z_fc (zo_r (by decide +kernel) rfl) <|
  z_fc (zo_l (by decide +kernel) rfl rfl trivial) <|
  z_fc (zo_v (by decide +kernel) rfl ⟨rfl, zd_225, zw_1530, Nat.le_of_ble_eq_true rfl, ⟨_, Or.inl ⟨Nat.le_of_ble_eq_true rfl, rfl⟩, rfl⟩, zw_1528, zw_94⟩) <|
  z_fc (zo_l (by decide +kernel) rfl rfl trivial) <|
  z_fc (zo_l (by decide +kernel) rfl rfl trivial) <|
  z_fc (zo_v (by decide +kernel) rfl ⟨rfl, zd_181, zw_1332, Nat.le_of_ble_eq_true rfl, ⟨_, Or.inl ⟨Nat.le_of_ble_eq_true rfl, rfl⟩, rfl⟩, zw_1330, zw_66⟩) <|
  z_fc (zo_v (by decide +kernel) rfl ⟨rfl, zd_226, zw_1534, Nat.le_of_ble_eq_true rfl, ⟨_, Or.inl ⟨Nat.le_of_ble_eq_true rfl, rfl⟩, rfl⟩, zw_1532, zw_95⟩) <|
  z_fc (zo_r (by decide +kernel) rfl) <|
  z_fn)
  (z_fn)
theorem zk_236 (xs : List Int32) : z_okm (za_T xs) za_P za_M 236 := z_okm_of ⟨"LyndonBenchModel", "nextLyndon", "(I)I"⟩ prog_9_method_91_code zc_236 _ rfl rfl rfl rfl
  (z_fc (zo_l (by decide +kernel) rfl rfl trivial) <|
  z_fc (zo_l (by decide +kernel) rfl rfl trivial) <|
  z_fc (zo_l (by decide +kernel) rfl rfl trivial) <|
  z_fc (zo_s (by decide +kernel) rfl ⟨zd_148, zw_1215, zw_1216⟩) <|
  z_fc (zo_l (by decide +kernel) rfl rfl (by show ((7 : Nat) : Int) + (7) = ((14 : Nat) : Int); decide)) <|
  z_fc (zo_l (by decide +kernel) rfl rfl trivial) <|
  z_fc (zo_l (by decide +kernel) rfl rfl (by show ((11 : Nat) : Int) + (4) = ((15 : Nat) : Int); decide)) <|
  z_fc (zo_l (by decide +kernel) rfl rfl trivial) <|
  z_fc (zo_l (by decide +kernel) rfl rfl trivial) <|
  z_fc (zo_l (by decide +kernel) rfl rfl trivial) <|
  z_fc (zo_l (by decide +kernel) rfl rfl trivial) <|
  z_fc (zo_l (by decide +kernel) rfl rfl trivial) <|
  z_fc (zo_l (by decide +kernel) rfl rfl (by show ((19 : Nat) : Int) + (15) = ((34 : Nat) : Int); decide)) <|
  z_fc (zo_l (by decide +kernel) rfl rfl trivial) <|
  z_fc (zo_l (by decide +kernel) rfl rfl trivial) <|
  z_fc (zo_v (by decide +kernel) rfl ⟨rfl, zd_183, zw_1348, Nat.le_of_ble_eq_true rfl, ⟨_, Or.inl ⟨Nat.le_of_ble_eq_true rfl, rfl⟩, rfl⟩, zw_1346, zw_70⟩) <|
  z_fc (zo_l (by decide +kernel) rfl rfl (by show ((27 : Nat) : Int) + (7) = ((34 : Nat) : Int); decide)) <|
  z_fc (zo_l (by decide +kernel) rfl rfl trivial) <|
  z_fc (zo_l (by decide +kernel) rfl rfl (by show ((31 : Nat) : Int) + (4) = ((35 : Nat) : Int); decide)) <|
  z_fc (zo_l (by decide +kernel) rfl rfl trivial) <|
  z_fc (zo_v (by decide +kernel) rfl ⟨rfl, zd_150, zw_1547, Nat.le_of_ble_eq_true rfl, ⟨_, Or.inl ⟨Nat.le_of_ble_eq_true rfl, rfl⟩, rfl⟩, zw_1545, zw_97⟩) <|
  z_fc (zo_l (by decide +kernel) rfl rfl (by show ((38 : Nat) : Int) + (5) = ((43 : Nat) : Int); decide)) <|
  z_fc (zo_l (by decide +kernel) rfl rfl trivial) <|
  z_fc (zo_r (by decide +kernel) rfl) <|
  z_fc (zo_l (by decide +kernel) rfl rfl trivial) <|
  z_fc (zo_v (by decide +kernel) rfl ⟨rfl, zd_225, zw_1530, Nat.le_of_ble_eq_true rfl, ⟨_, Or.inl ⟨Nat.le_of_ble_eq_true rfl, rfl⟩, rfl⟩, zw_1528, zw_94⟩) <|
  z_fc (zo_l (by decide +kernel) rfl rfl trivial) <|
  z_fc (zo_l (by decide +kernel) rfl rfl trivial) <|
  z_fc (zo_l (by decide +kernel) rfl rfl trivial) <|
  z_fc (zo_v (by decide +kernel) rfl ⟨rfl, zd_184, zw_1372, Nat.le_of_ble_eq_true rfl, ⟨_, Or.inl ⟨Nat.le_of_ble_eq_true rfl, rfl⟩, rfl⟩, zw_1370, zw_76⟩) <|
  z_fc (zo_v (by decide +kernel) rfl ⟨rfl, zd_226, zw_1534, Nat.le_of_ble_eq_true rfl, ⟨_, Or.inl ⟨Nat.le_of_ble_eq_true rfl, rfl⟩, rfl⟩, zw_1532, zw_95⟩) <|
  z_fc (zo_r (by decide +kernel) rfl) <|
  z_fn)
  (z_fn)
theorem zk_237 (xs : List Int32) : z_okm (za_T xs) za_P za_M 237 := z_okm_of ⟨"LyndonBenchModel", "keepFactor", "(I)I"⟩ prog_9_method_92_code zc_237 _ rfl rfl rfl rfl
  (z_fc (zo_l (by decide +kernel) rfl rfl trivial) <|
  z_fc (zo_l (by decide +kernel) rfl rfl trivial) <|
  z_fc (zo_l (by decide +kernel) rfl rfl trivial) <|
  z_fc (zo_v (by decide +kernel) rfl ⟨rfl, zd_160, zw_1288, Nat.le_of_ble_eq_true rfl, ⟨_, Or.inl ⟨Nat.le_of_ble_eq_true rfl, rfl⟩, rfl⟩, zw_1286, zw_55⟩) <|
  z_fc (zo_l (by decide +kernel) rfl rfl trivial) <|
  z_fc (zo_l (by decide +kernel) rfl rfl trivial) <|
  z_fc (zo_s (by decide +kernel) rfl ⟨zd_148, zw_1215, zw_1216⟩) <|
  z_fc (zo_l (by decide +kernel) rfl rfl trivial) <|
  z_fc (zo_l (by decide +kernel) rfl rfl trivial) <|
  z_fc (zo_l (by decide +kernel) rfl rfl trivial) <|
  z_fc (zo_l (by decide +kernel) rfl rfl (by show ((14 : Nat) : Int) + (7) = ((21 : Nat) : Int); decide)) <|
  z_fc (zo_l (by decide +kernel) rfl rfl trivial) <|
  z_fc (zo_l (by decide +kernel) rfl rfl (by show ((18 : Nat) : Int) + (4) = ((22 : Nat) : Int); decide)) <|
  z_fc (zo_l (by decide +kernel) rfl rfl trivial) <|
  z_fc (zo_l (by decide +kernel) rfl rfl trivial) <|
  z_fc (zo_l (by decide +kernel) rfl rfl (by show ((23 : Nat) : Int) + (15) = ((38 : Nat) : Int); decide)) <|
  z_fc (zo_l (by decide +kernel) rfl rfl trivial) <|
  z_fc (zo_l (by decide +kernel) rfl rfl trivial) <|
  z_fc (zo_v (by decide +kernel) rfl ⟨rfl, zd_186, zw_1388, Nat.le_of_ble_eq_true rfl, ⟨_, Or.inl ⟨Nat.le_of_ble_eq_true rfl, rfl⟩, rfl⟩, zw_1386, zw_80⟩) <|
  z_fc (zo_l (by decide +kernel) rfl rfl (by show ((31 : Nat) : Int) + (7) = ((38 : Nat) : Int); decide)) <|
  z_fc (zo_l (by decide +kernel) rfl rfl trivial) <|
  z_fc (zo_l (by decide +kernel) rfl rfl (by show ((35 : Nat) : Int) + (4) = ((39 : Nat) : Int); decide)) <|
  z_fc (zo_l (by decide +kernel) rfl rfl trivial) <|
  z_fc (zo_v (by decide +kernel) rfl ⟨rfl, zd_150, zw_1547, Nat.le_of_ble_eq_true rfl, ⟨_, Or.inl ⟨Nat.le_of_ble_eq_true rfl, rfl⟩, rfl⟩, zw_1545, zw_97⟩) <|
  z_fc (zo_l (by decide +kernel) rfl rfl (by show ((42 : Nat) : Int) + (5) = ((47 : Nat) : Int); decide)) <|
  z_fc (zo_l (by decide +kernel) rfl rfl trivial) <|
  z_fc (zo_r (by decide +kernel) rfl) <|
  z_fc (zo_l (by decide +kernel) rfl rfl trivial) <|
  z_fc (zo_v (by decide +kernel) rfl ⟨rfl, zd_225, zw_1530, Nat.le_of_ble_eq_true rfl, ⟨_, Or.inl ⟨Nat.le_of_ble_eq_true rfl, rfl⟩, rfl⟩, zw_1528, zw_94⟩) <|
  z_fc (zo_l (by decide +kernel) rfl rfl trivial) <|
  z_fc (zo_l (by decide +kernel) rfl rfl trivial) <|
  z_fc (zo_l (by decide +kernel) rfl rfl trivial) <|
  z_fc (zo_v (by decide +kernel) rfl ⟨rfl, zd_188, zw_1392, Nat.le_of_ble_eq_true rfl, ⟨_, Or.inl ⟨Nat.le_of_ble_eq_true rfl, rfl⟩, rfl⟩, zw_1390, zw_81⟩) <|
  z_fc (zo_v (by decide +kernel) rfl ⟨rfl, zd_226, zw_1534, Nat.le_of_ble_eq_true rfl, ⟨_, Or.inl ⟨Nat.le_of_ble_eq_true rfl, rfl⟩, rfl⟩, zw_1532, zw_95⟩) <|
  z_fc (zo_r (by decide +kernel) rfl) <|
  z_fn)
  (z_fn)
theorem zk_238 (xs : List Int32) : z_okm (za_T xs) za_P za_M 238 := z_okm_of ⟨"LyndonBenchModel", "keepText", "()I"⟩ prog_9_method_93_code zc_238 _ rfl rfl rfl rfl
  (z_fc (zo_l (by decide +kernel) rfl rfl trivial) <|
  z_fc (zo_l (by decide +kernel) rfl rfl trivial) <|
  z_fc (zo_v (by decide +kernel) rfl ⟨rfl, zd_187, zw_1380, Nat.le_of_ble_eq_true rfl, ⟨_, Or.inl ⟨Nat.le_of_ble_eq_true rfl, rfl⟩, rfl⟩, zw_1378, zw_78⟩) <|
  z_fc (zo_l (by decide +kernel) rfl rfl (by show ((5 : Nat) : Int) + (7) = ((12 : Nat) : Int); decide)) <|
  z_fc (zo_l (by decide +kernel) rfl rfl trivial) <|
  z_fc (zo_l (by decide +kernel) rfl rfl (by show ((9 : Nat) : Int) + (4) = ((13 : Nat) : Int); decide)) <|
  z_fc (zo_l (by decide +kernel) rfl rfl trivial) <|
  z_fc (zo_v (by decide +kernel) rfl ⟨rfl, zd_149, zw_1522, Nat.le_of_ble_eq_true rfl, ⟨_, Or.inl ⟨Nat.le_of_ble_eq_true rfl, rfl⟩, rfl⟩, zw_1520, zw_93⟩) <|
  z_fc (zo_l (by decide +kernel) rfl rfl (by show ((16 : Nat) : Int) + (5) = ((21 : Nat) : Int); decide)) <|
  z_fc (zo_l (by decide +kernel) rfl rfl trivial) <|
  z_fc (zo_r (by decide +kernel) rfl) <|
  z_fc (zo_l (by decide +kernel) rfl rfl trivial) <|
  z_fc (zo_v (by decide +kernel) rfl ⟨rfl, zd_225, zw_1530, Nat.le_of_ble_eq_true rfl, ⟨_, Or.inl ⟨Nat.le_of_ble_eq_true rfl, rfl⟩, rfl⟩, zw_1528, zw_94⟩) <|
  z_fc (zo_l (by decide +kernel) rfl rfl trivial) <|
  z_fc (zo_l (by decide +kernel) rfl rfl trivial) <|
  z_fc (zo_l (by decide +kernel) rfl rfl trivial) <|
  z_fc (zo_l (by decide +kernel) rfl rfl trivial) <|
  z_fc (zo_h (by decide +kernel) rfl ⟨rfl, Nat.le_of_ble_eq_true rfl, _, _, _, Or.inl ⟨Nat.le_of_ble_eq_true rfl, rfl⟩, Nat.le_of_ble_eq_true rfl, zw_1434⟩) <|
  z_fc (zo_l (by decide +kernel) rfl rfl trivial) <|
  z_fc (zo_h (by decide +kernel) rfl rfl) <|
  z_fc (zo_v (by decide +kernel) rfl ⟨rfl, zd_185, zw_1384, Nat.le_of_ble_eq_true rfl, ⟨_, Or.inl ⟨Nat.le_of_ble_eq_true rfl, rfl⟩, rfl⟩, zw_1382, zw_79⟩) <|
  z_fc (zo_v (by decide +kernel) rfl ⟨rfl, zd_226, zw_1534, Nat.le_of_ble_eq_true rfl, ⟨_, Or.inl ⟨Nat.le_of_ble_eq_true rfl, rfl⟩, rfl⟩, zw_1532, zw_95⟩) <|
  z_fc (zo_r (by decide +kernel) rfl) <|
  z_fn)
  (z_fn)
theorem zk_239 (xs : List Int32) : z_okm (za_T xs) za_P za_M 239 := z_okm_of ⟨"LyndonBenchModel", "removeKept", "(I)I"⟩ prog_9_method_94_code zc_239 _ rfl rfl rfl rfl
  (z_fc (zo_l (by decide +kernel) rfl rfl trivial) <|
  z_fc (zo_l (by decide +kernel) rfl rfl trivial) <|
  z_fc (zo_l (by decide +kernel) rfl rfl trivial) <|
  z_fc (zo_v (by decide +kernel) rfl ⟨rfl, zd_152, zw_1599, Nat.le_of_ble_eq_true rfl, ⟨_, Or.inl ⟨Nat.le_of_ble_eq_true rfl, rfl⟩, rfl⟩, zw_1597, zw_99⟩) <|
  z_fc (zo_l (by decide +kernel) rfl rfl (by show ((6 : Nat) : Int) + (7) = ((13 : Nat) : Int); decide)) <|
  z_fc (zo_l (by decide +kernel) rfl rfl trivial) <|
  z_fc (zo_l (by decide +kernel) rfl rfl (by show ((10 : Nat) : Int) + (4) = ((14 : Nat) : Int); decide)) <|
  z_fc (zo_l (by decide +kernel) rfl rfl trivial) <|
  z_fc (zo_v (by decide +kernel) rfl ⟨rfl, zd_149, zw_1522, Nat.le_of_ble_eq_true rfl, ⟨_, Or.inl ⟨Nat.le_of_ble_eq_true rfl, rfl⟩, rfl⟩, zw_1520, zw_93⟩) <|
  z_fc (zo_l (by decide +kernel) rfl rfl (by show ((17 : Nat) : Int) + (5) = ((22 : Nat) : Int); decide)) <|
  z_fc (zo_l (by decide +kernel) rfl rfl trivial) <|
  z_fc (zo_r (by decide +kernel) rfl) <|
  z_fc (zo_l (by decide +kernel) rfl rfl trivial) <|
  z_fc (zo_v (by decide +kernel) rfl ⟨rfl, zd_225, zw_1530, Nat.le_of_ble_eq_true rfl, ⟨_, Or.inl ⟨Nat.le_of_ble_eq_true rfl, rfl⟩, rfl⟩, zw_1528, zw_94⟩) <|
  z_fc (zo_l (by decide +kernel) rfl rfl trivial) <|
  z_fc (zo_l (by decide +kernel) rfl rfl trivial) <|
  z_fc (zo_l (by decide +kernel) rfl rfl trivial) <|
  z_fc (zo_v (by decide +kernel) rfl ⟨rfl, zd_189, zw_1400, Nat.le_of_ble_eq_true rfl, ⟨_, Or.inl ⟨Nat.le_of_ble_eq_true rfl, rfl⟩, rfl⟩, zw_1398, zw_83⟩) <|
  z_fc (zo_v (by decide +kernel) rfl ⟨rfl, zd_226, zw_1534, Nat.le_of_ble_eq_true rfl, ⟨_, Or.inl ⟨Nat.le_of_ble_eq_true rfl, rfl⟩, rfl⟩, zw_1532, zw_95⟩) <|
  z_fc (zo_r (by decide +kernel) rfl) <|
  z_fn)
  (z_fn)
theorem zk_240 (xs : List Int32) : z_okm (za_T xs) za_P za_M 240 := z_okm_of ⟨"LyndonBenchModel", "joinKept", "()I"⟩ prog_9_method_95_code zc_240 _ rfl rfl rfl rfl
  (z_fc (zo_l (by decide +kernel) rfl rfl trivial) <|
  z_fc (zo_l (by decide +kernel) rfl rfl trivial) <|
  z_fc (zo_v (by decide +kernel) rfl ⟨rfl, zd_191, zw_1408, Nat.le_of_ble_eq_true rfl, ⟨_, Or.inl ⟨Nat.le_of_ble_eq_true rfl, rfl⟩, rfl⟩, zw_1406, zw_85⟩) <|
  z_fc (zo_l (by decide +kernel) rfl rfl (by show ((5 : Nat) : Int) + (7) = ((12 : Nat) : Int); decide)) <|
  z_fc (zo_l (by decide +kernel) rfl rfl trivial) <|
  z_fc (zo_l (by decide +kernel) rfl rfl (by show ((9 : Nat) : Int) + (4) = ((13 : Nat) : Int); decide)) <|
  z_fc (zo_l (by decide +kernel) rfl rfl trivial) <|
  z_fc (zo_v (by decide +kernel) rfl ⟨rfl, zd_149, zw_1522, Nat.le_of_ble_eq_true rfl, ⟨_, Or.inl ⟨Nat.le_of_ble_eq_true rfl, rfl⟩, rfl⟩, zw_1520, zw_93⟩) <|
  z_fc (zo_l (by decide +kernel) rfl rfl (by show ((16 : Nat) : Int) + (5) = ((21 : Nat) : Int); decide)) <|
  z_fc (zo_l (by decide +kernel) rfl rfl trivial) <|
  z_fc (zo_r (by decide +kernel) rfl) <|
  z_fc (zo_l (by decide +kernel) rfl rfl trivial) <|
  z_fc (zo_v (by decide +kernel) rfl ⟨rfl, zd_225, zw_1530, Nat.le_of_ble_eq_true rfl, ⟨_, Or.inl ⟨Nat.le_of_ble_eq_true rfl, rfl⟩, rfl⟩, zw_1528, zw_94⟩) <|
  z_fc (zo_l (by decide +kernel) rfl rfl trivial) <|
  z_fc (zo_l (by decide +kernel) rfl rfl trivial) <|
  z_fc (zo_v (by decide +kernel) rfl ⟨rfl, zd_193, zw_1416, Nat.le_of_ble_eq_true rfl, ⟨_, Or.inl ⟨Nat.le_of_ble_eq_true rfl, rfl⟩, rfl⟩, zw_1414, zw_87⟩) <|
  z_fc (zo_v (by decide +kernel) rfl ⟨rfl, zd_226, zw_1534, Nat.le_of_ble_eq_true rfl, ⟨_, Or.inl ⟨Nat.le_of_ble_eq_true rfl, rfl⟩, rfl⟩, zw_1532, zw_95⟩) <|
  z_fc (zo_r (by decide +kernel) rfl) <|
  z_fn)
  (z_fn)
theorem zk_241 (xs : List Int32) : z_okm (za_T xs) za_P za_M 241 := z_okm_of ⟨"LyndonBenchModel", "undo", "()I"⟩ prog_9_method_96_code zc_241 _ rfl rfl rfl rfl
  (z_fc (zo_l (by decide +kernel) rfl rfl trivial) <|
  z_fc (zo_l (by decide +kernel) rfl rfl trivial) <|
  z_fc (zo_h (by decide +kernel) rfl ⟨rfl, Nat.le_of_ble_eq_true rfl, _, _, _, rfl, Nat.le_of_ble_eq_true rfl, zw_1451, Or.inl rfl⟩) <|
  z_fc (zo_l (by decide +kernel) rfl rfl trivial) <|
  z_fc (zo_h (by decide +kernel) rfl ⟨rfl, Nat.le_of_ble_eq_true rfl, _, _, _, Or.inl ⟨Nat.le_of_ble_eq_true rfl, rfl⟩, Nat.le_of_ble_eq_true rfl, zw_1438⟩) <|
  z_fc (zo_l (by decide +kernel) rfl rfl (by show ((9 : Nat) : Int) + (5) = ((14 : Nat) : Int); decide)) <|
  z_fc (zo_l (by decide +kernel) rfl rfl trivial) <|
  z_fc (zo_r (by decide +kernel) rfl) <|
  z_fc (zo_l (by decide +kernel) rfl rfl trivial) <|
  z_fc (zo_l (by decide +kernel) rfl rfl trivial) <|
  z_fc (zo_h (by decide +kernel) rfl ⟨rfl, Nat.le_of_ble_eq_true rfl, _, _, _, Or.inl ⟨Nat.le_of_ble_eq_true rfl, rfl⟩, Nat.le_of_ble_eq_true rfl, zw_1438⟩) <|
  z_fc (zo_l (by decide +kernel) rfl rfl trivial) <|
  z_fc (zo_l (by decide +kernel) rfl rfl trivial) <|
  z_fc (zo_h (by decide +kernel) rfl ⟨rfl, Nat.le_of_ble_eq_true rfl, _, _, _, rfl, Nat.le_of_ble_eq_true rfl, zw_1438, Or.inl rfl⟩) <|
  z_fc (zo_l (by decide +kernel) rfl rfl trivial) <|
  z_fc (zo_l (by decide +kernel) rfl rfl trivial) <|
  z_fc (zo_l (by decide +kernel) rfl rfl trivial) <|
  z_fc (zo_l (by decide +kernel) rfl rfl trivial) <|
  z_fc (zo_l (by decide +kernel) rfl rfl (by show ((30 : Nat) : Int) + (30) = ((60 : Nat) : Int); decide)) <|
  z_fc (zo_l (by decide +kernel) rfl rfl trivial) <|
  z_fc (zo_h (by decide +kernel) rfl ⟨rfl, Nat.le_of_ble_eq_true rfl, _, _, _, Or.inl ⟨Nat.le_of_ble_eq_true rfl, rfl⟩, Nat.le_of_ble_eq_true rfl, zw_1434⟩) <|
  z_fc (zo_l (by decide +kernel) rfl rfl trivial) <|
  z_fc (zo_l (by decide +kernel) rfl rfl trivial) <|
  z_fc (zo_h (by decide +kernel) rfl ⟨rfl, Nat.le_of_ble_eq_true rfl, _, _, _, Or.inl ⟨Nat.le_of_ble_eq_true rfl, rfl⟩, Nat.le_of_ble_eq_true rfl, zw_1436⟩) <|
  z_fc (zo_l (by decide +kernel) rfl rfl trivial) <|
  z_fc (zo_l (by decide +kernel) rfl rfl trivial) <|
  z_fc (zo_h (by decide +kernel) rfl ⟨rfl, Nat.le_of_ble_eq_true rfl, _, _, _, Or.inl ⟨Nat.le_of_ble_eq_true rfl, rfl⟩, Nat.le_of_ble_eq_true rfl, zw_1438⟩) <|
  z_fc (zo_l (by decide +kernel) rfl rfl trivial) <|
  z_fc (zo_l (by decide +kernel) rfl rfl trivial) <|
  z_fc (zo_l (by decide +kernel) rfl rfl trivial) <|
  z_fc (zo_h (by decide +kernel) rfl rfl) <|
  z_fc (zo_h (by decide +kernel) rfl rfl) <|
  z_fc (zo_l (by decide +kernel) rfl rfl trivial) <|
  z_fc (zo_l (by decide +kernel) rfl rfl (by show ((57 : Nat) : Int) + (-31) = ((26 : Nat) : Int); decide)) <|
  z_fc (zo_l (by decide +kernel) rfl rfl trivial) <|
  z_fc (zo_h (by decide +kernel) rfl ⟨rfl, Nat.le_of_ble_eq_true rfl, _, _, _, Or.inl ⟨Nat.le_of_ble_eq_true rfl, rfl⟩, Nat.le_of_ble_eq_true rfl, zw_1438⟩) <|
  z_fc (zo_r (by decide +kernel) rfl) <|
  z_fn)
  (z_fn)
theorem zk_242 (xs : List Int32) : z_okm (za_T xs) za_P za_M 242 := z_okm_of ⟨"LyndonBenchModel", "undoCount", "()I"⟩ prog_9_method_97_code zc_242 _ rfl rfl rfl rfl
  (z_fc (zo_l (by decide +kernel) rfl rfl trivial) <|
  z_fc (zo_l (by decide +kernel) rfl rfl trivial) <|
  z_fc (zo_h (by decide +kernel) rfl ⟨rfl, Nat.le_of_ble_eq_true rfl, _, _, _, rfl, Nat.le_of_ble_eq_true rfl, zw_1451, Or.inl rfl⟩) <|
  z_fc (zo_l (by decide +kernel) rfl rfl trivial) <|
  z_fc (zo_h (by decide +kernel) rfl ⟨rfl, Nat.le_of_ble_eq_true rfl, _, _, _, Or.inl ⟨Nat.le_of_ble_eq_true rfl, rfl⟩, Nat.le_of_ble_eq_true rfl, zw_1438⟩) <|
  z_fc (zo_r (by decide +kernel) rfl) <|
  z_fn)
  (z_fn)
theorem zk_243 (xs : List Int32) : z_okm (za_T xs) za_P za_M 243 := z_okm_of ⟨"LyndonBenchModel", "saveSnapshot", "()I"⟩ prog_9_method_98_code zc_243 _ rfl rfl rfl rfl
  (z_fc (zo_l (by decide +kernel) rfl rfl trivial) <|
  z_fc (zo_l (by decide +kernel) rfl rfl trivial) <|
  z_fc (zo_h (by decide +kernel) rfl ⟨rfl, Nat.le_of_ble_eq_true rfl, _, _, _, rfl, Nat.le_of_ble_eq_true rfl, zw_1451, Or.inl rfl⟩) <|
  z_fc (zo_l (by decide +kernel) rfl rfl trivial) <|
  z_fc (zo_l (by decide +kernel) rfl rfl trivial) <|
  z_fc (zo_h (by decide +kernel) rfl ⟨rfl, Nat.le_of_ble_eq_true rfl, _, _, _, rfl, Nat.le_of_ble_eq_true rfl, zw_1439, Or.inl rfl⟩) <|
  z_fc (zo_l (by decide +kernel) rfl rfl trivial) <|
  z_fc (zo_l (by decide +kernel) rfl rfl trivial) <|
  z_fc (zo_l (by decide +kernel) rfl rfl trivial) <|
  z_fc (zo_l (by decide +kernel) rfl rfl trivial) <|
  z_fc (zo_l (by decide +kernel) rfl rfl (by show ((16 : Nat) : Int) + (21) = ((37 : Nat) : Int); decide)) <|
  z_fc (zo_l (by decide +kernel) rfl rfl trivial) <|
  z_fc (zo_h (by decide +kernel) rfl ⟨rfl, Nat.le_of_ble_eq_true rfl, _, _, _, Or.inl ⟨Nat.le_of_ble_eq_true rfl, rfl⟩, Nat.le_of_ble_eq_true rfl, zw_1437⟩) <|
  z_fc (zo_l (by decide +kernel) rfl rfl trivial) <|
  z_fc (zo_l (by decide +kernel) rfl rfl trivial) <|
  z_fc (zo_h (by decide +kernel) rfl ⟨rfl, Nat.le_of_ble_eq_true rfl, _, _, _, Or.inl ⟨Nat.le_of_ble_eq_true rfl, rfl⟩, Nat.le_of_ble_eq_true rfl, zw_1434⟩) <|
  z_fc (zo_l (by decide +kernel) rfl rfl trivial) <|
  z_fc (zo_h (by decide +kernel) rfl rfl) <|
  z_fc (zo_h (by decide +kernel) rfl rfl) <|
  z_fc (zo_l (by decide +kernel) rfl rfl trivial) <|
  z_fc (zo_l (by decide +kernel) rfl rfl (by show ((34 : Nat) : Int) + (-22) = ((12 : Nat) : Int); decide)) <|
  z_fc (zo_l (by decide +kernel) rfl rfl trivial) <|
  z_fc (zo_h (by decide +kernel) rfl ⟨rfl, Nat.le_of_ble_eq_true rfl, _, _, _, Or.inl ⟨Nat.le_of_ble_eq_true rfl, rfl⟩, Nat.le_of_ble_eq_true rfl, zw_1434⟩) <|
  z_fc (zo_l (by decide +kernel) rfl rfl trivial) <|
  z_fc (zo_h (by decide +kernel) rfl rfl) <|
  z_fc (zo_r (by decide +kernel) rfl) <|
  z_fn)
  (z_fn)
theorem zk_244 (xs : List Int32) : z_okm (za_T xs) za_P za_M 244 := z_okm_of ⟨"LyndonBenchModel", "restoreSnapshot", "()I"⟩ prog_9_method_99_code zc_244 _ rfl rfl rfl rfl
  (z_fc (zo_l (by decide +kernel) rfl rfl trivial) <|
  z_fc (zo_l (by decide +kernel) rfl rfl trivial) <|
  z_fc (zo_h (by decide +kernel) rfl ⟨rfl, Nat.le_of_ble_eq_true rfl, _, _, _, Or.inl ⟨Nat.le_of_ble_eq_true rfl, rfl⟩, Nat.le_of_ble_eq_true rfl, zw_1439⟩) <|
  z_fc (zo_l (by decide +kernel) rfl rfl (by show ((5 : Nat) : Int) + (7) = ((12 : Nat) : Int); decide)) <|
  z_fc (zo_l (by decide +kernel) rfl rfl trivial) <|
  z_fc (zo_l (by decide +kernel) rfl rfl (by show ((9 : Nat) : Int) + (4) = ((13 : Nat) : Int); decide)) <|
  z_fc (zo_l (by decide +kernel) rfl rfl trivial) <|
  z_fc (zo_v (by decide +kernel) rfl ⟨rfl, zd_149, zw_1522, Nat.le_of_ble_eq_true rfl, ⟨_, Or.inl ⟨Nat.le_of_ble_eq_true rfl, rfl⟩, rfl⟩, zw_1520, zw_93⟩) <|
  z_fc (zo_l (by decide +kernel) rfl rfl (by show ((16 : Nat) : Int) + (5) = ((21 : Nat) : Int); decide)) <|
  z_fc (zo_l (by decide +kernel) rfl rfl trivial) <|
  z_fc (zo_r (by decide +kernel) rfl) <|
  z_fc (zo_l (by decide +kernel) rfl rfl trivial) <|
  z_fc (zo_l (by decide +kernel) rfl rfl trivial) <|
  z_fc (zo_l (by decide +kernel) rfl rfl trivial) <|
  z_fc (zo_l (by decide +kernel) rfl rfl trivial) <|
  z_fc (zo_l (by decide +kernel) rfl rfl (by show ((27 : Nat) : Int) + (21) = ((48 : Nat) : Int); decide)) <|
  z_fc (zo_l (by decide +kernel) rfl rfl trivial) <|
  z_fc (zo_h (by decide +kernel) rfl ⟨rfl, Nat.le_of_ble_eq_true rfl, _, _, _, Or.inl ⟨Nat.le_of_ble_eq_true rfl, rfl⟩, Nat.le_of_ble_eq_true rfl, zw_1434⟩) <|
  z_fc (zo_l (by decide +kernel) rfl rfl trivial) <|
  z_fc (zo_l (by decide +kernel) rfl rfl trivial) <|
  z_fc (zo_h (by decide +kernel) rfl ⟨rfl, Nat.le_of_ble_eq_true rfl, _, _, _, Or.inl ⟨Nat.le_of_ble_eq_true rfl, rfl⟩, Nat.le_of_ble_eq_true rfl, zw_1437⟩) <|
  z_fc (zo_l (by decide +kernel) rfl rfl trivial) <|
  z_fc (zo_h (by decide +kernel) rfl rfl) <|
  z_fc (zo_h (by decide +kernel) rfl rfl) <|
  z_fc (zo_l (by decide +kernel) rfl rfl trivial) <|
  z_fc (zo_l (by decide +kernel) rfl rfl (by show ((45 : Nat) : Int) + (-22) = ((23 : Nat) : Int); decide)) <|
  z_fc (zo_l (by decide +kernel) rfl rfl trivial) <|
  z_fc (zo_l (by decide +kernel) rfl rfl trivial) <|
  z_fc (zo_h (by decide +kernel) rfl ⟨rfl, Nat.le_of_ble_eq_true rfl, _, _, _, rfl, Nat.le_of_ble_eq_true rfl, zw_1438, Or.inl rfl⟩) <|
  z_fc (zo_l (by decide +kernel) rfl rfl trivial) <|
  z_fc (zo_h (by decide +kernel) rfl ⟨rfl, Nat.le_of_ble_eq_true rfl, _, _, _, Or.inl ⟨Nat.le_of_ble_eq_true rfl, rfl⟩, Nat.le_of_ble_eq_true rfl, zw_1434⟩) <|
  z_fc (zo_l (by decide +kernel) rfl rfl trivial) <|
  z_fc (zo_h (by decide +kernel) rfl rfl) <|
  z_fc (zo_r (by decide +kernel) rfl) <|
  z_fn)
  (z_fn)
theorem zk_245 (xs : List Int32) : z_okm (za_T xs) za_P za_M 245 := z_okm_of ⟨"LyndonBenchModel", "scriptErrorKind", "()I"⟩ prog_9_method_100_code zc_245 _ rfl rfl rfl rfl
  (z_fc (zo_l (by decide +kernel) rfl rfl trivial) <|
  z_fc (zo_l (by decide +kernel) rfl rfl trivial) <|
  z_fc (zo_h (by decide +kernel) rfl ⟨rfl, Nat.le_of_ble_eq_true rfl, _, _, _, rfl, Nat.le_of_ble_eq_true rfl, zw_1451, Or.inl rfl⟩) <|
  z_fc (zo_l (by decide +kernel) rfl rfl trivial) <|
  z_fc (zo_h (by decide +kernel) rfl ⟨rfl, Nat.le_of_ble_eq_true rfl, _, _, _, Or.inl ⟨Nat.le_of_ble_eq_true rfl, rfl⟩, Nat.le_of_ble_eq_true rfl, zw_1446⟩) <|
  z_fc (zo_r (by decide +kernel) rfl) <|
  z_fn)
  (z_fn)
theorem zk_246 (xs : List Int32) : z_okm (za_T xs) za_P za_M 246 := z_okm_of ⟨"LyndonBenchModel", "scriptErrorOffset", "()I"⟩ prog_9_method_101_code zc_246 _ rfl rfl rfl rfl
  (z_fc (zo_l (by decide +kernel) rfl rfl trivial) <|
  z_fc (zo_l (by decide +kernel) rfl rfl trivial) <|
  z_fc (zo_h (by decide +kernel) rfl ⟨rfl, Nat.le_of_ble_eq_true rfl, _, _, _, rfl, Nat.le_of_ble_eq_true rfl, zw_1451, Or.inl rfl⟩) <|
  z_fc (zo_l (by decide +kernel) rfl rfl trivial) <|
  z_fc (zo_h (by decide +kernel) rfl ⟨rfl, Nat.le_of_ble_eq_true rfl, _, _, _, Or.inl ⟨Nat.le_of_ble_eq_true rfl, rfl⟩, Nat.le_of_ble_eq_true rfl, zw_1447⟩) <|
  z_fc (zo_r (by decide +kernel) rfl) <|
  z_fn)
  (z_fn)
theorem zk_247 (xs : List Int32) : z_okm (za_T xs) za_P za_M 247 := z_okm_of ⟨"LyndonBenchModel", "told", "(I)I"⟩ prog_9_method_102_code zc_247 _ rfl rfl rfl rfl
  (z_fc (zo_l (by decide +kernel) rfl rfl trivial) <|
  z_fc (zo_l (by decide +kernel) rfl rfl trivial) <|
  z_fc (zo_h (by decide +kernel) rfl ⟨rfl, Nat.le_of_ble_eq_true rfl, _, _, _, rfl, Nat.le_of_ble_eq_true rfl, zw_1451, Or.inl rfl⟩) <|
  z_fc (zo_l (by decide +kernel) rfl rfl trivial) <|
  z_fc (zo_h (by decide +kernel) rfl ⟨rfl, Nat.le_of_ble_eq_true rfl, _, _, _, Or.inl ⟨Nat.le_of_ble_eq_true rfl, rfl⟩, Nat.le_of_ble_eq_true rfl, zw_1434⟩) <|
  z_fc (zo_l (by decide +kernel) rfl rfl trivial) <|
  z_fc (zo_h (by decide +kernel) rfl rfl) <|
  z_fc (zo_r (by decide +kernel) rfl) <|
  z_fn)
  (z_fn)
theorem zk_248 (xs : List Int32) : z_okm (za_T xs) za_P za_M 248 := z_okm_of ⟨"LyndonBenchModel", "letters", "()I"⟩ prog_9_method_103_code zc_248 _ rfl rfl rfl rfl
  (z_fc (zo_l (by decide +kernel) rfl rfl trivial) <|
  z_fc (zo_l (by decide +kernel) rfl rfl trivial) <|
  z_fc (zo_v (by decide +kernel) rfl ⟨rfl, zd_247, zw_1635, Nat.le_of_ble_eq_true rfl, ⟨_, Or.inl ⟨Nat.le_of_ble_eq_true rfl, rfl⟩, rfl⟩, zw_1633, zw_100⟩) <|
  z_fc (zo_r (by decide +kernel) rfl) <|
  z_fn)
  (z_fn)
theorem zk_249 (xs : List Int32) : z_okm (za_T xs) za_P za_M 249 := z_okm_of ⟨"LyndonBenchModel", "length", "()I"⟩ prog_9_method_104_code zc_249 _ rfl rfl rfl rfl
  (z_fc (zo_l (by decide +kernel) rfl rfl trivial) <|
  z_fc (zo_l (by decide +kernel) rfl rfl trivial) <|
  z_fc (zo_v (by decide +kernel) rfl ⟨rfl, zd_247, zw_1635, Nat.le_of_ble_eq_true rfl, ⟨_, Or.inl ⟨Nat.le_of_ble_eq_true rfl, rfl⟩, rfl⟩, zw_1633, zw_100⟩) <|
  z_fc (zo_r (by decide +kernel) rfl) <|
  z_fn)
  (z_fn)
theorem zk_250 (xs : List Int32) : z_okm (za_T xs) za_P za_M 250 := z_okm_of ⟨"LyndonBenchModel", "letterAt", "(I)I"⟩ prog_9_method_105_code zc_250 _ rfl rfl rfl rfl
  (z_fc (zo_l (by decide +kernel) rfl rfl trivial) <|
  z_fc (zo_l (by decide +kernel) rfl rfl trivial) <|
  z_fc (zo_h (by decide +kernel) rfl ⟨rfl, Nat.le_of_ble_eq_true rfl, _, _, _, rfl, Nat.le_of_ble_eq_true rfl, zw_1451, Or.inl rfl⟩) <|
  z_fc (zo_l (by decide +kernel) rfl rfl trivial) <|
  z_fc (zo_l (by decide +kernel) rfl rfl trivial) <|
  z_fc (zo_l (by decide +kernel) rfl rfl trivial) <|
  z_fc (zo_h (by decide +kernel) rfl ⟨rfl, Nat.le_of_ble_eq_true rfl, _, _, _, Or.inl ⟨Nat.le_of_ble_eq_true rfl, rfl⟩, Nat.le_of_ble_eq_true rfl, zw_1434⟩) <|
  z_fc (zo_l (by decide +kernel) rfl rfl trivial) <|
  z_fc (zo_h (by decide +kernel) rfl rfl) <|
  z_fc (zo_l (by decide +kernel) rfl rfl trivial) <|
  z_fc (zo_l (by decide +kernel) rfl rfl trivial) <|
  z_fc (zo_s (by decide +kernel) rfl ⟨zd_148, zw_1215, zw_1216⟩) <|
  z_fc (zo_l (by decide +kernel) rfl rfl (by show ((18 : Nat) : Int) + (17) = ((35 : Nat) : Int); decide)) <|
  z_fc (zo_l (by decide +kernel) rfl rfl trivial) <|
  z_fc (zo_l (by decide +kernel) rfl rfl trivial) <|
  z_fc (zo_h (by decide +kernel) rfl ⟨rfl, Nat.le_of_ble_eq_true rfl, _, _, _, Or.inl ⟨Nat.le_of_ble_eq_true rfl, rfl⟩, Nat.le_of_ble_eq_true rfl, zw_1434⟩) <|
  z_fc (zo_l (by decide +kernel) rfl rfl trivial) <|
  z_fc (zo_l (by decide +kernel) rfl rfl trivial) <|
  z_fc (zo_l (by decide +kernel) rfl rfl trivial) <|
  z_fc (zo_h (by decide +kernel) rfl rfl) <|
  z_fc (zo_l (by decide +kernel) rfl rfl trivial) <|
  z_fc (zo_l (by decide +kernel) rfl rfl (by show ((32 : Nat) : Int) + (4) = ((36 : Nat) : Int); decide)) <|
  z_fc (zo_l (by decide +kernel) rfl rfl trivial) <|
  z_fc (zo_r (by decide +kernel) rfl) <|
  z_fn)
  (z_fn)
theorem zk_251 (xs : List Int32) : z_okm (za_T xs) za_P za_M 251 := z_okm_of ⟨"LyndonBenchModel", "isPart", "(II)Z"⟩ prog_9_method_106_code zc_251 _ rfl rfl rfl rfl
  (z_fc (zo_l (by decide +kernel) rfl rfl trivial) <|
  z_fc (zo_l (by decide +kernel) rfl rfl (by show ((1 : Nat) : Int) + (22) = ((23 : Nat) : Int); decide)) <|
  z_fc (zo_l (by decide +kernel) rfl rfl trivial) <|
  z_fc (zo_l (by decide +kernel) rfl rfl trivial) <|
  z_fc (zo_l (by decide +kernel) rfl rfl (by show ((6 : Nat) : Int) + (17) = ((23 : Nat) : Int); decide)) <|
  z_fc (zo_l (by decide +kernel) rfl rfl trivial) <|
  z_fc (zo_l (by decide +kernel) rfl rfl trivial) <|
  z_fc (zo_h (by decide +kernel) rfl ⟨rfl, Nat.le_of_ble_eq_true rfl, _, _, _, Or.inl ⟨Nat.le_of_ble_eq_true rfl, rfl⟩, Nat.le_of_ble_eq_true rfl, zw_1434⟩) <|
  z_fc (zo_l (by decide +kernel) rfl rfl trivial) <|
  z_fc (zo_h (by decide +kernel) rfl rfl) <|
  z_fc (zo_l (by decide +kernel) rfl rfl (by show ((16 : Nat) : Int) + (7) = ((23 : Nat) : Int); decide)) <|
  z_fc (zo_l (by decide +kernel) rfl rfl trivial) <|
  z_fc (zo_l (by decide +kernel) rfl rfl (by show ((20 : Nat) : Int) + (4) = ((24 : Nat) : Int); decide)) <|
  z_fc (zo_l (by decide +kernel) rfl rfl trivial) <|
  z_fc (zo_r (by decide +kernel) rfl) <|
  z_fn)
  (z_fn)
theorem zk_252_0 (xs : List Int32) {l : List zE} (h : ∀ q ∈ l, z_oke' (za_T xs) za_P za_M ⟨"LyndonBenchModel", "compareParts", "(IIII)I"⟩ prog_9_method_107_code q) : ∀ q ∈ zc_252_0 ++ l, z_oke' (za_T xs) za_P za_M ⟨"LyndonBenchModel", "compareParts", "(IIII)I"⟩ prog_9_method_107_code q :=
  z_fc (zo_l (by decide +kernel) rfl rfl trivial) <|
  z_fc (zo_l (by decide +kernel) rfl rfl trivial) <|
  z_fc (zo_l (by decide +kernel) rfl rfl trivial) <|
  z_fc (zo_l (by decide +kernel) rfl rfl trivial) <|
  z_fc (zo_v (by decide +kernel) rfl ⟨rfl, zd_251, zw_1651, Nat.le_of_ble_eq_true rfl, ⟨_, Or.inl ⟨Nat.le_of_ble_eq_true rfl, rfl⟩, rfl⟩, zw_1649, zw_101⟩) <|
  z_fc (zo_l (by decide +kernel) rfl rfl (by show ((7 : Nat) : Int) + (13) = ((20 : Nat) : Int); decide)) <|
  z_fc (zo_l (by decide +kernel) rfl rfl trivial) <|
  z_fc (zo_l (by decide +kernel) rfl rfl trivial) <|
  z_fc (zo_l (by decide +kernel) rfl rfl trivial) <|
  z_fc (zo_v (by decide +kernel) rfl ⟨rfl, zd_251, zw_1651, Nat.le_of_ble_eq_true rfl, ⟨_, Or.inl ⟨Nat.le_of_ble_eq_true rfl, rfl⟩, rfl⟩, zw_1649, zw_101⟩) <|
  z_fc (zo_l (by decide +kernel) rfl rfl (by show ((17 : Nat) : Int) + (7) = ((24 : Nat) : Int); decide)) <|
  z_fc (zo_l (by decide +kernel) rfl rfl trivial) <|
  z_fc (zo_l (by decide +kernel) rfl rfl (by show ((21 : Nat) : Int) + (4) = ((25 : Nat) : Int); decide)) <|
  z_fc (zo_l (by decide +kernel) rfl rfl trivial) <|
  z_fc (zo_v (by decide +kernel) rfl ⟨rfl, zd_149, zw_1522, Nat.le_of_ble_eq_true rfl, ⟨_, Or.inl ⟨Nat.le_of_ble_eq_true rfl, rfl⟩, rfl⟩, zw_1520, zw_93⟩) <|
  z_fc (zo_l (by decide +kernel) rfl rfl (by show ((28 : Nat) : Int) + (5) = ((33 : Nat) : Int); decide)) <|
  z_fc (zo_l (by decide +kernel) rfl rfl trivial) <|
  z_fc (zo_r (by decide +kernel) rfl) <|
  z_fc (zo_l (by decide +kernel) rfl rfl trivial) <|
  z_fc (zo_l (by decide +kernel) rfl rfl trivial) <|
  z_fc (zo_l (by decide +kernel) rfl rfl trivial) <|
  z_fc (zo_l (by decide +kernel) rfl rfl trivial) <|
  z_fc (zo_l (by decide +kernel) rfl rfl trivial) <|
  z_fc (zo_l (by decide +kernel) rfl rfl trivial) <|
  z_fc (zo_l (by decide +kernel) rfl rfl trivial) <|
  z_fc (zo_l (by decide +kernel) rfl rfl trivial) <|
  z_fc (zo_l (by decide +kernel) rfl rfl trivial) <|
  z_fc (zo_l (by decide +kernel) rfl rfl trivial) <|
  z_fc (zo_l (by decide +kernel) rfl rfl trivial) <|
  z_fc (zo_l (by decide +kernel) rfl rfl trivial) <|
  z_fc (zo_l (by decide +kernel) rfl rfl trivial) <|
  z_fc (zo_v (by decide +kernel) rfl ⟨rfl, zd_153, zw_1428, Nat.le_of_ble_eq_true rfl, ⟨_, Or.inl ⟨Nat.le_of_ble_eq_true rfl, rfl⟩, rfl⟩, zw_1426, zw_90⟩) <|
  z_fc (zo_l (by decide +kernel) rfl rfl trivial) <|
  z_fc (zo_l (by decide +kernel) rfl rfl trivial) <|
  z_fc (zo_l (by decide +kernel) rfl rfl (by show ((54 : Nat) : Int) + (7) = ((61 : Nat) : Int); decide)) <|
  z_fc (zo_l (by decide +kernel) rfl rfl trivial) <|
  z_fc (zo_l (by decide +kernel) rfl rfl (by show ((58 : Nat) : Int) + (13) = ((71 : Nat) : Int); decide)) <|
  z_fc (zo_l (by decide +kernel) rfl rfl trivial) <|
  z_fc (zo_l (by decide +kernel) rfl rfl (by show ((63 : Nat) : Int) + (7) = ((70 : Nat) : Int); decide)) <|
  z_fc (zo_l (by decide +kernel) rfl rfl trivial) <|
  h
theorem zk_252_1 (xs : List Int32) {l : List zE} (h : ∀ q ∈ l, z_oke' (za_T xs) za_P za_M ⟨"LyndonBenchModel", "compareParts", "(IIII)I"⟩ prog_9_method_107_code q) : ∀ q ∈ zc_252_1 ++ l, z_oke' (za_T xs) za_P za_M ⟨"LyndonBenchModel", "compareParts", "(IIII)I"⟩ prog_9_method_107_code q :=
  z_fc (zo_l (by decide +kernel) rfl rfl (by show ((67 : Nat) : Int) + (4) = ((71 : Nat) : Int); decide)) <|
  z_fc (zo_l (by decide +kernel) rfl rfl trivial) <|
  z_fc (zo_r (by decide +kernel) rfl) <|
  h
theorem zk_252 (xs : List Int32) : z_okm (za_T xs) za_P za_M 252 := z_okm_of ⟨"LyndonBenchModel", "compareParts", "(IIII)I"⟩ prog_9_method_107_code zc_252 _ rfl rfl rfl rfl
  (zk_252_0 xs <|
  zk_252_1 xs <|
  z_fn)
  (z_fn)
theorem zk_253 (xs : List Int32) : z_okm (za_T xs) za_P za_M 253 := z_okm_of ⟨"LyndonBenchModel", "factorCount", "()I"⟩ prog_9_method_108_code zc_253 _ rfl rfl rfl rfl
  (z_fc (zo_l (by decide +kernel) rfl rfl trivial) <|
  z_fc (zo_l (by decide +kernel) rfl rfl trivial) <|
  z_fc (zo_h (by decide +kernel) rfl ⟨rfl, Nat.le_of_ble_eq_true rfl, _, _, _, rfl, Nat.le_of_ble_eq_true rfl, zw_1451, Or.inl rfl⟩) <|
  z_fc (zo_l (by decide +kernel) rfl rfl trivial) <|
  z_fc (zo_v (by decide +kernel) rfl ⟨rfl, zd_160, zw_1288, Nat.le_of_ble_eq_true rfl, ⟨_, Or.inl ⟨Nat.le_of_ble_eq_true rfl, rfl⟩, rfl⟩, zw_1286, zw_55⟩) <|
  z_fc (zo_r (by decide +kernel) rfl) <|
  z_fn)
  (z_fn)
theorem zk_254 (xs : List Int32) : z_okm (za_T xs) za_P za_M 254 := z_okm_of ⟨"LyndonBenchModel", "throwsFactor", "(I)Z"⟩ prog_9_method_109_code zc_254 _ rfl rfl rfl rfl
  (z_fc (zo_l (by decide +kernel) rfl rfl trivial) <|
  z_fc (zo_l (by decide +kernel) rfl rfl trivial) <|
  z_fc (zo_l (by decide +kernel) rfl rfl trivial) <|
  z_fc (zo_l (by decide +kernel) rfl rfl trivial) <|
  z_fc (zo_v (by decide +kernel) rfl ⟨rfl, zd_160, zw_1288, Nat.le_of_ble_eq_true rfl, ⟨_, Or.inl ⟨Nat.le_of_ble_eq_true rfl, rfl⟩, rfl⟩, zw_1286, zw_55⟩) <|
  z_fc (zo_l (by decide +kernel) rfl rfl trivial) <|
  z_fc (zo_l (by decide +kernel) rfl rfl trivial) <|
  z_fc (zo_s (by decide +kernel) rfl ⟨zd_148, zw_1215, zw_1216⟩) <|
  z_fc (zo_l (by decide +kernel) rfl rfl (by show ((12 : Nat) : Int) + (7) = ((19 : Nat) : Int); decide)) <|
  z_fc (zo_l (by decide +kernel) rfl rfl trivial) <|
  z_fc (zo_l (by decide +kernel) rfl rfl (by show ((16 : Nat) : Int) + (4) = ((20 : Nat) : Int); decide)) <|
  z_fc (zo_l (by decide +kernel) rfl rfl trivial) <|
  z_fc (zo_v (by decide +kernel) rfl ⟨rfl, zd_149, zw_1522, Nat.le_of_ble_eq_true rfl, ⟨_, Or.inl ⟨Nat.le_of_ble_eq_true rfl, rfl⟩, rfl⟩, zw_1520, zw_93⟩) <|
  z_fc (zo_r (by decide +kernel) rfl) <|
  z_fn)
  (z_fn)
theorem zk_255 (xs : List Int32) : z_okm (za_T xs) za_P za_M 255 := z_okm_of ⟨"LyndonBenchModel", "factorStart", "(I)I"⟩ prog_9_method_110_code zc_255 _ rfl rfl rfl rfl
  (z_fc (zo_l (by decide +kernel) rfl rfl trivial) <|
  z_fc (zo_l (by decide +kernel) rfl rfl trivial) <|
  z_fc (zo_v (by decide +kernel) rfl ⟨rfl, zd_254, zw_1663, Nat.le_of_ble_eq_true rfl, ⟨_, Or.inl ⟨Nat.le_of_ble_eq_true rfl, rfl⟩, rfl⟩, zw_1661, zw_102⟩) <|
  z_fc (zo_l (by decide +kernel) rfl rfl (by show ((5 : Nat) : Int) + (7) = ((12 : Nat) : Int); decide)) <|
  z_fc (zo_l (by decide +kernel) rfl rfl trivial) <|
  z_fc (zo_l (by decide +kernel) rfl rfl (by show ((9 : Nat) : Int) + (9) = ((18 : Nat) : Int); decide)) <|
  z_fc (zo_l (by decide +kernel) rfl rfl trivial) <|
  z_fc (zo_h (by decide +kernel) rfl ⟨rfl, Nat.le_of_ble_eq_true rfl, _, _, _, Or.inl ⟨Nat.le_of_ble_eq_true rfl, rfl⟩, Nat.le_of_ble_eq_true rfl, zw_1443⟩) <|
  z_fc (zo_l (by decide +kernel) rfl rfl trivial) <|
  z_fc (zo_h (by decide +kernel) rfl rfl) <|
  z_fc (zo_r (by decide +kernel) rfl) <|
  z_fn)
  (z_fn)
theorem zk_256 (xs : List Int32) : z_okm (za_T xs) za_P za_M 256 := z_okm_of ⟨"LyndonBenchModel", "factorLength", "(I)I"⟩ prog_9_method_111_code zc_256 _ rfl rfl rfl rfl
  (z_fc (zo_l (by decide +kernel) rfl rfl trivial) <|
  z_fc (zo_l (by decide +kernel) rfl rfl trivial) <|
  z_fc (zo_v (by decide +kernel) rfl ⟨rfl, zd_254, zw_1663, Nat.le_of_ble_eq_true rfl, ⟨_, Or.inl ⟨Nat.le_of_ble_eq_true rfl, rfl⟩, rfl⟩, zw_1661, zw_102⟩) <|
  z_fc (zo_l (by decide +kernel) rfl rfl (by show ((5 : Nat) : Int) + (7) = ((12 : Nat) : Int); decide)) <|
  z_fc (zo_l (by decide +kernel) rfl rfl trivial) <|
  z_fc (zo_l (by decide +kernel) rfl rfl (by show ((9 : Nat) : Int) + (18) = ((27 : Nat) : Int); decide)) <|
  z_fc (zo_l (by decide +kernel) rfl rfl trivial) <|
  z_fc (zo_h (by decide +kernel) rfl ⟨rfl, Nat.le_of_ble_eq_true rfl, _, _, _, Or.inl ⟨Nat.le_of_ble_eq_true rfl, rfl⟩, Nat.le_of_ble_eq_true rfl, zw_1443⟩) <|
  z_fc (zo_l (by decide +kernel) rfl rfl trivial) <|
  z_fc (zo_l (by decide +kernel) rfl rfl trivial) <|
  z_fc (zo_l (by decide +kernel) rfl rfl trivial) <|
  z_fc (zo_h (by decide +kernel) rfl rfl) <|
  z_fc (zo_l (by decide +kernel) rfl rfl trivial) <|
  z_fc (zo_h (by decide +kernel) rfl ⟨rfl, Nat.le_of_ble_eq_true rfl, _, _, _, Or.inl ⟨Nat.le_of_ble_eq_true rfl, rfl⟩, Nat.le_of_ble_eq_true rfl, zw_1443⟩) <|
  z_fc (zo_l (by decide +kernel) rfl rfl trivial) <|
  z_fc (zo_h (by decide +kernel) rfl rfl) <|
  z_fc (zo_l (by decide +kernel) rfl rfl trivial) <|
  z_fc (zo_r (by decide +kernel) rfl) <|
  z_fn)
  (z_fn)
theorem zk_257_0 (xs : List Int32) {l : List zE} (h : ∀ q ∈ l, z_oke' (za_T xs) za_P za_M ⟨"LyndonBenchModel", "areAlike", "(II)Z"⟩ prog_9_method_112_code q) : ∀ q ∈ zc_257_0 ++ l, z_oke' (za_T xs) za_P za_M ⟨"LyndonBenchModel", "areAlike", "(II)Z"⟩ prog_9_method_112_code q :=
  z_fc (zo_l (by decide +kernel) rfl rfl trivial) <|
  z_fc (zo_l (by decide +kernel) rfl rfl trivial) <|
  z_fc (zo_l (by decide +kernel) rfl rfl trivial) <|
  z_fc (zo_h (by decide +kernel) rfl ⟨rfl, Nat.le_of_ble_eq_true rfl, _, _, _, Or.inl ⟨Nat.le_of_ble_eq_true rfl, rfl⟩, Nat.le_of_ble_eq_true rfl, zw_1443⟩) <|
  z_fc (zo_l (by decide +kernel) rfl rfl trivial) <|
  z_fc (zo_h (by decide +kernel) rfl rfl) <|
  z_fc (zo_l (by decide +kernel) rfl rfl trivial) <|
  z_fc (zo_l (by decide +kernel) rfl rfl trivial) <|
  z_fc (zo_h (by decide +kernel) rfl ⟨rfl, Nat.le_of_ble_eq_true rfl, _, _, _, Or.inl ⟨Nat.le_of_ble_eq_true rfl, rfl⟩, Nat.le_of_ble_eq_true rfl, zw_1443⟩) <|
  z_fc (zo_l (by decide +kernel) rfl rfl trivial) <|
  z_fc (zo_l (by decide +kernel) rfl rfl trivial) <|
  z_fc (zo_l (by decide +kernel) rfl rfl trivial) <|
  z_fc (zo_h (by decide +kernel) rfl rfl) <|
  z_fc (zo_l (by decide +kernel) rfl rfl trivial) <|
  z_fc (zo_h (by decide +kernel) rfl ⟨rfl, Nat.le_of_ble_eq_true rfl, _, _, _, Or.inl ⟨Nat.le_of_ble_eq_true rfl, rfl⟩, Nat.le_of_ble_eq_true rfl, zw_1443⟩) <|
  z_fc (zo_l (by decide +kernel) rfl rfl trivial) <|
  z_fc (zo_h (by decide +kernel) rfl rfl) <|
  z_fc (zo_l (by decide +kernel) rfl rfl trivial) <|
  z_fc (zo_l (by decide +kernel) rfl rfl trivial) <|
  z_fc (zo_l (by decide +kernel) rfl rfl trivial) <|
  z_fc (zo_h (by decide +kernel) rfl ⟨rfl, Nat.le_of_ble_eq_true rfl, _, _, _, Or.inl ⟨Nat.le_of_ble_eq_true rfl, rfl⟩, Nat.le_of_ble_eq_true rfl, zw_1443⟩) <|
  z_fc (zo_l (by decide +kernel) rfl rfl trivial) <|
  z_fc (zo_h (by decide +kernel) rfl rfl) <|
  z_fc (zo_l (by decide +kernel) rfl rfl trivial) <|
  z_fc (zo_l (by decide +kernel) rfl rfl trivial) <|
  z_fc (zo_h (by decide +kernel) rfl ⟨rfl, Nat.le_of_ble_eq_true rfl, _, _, _, Or.inl ⟨Nat.le_of_ble_eq_true rfl, rfl⟩, Nat.le_of_ble_eq_true rfl, zw_1443⟩) <|
  z_fc (zo_l (by decide +kernel) rfl rfl trivial) <|
  z_fc (zo_l (by decide +kernel) rfl rfl trivial) <|
  z_fc (zo_l (by decide +kernel) rfl rfl trivial) <|
  z_fc (zo_h (by decide +kernel) rfl rfl) <|
  z_fc (zo_l (by decide +kernel) rfl rfl trivial) <|
  z_fc (zo_h (by decide +kernel) rfl ⟨rfl, Nat.le_of_ble_eq_true rfl, _, _, _, Or.inl ⟨Nat.le_of_ble_eq_true rfl, rfl⟩, Nat.le_of_ble_eq_true rfl, zw_1443⟩) <|
  z_fc (zo_l (by decide +kernel) rfl rfl trivial) <|
  z_fc (zo_h (by decide +kernel) rfl rfl) <|
  z_fc (zo_l (by decide +kernel) rfl rfl trivial) <|
  z_fc (zo_v (by decide +kernel) rfl ⟨rfl, zd_153, zw_1428, Nat.le_of_ble_eq_true rfl, ⟨_, Or.inl ⟨Nat.le_of_ble_eq_true rfl, rfl⟩, rfl⟩, zw_1426, zw_90⟩) <|
  z_fc (zo_l (by decide +kernel) rfl rfl (by show ((50 : Nat) : Int) + (7) = ((57 : Nat) : Int); decide)) <|
  z_fc (zo_l (by decide +kernel) rfl rfl trivial) <|
  z_fc (zo_l (by decide +kernel) rfl rfl (by show ((54 : Nat) : Int) + (4) = ((58 : Nat) : Int); decide)) <|
  z_fc (zo_l (by decide +kernel) rfl rfl trivial) <|
  h
theorem zk_257_1 (xs : List Int32) {l : List zE} (h : ∀ q ∈ l, z_oke' (za_T xs) za_P za_M ⟨"LyndonBenchModel", "areAlike", "(II)Z"⟩ prog_9_method_112_code q) : ∀ q ∈ zc_257_1 ++ l, z_oke' (za_T xs) za_P za_M ⟨"LyndonBenchModel", "areAlike", "(II)Z"⟩ prog_9_method_112_code q :=
  z_fc (zo_r (by decide +kernel) rfl) <|
  h
theorem zk_257 (xs : List Int32) : z_okm (za_T xs) za_P za_M 257 := z_okm_of ⟨"LyndonBenchModel", "areAlike", "(II)Z"⟩ prog_9_method_112_code zc_257 _ rfl rfl rfl rfl
  (zk_257_0 xs <|
  zk_257_1 xs <|
  z_fn)
  (z_fn)
theorem zk_258 (xs : List Int32) : z_okm (za_T xs) za_P za_M 258 := z_okm_of ⟨"LyndonBenchModel", "powerOf", "(II)I"⟩ prog_9_method_113_code zc_258 _ rfl rfl rfl rfl
  (z_fc (zo_l (by decide +kernel) rfl rfl trivial) <|
  z_fc (zo_l (by decide +kernel) rfl rfl trivial) <|
  z_fc (zo_l (by decide +kernel) rfl rfl trivial) <|
  z_fc (zo_l (by decide +kernel) rfl rfl trivial) <|
  z_fc (zo_l (by decide +kernel) rfl rfl trivial) <|
  z_fc (zo_l (by decide +kernel) rfl rfl trivial) <|
  z_fc (zo_l (by decide +kernel) rfl rfl (by show ((8 : Nat) : Int) + (27) = ((35 : Nat) : Int); decide)) <|
  z_fc (zo_l (by decide +kernel) rfl rfl trivial) <|
  z_fc (zo_l (by decide +kernel) rfl rfl trivial) <|
  z_fc (zo_l (by decide +kernel) rfl rfl trivial) <|
  z_fc (zo_l (by decide +kernel) rfl rfl trivial) <|
  z_fc (zo_v (by decide +kernel) rfl ⟨rfl, zd_257, zw_1679, Nat.le_of_ble_eq_true rfl, ⟨_, Or.inl ⟨Nat.le_of_ble_eq_true rfl, rfl⟩, rfl⟩, zw_1677, zw_104⟩) <|
  z_fc (zo_l (by decide +kernel) rfl rfl (by show ((19 : Nat) : Int) + (7) = ((26 : Nat) : Int); decide)) <|
  z_fc (zo_l (by decide +kernel) rfl rfl trivial) <|
  z_fc (zo_l (by decide +kernel) rfl rfl (by show ((23 : Nat) : Int) + (4) = ((27 : Nat) : Int); decide)) <|
  z_fc (zo_l (by decide +kernel) rfl rfl trivial) <|
  z_fc (zo_l (by decide +kernel) rfl rfl trivial) <|
  z_fc (zo_l (by decide +kernel) rfl rfl trivial) <|
  z_fc (zo_l (by decide +kernel) rfl rfl trivial) <|
  z_fc (zo_l (by decide +kernel) rfl rfl (by show ((32 : Nat) : Int) + (-27) = ((5 : Nat) : Int); decide)) <|
  z_fc (zo_l (by decide +kernel) rfl rfl trivial) <|
  z_fc (zo_r (by decide +kernel) rfl) <|
  z_fn)
  (z_fn)
theorem zk_259 (xs : List Int32) : z_okm (za_T xs) za_P za_M 259 := z_okm_of ⟨"LyndonBenchModel", "factorPower", "(I)I"⟩ prog_9_method_114_code zc_259 _ rfl rfl rfl rfl
  (z_fc (zo_l (by decide +kernel) rfl rfl trivial) <|
  z_fc (zo_v (by decide +kernel) rfl ⟨rfl, zd_160, zw_1288, Nat.le_of_ble_eq_true rfl, ⟨_, Or.inl ⟨Nat.le_of_ble_eq_true rfl, rfl⟩, rfl⟩, zw_1286, zw_55⟩) <|
  z_fc (zo_l (by decide +kernel) rfl rfl trivial) <|
  z_fc (zo_l (by decide +kernel) rfl rfl trivial) <|
  z_fc (zo_l (by decide +kernel) rfl rfl trivial) <|
  z_fc (zo_l (by decide +kernel) rfl rfl trivial) <|
  z_fc (zo_l (by decide +kernel) rfl rfl trivial) <|
  z_fc (zo_l (by decide +kernel) rfl rfl trivial) <|
  z_fc (zo_l (by decide +kernel) rfl rfl trivial) <|
  z_fc (zo_s (by decide +kernel) rfl ⟨zd_148, zw_1215, zw_1216⟩) <|
  z_fc (zo_l (by decide +kernel) rfl rfl (by show ((14 : Nat) : Int) + (7) = ((21 : Nat) : Int); decide)) <|
  z_fc (zo_l (by decide +kernel) rfl rfl trivial) <|
  z_fc (zo_l (by decide +kernel) rfl rfl (by show ((18 : Nat) : Int) + (4) = ((22 : Nat) : Int); decide)) <|
  z_fc (zo_l (by decide +kernel) rfl rfl trivial) <|
  z_fc (zo_v (by decide +kernel) rfl ⟨rfl, zd_149, zw_1522, Nat.le_of_ble_eq_true rfl, ⟨_, Or.inl ⟨Nat.le_of_ble_eq_true rfl, rfl⟩, rfl⟩, zw_1520, zw_93⟩) <|
  z_fc (zo_l (by decide +kernel) rfl rfl (by show ((25 : Nat) : Int) + (7) = ((32 : Nat) : Int); decide)) <|
  z_fc (zo_l (by decide +kernel) rfl rfl trivial) <|
  z_fc (zo_l (by decide +kernel) rfl rfl (by show ((29 : Nat) : Int) + (9) = ((38 : Nat) : Int); decide)) <|
  z_fc (zo_l (by decide +kernel) rfl rfl trivial) <|
  z_fc (zo_l (by decide +kernel) rfl rfl trivial) <|
  z_fc (zo_l (by decide +kernel) rfl rfl trivial) <|
  z_fc (zo_v (by decide +kernel) rfl ⟨rfl, zd_258, zw_1675, Nat.le_of_ble_eq_true rfl, ⟨_, Or.inl ⟨Nat.le_of_ble_eq_true rfl, rfl⟩, rfl⟩, zw_1673, zw_103⟩) <|
  z_fc (zo_r (by decide +kernel) rfl) <|
  z_fn)
  (z_fn)
theorem zk_260 (xs : List Int32) : z_okm (za_T xs) za_P za_M 260 := z_okm_of ⟨"LyndonBenchModel", "factorOf", "(I)I"⟩ prog_9_method_115_code zc_260 _ rfl rfl rfl rfl
  (z_fc (zo_l (by decide +kernel) rfl rfl trivial) <|
  z_fc (zo_l (by decide +kernel) rfl rfl trivial) <|
  z_fc (zo_h (by decide +kernel) rfl ⟨rfl, Nat.le_of_ble_eq_true rfl, _, _, _, rfl, Nat.le_of_ble_eq_true rfl, zw_1451, Or.inl rfl⟩) <|
  z_fc (zo_l (by decide +kernel) rfl rfl trivial) <|
  z_fc (zo_v (by decide +kernel) rfl ⟨rfl, zd_160, zw_1288, Nat.le_of_ble_eq_true rfl, ⟨_, Or.inl ⟨Nat.le_of_ble_eq_true rfl, rfl⟩, rfl⟩, zw_1286, zw_55⟩) <|
  z_fc (zo_l (by decide +kernel) rfl rfl trivial) <|
  z_fc (zo_l (by decide +kernel) rfl rfl trivial) <|
  z_fc (zo_l (by decide +kernel) rfl rfl trivial) <|
  z_fc (zo_l (by decide +kernel) rfl rfl trivial) <|
  z_fc (zo_l (by decide +kernel) rfl rfl trivial) <|
  z_fc (zo_l (by decide +kernel) rfl rfl (by show ((14 : Nat) : Int) + (34) = ((48 : Nat) : Int); decide)) <|
  z_fc (zo_l (by decide +kernel) rfl rfl trivial) <|
  z_fc (zo_l (by decide +kernel) rfl rfl trivial) <|
  z_fc (zo_h (by decide +kernel) rfl ⟨rfl, Nat.le_of_ble_eq_true rfl, _, _, _, Or.inl ⟨Nat.le_of_ble_eq_true rfl, rfl⟩, Nat.le_of_ble_eq_true rfl, zw_1443⟩) <|
  z_fc (zo_l (by decide +kernel) rfl rfl trivial) <|
  z_fc (zo_h (by decide +kernel) rfl rfl) <|
  z_fc (zo_l (by decide +kernel) rfl rfl trivial) <|
  z_fc (zo_h (by decide +kernel) rfl ⟨rfl, Nat.le_of_ble_eq_true rfl, _, _, _, Or.inl ⟨Nat.le_of_ble_eq_true rfl, rfl⟩, Nat.le_of_ble_eq_true rfl, zw_1443⟩) <|
  z_fc (zo_l (by decide +kernel) rfl rfl trivial) <|
  z_fc (zo_l (by decide +kernel) rfl rfl trivial) <|
  z_fc (zo_l (by decide +kernel) rfl rfl trivial) <|
  z_fc (zo_h (by decide +kernel) rfl rfl) <|
  z_fc (zo_l (by decide +kernel) rfl rfl trivial) <|
  z_fc (zo_l (by decide +kernel) rfl rfl trivial) <|
  z_fc (zo_s (by decide +kernel) rfl ⟨zd_148, zw_1215, zw_1216⟩) <|
  z_fc (zo_l (by decide +kernel) rfl rfl (by show ((37 : Nat) : Int) + (5) = ((42 : Nat) : Int); decide)) <|
  z_fc (zo_l (by decide +kernel) rfl rfl trivial) <|
  z_fc (zo_r (by decide +kernel) rfl) <|
  z_fc (zo_l (by decide +kernel) rfl rfl trivial) <|
  z_fc (zo_l (by decide +kernel) rfl rfl (by show ((45 : Nat) : Int) + (-33) = ((12 : Nat) : Int); decide)) <|
  z_fc (zo_l (by decide +kernel) rfl rfl trivial) <|
  z_fc (zo_r (by decide +kernel) rfl) <|
  z_fn)
  (z_fn)
theorem zk_261_0 (xs : List Int32) {l : List zE} (h : ∀ q ∈ l, z_oke' (za_T xs) za_P za_M ⟨"LyndonBenchModel", "longestFactor", "()I"⟩ prog_9_method_116_code q) : ∀ q ∈ zc_261_0 ++ l, z_oke' (za_T xs) za_P za_M ⟨"LyndonBenchModel", "longestFactor", "()I"⟩ prog_9_method_116_code q :=
  z_fc (zo_l (by decide +kernel) rfl rfl trivial) <|
  z_fc (zo_l (by decide +kernel) rfl rfl trivial) <|
  z_fc (zo_h (by decide +kernel) rfl ⟨rfl, Nat.le_of_ble_eq_true rfl, _, _, _, rfl, Nat.le_of_ble_eq_true rfl, zw_1451, Or.inl rfl⟩) <|
  z_fc (zo_l (by decide +kernel) rfl rfl trivial) <|
  z_fc (zo_v (by decide +kernel) rfl ⟨rfl, zd_160, zw_1288, Nat.le_of_ble_eq_true rfl, ⟨_, Or.inl ⟨Nat.le_of_ble_eq_true rfl, rfl⟩, rfl⟩, zw_1286, zw_55⟩) <|
  z_fc (zo_l (by decide +kernel) rfl rfl trivial) <|
  z_fc (zo_l (by decide +kernel) rfl rfl trivial) <|
  z_fc (zo_l (by decide +kernel) rfl rfl trivial) <|
  z_fc (zo_l (by decide +kernel) rfl rfl trivial) <|
  z_fc (zo_l (by decide +kernel) rfl rfl trivial) <|
  z_fc (zo_l (by decide +kernel) rfl rfl trivial) <|
  z_fc (zo_l (by decide +kernel) rfl rfl trivial) <|
  z_fc (zo_l (by decide +kernel) rfl rfl (by show ((16 : Nat) : Int) + (49) = ((65 : Nat) : Int); decide)) <|
  z_fc (zo_l (by decide +kernel) rfl rfl trivial) <|
  z_fc (zo_l (by decide +kernel) rfl rfl trivial) <|
  z_fc (zo_l (by decide +kernel) rfl rfl (by show ((21 : Nat) : Int) + (36) = ((57 : Nat) : Int); decide)) <|
  z_fc (zo_l (by decide +kernel) rfl rfl trivial) <|
  z_fc (zo_h (by decide +kernel) rfl ⟨rfl, Nat.le_of_ble_eq_true rfl, _, _, _, Or.inl ⟨Nat.le_of_ble_eq_true rfl, rfl⟩, Nat.le_of_ble_eq_true rfl, zw_1443⟩) <|
  z_fc (zo_l (by decide +kernel) rfl rfl trivial) <|
  z_fc (zo_l (by decide +kernel) rfl rfl trivial) <|
  z_fc (zo_l (by decide +kernel) rfl rfl trivial) <|
  z_fc (zo_h (by decide +kernel) rfl rfl) <|
  z_fc (zo_l (by decide +kernel) rfl rfl trivial) <|
  z_fc (zo_h (by decide +kernel) rfl ⟨rfl, Nat.le_of_ble_eq_true rfl, _, _, _, Or.inl ⟨Nat.le_of_ble_eq_true rfl, rfl⟩, Nat.le_of_ble_eq_true rfl, zw_1443⟩) <|
  z_fc (zo_l (by decide +kernel) rfl rfl trivial) <|
  z_fc (zo_h (by decide +kernel) rfl rfl) <|
  z_fc (zo_l (by decide +kernel) rfl rfl trivial) <|
  z_fc (zo_l (by decide +kernel) rfl rfl trivial) <|
  z_fc (zo_h (by decide +kernel) rfl ⟨rfl, Nat.le_of_ble_eq_true rfl, _, _, _, Or.inl ⟨Nat.le_of_ble_eq_true rfl, rfl⟩, Nat.le_of_ble_eq_true rfl, zw_1443⟩) <|
  z_fc (zo_l (by decide +kernel) rfl rfl trivial) <|
  z_fc (zo_l (by decide +kernel) rfl rfl trivial) <|
  z_fc (zo_l (by decide +kernel) rfl rfl trivial) <|
  z_fc (zo_h (by decide +kernel) rfl rfl) <|
  z_fc (zo_l (by decide +kernel) rfl rfl trivial) <|
  z_fc (zo_h (by decide +kernel) rfl ⟨rfl, Nat.le_of_ble_eq_true rfl, _, _, _, Or.inl ⟨Nat.le_of_ble_eq_true rfl, rfl⟩, Nat.le_of_ble_eq_true rfl, zw_1443⟩) <|
  z_fc (zo_l (by decide +kernel) rfl rfl trivial) <|
  z_fc (zo_h (by decide +kernel) rfl rfl) <|
  z_fc (zo_l (by decide +kernel) rfl rfl trivial) <|
  z_fc (zo_l (by decide +kernel) rfl rfl (by show ((54 : Nat) : Int) + (5) = ((59 : Nat) : Int); decide)) <|
  z_fc (zo_l (by decide +kernel) rfl rfl trivial) <|
  h
theorem zk_261_1 (xs : List Int32) {l : List zE} (h : ∀ q ∈ l, z_oke' (za_T xs) za_P za_M ⟨"LyndonBenchModel", "longestFactor", "()I"⟩ prog_9_method_116_code q) : ∀ q ∈ zc_261_1 ++ l, z_oke' (za_T xs) za_P za_M ⟨"LyndonBenchModel", "longestFactor", "()I"⟩ prog_9_method_116_code q :=
  z_fc (zo_l (by decide +kernel) rfl rfl trivial) <|
  z_fc (zo_l (by decide +kernel) rfl rfl trivial) <|
  z_fc (zo_l (by decide +kernel) rfl rfl (by show ((62 : Nat) : Int) + (-48) = ((14 : Nat) : Int); decide)) <|
  z_fc (zo_l (by decide +kernel) rfl rfl trivial) <|
  z_fc (zo_r (by decide +kernel) rfl) <|
  h
theorem zk_261 (xs : List Int32) : z_okm (za_T xs) za_P za_M 261 := z_okm_of ⟨"LyndonBenchModel", "longestFactor", "()I"⟩ prog_9_method_116_code zc_261 _ rfl rfl rfl rfl
  (zk_261_0 xs <|
  zk_261_1 xs <|
  z_fn)
  (z_fn)
theorem zk_262 (xs : List Int32) : z_okm (za_T xs) za_P za_M 262 := z_okm_of ⟨"LyndonBenchModel", "factorsIfAppended", "(I)I"⟩ prog_9_method_117_code zc_262 _ rfl rfl rfl rfl
  (z_fc (zo_l (by decide +kernel) rfl rfl trivial) <|
  z_fc (zo_l (by decide +kernel) rfl rfl trivial) <|
  z_fc (zo_l (by decide +kernel) rfl rfl trivial) <|
  z_fc (zo_v (by decide +kernel) rfl ⟨rfl, zd_151, zw_1260, Nat.le_of_ble_eq_true rfl, ⟨_, Or.inl ⟨Nat.le_of_ble_eq_true rfl, rfl⟩, rfl⟩, zw_1258, zw_48⟩) <|
  z_fc (zo_l (by decide +kernel) rfl rfl (by show ((6 : Nat) : Int) + (7) = ((13 : Nat) : Int); decide)) <|
  z_fc (zo_l (by decide +kernel) rfl rfl trivial) <|
  z_fc (zo_l (by decide +kernel) rfl rfl (by show ((10 : Nat) : Int) + (4) = ((14 : Nat) : Int); decide)) <|
  z_fc (zo_l (by decide +kernel) rfl rfl trivial) <|
  z_fc (zo_v (by decide +kernel) rfl ⟨rfl, zd_149, zw_1522, Nat.le_of_ble_eq_true rfl, ⟨_, Or.inl ⟨Nat.le_of_ble_eq_true rfl, rfl⟩, rfl⟩, zw_1520, zw_93⟩) <|
  z_fc (zo_l (by decide +kernel) rfl rfl (by show ((17 : Nat) : Int) + (5) = ((22 : Nat) : Int); decide)) <|
  z_fc (zo_l (by decide +kernel) rfl rfl trivial) <|
  z_fc (zo_r (by decide +kernel) rfl) <|
  z_fc (zo_l (by decide +kernel) rfl rfl trivial) <|
  z_fc (zo_v (by decide +kernel) rfl ⟨rfl, zd_155, zw_1276, Nat.le_of_ble_eq_true rfl, ⟨_, Or.inl ⟨Nat.le_of_ble_eq_true rfl, rfl⟩, rfl⟩, zw_1274, zw_52⟩) <|
  z_fc (zo_l (by decide +kernel) rfl rfl trivial) <|
  z_fc (zo_l (by decide +kernel) rfl rfl trivial) <|
  z_fc (zo_l (by decide +kernel) rfl rfl trivial) <|
  z_fc (zo_l (by decide +kernel) rfl rfl trivial) <|
  z_fc (zo_v (by decide +kernel) rfl ⟨rfl, zd_156, zw_1432, Nat.le_of_ble_eq_true rfl, ⟨_, Or.inl ⟨Nat.le_of_ble_eq_true rfl, rfl⟩, rfl⟩, zw_1430, zw_91⟩) <|
  z_fc (zo_l (by decide +kernel) rfl rfl trivial) <|
  z_fc (zo_v (by decide +kernel) rfl ⟨rfl, zd_159, zw_1292, Nat.le_of_ble_eq_true rfl, ⟨_, Or.inl ⟨Nat.le_of_ble_eq_true rfl, rfl⟩, rfl⟩, zw_1290, zw_56⟩) <|
  z_fc (zo_r (by decide +kernel) rfl) <|
  z_fn)
  (z_fn)
theorem zk_263 (xs : List Int32) : z_okm (za_T xs) za_P za_M 263 := z_okm_of ⟨"LyndonBenchModel", "factorsIfRotated", "(I)I"⟩ prog_9_method_118_code zc_263 _ rfl rfl rfl rfl
  (z_fc (zo_l (by decide +kernel) rfl rfl trivial) <|
  z_fc (zo_l (by decide +kernel) rfl rfl trivial) <|
  z_fc (zo_l (by decide +kernel) rfl rfl trivial) <|
  z_fc (zo_l (by decide +kernel) rfl rfl trivial) <|
  z_fc (zo_h (by decide +kernel) rfl ⟨rfl, Nat.le_of_ble_eq_true rfl, _, _, _, Or.inl ⟨Nat.le_of_ble_eq_true rfl, rfl⟩, Nat.le_of_ble_eq_true rfl, zw_1434⟩) <|
  z_fc (zo_l (by decide +kernel) rfl rfl trivial) <|
  z_fc (zo_h (by decide +kernel) rfl rfl) <|
  z_fc (zo_s (by decide +kernel) rfl ⟨zd_148, zw_1215, zw_1216⟩) <|
  z_fc (zo_l (by decide +kernel) rfl rfl (by show ((12 : Nat) : Int) + (7) = ((19 : Nat) : Int); decide)) <|
  z_fc (zo_l (by decide +kernel) rfl rfl trivial) <|
  z_fc (zo_l (by decide +kernel) rfl rfl (by show ((16 : Nat) : Int) + (4) = ((20 : Nat) : Int); decide)) <|
  z_fc (zo_l (by decide +kernel) rfl rfl trivial) <|
  z_fc (zo_v (by decide +kernel) rfl ⟨rfl, zd_149, zw_1522, Nat.le_of_ble_eq_true rfl, ⟨_, Or.inl ⟨Nat.le_of_ble_eq_true rfl, rfl⟩, rfl⟩, zw_1520, zw_93⟩) <|
  z_fc (zo_l (by decide +kernel) rfl rfl (by show ((23 : Nat) : Int) + (12) = ((35 : Nat) : Int); decide)) <|
  z_fc (zo_l (by decide +kernel) rfl rfl trivial) <|
  z_fc (zo_h (by decide +kernel) rfl ⟨rfl, Nat.le_of_ble_eq_true rfl, _, _, _, Or.inl ⟨Nat.le_of_ble_eq_true rfl, rfl⟩, Nat.le_of_ble_eq_true rfl, zw_1434⟩) <|
  z_fc (zo_l (by decide +kernel) rfl rfl trivial) <|
  z_fc (zo_h (by decide +kernel) rfl rfl) <|
  z_fc (zo_l (by decide +kernel) rfl rfl (by show ((32 : Nat) : Int) + (5) = ((37 : Nat) : Int); decide)) <|
  z_fc (zo_l (by decide +kernel) rfl rfl trivial) <|
  z_fc (zo_r (by decide +kernel) rfl) <|
  z_fc (zo_l (by decide +kernel) rfl rfl trivial) <|
  z_fc (zo_l (by decide +kernel) rfl rfl trivial) <|
  z_fc (zo_v (by decide +kernel) rfl ⟨rfl, zd_157, zw_1316, Nat.le_of_ble_eq_true rfl, ⟨_, Or.inl ⟨Nat.le_of_ble_eq_true rfl, rfl⟩, rfl⟩, zw_1314, zw_62⟩) <|
  z_fc (zo_l (by decide +kernel) rfl rfl trivial) <|
  z_fc (zo_v (by decide +kernel) rfl ⟨rfl, zd_159, zw_1292, Nat.le_of_ble_eq_true rfl, ⟨_, Or.inl ⟨Nat.le_of_ble_eq_true rfl, rfl⟩, rfl⟩, zw_1290, zw_56⟩) <|
  z_fc (zo_r (by decide +kernel) rfl) <|
  z_fn)
  (z_fn)
theorem zk_264 (xs : List Int32) : z_okm (za_T xs) za_P za_M 264 := z_okm_of ⟨"LyndonBenchModel", "numberOf", "(II)I"⟩ prog_9_method_119_code zc_264 _ rfl rfl rfl rfl
  (z_fc (zo_l (by decide +kernel) rfl rfl trivial) <|
  z_fc (zo_l (by decide +kernel) rfl rfl trivial) <|
  z_fc (zo_l (by decide +kernel) rfl rfl trivial) <|
  z_fc (zo_l (by decide +kernel) rfl rfl trivial) <|
  z_fc (zo_l (by decide +kernel) rfl rfl trivial) <|
  z_fc (zo_l (by decide +kernel) rfl rfl trivial) <|
  z_fc (zo_l (by decide +kernel) rfl rfl trivial) <|
  z_fc (zo_l (by decide +kernel) rfl rfl trivial) <|
  z_fc (zo_l (by decide +kernel) rfl rfl (by show ((10 : Nat) : Int) + (28) = ((38 : Nat) : Int); decide)) <|
  z_fc (zo_l (by decide +kernel) rfl rfl trivial) <|
  z_fc (zo_h (by decide +kernel) rfl ⟨rfl, Nat.le_of_ble_eq_true rfl, _, _, _, Or.inl ⟨Nat.le_of_ble_eq_true rfl, rfl⟩, Nat.le_of_ble_eq_true rfl, zw_1434⟩) <|
  z_fc (zo_l (by decide +kernel) rfl rfl trivial) <|
  z_fc (zo_h (by decide +kernel) rfl rfl) <|
  z_fc (zo_l (by decide +kernel) rfl rfl trivial) <|
  z_fc (zo_l (by decide +kernel) rfl rfl trivial) <|
  z_fc (zo_l (by decide +kernel) rfl rfl trivial) <|
  z_fc (zo_h (by decide +kernel) rfl ⟨rfl, Nat.le_of_ble_eq_true rfl, _, _, _, Or.inl ⟨Nat.le_of_ble_eq_true rfl, rfl⟩, Nat.le_of_ble_eq_true rfl, zw_1434⟩) <|
  z_fc (zo_l (by decide +kernel) rfl rfl trivial) <|
  z_fc (zo_l (by decide +kernel) rfl rfl trivial) <|
  z_fc (zo_l (by decide +kernel) rfl rfl trivial) <|
  z_fc (zo_h (by decide +kernel) rfl rfl) <|
  z_fc (zo_l (by decide +kernel) rfl rfl trivial) <|
  z_fc (zo_l (by decide +kernel) rfl rfl trivial) <|
  z_fc (zo_l (by decide +kernel) rfl rfl trivial) <|
  z_fc (zo_l (by decide +kernel) rfl rfl (by show ((35 : Nat) : Int) + (-30) = ((5 : Nat) : Int); decide)) <|
  z_fc (zo_l (by decide +kernel) rfl rfl trivial) <|
  z_fc (zo_r (by decide +kernel) rfl) <|
  z_fn)
  (z_fn)
theorem zk_265_0 (xs : List Int32) {l : List zE} (h : ∀ q ∈ l, z_oke' (za_T xs) za_P za_M ⟨"LyndonBenchModel", "rankOf", "(I)I"⟩ prog_9_method_120_code q) : ∀ q ∈ zc_265_0 ++ l, z_oke' (za_T xs) za_P za_M ⟨"LyndonBenchModel", "rankOf", "(I)I"⟩ prog_9_method_120_code q :=
  z_fc (zo_l (by decide +kernel) rfl rfl trivial) <|
  z_fc (zo_l (by decide +kernel) rfl rfl trivial) <|
  z_fc (zo_v (by decide +kernel) rfl ⟨rfl, zd_254, zw_1663, Nat.le_of_ble_eq_true rfl, ⟨_, Or.inl ⟨Nat.le_of_ble_eq_true rfl, rfl⟩, rfl⟩, zw_1661, zw_102⟩) <|
  z_fc (zo_l (by decide +kernel) rfl rfl (by show ((5 : Nat) : Int) + (5) = ((10 : Nat) : Int); decide)) <|
  z_fc (zo_l (by decide +kernel) rfl rfl trivial) <|
  z_fc (zo_r (by decide +kernel) rfl) <|
  z_fc (zo_l (by decide +kernel) rfl rfl trivial) <|
  z_fc (zo_h (by decide +kernel) rfl ⟨rfl, Nat.le_of_ble_eq_true rfl, _, _, _, Or.inl ⟨Nat.le_of_ble_eq_true rfl, rfl⟩, Nat.le_of_ble_eq_true rfl, zw_1443⟩) <|
  z_fc (zo_l (by decide +kernel) rfl rfl trivial) <|
  z_fc (zo_l (by decide +kernel) rfl rfl trivial) <|
  z_fc (zo_l (by decide +kernel) rfl rfl trivial) <|
  z_fc (zo_h (by decide +kernel) rfl rfl) <|
  z_fc (zo_l (by decide +kernel) rfl rfl trivial) <|
  z_fc (zo_h (by decide +kernel) rfl ⟨rfl, Nat.le_of_ble_eq_true rfl, _, _, _, Or.inl ⟨Nat.le_of_ble_eq_true rfl, rfl⟩, Nat.le_of_ble_eq_true rfl, zw_1443⟩) <|
  z_fc (zo_l (by decide +kernel) rfl rfl trivial) <|
  z_fc (zo_h (by decide +kernel) rfl rfl) <|
  z_fc (zo_l (by decide +kernel) rfl rfl trivial) <|
  z_fc (zo_l (by decide +kernel) rfl rfl trivial) <|
  z_fc (zo_l (by decide +kernel) rfl rfl trivial) <|
  z_fc (zo_l (by decide +kernel) rfl rfl trivial) <|
  z_fc (zo_v (by decide +kernel) rfl ⟨rfl, zd_170, zw_1703, Nat.le_of_ble_eq_true rfl, ⟨_, Or.inl ⟨Nat.le_of_ble_eq_true rfl, rfl⟩, rfl⟩, zw_1701, zw_105⟩) <|
  z_fc (zo_l (by decide +kernel) rfl rfl trivial) <|
  z_fc (zo_l (by decide +kernel) rfl rfl (by show ((34 : Nat) : Int) + (5) = ((39 : Nat) : Int); decide)) <|
  z_fc (zo_l (by decide +kernel) rfl rfl trivial) <|
  z_fc (zo_r (by decide +kernel) rfl) <|
  z_fc (zo_l (by decide +kernel) rfl rfl trivial) <|
  z_fc (zo_l (by decide +kernel) rfl rfl trivial) <|
  z_fc (zo_h (by decide +kernel) rfl ⟨rfl, Nat.le_of_ble_eq_true rfl, _, _, _, Or.inl ⟨Nat.le_of_ble_eq_true rfl, rfl⟩, Nat.le_of_ble_eq_true rfl, zw_1443⟩) <|
  z_fc (zo_l (by decide +kernel) rfl rfl trivial) <|
  z_fc (zo_h (by decide +kernel) rfl rfl) <|
  z_fc (zo_l (by decide +kernel) rfl rfl trivial) <|
  z_fc (zo_v (by decide +kernel) rfl ⟨rfl, zd_264, zw_1707, Nat.le_of_ble_eq_true rfl, ⟨_, Or.inl ⟨Nat.le_of_ble_eq_true rfl, rfl⟩, rfl⟩, zw_1705, zw_106⟩) <|
  z_fc (zo_l (by decide +kernel) rfl rfl trivial) <|
  z_fc (zo_l (by decide +kernel) rfl rfl trivial) <|
  z_fc (zo_l (by decide +kernel) rfl rfl trivial) <|
  z_fc (zo_l (by decide +kernel) rfl rfl trivial) <|
  z_fc (zo_l (by decide +kernel) rfl rfl trivial) <|
  z_fc (zo_l (by decide +kernel) rfl rfl trivial) <|
  z_fc (zo_l (by decide +kernel) rfl rfl trivial) <|
  z_fc (zo_l (by decide +kernel) rfl rfl (by show ((60 : Nat) : Int) + (40) = ((100 : Nat) : Int); decide)) <|
  h
theorem zk_265_1 (xs : List Int32) {l : List zE} (h : ∀ q ∈ l, z_oke' (za_T xs) za_P za_M ⟨"LyndonBenchModel", "rankOf", "(I)I"⟩ prog_9_method_120_code q) : ∀ q ∈ zc_265_1 ++ l, z_oke' (za_T xs) za_P za_M ⟨"LyndonBenchModel", "rankOf", "(I)I"⟩ prog_9_method_120_code q :=
  z_fc (zo_l (by decide +kernel) rfl rfl trivial) <|
  z_fc (zo_l (by decide +kernel) rfl rfl trivial) <|
  z_fc (zo_l (by decide +kernel) rfl rfl trivial) <|
  z_fc (zo_v (by decide +kernel) rfl ⟨rfl, zd_171, zw_1711, Nat.le_of_ble_eq_true rfl, ⟨_, Or.inl ⟨Nat.le_of_ble_eq_true rfl, rfl⟩, rfl⟩, zw_1709, zw_107⟩) <|
  z_fc (zo_l (by decide +kernel) rfl rfl trivial) <|
  z_fc (zo_l (by decide +kernel) rfl rfl trivial) <|
  z_fc (zo_v (by decide +kernel) rfl ⟨rfl, zd_162, zw_1356, Nat.le_of_ble_eq_true rfl, ⟨_, Or.inl ⟨Nat.le_of_ble_eq_true rfl, rfl⟩, rfl⟩, zw_1354, zw_72⟩) <|
  z_fc (zo_l (by decide +kernel) rfl rfl (by show ((76 : Nat) : Int) + (14) = ((90 : Nat) : Int); decide)) <|
  z_fc (zo_l (by decide +kernel) rfl rfl trivial) <|
  z_fc (zo_v (by decide +kernel) rfl ⟨rfl, zd_163, zw_1364, Nat.le_of_ble_eq_true rfl, ⟨_, Or.inl ⟨Nat.le_of_ble_eq_true rfl, rfl⟩, rfl⟩, zw_1362, zw_74⟩) <|
  z_fc (zo_l (by decide +kernel) rfl rfl (by show ((83 : Nat) : Int) + (7) = ((90 : Nat) : Int); decide)) <|
  z_fc (zo_l (by decide +kernel) rfl rfl trivial) <|
  z_fc (zo_l (by decide +kernel) rfl rfl (by show ((87 : Nat) : Int) + (4) = ((91 : Nat) : Int); decide)) <|
  z_fc (zo_l (by decide +kernel) rfl rfl trivial) <|
  z_fc (zo_l (by decide +kernel) rfl rfl trivial) <|
  z_fc (zo_l (by decide +kernel) rfl rfl trivial) <|
  z_fc (zo_l (by decide +kernel) rfl rfl trivial) <|
  z_fc (zo_l (by decide +kernel) rfl rfl (by show ((97 : Nat) : Int) + (-40) = ((57 : Nat) : Int); decide)) <|
  z_fc (zo_l (by decide +kernel) rfl rfl trivial) <|
  z_fc (zo_r (by decide +kernel) rfl) <|
  h
theorem zk_265 (xs : List Int32) : z_okm (za_T xs) za_P za_M 265 := z_okm_of ⟨"LyndonBenchModel", "rankOf", "(I)I"⟩ prog_9_method_120_code zc_265 _ rfl rfl rfl rfl
  (zk_265_0 xs <|
  zk_265_1 xs <|
  z_fn)
  (z_fn)
theorem zk_266 (xs : List Int32) : z_okm (za_T xs) za_P za_M 266 := z_okm_of ⟨"LyndonBenchModel", "isLyndon", "()Z"⟩ prog_9_method_121_code zc_266 _ rfl rfl rfl rfl
  (z_fc (zo_l (by decide +kernel) rfl rfl trivial) <|
  z_fc (zo_l (by decide +kernel) rfl rfl trivial) <|
  z_fc (zo_h (by decide +kernel) rfl ⟨rfl, Nat.le_of_ble_eq_true rfl, _, _, _, rfl, Nat.le_of_ble_eq_true rfl, zw_1451, Or.inl rfl⟩) <|
  z_fc (zo_l (by decide +kernel) rfl rfl trivial) <|
  z_fc (zo_v (by decide +kernel) rfl ⟨rfl, zd_165, zw_1352, Nat.le_of_ble_eq_true rfl, ⟨_, Or.inl ⟨Nat.le_of_ble_eq_true rfl, rfl⟩, rfl⟩, zw_1350, zw_71⟩) <|
  z_fc (zo_l (by decide +kernel) rfl rfl (by show ((9 : Nat) : Int) + (7) = ((16 : Nat) : Int); decide)) <|
  z_fc (zo_l (by decide +kernel) rfl rfl trivial) <|
  z_fc (zo_l (by decide +kernel) rfl rfl (by show ((13 : Nat) : Int) + (4) = ((17 : Nat) : Int); decide)) <|
  z_fc (zo_l (by decide +kernel) rfl rfl trivial) <|
  z_fc (zo_r (by decide +kernel) rfl) <|
  z_fn)
  (z_fn)
theorem zk_267 (xs : List Int32) : z_okm (za_T xs) za_P za_M 267 := z_okm_of ⟨"LyndonBenchModel", "whyNotLyndon", "()I"⟩ prog_9_method_122_code zc_267 _ rfl rfl rfl rfl
  (z_fc (zo_l (by decide +kernel) rfl rfl trivial) <|
  z_fc (zo_l (by decide +kernel) rfl rfl trivial) <|
  z_fc (zo_h (by decide +kernel) rfl ⟨rfl, Nat.le_of_ble_eq_true rfl, _, _, _, rfl, Nat.le_of_ble_eq_true rfl, zw_1451, Or.inl rfl⟩) <|
  z_fc (zo_l (by decide +kernel) rfl rfl trivial) <|
  z_fc (zo_v (by decide +kernel) rfl ⟨rfl, zd_165, zw_1352, Nat.le_of_ble_eq_true rfl, ⟨_, Or.inl ⟨Nat.le_of_ble_eq_true rfl, rfl⟩, rfl⟩, zw_1350, zw_71⟩) <|
  z_fc (zo_r (by decide +kernel) rfl) <|
  z_fn)
  (z_fn)
theorem zk_268 (xs : List Int32) : z_okm (za_T xs) za_P za_M 268 := z_okm_of ⟨"LyndonBenchModel", "isNecklace", "()Z"⟩ prog_9_method_123_code zc_268 _ rfl rfl rfl rfl
  (z_fc (zo_l (by decide +kernel) rfl rfl trivial) <|
  z_fc (zo_l (by decide +kernel) rfl rfl trivial) <|
  z_fc (zo_h (by decide +kernel) rfl ⟨rfl, Nat.le_of_ble_eq_true rfl, _, _, _, rfl, Nat.le_of_ble_eq_true rfl, zw_1451, Or.inl rfl⟩) <|
  z_fc (zo_l (by decide +kernel) rfl rfl trivial) <|
  z_fc (zo_v (by decide +kernel) rfl ⟨rfl, zd_155, zw_1276, Nat.le_of_ble_eq_true rfl, ⟨_, Or.inl ⟨Nat.le_of_ble_eq_true rfl, rfl⟩, rfl⟩, zw_1274, zw_52⟩) <|
  z_fc (zo_l (by decide +kernel) rfl rfl trivial) <|
  z_fc (zo_v (by decide +kernel) rfl ⟨rfl, zd_163, zw_1364, Nat.le_of_ble_eq_true rfl, ⟨_, Or.inl ⟨Nat.le_of_ble_eq_true rfl, rfl⟩, rfl⟩, zw_1362, zw_74⟩) <|
  z_fc (zo_r (by decide +kernel) rfl) <|
  z_fn)
  (z_fn)
theorem zk_269 (xs : List Int32) : z_okm (za_T xs) za_P za_M 269 := z_okm_of ⟨"LyndonBenchModel", "isPrenecklace", "()Z"⟩ prog_9_method_124_code zc_269 _ rfl rfl rfl rfl
  (z_fc (zo_l (by decide +kernel) rfl rfl trivial) <|
  z_fc (zo_l (by decide +kernel) rfl rfl trivial) <|
  z_fc (zo_h (by decide +kernel) rfl ⟨rfl, Nat.le_of_ble_eq_true rfl, _, _, _, rfl, Nat.le_of_ble_eq_true rfl, zw_1451, Or.inl rfl⟩) <|
  z_fc (zo_l (by decide +kernel) rfl rfl trivial) <|
  z_fc (zo_v (by decide +kernel) rfl ⟨rfl, zd_155, zw_1276, Nat.le_of_ble_eq_true rfl, ⟨_, Or.inl ⟨Nat.le_of_ble_eq_true rfl, rfl⟩, rfl⟩, zw_1274, zw_52⟩) <|
  z_fc (zo_l (by decide +kernel) rfl rfl trivial) <|
  z_fc (zo_v (by decide +kernel) rfl ⟨rfl, zd_164, zw_1731, Nat.le_of_ble_eq_true rfl, ⟨_, Or.inl ⟨Nat.le_of_ble_eq_true rfl, rfl⟩, rfl⟩, zw_1729, zw_108⟩) <|
  z_fc (zo_r (by decide +kernel) rfl) <|
  z_fn)
  (z_fn)
theorem zk_270 (xs : List Int32) : z_okm (za_T xs) za_P za_M 270 := z_okm_of ⟨"LyndonBenchModel", "keepingLetter", "()I"⟩ prog_9_method_125_code zc_270 _ rfl rfl rfl rfl
  (z_fc (zo_l (by decide +kernel) rfl rfl trivial) <|
  z_fc (zo_l (by decide +kernel) rfl rfl trivial) <|
  z_fc (zo_h (by decide +kernel) rfl ⟨rfl, Nat.le_of_ble_eq_true rfl, _, _, _, rfl, Nat.le_of_ble_eq_true rfl, zw_1451, Or.inl rfl⟩) <|
  z_fc (zo_l (by decide +kernel) rfl rfl trivial) <|
  z_fc (zo_v (by decide +kernel) rfl ⟨rfl, zd_155, zw_1276, Nat.le_of_ble_eq_true rfl, ⟨_, Or.inl ⟨Nat.le_of_ble_eq_true rfl, rfl⟩, rfl⟩, zw_1274, zw_52⟩) <|
  z_fc (zo_l (by decide +kernel) rfl rfl trivial) <|
  z_fc (zo_v (by decide +kernel) rfl ⟨rfl, zd_164, zw_1731, Nat.le_of_ble_eq_true rfl, ⟨_, Or.inl ⟨Nat.le_of_ble_eq_true rfl, rfl⟩, rfl⟩, zw_1729, zw_108⟩) <|
  z_fc (zo_l (by decide +kernel) rfl rfl (by show ((13 : Nat) : Int) + (5) = ((18 : Nat) : Int); decide)) <|
  z_fc (zo_l (by decide +kernel) rfl rfl trivial) <|
  z_fc (zo_r (by decide +kernel) rfl) <|
  z_fc (zo_l (by decide +kernel) rfl rfl trivial) <|
  z_fc (zo_l (by decide +kernel) rfl rfl trivial) <|
  z_fc (zo_l (by decide +kernel) rfl rfl trivial) <|
  z_fc (zo_l (by decide +kernel) rfl rfl trivial) <|
  z_fc (zo_h (by decide +kernel) rfl ⟨rfl, Nat.le_of_ble_eq_true rfl, _, _, _, Or.inl ⟨Nat.le_of_ble_eq_true rfl, rfl⟩, Nat.le_of_ble_eq_true rfl, zw_1434⟩) <|
  z_fc (zo_l (by decide +kernel) rfl rfl trivial) <|
  z_fc (zo_h (by decide +kernel) rfl rfl) <|
  z_fc (zo_l (by decide +kernel) rfl rfl (by show ((27 : Nat) : Int) + (30) = ((57 : Nat) : Int); decide)) <|
  z_fc (zo_l (by decide +kernel) rfl rfl trivial) <|
  z_fc (zo_v (by decide +kernel) rfl ⟨rfl, zd_155, zw_1276, Nat.le_of_ble_eq_true rfl, ⟨_, Or.inl ⟨Nat.le_of_ble_eq_true rfl, rfl⟩, rfl⟩, zw_1274, zw_52⟩) <|
  z_fc (zo_l (by decide +kernel) rfl rfl trivial) <|
  z_fc (zo_l (by decide +kernel) rfl rfl trivial) <|
  z_fc (zo_v (by decide +kernel) rfl ⟨rfl, zd_156, zw_1432, Nat.le_of_ble_eq_true rfl, ⟨_, Or.inl ⟨Nat.le_of_ble_eq_true rfl, rfl⟩, rfl⟩, zw_1430, zw_91⟩) <|
  z_fc (zo_l (by decide +kernel) rfl rfl trivial) <|
  z_fc (zo_v (by decide +kernel) rfl ⟨rfl, zd_164, zw_1731, Nat.le_of_ble_eq_true rfl, ⟨_, Or.inl ⟨Nat.le_of_ble_eq_true rfl, rfl⟩, rfl⟩, zw_1729, zw_108⟩) <|
  z_fc (zo_l (by decide +kernel) rfl rfl (by show ((43 : Nat) : Int) + (8) = ((51 : Nat) : Int); decide)) <|
  z_fc (zo_l (by decide +kernel) rfl rfl trivial) <|
  z_fc (zo_l (by decide +kernel) rfl rfl trivial) <|
  z_fc (zo_l (by decide +kernel) rfl rfl trivial) <|
  z_fc (zo_r (by decide +kernel) rfl) <|
  z_fc (zo_l (by decide +kernel) rfl rfl trivial) <|
  z_fc (zo_l (by decide +kernel) rfl rfl (by show ((54 : Nat) : Int) + (-34) = ((20 : Nat) : Int); decide)) <|
  z_fc (zo_l (by decide +kernel) rfl rfl trivial) <|
  z_fc (zo_r (by decide +kernel) rfl) <|
  z_fn)
  (z_fn)
theorem zk_271 (xs : List Int32) : z_okm (za_T xs) za_P za_M 271 := z_okm_of ⟨"LyndonBenchModel", "leastRotation", "()I"⟩ prog_9_method_126_code zc_271 _ rfl rfl rfl rfl
  (z_fc (zo_l (by decide +kernel) rfl rfl trivial) <|
  z_fc (zo_l (by decide +kernel) rfl rfl trivial) <|
  z_fc (zo_h (by decide +kernel) rfl ⟨rfl, Nat.le_of_ble_eq_true rfl, _, _, _, rfl, Nat.le_of_ble_eq_true rfl, zw_1451, Or.inl rfl⟩) <|
  z_fc (zo_l (by decide +kernel) rfl rfl trivial) <|
  z_fc (zo_v (by decide +kernel) rfl ⟨rfl, zd_168, zw_1336, Nat.le_of_ble_eq_true rfl, ⟨_, Or.inl ⟨Nat.le_of_ble_eq_true rfl, rfl⟩, rfl⟩, zw_1334, zw_67⟩) <|
  z_fc (zo_r (by decide +kernel) rfl) <|
  z_fn)
  (z_fn)
theorem zk_272 (xs : List Int32) : z_okm (za_T xs) za_P za_M 272 := z_okm_of ⟨"LyndonBenchModel", "rotationCount", "()I"⟩ prog_9_method_127_code zc_272 _ rfl rfl rfl rfl
  (z_fc (zo_l (by decide +kernel) rfl rfl trivial) <|
  z_fc (zo_l (by decide +kernel) rfl rfl trivial) <|
  z_fc (zo_h (by decide +kernel) rfl ⟨rfl, Nat.le_of_ble_eq_true rfl, _, _, _, rfl, Nat.le_of_ble_eq_true rfl, zw_1451, Or.inl rfl⟩) <|
  z_fc (zo_l (by decide +kernel) rfl rfl trivial) <|
  z_fc (zo_v (by decide +kernel) rfl ⟨rfl, zd_155, zw_1276, Nat.le_of_ble_eq_true rfl, ⟨_, Or.inl ⟨Nat.le_of_ble_eq_true rfl, rfl⟩, rfl⟩, zw_1274, zw_52⟩) <|
  z_fc (zo_l (by decide +kernel) rfl rfl trivial) <|
  z_fc (zo_v (by decide +kernel) rfl ⟨rfl, zd_172, zw_1747, Nat.le_of_ble_eq_true rfl, ⟨_, Or.inl ⟨Nat.le_of_ble_eq_true rfl, rfl⟩, rfl⟩, zw_1745, zw_109⟩) <|
  z_fc (zo_r (by decide +kernel) rfl) <|
  z_fn)
  (z_fn)
theorem zk_273 (xs : List Int32) : z_okm (za_T xs) za_P za_M 273 := z_okm_of ⟨"LyndonBenchModel", "smallestPeriod", "()I"⟩ prog_9_method_128_code zc_273 _ rfl rfl rfl rfl
  (z_fc (zo_l (by decide +kernel) rfl rfl trivial) <|
  z_fc (zo_l (by decide +kernel) rfl rfl trivial) <|
  z_fc (zo_h (by decide +kernel) rfl ⟨rfl, Nat.le_of_ble_eq_true rfl, _, _, _, rfl, Nat.le_of_ble_eq_true rfl, zw_1451, Or.inl rfl⟩) <|
  z_fc (zo_l (by decide +kernel) rfl rfl trivial) <|
  z_fc (zo_v (by decide +kernel) rfl ⟨rfl, zd_166, zw_1755, Nat.le_of_ble_eq_true rfl, ⟨_, Or.inl ⟨Nat.le_of_ble_eq_true rfl, rfl⟩, rfl⟩, zw_1753, zw_110⟩) <|
  z_fc (zo_r (by decide +kernel) rfl) <|
  z_fn)
  (z_fn)
theorem zk_274 (xs : List Int32) : z_okm (za_T xs) za_P za_M 274 := z_okm_of ⟨"LyndonBenchModel", "longestBorder", "()I"⟩ prog_9_method_129_code zc_274 _ rfl rfl rfl rfl
  (z_fc (zo_l (by decide +kernel) rfl rfl trivial) <|
  z_fc (zo_l (by decide +kernel) rfl rfl trivial) <|
  z_fc (zo_h (by decide +kernel) rfl ⟨rfl, Nat.le_of_ble_eq_true rfl, _, _, _, rfl, Nat.le_of_ble_eq_true rfl, zw_1451, Or.inl rfl⟩) <|
  z_fc (zo_l (by decide +kernel) rfl rfl trivial) <|
  z_fc (zo_h (by decide +kernel) rfl ⟨rfl, Nat.le_of_ble_eq_true rfl, _, _, _, Or.inl ⟨Nat.le_of_ble_eq_true rfl, rfl⟩, Nat.le_of_ble_eq_true rfl, zw_1434⟩) <|
  z_fc (zo_l (by decide +kernel) rfl rfl trivial) <|
  z_fc (zo_h (by decide +kernel) rfl rfl) <|
  z_fc (zo_l (by decide +kernel) rfl rfl trivial) <|
  z_fc (zo_v (by decide +kernel) rfl ⟨rfl, zd_166, zw_1755, Nat.le_of_ble_eq_true rfl, ⟨_, Or.inl ⟨Nat.le_of_ble_eq_true rfl, rfl⟩, rfl⟩, zw_1753, zw_110⟩) <|
  z_fc (zo_l (by decide +kernel) rfl rfl trivial) <|
  z_fc (zo_r (by decide +kernel) rfl) <|
  z_fn)
  (z_fn)
theorem zk_275 (xs : List Int32) : z_okm (za_T xs) za_P za_M 275 := z_okm_of ⟨"LyndonBenchModel", "leastSuffix", "()I"⟩ prog_9_method_130_code zc_275 _ rfl rfl rfl rfl
  (z_fc (zo_l (by decide +kernel) rfl rfl trivial) <|
  z_fc (zo_l (by decide +kernel) rfl rfl trivial) <|
  z_fc (zo_h (by decide +kernel) rfl ⟨rfl, Nat.le_of_ble_eq_true rfl, _, _, _, rfl, Nat.le_of_ble_eq_true rfl, zw_1451, Or.inl rfl⟩) <|
  z_fc (zo_l (by decide +kernel) rfl rfl trivial) <|
  z_fc (zo_l (by decide +kernel) rfl rfl trivial) <|
  z_fc (zo_v (by decide +kernel) rfl ⟨rfl, zd_169, zw_1767, Nat.le_of_ble_eq_true rfl, ⟨_, Or.inl ⟨Nat.le_of_ble_eq_true rfl, rfl⟩, rfl⟩, zw_1765, zw_111⟩) <|
  z_fc (zo_r (by decide +kernel) rfl) <|
  z_fn)
  (z_fn)
theorem zk_276 (xs : List Int32) : z_okm (za_T xs) za_P za_M 276 := z_okm_of ⟨"LyndonBenchModel", "greatestSuffix", "()I"⟩ prog_9_method_131_code zc_276 _ rfl rfl rfl rfl
  (z_fc (zo_l (by decide +kernel) rfl rfl trivial) <|
  z_fc (zo_l (by decide +kernel) rfl rfl trivial) <|
  z_fc (zo_h (by decide +kernel) rfl ⟨rfl, Nat.le_of_ble_eq_true rfl, _, _, _, rfl, Nat.le_of_ble_eq_true rfl, zw_1451, Or.inl rfl⟩) <|
  z_fc (zo_l (by decide +kernel) rfl rfl trivial) <|
  z_fc (zo_l (by decide +kernel) rfl rfl trivial) <|
  z_fc (zo_v (by decide +kernel) rfl ⟨rfl, zd_169, zw_1767, Nat.le_of_ble_eq_true rfl, ⟨_, Or.inl ⟨Nat.le_of_ble_eq_true rfl, rfl⟩, rfl⟩, zw_1765, zw_111⟩) <|
  z_fc (zo_r (by decide +kernel) rfl) <|
  z_fn)
  (z_fn)
theorem zk_277 (xs : List Int32) : z_okm (za_T xs) za_P za_M 277 := z_okm_of ⟨"LyndonBenchModel", "lyndonWords", "(I)J"⟩ prog_9_method_132_code zc_277 _ rfl rfl rfl rfl
  (z_fc (zo_l (by decide +kernel) rfl rfl trivial) <|
  z_fc (zo_l (by decide +kernel) rfl rfl trivial) <|
  z_fc (zo_l (by decide +kernel) rfl rfl trivial) <|
  z_fc (zo_l (by decide +kernel) rfl rfl trivial) <|
  z_fc (zo_s (by decide +kernel) rfl ⟨zd_148, zw_1215, zw_1216⟩) <|
  z_fc (zo_l (by decide +kernel) rfl rfl (by show ((8 : Nat) : Int) + (7) = ((15 : Nat) : Int); decide)) <|
  z_fc (zo_l (by decide +kernel) rfl rfl trivial) <|
  z_fc (zo_l (by decide +kernel) rfl rfl (by show ((12 : Nat) : Int) + (4) = ((16 : Nat) : Int); decide)) <|
  z_fc (zo_l (by decide +kernel) rfl rfl trivial) <|
  z_fc (zo_v (by decide +kernel) rfl ⟨rfl, zd_149, zw_1522, Nat.le_of_ble_eq_true rfl, ⟨_, Or.inl ⟨Nat.le_of_ble_eq_true rfl, rfl⟩, rfl⟩, zw_1520, zw_93⟩) <|
  z_fc (zo_l (by decide +kernel) rfl rfl (by show ((19 : Nat) : Int) + (7) = ((26 : Nat) : Int); decide)) <|
  z_fc (zo_l (by decide +kernel) rfl rfl trivial) <|
  z_fc (zo_l (by decide +kernel) rfl rfl (by show ((23 : Nat) : Int) + (11) = ((34 : Nat) : Int); decide)) <|
  z_fc (zo_l (by decide +kernel) rfl rfl trivial) <|
  z_fc (zo_l (by decide +kernel) rfl rfl trivial) <|
  z_fc (zo_v (by decide +kernel) rfl ⟨rfl, zd_173, zw_1779, Nat.le_of_ble_eq_true rfl, ⟨_, Or.inl ⟨Nat.le_of_ble_eq_true rfl, rfl⟩, rfl⟩, zw_1777, zw_112⟩) <|
  z_fc (zo_l (by decide +kernel) rfl rfl trivial) <|
  z_fc (zo_l (by decide +kernel) rfl rfl trivial) <|
  z_fc (zo_l (by decide +kernel) rfl rfl trivial) <|
  z_fc (zo_r (by decide +kernel) rfl) <|
  z_fn)
  (z_fn)
theorem zk_278 (xs : List Int32) : z_okm (za_T xs) za_P za_M 278 := z_okm_of ⟨"LyndonBenchModel", "necklaces", "(I)J"⟩ prog_9_method_133_code zc_278 _ rfl rfl rfl rfl
  (z_fc (zo_l (by decide +kernel) rfl rfl trivial) <|
  z_fc (zo_l (by decide +kernel) rfl rfl trivial) <|
  z_fc (zo_l (by decide +kernel) rfl rfl trivial) <|
  z_fc (zo_l (by decide +kernel) rfl rfl trivial) <|
  z_fc (zo_s (by decide +kernel) rfl ⟨zd_148, zw_1215, zw_1216⟩) <|
  z_fc (zo_l (by decide +kernel) rfl rfl (by show ((8 : Nat) : Int) + (7) = ((15 : Nat) : Int); decide)) <|
  z_fc (zo_l (by decide +kernel) rfl rfl trivial) <|
  z_fc (zo_l (by decide +kernel) rfl rfl (by show ((12 : Nat) : Int) + (4) = ((16 : Nat) : Int); decide)) <|
  z_fc (zo_l (by decide +kernel) rfl rfl trivial) <|
  z_fc (zo_v (by decide +kernel) rfl ⟨rfl, zd_149, zw_1522, Nat.le_of_ble_eq_true rfl, ⟨_, Or.inl ⟨Nat.le_of_ble_eq_true rfl, rfl⟩, rfl⟩, zw_1520, zw_93⟩) <|
  z_fc (zo_l (by decide +kernel) rfl rfl (by show ((19 : Nat) : Int) + (7) = ((26 : Nat) : Int); decide)) <|
  z_fc (zo_l (by decide +kernel) rfl rfl trivial) <|
  z_fc (zo_l (by decide +kernel) rfl rfl (by show ((23 : Nat) : Int) + (8) = ((31 : Nat) : Int); decide)) <|
  z_fc (zo_l (by decide +kernel) rfl rfl trivial) <|
  z_fc (zo_l (by decide +kernel) rfl rfl trivial) <|
  z_fc (zo_v (by decide +kernel) rfl ⟨rfl, zd_174, zw_1787, Nat.le_of_ble_eq_true rfl, ⟨_, Or.inl ⟨Nat.le_of_ble_eq_true rfl, rfl⟩, rfl⟩, zw_1785, zw_113⟩) <|
  z_fc (zo_r (by decide +kernel) rfl) <|
  z_fn)
  (z_fn)
theorem zk_279_0 (xs : List Int32) {l : List zE} (h : ∀ q ∈ l, z_oke' (za_T xs) za_P za_M ⟨"LyndonBenchModel", "bruijnLetter", "(II)I"⟩ prog_9_method_134_code q) : ∀ q ∈ zc_279_0 ++ l, z_oke' (za_T xs) za_P za_M ⟨"LyndonBenchModel", "bruijnLetter", "(II)I"⟩ prog_9_method_134_code q :=
  z_fc (zo_l (by decide +kernel) rfl rfl trivial) <|
  z_fc (zo_l (by decide +kernel) rfl rfl trivial) <|
  z_fc (zo_l (by decide +kernel) rfl rfl trivial) <|
  z_fc (zo_s (by decide +kernel) rfl ⟨zd_148, zw_1215, zw_1216⟩) <|
  z_fc (zo_l (by decide +kernel) rfl rfl (by show ((7 : Nat) : Int) + (14) = ((21 : Nat) : Int); decide)) <|
  z_fc (zo_l (by decide +kernel) rfl rfl trivial) <|
  z_fc (zo_l (by decide +kernel) rfl rfl trivial) <|
  z_fc (zo_v (by decide +kernel) rfl ⟨rfl, zd_170, zw_1703, Nat.le_of_ble_eq_true rfl, ⟨_, Or.inl ⟨Nat.le_of_ble_eq_true rfl, rfl⟩, rfl⟩, zw_1701, zw_105⟩) <|
  z_fc (zo_l (by decide +kernel) rfl rfl trivial) <|
  z_fc (zo_l (by decide +kernel) rfl rfl (by show ((18 : Nat) : Int) + (7) = ((25 : Nat) : Int); decide)) <|
  z_fc (zo_l (by decide +kernel) rfl rfl trivial) <|
  z_fc (zo_l (by decide +kernel) rfl rfl (by show ((22 : Nat) : Int) + (4) = ((26 : Nat) : Int); decide)) <|
  z_fc (zo_l (by decide +kernel) rfl rfl trivial) <|
  z_fc (zo_l (by decide +kernel) rfl rfl trivial) <|
  z_fc (zo_l (by decide +kernel) rfl rfl trivial) <|
  z_fc (zo_l (by decide +kernel) rfl rfl trivial) <|
  z_fc (zo_l (by decide +kernel) rfl rfl trivial) <|
  z_fc (zo_l (by decide +kernel) rfl rfl (by show ((30 : Nat) : Int) + (22) = ((52 : Nat) : Int); decide)) <|
  z_fc (zo_l (by decide +kernel) rfl rfl trivial) <|
  z_fc (zo_l (by decide +kernel) rfl rfl trivial) <|
  z_fc (zo_l (by decide +kernel) rfl rfl trivial) <|
  z_fc (zo_l (by decide +kernel) rfl rfl trivial) <|
  z_fc (zo_v (by decide +kernel) rfl ⟨rfl, zd_170, zw_1703, Nat.le_of_ble_eq_true rfl, ⟨_, Or.inl ⟨Nat.le_of_ble_eq_true rfl, rfl⟩, rfl⟩, zw_1701, zw_105⟩) <|
  z_fc (zo_l (by decide +kernel) rfl rfl trivial) <|
  z_fc (zo_l (by decide +kernel) rfl rfl trivial) <|
  z_fc (zo_s (by decide +kernel) rfl ⟨zd_148, zw_1215, zw_1216⟩) <|
  z_fc (zo_l (by decide +kernel) rfl rfl (by show ((45 : Nat) : Int) + (7) = ((52 : Nat) : Int); decide)) <|
  z_fc (zo_l (by decide +kernel) rfl rfl trivial) <|
  z_fc (zo_l (by decide +kernel) rfl rfl (by show ((49 : Nat) : Int) + (4) = ((53 : Nat) : Int); decide)) <|
  z_fc (zo_l (by decide +kernel) rfl rfl trivial) <|
  z_fc (zo_v (by decide +kernel) rfl ⟨rfl, zd_150, zw_1547, Nat.le_of_ble_eq_true rfl, ⟨_, Or.inl ⟨Nat.le_of_ble_eq_true rfl, rfl⟩, rfl⟩, zw_1545, zw_97⟩) <|
  z_fc (zo_l (by decide +kernel) rfl rfl (by show ((56 : Nat) : Int) + (5) = ((61 : Nat) : Int); decide)) <|
  z_fc (zo_l (by decide +kernel) rfl rfl trivial) <|
  z_fc (zo_r (by decide +kernel) rfl) <|
  z_fc (zo_l (by decide +kernel) rfl rfl trivial) <|
  z_fc (zo_l (by decide +kernel) rfl rfl trivial) <|
  z_fc (zo_l (by decide +kernel) rfl rfl trivial) <|
  z_fc (zo_l (by decide +kernel) rfl rfl trivial) <|
  z_fc (zo_l (by decide +kernel) rfl rfl trivial) <|
  z_fc (zo_l (by decide +kernel) rfl rfl trivial) <|
  h
theorem zk_279_1 (xs : List Int32) {l : List zE} (h : ∀ q ∈ l, z_oke' (za_T xs) za_P za_M ⟨"LyndonBenchModel", "bruijnLetter", "(II)I"⟩ prog_9_method_134_code q) : ∀ q ∈ zc_279_1 ++ l, z_oke' (za_T xs) za_P za_M ⟨"LyndonBenchModel", "bruijnLetter", "(II)I"⟩ prog_9_method_134_code q :=
  z_fc (zo_l (by decide +kernel) rfl rfl trivial) <|
  z_fc (zo_v (by decide +kernel) rfl ⟨rfl, zd_170, zw_1703, Nat.le_of_ble_eq_true rfl, ⟨_, Or.inl ⟨Nat.le_of_ble_eq_true rfl, rfl⟩, rfl⟩, zw_1701, zw_105⟩) <|
  z_fc (zo_l (by decide +kernel) rfl rfl (by show ((74 : Nat) : Int) + (58) = ((132 : Nat) : Int); decide)) <|
  z_fc (zo_l (by decide +kernel) rfl rfl trivial) <|
  z_fc (zo_l (by decide +kernel) rfl rfl trivial) <|
  z_fc (zo_l (by decide +kernel) rfl rfl trivial) <|
  z_fc (zo_v (by decide +kernel) rfl ⟨rfl, zd_171, zw_1711, Nat.le_of_ble_eq_true rfl, ⟨_, Or.inl ⟨Nat.le_of_ble_eq_true rfl, rfl⟩, rfl⟩, zw_1709, zw_107⟩) <|
  z_fc (zo_l (by decide +kernel) rfl rfl trivial) <|
  z_fc (zo_v (by decide +kernel) rfl ⟨rfl, zd_163, zw_1364, Nat.le_of_ble_eq_true rfl, ⟨_, Or.inl ⟨Nat.le_of_ble_eq_true rfl, rfl⟩, rfl⟩, zw_1362, zw_74⟩) <|
  z_fc (zo_l (by decide +kernel) rfl rfl (by show ((88 : Nat) : Int) + (10) = ((98 : Nat) : Int); decide)) <|
  z_fc (zo_l (by decide +kernel) rfl rfl trivial) <|
  z_fc (zo_v (by decide +kernel) rfl ⟨rfl, zd_172, zw_1747, Nat.le_of_ble_eq_true rfl, ⟨_, Or.inl ⟨Nat.le_of_ble_eq_true rfl, rfl⟩, rfl⟩, zw_1745, zw_109⟩) <|
  z_fc (zo_l (by decide +kernel) rfl rfl (by show ((95 : Nat) : Int) + (4) = ((99 : Nat) : Int); decide)) <|
  z_fc (zo_l (by decide +kernel) rfl rfl trivial) <|
  z_fc (zo_l (by decide +kernel) rfl rfl trivial) <|
  z_fc (zo_l (by decide +kernel) rfl rfl trivial) <|
  z_fc (zo_l (by decide +kernel) rfl rfl trivial) <|
  z_fc (zo_l (by decide +kernel) rfl rfl (by show ((105 : Nat) : Int) + (14) = ((119 : Nat) : Int); decide)) <|
  z_fc (zo_l (by decide +kernel) rfl rfl trivial) <|
  z_fc (zo_l (by decide +kernel) rfl rfl trivial) <|
  z_fc (zo_h (by decide +kernel) rfl ⟨rfl, Nat.le_of_ble_eq_true rfl, _, _, _, Or.inl ⟨Nat.le_of_ble_eq_true rfl, rfl⟩, Nat.le_of_ble_eq_true rfl, zw_1442⟩) <|
  z_fc (zo_l (by decide +kernel) rfl rfl trivial) <|
  z_fc (zo_h (by decide +kernel) rfl rfl) <|
  z_fc (zo_l (by decide +kernel) rfl rfl trivial) <|
  z_fc (zo_r (by decide +kernel) rfl) <|
  z_fc (zo_l (by decide +kernel) rfl rfl trivial) <|
  z_fc (zo_l (by decide +kernel) rfl rfl trivial) <|
  z_fc (zo_l (by decide +kernel) rfl rfl trivial) <|
  z_fc (zo_l (by decide +kernel) rfl rfl trivial) <|
  z_fc (zo_l (by decide +kernel) rfl rfl trivial) <|
  z_fc (zo_l (by decide +kernel) rfl rfl (by show ((129 : Nat) : Int) + (-62) = ((67 : Nat) : Int); decide)) <|
  z_fc (zo_l (by decide +kernel) rfl rfl trivial) <|
  z_fc (zo_r (by decide +kernel) rfl) <|
  h
theorem zk_279 (xs : List Int32) : z_okm (za_T xs) za_P za_M 279 := z_okm_of ⟨"LyndonBenchModel", "bruijnLetter", "(II)I"⟩ prog_9_method_134_code zc_279 _ rfl rfl rfl rfl
  (zk_279_0 xs <|
  zk_279_1 xs <|
  z_fn)
  (z_fn)
theorem zk_280 (xs : List Int32) : z_okm (za_T xs) za_P za_M 280 := z_okm_of ⟨"LyndonBenchModel", "keptCount", "()I"⟩ prog_9_method_135_code zc_280 _ rfl rfl rfl rfl
  (z_fc (zo_l (by decide +kernel) rfl rfl trivial) <|
  z_fc (zo_l (by decide +kernel) rfl rfl trivial) <|
  z_fc (zo_v (by decide +kernel) rfl ⟨rfl, zd_247, zw_1635, Nat.le_of_ble_eq_true rfl, ⟨_, Or.inl ⟨Nat.le_of_ble_eq_true rfl, rfl⟩, rfl⟩, zw_1633, zw_100⟩) <|
  z_fc (zo_r (by decide +kernel) rfl) <|
  z_fn)
  (z_fn)
theorem zk_281 (xs : List Int32) : z_okm (za_T xs) za_P za_M 281 := z_okm_of ⟨"LyndonBenchModel", "keptLength", "(I)I"⟩ prog_9_method_136_code zc_281 _ rfl rfl rfl rfl
  (z_fc (zo_l (by decide +kernel) rfl rfl trivial) <|
  z_fc (zo_l (by decide +kernel) rfl rfl trivial) <|
  z_fc (zo_l (by decide +kernel) rfl rfl trivial) <|
  z_fc (zo_v (by decide +kernel) rfl ⟨rfl, zd_152, zw_1599, Nat.le_of_ble_eq_true rfl, ⟨_, Or.inl ⟨Nat.le_of_ble_eq_true rfl, rfl⟩, rfl⟩, zw_1597, zw_99⟩) <|
  z_fc (zo_l (by decide +kernel) rfl rfl (by show ((6 : Nat) : Int) + (7) = ((13 : Nat) : Int); decide)) <|
  z_fc (zo_l (by decide +kernel) rfl rfl trivial) <|
  z_fc (zo_l (by decide +kernel) rfl rfl (by show ((10 : Nat) : Int) + (4) = ((14 : Nat) : Int); decide)) <|
  z_fc (zo_l (by decide +kernel) rfl rfl trivial) <|
  z_fc (zo_v (by decide +kernel) rfl ⟨rfl, zd_149, zw_1522, Nat.le_of_ble_eq_true rfl, ⟨_, Or.inl ⟨Nat.le_of_ble_eq_true rfl, rfl⟩, rfl⟩, zw_1520, zw_93⟩) <|
  z_fc (zo_l (by decide +kernel) rfl rfl (by show ((17 : Nat) : Int) + (7) = ((24 : Nat) : Int); decide)) <|
  z_fc (zo_l (by decide +kernel) rfl rfl trivial) <|
  z_fc (zo_l (by decide +kernel) rfl rfl (by show ((21 : Nat) : Int) + (12) = ((33 : Nat) : Int); decide)) <|
  z_fc (zo_l (by decide +kernel) rfl rfl trivial) <|
  z_fc (zo_h (by decide +kernel) rfl ⟨rfl, Nat.le_of_ble_eq_true rfl, _, _, _, Or.inl ⟨Nat.le_of_ble_eq_true rfl, rfl⟩, Nat.le_of_ble_eq_true rfl, zw_1434⟩) <|
  z_fc (zo_l (by decide +kernel) rfl rfl trivial) <|
  z_fc (zo_l (by decide +kernel) rfl rfl trivial) <|
  z_fc (zo_l (by decide +kernel) rfl rfl trivial) <|
  z_fc (zo_h (by decide +kernel) rfl rfl) <|
  z_fc (zo_r (by decide +kernel) rfl) <|
  z_fn)
  (z_fn)
theorem zk_282 (xs : List Int32) : z_okm (za_T xs) za_P za_M 282 := z_okm_of ⟨"LyndonBenchModel", "keptLetter", "(II)I"⟩ prog_9_method_137_code zc_282 _ rfl rfl rfl rfl
  (z_fc (zo_l (by decide +kernel) rfl rfl trivial) <|
  z_fc (zo_l (by decide +kernel) rfl rfl trivial) <|
  z_fc (zo_l (by decide +kernel) rfl rfl trivial) <|
  z_fc (zo_v (by decide +kernel) rfl ⟨rfl, zd_152, zw_1599, Nat.le_of_ble_eq_true rfl, ⟨_, Or.inl ⟨Nat.le_of_ble_eq_true rfl, rfl⟩, rfl⟩, zw_1597, zw_99⟩) <|
  z_fc (zo_l (by decide +kernel) rfl rfl (by show ((6 : Nat) : Int) + (7) = ((13 : Nat) : Int); decide)) <|
  z_fc (zo_l (by decide +kernel) rfl rfl trivial) <|
  z_fc (zo_l (by decide +kernel) rfl rfl (by show ((10 : Nat) : Int) + (4) = ((14 : Nat) : Int); decide)) <|
  z_fc (zo_l (by decide +kernel) rfl rfl trivial) <|
  z_fc (zo_v (by decide +kernel) rfl ⟨rfl, zd_149, zw_1522, Nat.le_of_ble_eq_true rfl, ⟨_, Or.inl ⟨Nat.le_of_ble_eq_true rfl, rfl⟩, rfl⟩, zw_1520, zw_93⟩) <|
  z_fc (zo_l (by decide +kernel) rfl rfl (by show ((17 : Nat) : Int) + (5) = ((22 : Nat) : Int); decide)) <|
  z_fc (zo_l (by decide +kernel) rfl rfl trivial) <|
  z_fc (zo_r (by decide +kernel) rfl) <|
  z_fc (zo_l (by decide +kernel) rfl rfl trivial) <|
  z_fc (zo_l (by decide +kernel) rfl rfl trivial) <|
  z_fc (zo_l (by decide +kernel) rfl rfl trivial) <|
  z_fc (zo_h (by decide +kernel) rfl ⟨rfl, Nat.le_of_ble_eq_true rfl, _, _, _, Or.inl ⟨Nat.le_of_ble_eq_true rfl, rfl⟩, Nat.le_of_ble_eq_true rfl, zw_1434⟩) <|
  z_fc (zo_l (by decide +kernel) rfl rfl trivial) <|
  z_fc (zo_l (by decide +kernel) rfl rfl trivial) <|
  z_fc (zo_l (by decide +kernel) rfl rfl trivial) <|
  z_fc (zo_h (by decide +kernel) rfl rfl) <|
  z_fc (zo_l (by decide +kernel) rfl rfl trivial) <|
  z_fc (zo_l (by decide +kernel) rfl rfl trivial) <|
  z_fc (zo_s (by decide +kernel) rfl ⟨zd_148, zw_1215, zw_1216⟩) <|
  z_fc (zo_l (by decide +kernel) rfl rfl (by show ((38 : Nat) : Int) + (24) = ((62 : Nat) : Int); decide)) <|
  z_fc (zo_l (by decide +kernel) rfl rfl trivial) <|
  z_fc (zo_l (by decide +kernel) rfl rfl trivial) <|
  z_fc (zo_h (by decide +kernel) rfl ⟨rfl, Nat.le_of_ble_eq_true rfl, _, _, _, Or.inl ⟨Nat.le_of_ble_eq_true rfl, rfl⟩, Nat.le_of_ble_eq_true rfl, zw_1434⟩) <|
  z_fc (zo_l (by decide +kernel) rfl rfl trivial) <|
  z_fc (zo_l (by decide +kernel) rfl rfl trivial) <|
  z_fc (zo_l (by decide +kernel) rfl rfl trivial) <|
  z_fc (zo_l (by decide +kernel) rfl rfl trivial) <|
  z_fc (zo_l (by decide +kernel) rfl rfl trivial) <|
  z_fc (zo_l (by decide +kernel) rfl rfl trivial) <|
  z_fc (zo_l (by decide +kernel) rfl rfl trivial) <|
  z_fc (zo_h (by decide +kernel) rfl rfl) <|
  z_fc (zo_l (by decide +kernel) rfl rfl trivial) <|
  z_fc (zo_l (by decide +kernel) rfl rfl (by show ((59 : Nat) : Int) + (4) = ((63 : Nat) : Int); decide)) <|
  z_fc (zo_l (by decide +kernel) rfl rfl trivial) <|
  z_fc (zo_r (by decide +kernel) rfl) <|
  z_fn)
  (z_fn)
theorem zk_283 (xs : List Int32) : z_okm (za_T xs) za_P za_M 283 := z_okm_of ⟨"LyndonBenchModel", "isShelfFalling", "()Z"⟩ prog_9_method_138_code zc_283 _ rfl rfl rfl rfl
  (z_fc (zo_l (by decide +kernel) rfl rfl trivial) <|
  z_fc (zo_l (by decide +kernel) rfl rfl trivial) <|
  z_fc (zo_h (by decide +kernel) rfl ⟨rfl, Nat.le_of_ble_eq_true rfl, _, _, _, rfl, Nat.le_of_ble_eq_true rfl, zw_1451, Or.inl rfl⟩) <|
  z_fc (zo_l (by decide +kernel) rfl rfl trivial) <|
  z_fc (zo_l (by decide +kernel) rfl rfl trivial) <|
  z_fc (zo_l (by decide +kernel) rfl rfl trivial) <|
  z_fc (zo_l (by decide +kernel) rfl rfl trivial) <|
  z_fc (zo_h (by decide +kernel) rfl ⟨rfl, Nat.le_of_ble_eq_true rfl, _, _, _, Or.inl ⟨Nat.le_of_ble_eq_true rfl, rfl⟩, Nat.le_of_ble_eq_true rfl, zw_1434⟩) <|
  z_fc (zo_l (by decide +kernel) rfl rfl trivial) <|
  z_fc (zo_h (by decide +kernel) rfl rfl) <|
  z_fc (zo_l (by decide +kernel) rfl rfl (by show ((14 : Nat) : Int) + (22) = ((36 : Nat) : Int); decide)) <|
  z_fc (zo_l (by decide +kernel) rfl rfl trivial) <|
  z_fc (zo_l (by decide +kernel) rfl rfl trivial) <|
  z_fc (zo_l (by decide +kernel) rfl rfl trivial) <|
  z_fc (zo_l (by decide +kernel) rfl rfl trivial) <|
  z_fc (zo_l (by decide +kernel) rfl rfl trivial) <|
  z_fc (zo_v (by decide +kernel) rfl ⟨rfl, zd_154, zw_1424, Nat.le_of_ble_eq_true rfl, ⟨_, Or.inl ⟨Nat.le_of_ble_eq_true rfl, rfl⟩, rfl⟩, zw_1422, zw_89⟩) <|
  z_fc (zo_l (by decide +kernel) rfl rfl (by show ((25 : Nat) : Int) + (5) = ((30 : Nat) : Int); decide)) <|
  z_fc (zo_l (by decide +kernel) rfl rfl trivial) <|
  z_fc (zo_r (by decide +kernel) rfl) <|
  z_fc (zo_l (by decide +kernel) rfl rfl trivial) <|
  z_fc (zo_l (by decide +kernel) rfl rfl (by show ((33 : Nat) : Int) + (-26) = ((7 : Nat) : Int); decide)) <|
  z_fc (zo_l (by decide +kernel) rfl rfl trivial) <|
  z_fc (zo_r (by decide +kernel) rfl) <|
  z_fn)
  (z_fn)
theorem zk_284 (xs : List Int32) : z_okm (za_T xs) za_P za_M 284 := z_okm_of ⟨"LyndonBenchModel", "greatestKept", "()I"⟩ prog_9_method_139_code zc_284 _ rfl rfl rfl rfl
  (z_fc (zo_l (by decide +kernel) rfl rfl trivial) <|
  z_fc (zo_l (by decide +kernel) rfl rfl trivial) <|
  z_fc (zo_h (by decide +kernel) rfl ⟨rfl, Nat.le_of_ble_eq_true rfl, _, _, _, rfl, Nat.le_of_ble_eq_true rfl, zw_1451, Or.inl rfl⟩) <|
  z_fc (zo_l (by decide +kernel) rfl rfl trivial) <|
  z_fc (zo_l (by decide +kernel) rfl rfl trivial) <|
  z_fc (zo_v (by decide +kernel) rfl ⟨rfl, zd_192, zw_1420, Nat.le_of_ble_eq_true rfl, ⟨_, Or.inl ⟨Nat.le_of_ble_eq_true rfl, rfl⟩, rfl⟩, zw_1418, zw_88⟩) <|
  z_fc (zo_r (by decide +kernel) rfl) <|
  z_fn)
  (z_fn)
theorem zk_285 (xs : List Int32) : z_okm (za_T xs) za_P za_M 285 := z_okm_of ⟨"LyndonBenchModel", "meanFactor", "()D"⟩ prog_9_method_140_code zc_285 _ rfl rfl rfl rfl
  (z_fc (zo_l (by decide +kernel) rfl rfl trivial) <|
  z_fc (zo_l (by decide +kernel) rfl rfl trivial) <|
  z_fc (zo_h (by decide +kernel) rfl ⟨rfl, Nat.le_of_ble_eq_true rfl, _, _, _, rfl, Nat.le_of_ble_eq_true rfl, zw_1451, Or.inl rfl⟩) <|
  z_fc (zo_l (by decide +kernel) rfl rfl trivial) <|
  z_fc (zo_v (by decide +kernel) rfl ⟨rfl, zd_160, zw_1288, Nat.le_of_ble_eq_true rfl, ⟨_, Or.inl ⟨Nat.le_of_ble_eq_true rfl, rfl⟩, rfl⟩, zw_1286, zw_55⟩) <|
  z_fc (zo_l (by decide +kernel) rfl rfl trivial) <|
  z_fc (zo_l (by decide +kernel) rfl rfl trivial) <|
  z_fc (zo_l (by decide +kernel) rfl rfl (by show ((11 : Nat) : Int) + (7) = ((18 : Nat) : Int); decide)) <|
  z_fc (zo_l (by decide +kernel) rfl rfl trivial) <|
  z_fc (zo_l (by decide +kernel) rfl rfl (by show ((15 : Nat) : Int) + (13) = ((28 : Nat) : Int); decide)) <|
  z_fc (zo_l (by decide +kernel) rfl rfl trivial) <|
  z_fc (zo_h (by decide +kernel) rfl ⟨rfl, Nat.le_of_ble_eq_true rfl, _, _, _, Or.inl ⟨Nat.le_of_ble_eq_true rfl, rfl⟩, Nat.le_of_ble_eq_true rfl, zw_1434⟩) <|
  z_fc (zo_l (by decide +kernel) rfl rfl trivial) <|
  z_fc (zo_h (by decide +kernel) rfl rfl) <|
  z_fc (zo_l (by decide +kernel) rfl rfl trivial) <|
  z_fc (zo_l (by decide +kernel) rfl rfl trivial) <|
  z_fc (zo_l (by decide +kernel) rfl rfl trivial) <|
  z_fc (zo_l (by decide +kernel) rfl rfl trivial) <|
  z_fc (zo_r (by decide +kernel) rfl) <|
  z_fn)
  (z_fn)
theorem zk_286 (xs : List Int32) : z_okm (za_T xs) za_P za_M 286 := z_okm_of ⟨"LyndonBenchModel", "lyndonShare", "()F"⟩ prog_9_method_141_code zc_286 _ rfl rfl rfl rfl
  (z_fc (zo_l (by decide +kernel) rfl rfl trivial) <|
  z_fc (zo_l (by decide +kernel) rfl rfl trivial) <|
  z_fc (zo_h (by decide +kernel) rfl ⟨rfl, Nat.le_of_ble_eq_true rfl, _, _, _, rfl, Nat.le_of_ble_eq_true rfl, zw_1451, Or.inl rfl⟩) <|
  z_fc (zo_l (by decide +kernel) rfl rfl trivial) <|
  z_fc (zo_l (by decide +kernel) rfl rfl trivial) <|
  z_fc (zo_v (by decide +kernel) rfl ⟨rfl, zd_173, zw_1779, Nat.le_of_ble_eq_true rfl, ⟨_, Or.inl ⟨Nat.le_of_ble_eq_true rfl, rfl⟩, rfl⟩, zw_1777, zw_112⟩) <|
  z_fc (zo_h (by decide +kernel) rfl ⟨rfl, _, rfl, zw_1821⟩) <|
  z_fc (zo_l (by decide +kernel) rfl rfl trivial) <|
  z_fc (zo_l (by decide +kernel) rfl rfl trivial) <|
  z_fc (zo_l (by decide +kernel) rfl rfl trivial) <|
  z_fc (zo_l (by decide +kernel) rfl rfl trivial) <|
  z_fc (zo_v (by decide +kernel) rfl ⟨rfl, zd_174, zw_1787, Nat.le_of_ble_eq_true rfl, ⟨_, Or.inl ⟨Nat.le_of_ble_eq_true rfl, rfl⟩, rfl⟩, zw_1785, zw_113⟩) <|
  z_fc (zo_l (by decide +kernel) rfl rfl trivial) <|
  z_fc (zo_l (by decide +kernel) rfl rfl trivial) <|
  z_fc (zo_r (by decide +kernel) rfl) <|
  z_fn)
  (z_fn)
theorem zk_287_0 (xs : List Int32) {l : List zE} (h : ∀ q ∈ l, z_oke' (za_T xs) za_P za_M ⟨"LyndonBenchModel", "violations", "()I"⟩ prog_9_method_142_code q) : ∀ q ∈ zc_287_0 ++ l, z_oke' (za_T xs) za_P za_M ⟨"LyndonBenchModel", "violations", "()I"⟩ prog_9_method_142_code q :=
  z_fc (zo_l (by decide +kernel) rfl rfl trivial) <|
  z_fc (zo_l (by decide +kernel) rfl rfl trivial) <|
  z_fc (zo_h (by decide +kernel) rfl ⟨rfl, Nat.le_of_ble_eq_true rfl, _, _, _, rfl, Nat.le_of_ble_eq_true rfl, zw_1451, Or.inl rfl⟩) <|
  z_fc (zo_l (by decide +kernel) rfl rfl trivial) <|
  z_fc (zo_v (by decide +kernel) rfl ⟨rfl, zd_160, zw_1288, Nat.le_of_ble_eq_true rfl, ⟨_, Or.inl ⟨Nat.le_of_ble_eq_true rfl, rfl⟩, rfl⟩, zw_1286, zw_55⟩) <|
  z_fc (zo_l (by decide +kernel) rfl rfl trivial) <|
  z_fc (zo_l (by decide +kernel) rfl rfl trivial) <|
  z_fc (zo_l (by decide +kernel) rfl rfl (by show ((11 : Nat) : Int) + (23) = ((34 : Nat) : Int); decide)) <|
  z_fc (zo_l (by decide +kernel) rfl rfl trivial) <|
  z_fc (zo_h (by decide +kernel) rfl ⟨rfl, Nat.le_of_ble_eq_true rfl, _, _, _, Or.inl ⟨Nat.le_of_ble_eq_true rfl, rfl⟩, Nat.le_of_ble_eq_true rfl, zw_1443⟩) <|
  z_fc (zo_l (by decide +kernel) rfl rfl trivial) <|
  z_fc (zo_l (by decide +kernel) rfl rfl trivial) <|
  z_fc (zo_l (by decide +kernel) rfl rfl trivial) <|
  z_fc (zo_h (by decide +kernel) rfl rfl) <|
  z_fc (zo_l (by decide +kernel) rfl rfl trivial) <|
  z_fc (zo_l (by decide +kernel) rfl rfl trivial) <|
  z_fc (zo_v (by decide +kernel) rfl ⟨rfl, zd_169, zw_1767, Nat.le_of_ble_eq_true rfl, ⟨_, Or.inl ⟨Nat.le_of_ble_eq_true rfl, rfl⟩, rfl⟩, zw_1765, zw_111⟩) <|
  z_fc (zo_l (by decide +kernel) rfl rfl (by show ((27 : Nat) : Int) + (7) = ((34 : Nat) : Int); decide)) <|
  z_fc (zo_l (by decide +kernel) rfl rfl trivial) <|
  z_fc (zo_l (by decide +kernel) rfl rfl (by show ((31 : Nat) : Int) + (4) = ((35 : Nat) : Int); decide)) <|
  z_fc (zo_l (by decide +kernel) rfl rfl trivial) <|
  z_fc (zo_l (by decide +kernel) rfl rfl trivial) <|
  z_fc (zo_l (by decide +kernel) rfl rfl trivial) <|
  z_fc (zo_l (by decide +kernel) rfl rfl trivial) <|
  z_fc (zo_l (by decide +kernel) rfl rfl trivial) <|
  z_fc (zo_l (by decide +kernel) rfl rfl trivial) <|
  z_fc (zo_l (by decide +kernel) rfl rfl (by show ((40 : Nat) : Int) + (76) = ((116 : Nat) : Int); decide)) <|
  z_fc (zo_l (by decide +kernel) rfl rfl trivial) <|
  z_fc (zo_h (by decide +kernel) rfl ⟨rfl, Nat.le_of_ble_eq_true rfl, _, _, _, Or.inl ⟨Nat.le_of_ble_eq_true rfl, rfl⟩, Nat.le_of_ble_eq_true rfl, zw_1443⟩) <|
  z_fc (zo_l (by decide +kernel) rfl rfl trivial) <|
  z_fc (zo_l (by decide +kernel) rfl rfl trivial) <|
  z_fc (zo_l (by decide +kernel) rfl rfl trivial) <|
  z_fc (zo_h (by decide +kernel) rfl rfl) <|
  z_fc (zo_l (by decide +kernel) rfl rfl trivial) <|
  z_fc (zo_h (by decide +kernel) rfl ⟨rfl, Nat.le_of_ble_eq_true rfl, _, _, _, Or.inl ⟨Nat.le_of_ble_eq_true rfl, rfl⟩, Nat.le_of_ble_eq_true rfl, zw_1443⟩) <|
  z_fc (zo_l (by decide +kernel) rfl rfl trivial) <|
  z_fc (zo_h (by decide +kernel) rfl rfl) <|
  z_fc (zo_l (by decide +kernel) rfl rfl trivial) <|
  z_fc (zo_l (by decide +kernel) rfl rfl trivial) <|
  z_fc (zo_l (by decide +kernel) rfl rfl trivial) <|
  h
theorem zk_287_1 (xs : List Int32) {l : List zE} (h : ∀ q ∈ l, z_oke' (za_T xs) za_P za_M ⟨"LyndonBenchModel", "violations", "()I"⟩ prog_9_method_142_code q) : ∀ q ∈ zc_287_1 ++ l, z_oke' (za_T xs) za_P za_M ⟨"LyndonBenchModel", "violations", "()I"⟩ prog_9_method_142_code q :=
  z_fc (zo_l (by decide +kernel) rfl rfl trivial) <|
  z_fc (zo_l (by decide +kernel) rfl rfl trivial) <|
  z_fc (zo_l (by decide +kernel) rfl rfl trivial) <|
  z_fc (zo_h (by decide +kernel) rfl ⟨rfl, Nat.le_of_ble_eq_true rfl, _, _, _, Or.inl ⟨Nat.le_of_ble_eq_true rfl, rfl⟩, Nat.le_of_ble_eq_true rfl, zw_1443⟩) <|
  z_fc (zo_l (by decide +kernel) rfl rfl trivial) <|
  z_fc (zo_h (by decide +kernel) rfl rfl) <|
  z_fc (zo_l (by decide +kernel) rfl rfl trivial) <|
  z_fc (zo_l (by decide +kernel) rfl rfl trivial) <|
  z_fc (zo_l (by decide +kernel) rfl rfl trivial) <|
  z_fc (zo_l (by decide +kernel) rfl rfl trivial) <|
  z_fc (zo_h (by decide +kernel) rfl ⟨rfl, Nat.le_of_ble_eq_true rfl, _, _, _, Or.inl ⟨Nat.le_of_ble_eq_true rfl, rfl⟩, Nat.le_of_ble_eq_true rfl, zw_1443⟩) <|
  z_fc (zo_l (by decide +kernel) rfl rfl trivial) <|
  z_fc (zo_l (by decide +kernel) rfl rfl trivial) <|
  z_fc (zo_l (by decide +kernel) rfl rfl trivial) <|
  z_fc (zo_h (by decide +kernel) rfl rfl) <|
  z_fc (zo_l (by decide +kernel) rfl rfl trivial) <|
  z_fc (zo_l (by decide +kernel) rfl rfl trivial) <|
  z_fc (zo_h (by decide +kernel) rfl ⟨rfl, Nat.le_of_ble_eq_true rfl, _, _, _, Or.inl ⟨Nat.le_of_ble_eq_true rfl, rfl⟩, Nat.le_of_ble_eq_true rfl, zw_1443⟩) <|
  z_fc (zo_l (by decide +kernel) rfl rfl trivial) <|
  z_fc (zo_h (by decide +kernel) rfl rfl) <|
  z_fc (zo_l (by decide +kernel) rfl rfl trivial) <|
  z_fc (zo_h (by decide +kernel) rfl ⟨rfl, Nat.le_of_ble_eq_true rfl, _, _, _, Or.inl ⟨Nat.le_of_ble_eq_true rfl, rfl⟩, Nat.le_of_ble_eq_true rfl, zw_1443⟩) <|
  z_fc (zo_l (by decide +kernel) rfl rfl trivial) <|
  z_fc (zo_l (by decide +kernel) rfl rfl trivial) <|
  z_fc (zo_l (by decide +kernel) rfl rfl trivial) <|
  z_fc (zo_h (by decide +kernel) rfl rfl) <|
  z_fc (zo_l (by decide +kernel) rfl rfl trivial) <|
  z_fc (zo_v (by decide +kernel) rfl ⟨rfl, zd_153, zw_1428, Nat.le_of_ble_eq_true rfl, ⟨_, Or.inl ⟨Nat.le_of_ble_eq_true rfl, rfl⟩, rfl⟩, zw_1426, zw_90⟩) <|
  z_fc (zo_l (by decide +kernel) rfl rfl (by show ((100 : Nat) : Int) + (7) = ((107 : Nat) : Int); decide)) <|
  z_fc (zo_l (by decide +kernel) rfl rfl trivial) <|
  z_fc (zo_l (by decide +kernel) rfl rfl (by show ((104 : Nat) : Int) + (4) = ((108 : Nat) : Int); decide)) <|
  z_fc (zo_l (by decide +kernel) rfl rfl trivial) <|
  z_fc (zo_l (by decide +kernel) rfl rfl trivial) <|
  z_fc (zo_l (by decide +kernel) rfl rfl trivial) <|
  z_fc (zo_l (by decide +kernel) rfl rfl trivial) <|
  z_fc (zo_l (by decide +kernel) rfl rfl (by show ((113 : Nat) : Int) + (-75) = ((38 : Nat) : Int); decide)) <|
  z_fc (zo_l (by decide +kernel) rfl rfl trivial) <|
  z_fc (zo_r (by decide +kernel) rfl) <|
  h
theorem zk_287 (xs : List Int32) : z_okm (za_T xs) za_P za_M 287 := z_okm_of ⟨"LyndonBenchModel", "violations", "()I"⟩ prog_9_method_142_code zc_287 _ rfl rfl rfl rfl
  (zk_287_0 xs <|
  zk_287_1 xs <|
  z_fn)
  (z_fn)
theorem zk_288 (xs : List Int32) : z_okm (za_T xs) za_P za_M 288 := z_okm_of ⟨"LyndonBenchModel", "write", "(I)V"⟩ prog_9_method_143_code zc_288 _ rfl rfl rfl rfl
  (z_fc (zo_l (by decide +kernel) rfl rfl trivial) <|
  z_fc (zo_h (by decide +kernel) rfl ⟨rfl, Nat.le_of_ble_eq_true rfl, _, _, _, Or.inl ⟨Nat.le_of_ble_eq_true rfl, rfl⟩, Nat.le_of_ble_eq_true rfl, zw_1449⟩) <|
  z_fc (zo_l (by decide +kernel) rfl rfl trivial) <|
  z_fc (zo_h (by decide +kernel) rfl ⟨rfl, Nat.le_of_ble_eq_true rfl, _, _, _, Or.inl ⟨Nat.le_of_ble_eq_true rfl, rfl⟩, Nat.le_of_ble_eq_true rfl, zw_1450⟩) <|
  z_fc (zo_l (by decide +kernel) rfl rfl trivial) <|
  z_fc (zo_l (by decide +kernel) rfl rfl trivial) <|
  z_fc (zo_h (by decide +kernel) rfl rfl) <|
  z_fc (zo_l (by decide +kernel) rfl rfl trivial) <|
  z_fc (zo_l (by decide +kernel) rfl rfl trivial) <|
  z_fc (zo_h (by decide +kernel) rfl ⟨rfl, Nat.le_of_ble_eq_true rfl, _, _, _, Or.inl ⟨Nat.le_of_ble_eq_true rfl, rfl⟩, Nat.le_of_ble_eq_true rfl, zw_1450⟩) <|
  z_fc (zo_l (by decide +kernel) rfl rfl trivial) <|
  z_fc (zo_l (by decide +kernel) rfl rfl trivial) <|
  z_fc (zo_h (by decide +kernel) rfl ⟨rfl, Nat.le_of_ble_eq_true rfl, _, _, _, rfl, Nat.le_of_ble_eq_true rfl, zw_1450, Or.inl rfl⟩) <|
  z_fc (zo_e (by decide +kernel)) <|
  z_fn)
  (z_fn)
theorem zk_289 (xs : List Int32) : z_okm (za_T xs) za_P za_M 289 := z_okm_of ⟨"LyndonBenchModel", "writeNumber", "(I)V"⟩ prog_9_method_144_code zc_289 _ rfl rfl rfl rfl
  (z_fc (zo_l (by decide +kernel) rfl rfl trivial) <|
  z_fc (zo_l (by decide +kernel) rfl rfl trivial) <|
  z_fc (zo_l (by decide +kernel) rfl rfl (by show ((3 : Nat) : Int) + (11) = ((14 : Nat) : Int); decide)) <|
  z_fc (zo_l (by decide +kernel) rfl rfl trivial) <|
  z_fc (zo_l (by decide +kernel) rfl rfl trivial) <|
  z_fc (zo_l (by decide +kernel) rfl rfl trivial) <|
  z_fc (zo_l (by decide +kernel) rfl rfl trivial) <|
  z_fc (zo_v (by decide +kernel) rfl ⟨rfl, zd_289, zw_1840, Nat.le_of_ble_eq_true rfl, ⟨_, Or.inl ⟨Nat.le_of_ble_eq_true rfl, rfl⟩, rfl⟩, zw_1838, zw_116⟩) <|
  z_fc (zo_l (by decide +kernel) rfl rfl trivial) <|
  z_fc (zo_l (by decide +kernel) rfl rfl trivial) <|
  z_fc (zo_l (by decide +kernel) rfl rfl trivial) <|
  z_fc (zo_l (by decide +kernel) rfl rfl trivial) <|
  z_fc (zo_l (by decide +kernel) rfl rfl trivial) <|
  z_fc (zo_l (by decide +kernel) rfl rfl trivial) <|
  z_fc (zo_v (by decide +kernel) rfl ⟨rfl, zd_288, zw_1836, Nat.le_of_ble_eq_true rfl, ⟨_, Or.inl ⟨Nat.le_of_ble_eq_true rfl, rfl⟩, rfl⟩, zw_1834, zw_115⟩) <|
  z_fc (zo_e (by decide +kernel)) <|
  z_fn)
  (z_fn)
theorem zk_290 (xs : List Int32) : z_okm (za_T xs) za_P za_M 290 := z_okm_of ⟨"LyndonBenchModel", "writeFactor", "(II)V"⟩ prog_9_method_145_code zc_290 _ rfl rfl rfl rfl
  (z_fc (zo_l (by decide +kernel) rfl rfl trivial) <|
  z_fc (zo_l (by decide +kernel) rfl rfl (by show ((1 : Nat) : Int) + (9) = ((10 : Nat) : Int); decide)) <|
  z_fc (zo_l (by decide +kernel) rfl rfl trivial) <|
  z_fc (zo_l (by decide +kernel) rfl rfl trivial) <|
  z_fc (zo_v (by decide +kernel) rfl ⟨rfl, zd_288, zw_1836, Nat.le_of_ble_eq_true rfl, ⟨_, Or.inl ⟨Nat.le_of_ble_eq_true rfl, rfl⟩, rfl⟩, zw_1834, zw_115⟩) <|
  z_fc (zo_l (by decide +kernel) rfl rfl trivial) <|
  z_fc (zo_h (by decide +kernel) rfl ⟨rfl, Nat.le_of_ble_eq_true rfl, _, _, _, Or.inl ⟨Nat.le_of_ble_eq_true rfl, rfl⟩, Nat.le_of_ble_eq_true rfl, zw_1443⟩) <|
  z_fc (zo_l (by decide +kernel) rfl rfl trivial) <|
  z_fc (zo_h (by decide +kernel) rfl rfl) <|
  z_fc (zo_l (by decide +kernel) rfl rfl trivial) <|
  z_fc (zo_l (by decide +kernel) rfl rfl trivial) <|
  z_fc (zo_l (by decide +kernel) rfl rfl trivial) <|
  z_fc (zo_h (by decide +kernel) rfl ⟨rfl, Nat.le_of_ble_eq_true rfl, _, _, _, Or.inl ⟨Nat.le_of_ble_eq_true rfl, rfl⟩, Nat.le_of_ble_eq_true rfl, zw_1443⟩) <|
  z_fc (zo_l (by decide +kernel) rfl rfl trivial) <|
  z_fc (zo_l (by decide +kernel) rfl rfl trivial) <|
  z_fc (zo_l (by decide +kernel) rfl rfl trivial) <|
  z_fc (zo_h (by decide +kernel) rfl rfl) <|
  z_fc (zo_l (by decide +kernel) rfl rfl (by show ((26 : Nat) : Int) + (24) = ((50 : Nat) : Int); decide)) <|
  z_fc (zo_l (by decide +kernel) rfl rfl trivial) <|
  z_fc (zo_l (by decide +kernel) rfl rfl trivial) <|
  z_fc (zo_l (by decide +kernel) rfl rfl trivial) <|
  z_fc (zo_h (by decide +kernel) rfl ⟨rfl, Nat.le_of_ble_eq_true rfl, _, _, _, Or.inl ⟨Nat.le_of_ble_eq_true rfl, rfl⟩, Nat.le_of_ble_eq_true rfl, zw_1434⟩) <|
  z_fc (zo_l (by decide +kernel) rfl rfl trivial) <|
  z_fc (zo_l (by decide +kernel) rfl rfl trivial) <|
  z_fc (zo_l (by decide +kernel) rfl rfl trivial) <|
  z_fc (zo_h (by decide +kernel) rfl rfl) <|
  z_fc (zo_l (by decide +kernel) rfl rfl trivial) <|
  z_fc (zo_v (by decide +kernel) rfl ⟨rfl, zd_288, zw_1836, Nat.le_of_ble_eq_true rfl, ⟨_, Or.inl ⟨Nat.le_of_ble_eq_true rfl, rfl⟩, rfl⟩, zw_1834, zw_115⟩) <|
  z_fc (zo_l (by decide +kernel) rfl rfl trivial) <|
  z_fc (zo_l (by decide +kernel) rfl rfl (by show ((47 : Nat) : Int) + (-30) = ((17 : Nat) : Int); decide)) <|
  z_fc (zo_l (by decide +kernel) rfl rfl trivial) <|
  z_fc (zo_l (by decide +kernel) rfl rfl trivial) <|
  z_fc (zo_l (by decide +kernel) rfl rfl (by show ((52 : Nat) : Int) + (14) = ((66 : Nat) : Int); decide)) <|
  z_fc (zo_l (by decide +kernel) rfl rfl trivial) <|
  z_fc (zo_l (by decide +kernel) rfl rfl trivial) <|
  z_fc (zo_v (by decide +kernel) rfl ⟨rfl, zd_288, zw_1836, Nat.le_of_ble_eq_true rfl, ⟨_, Or.inl ⟨Nat.le_of_ble_eq_true rfl, rfl⟩, rfl⟩, zw_1834, zw_115⟩) <|
  z_fc (zo_l (by decide +kernel) rfl rfl trivial) <|
  z_fc (zo_l (by decide +kernel) rfl rfl trivial) <|
  z_fc (zo_v (by decide +kernel) rfl ⟨rfl, zd_289, zw_1840, Nat.le_of_ble_eq_true rfl, ⟨_, Or.inl ⟨Nat.le_of_ble_eq_true rfl, rfl⟩, rfl⟩, zw_1838, zw_116⟩) <|
  z_fc (zo_e (by decide +kernel)) <|
  z_fn)
  (z_fn)
theorem zk_291 (xs : List Int32) : z_okm (za_T xs) za_P za_M 291 := z_okm_of ⟨"LyndonBenchModel", "writeFactors", "()I"⟩ prog_9_method_146_code zc_291 _ rfl rfl rfl rfl
  (z_fc (zo_l (by decide +kernel) rfl rfl trivial) <|
  z_fc (zo_l (by decide +kernel) rfl rfl trivial) <|
  z_fc (zo_h (by decide +kernel) rfl ⟨rfl, Nat.le_of_ble_eq_true rfl, _, _, _, rfl, Nat.le_of_ble_eq_true rfl, zw_1451, Or.inl rfl⟩) <|
  z_fc (zo_l (by decide +kernel) rfl rfl trivial) <|
  z_fc (zo_l (by decide +kernel) rfl rfl trivial) <|
  z_fc (zo_h (by decide +kernel) rfl ⟨rfl, Nat.le_of_ble_eq_true rfl, _, _, _, rfl, Nat.le_of_ble_eq_true rfl, zw_1450, Or.inl rfl⟩) <|
  z_fc (zo_l (by decide +kernel) rfl rfl trivial) <|
  z_fc (zo_v (by decide +kernel) rfl ⟨rfl, zd_160, zw_1288, Nat.le_of_ble_eq_true rfl, ⟨_, Or.inl ⟨Nat.le_of_ble_eq_true rfl, rfl⟩, rfl⟩, zw_1286, zw_55⟩) <|
  z_fc (zo_l (by decide +kernel) rfl rfl trivial) <|
  z_fc (zo_l (by decide +kernel) rfl rfl trivial) <|
  z_fc (zo_l (by decide +kernel) rfl rfl trivial) <|
  z_fc (zo_l (by decide +kernel) rfl rfl trivial) <|
  z_fc (zo_l (by decide +kernel) rfl rfl trivial) <|
  z_fc (zo_l (by decide +kernel) rfl rfl (by show ((19 : Nat) : Int) + (35) = ((54 : Nat) : Int); decide)) <|
  z_fc (zo_l (by decide +kernel) rfl rfl trivial) <|
  z_fc (zo_l (by decide +kernel) rfl rfl (by show ((23 : Nat) : Int) + (14) = ((37 : Nat) : Int); decide)) <|
  z_fc (zo_l (by decide +kernel) rfl rfl trivial) <|
  z_fc (zo_l (by decide +kernel) rfl rfl trivial) <|
  z_fc (zo_l (by decide +kernel) rfl rfl trivial) <|
  z_fc (zo_l (by decide +kernel) rfl rfl trivial) <|
  z_fc (zo_l (by decide +kernel) rfl rfl trivial) <|
  z_fc (zo_v (by decide +kernel) rfl ⟨rfl, zd_257, zw_1679, Nat.le_of_ble_eq_true rfl, ⟨_, Or.inl ⟨Nat.le_of_ble_eq_true rfl, rfl⟩, rfl⟩, zw_1677, zw_104⟩) <|
  z_fc (zo_l (by decide +kernel) rfl rfl (by show ((34 : Nat) : Int) + (14) = ((48 : Nat) : Int); decide)) <|
  z_fc (zo_l (by decide +kernel) rfl rfl trivial) <|
  z_fc (zo_l (by decide +kernel) rfl rfl trivial) <|
  z_fc (zo_l (by decide +kernel) rfl rfl trivial) <|
  z_fc (zo_l (by decide +kernel) rfl rfl trivial) <|
  z_fc (zo_l (by decide +kernel) rfl rfl trivial) <|
  z_fc (zo_v (by decide +kernel) rfl ⟨rfl, zd_258, zw_1675, Nat.le_of_ble_eq_true rfl, ⟨_, Or.inl ⟨Nat.le_of_ble_eq_true rfl, rfl⟩, rfl⟩, zw_1673, zw_103⟩) <|
  z_fc (zo_v (by decide +kernel) rfl ⟨rfl, zd_290, zw_1832, Nat.le_of_ble_eq_true rfl, ⟨_, Or.inl ⟨Nat.le_of_ble_eq_true rfl, rfl⟩, rfl⟩, zw_1830, zw_114⟩) <|
  z_fc (zo_l (by decide +kernel) rfl rfl trivial) <|
  z_fc (zo_l (by decide +kernel) rfl rfl (by show ((51 : Nat) : Int) + (-34) = ((17 : Nat) : Int); decide)) <|
  z_fc (zo_l (by decide +kernel) rfl rfl trivial) <|
  z_fc (zo_h (by decide +kernel) rfl ⟨rfl, Nat.le_of_ble_eq_true rfl, _, _, _, Or.inl ⟨Nat.le_of_ble_eq_true rfl, rfl⟩, Nat.le_of_ble_eq_true rfl, zw_1450⟩) <|
  z_fc (zo_r (by decide +kernel) rfl) <|
  z_fn)
  (z_fn)
theorem zk_292 (xs : List Int32) : z_okm (za_T xs) za_P za_M 292 := z_okm_of ⟨"LyndonBenchModel", "reportByte", "(I)I"⟩ prog_9_method_147_code zc_292 _ rfl rfl rfl rfl
  (z_fc (zo_l (by decide +kernel) rfl rfl trivial) <|
  z_fc (zo_l (by decide +kernel) rfl rfl trivial) <|
  z_fc (zo_h (by decide +kernel) rfl ⟨rfl, Nat.le_of_ble_eq_true rfl, _, _, _, rfl, Nat.le_of_ble_eq_true rfl, zw_1451, Or.inl rfl⟩) <|
  z_fc (zo_l (by decide +kernel) rfl rfl trivial) <|
  z_fc (zo_l (by decide +kernel) rfl rfl trivial) <|
  z_fc (zo_l (by decide +kernel) rfl rfl trivial) <|
  z_fc (zo_h (by decide +kernel) rfl ⟨rfl, Nat.le_of_ble_eq_true rfl, _, _, _, Or.inl ⟨Nat.le_of_ble_eq_true rfl, rfl⟩, Nat.le_of_ble_eq_true rfl, zw_1450⟩) <|
  z_fc (zo_l (by decide +kernel) rfl rfl trivial) <|
  z_fc (zo_l (by decide +kernel) rfl rfl trivial) <|
  z_fc (zo_s (by decide +kernel) rfl ⟨zd_148, zw_1215, zw_1216⟩) <|
  z_fc (zo_l (by decide +kernel) rfl rfl (by show ((16 : Nat) : Int) + (12) = ((28 : Nat) : Int); decide)) <|
  z_fc (zo_l (by decide +kernel) rfl rfl trivial) <|
  z_fc (zo_h (by decide +kernel) rfl ⟨rfl, Nat.le_of_ble_eq_true rfl, _, _, _, Or.inl ⟨Nat.le_of_ble_eq_true rfl, rfl⟩, Nat.le_of_ble_eq_true rfl, zw_1449⟩) <|
  z_fc (zo_l (by decide +kernel) rfl rfl trivial) <|
  z_fc (zo_h (by decide +kernel) rfl rfl) <|
  z_fc (zo_l (by decide +kernel) rfl rfl (by show ((25 : Nat) : Int) + (4) = ((29 : Nat) : Int); decide)) <|
  z_fc (zo_l (by decide +kernel) rfl rfl trivial) <|
  z_fc (zo_r (by decide +kernel) rfl) <|
  z_fn)
  (z_fn)
theorem zk_293 (xs : List Int32) : z_okm (za_T xs) za_P za_M 293 := z_okm_of ⟨"java/lang/Enum", "ordinal", "()I"⟩ prog_13_method_2_code zc_293 _ rfl rfl rfl rfl
  (z_fc (zo_l (by decide +kernel) rfl rfl trivial) <|
  z_fc (zo_h (by decide +kernel) rfl ⟨rfl, Nat.le_of_ble_eq_true rfl, _, _, _, Or.inr ⟨Nat.le_of_ble_eq_true rfl, rfl⟩, Nat.le_of_ble_eq_true rfl, zw_1864⟩) <|
  z_fc (zo_r (by decide +kernel) rfl) <|
  z_fn)
  (z_fn)
theorem zk_294 (xs : List Int32) : z_okm (za_T xs) za_P za_M 294 := z_okm_of ⟨"java/lang/String", "length", "()I"⟩ prog_20_method_54_code zc_294 _ rfl rfl rfl rfl
  (z_fc (zo_l (by decide +kernel) rfl rfl trivial) <|
  z_fc (zo_h (by decide +kernel) rfl ⟨rfl, Nat.le_of_ble_eq_true rfl, _, _, _, Or.inr ⟨Nat.le_of_ble_eq_true rfl, rfl⟩, Nat.le_of_ble_eq_true rfl, zw_1861⟩) <|
  z_fc (zo_h (by decide +kernel) rfl rfl) <|
  z_fc (zo_l (by decide +kernel) rfl rfl trivial) <|
  z_fc (zo_v (by decide +kernel) rfl ⟨rfl, zd_296, zw_281, Nat.le_of_ble_eq_true rfl, ⟨_, Or.inr ⟨Nat.le_of_ble_eq_true rfl, rfl⟩, rfl⟩, zw_280, zw_282⟩) <|
  z_fc (zo_l (by decide +kernel) rfl rfl trivial) <|
  z_fc (zo_r (by decide +kernel) rfl) <|
  z_fn)
  (z_fn)
theorem zk_295 (xs : List Int32) : z_okm (za_T xs) za_P za_M 295 := z_okm_of ⟨"java/lang/String", "charAt", "(I)C"⟩ prog_20_method_56_code zc_295 _ rfl rfl rfl rfl
  (z_fc (zo_l (by decide +kernel) rfl rfl trivial) <|
  z_fc (zo_v (by decide +kernel) rfl ⟨rfl, zd_297, zw_291, Nat.le_of_ble_eq_true rfl, ⟨_, Or.inr ⟨Nat.le_of_ble_eq_true rfl, rfl⟩, rfl⟩, zw_290, zw_292⟩) <|
  z_fc (zo_l (by decide +kernel) rfl rfl (by show ((4 : Nat) : Int) + (12) = ((16 : Nat) : Int); decide)) <|
  z_fc (zo_l (by decide +kernel) rfl rfl trivial) <|
  z_fc (zo_h (by decide +kernel) rfl ⟨rfl, Nat.le_of_ble_eq_true rfl, _, _, _, Or.inr ⟨Nat.le_of_ble_eq_true rfl, rfl⟩, Nat.le_of_ble_eq_true rfl, zw_1861⟩) <|
  z_fc (zo_l (by decide +kernel) rfl rfl trivial) <|
  z_fc (zo_s (by decide +kernel) rfl ⟨zd_299, zw_294, zw_295⟩) <|
  z_fc (zo_r (by decide +kernel) rfl) <|
  z_fc (zo_l (by decide +kernel) rfl rfl trivial) <|
  z_fc (zo_h (by decide +kernel) rfl ⟨rfl, Nat.le_of_ble_eq_true rfl, _, _, _, Or.inr ⟨Nat.le_of_ble_eq_true rfl, rfl⟩, Nat.le_of_ble_eq_true rfl, zw_1861⟩) <|
  z_fc (zo_l (by decide +kernel) rfl rfl trivial) <|
  z_fc (zo_r (by decide +kernel) rfl) <|
  z_fn)
  (z_fn)
theorem zk_296 (xs : List Int32) : z_okm (za_T xs) za_P za_M 296 := z_okm_of ⟨"java/lang/String", "coder", "()B"⟩ prog_20_method_152_code zc_296 _ rfl rfl rfl rfl
  (z_fc (zo_h (by decide +kernel) rfl ⟨rfl, _, rfl, zw_284⟩) <|
  z_fc (zo_l (by decide +kernel) rfl rfl (by show ((3 : Nat) : Int) + (10) = ((13 : Nat) : Int); decide)) <|
  z_fc (zo_l (by decide +kernel) rfl rfl trivial) <|
  z_fc (zo_h (by decide +kernel) rfl ⟨rfl, Nat.le_of_ble_eq_true rfl, _, _, _, Or.inr ⟨Nat.le_of_ble_eq_true rfl, rfl⟩, Nat.le_of_ble_eq_true rfl, zw_1862⟩) <|
  z_fc (zo_l (by decide +kernel) rfl rfl (by show ((10 : Nat) : Int) + (4) = ((14 : Nat) : Int); decide)) <|
  z_fc (zo_l (by decide +kernel) rfl rfl trivial) <|
  z_fc (zo_r (by decide +kernel) rfl) <|
  z_fn)
  (z_fn)
theorem zk_297 (xs : List Int32) : z_okm (za_T xs) za_P za_M 297 := z_okm_of ⟨"java/lang/String", "isLatin1", "()Z"⟩ prog_20_method_154_code zc_297 _ rfl rfl rfl rfl
  (z_fc (zo_h (by decide +kernel) rfl ⟨rfl, _, rfl, zw_284⟩) <|
  z_fc (zo_l (by decide +kernel) rfl rfl (by show ((3 : Nat) : Int) + (14) = ((17 : Nat) : Int); decide)) <|
  z_fc (zo_l (by decide +kernel) rfl rfl trivial) <|
  z_fc (zo_h (by decide +kernel) rfl ⟨rfl, Nat.le_of_ble_eq_true rfl, _, _, _, Or.inr ⟨Nat.le_of_ble_eq_true rfl, rfl⟩, Nat.le_of_ble_eq_true rfl, zw_1862⟩) <|
  z_fc (zo_l (by decide +kernel) rfl rfl (by show ((10 : Nat) : Int) + (7) = ((17 : Nat) : Int); decide)) <|
  z_fc (zo_l (by decide +kernel) rfl rfl trivial) <|
  z_fc (zo_l (by decide +kernel) rfl rfl (by show ((14 : Nat) : Int) + (4) = ((18 : Nat) : Int); decide)) <|
  z_fc (zo_l (by decide +kernel) rfl rfl trivial) <|
  z_fc (zo_r (by decide +kernel) rfl) <|
  z_fn)
  (z_fn)
