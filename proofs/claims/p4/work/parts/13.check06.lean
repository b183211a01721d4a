/-! The check of the tables, methods 327 to 327. -/
theorem zk_327_0 (xs : List Int32) {l : List zE} (h : ∀ q ∈ l, z_oke' (za_T xs) za_P za_M ⟨"LyndonBenchLaw", "law", "([I)Z"⟩ code q) : ∀ q ∈ zc_327_0 ++ l, z_oke' (za_T xs) za_P za_M ⟨"LyndonBenchLaw", "law", "([I)Z"⟩ code q :=
  z_fc (zo_h (by decide +kernel) rfl ⟨rfl, Nat.le_of_ble_eq_true rfl, _, _, rfl, zn_0, zm_0, zw_139, zw_140, zw_118⟩) <|
  z_fc (zo_l (by decide +kernel) rfl rfl trivial) <|
  z_fc (zo_n (by decide +kernel) rfl ⟨rfl, zd_76, rfl, rfl, zw_142, Or.inl zw_141⟩) <|
  z_fc (zo_l (by decide +kernel) rfl rfl trivial) <|
  z_fc (zo_h (by decide +kernel) rfl ⟨rfl, Nat.le_of_ble_eq_true rfl, _, _, rfl, zn_5, zm_5, zw_1170, zw_1171, zw_128⟩) <|
  z_fc (zo_l (by decide +kernel) rfl rfl trivial) <|
  z_fc (zo_n (by decide +kernel) rfl ⟨rfl, zd_147, rfl, rfl, zw_1173, Or.inl zw_1172⟩) <|
  z_fc (zo_l (by decide +kernel) rfl rfl trivial) <|
  z_fc (zo_l (by decide +kernel) rfl rfl trivial) <|
  z_fc (zo_h (by decide +kernel) rfl ⟨rfl, zw_1846⟩) <|
  z_fc (zo_l (by decide +kernel) rfl rfl trivial) <|
  z_fc (zo_l (by decide +kernel) rfl rfl trivial) <|
  z_fc (zo_l (by decide +kernel) rfl rfl trivial) <|
  z_fc (zo_l (by decide +kernel) rfl rfl trivial) <|
  z_fc (zo_l (by decide +kernel) rfl rfl trivial) <|
  z_fc (zo_h (by decide +kernel) rfl rfl) <|
  z_fc (zo_l (by decide +kernel) rfl rfl trivial) <|
  z_fc (zo_l (by decide +kernel) rfl rfl trivial) <|
  z_fc (zo_l (by decide +kernel) rfl rfl (by show ((30 : Nat) : Int) + (1539) = ((1569 : Nat) : Int); decide)) <|
  z_fc (zo_l (by decide +kernel) rfl rfl trivial) <|
  z_fc (zo_l (by decide +kernel) rfl rfl trivial) <|
  z_fc (zo_h (by decide +kernel) rfl rfl) <|
  z_fc (zo_l (by decide +kernel) rfl rfl trivial) <|
  z_fc (zo_l (by decide +kernel) rfl rfl trivial) <|
  z_fc (zo_l (by decide +kernel) rfl trivial trivial) <|
  z_fc (zo_l (by decide +kernel) rfl rfl trivial) <|
  z_fc (zo_l (by decide +kernel) rfl rfl trivial) <|
  z_fc (zo_l (by decide +kernel) rfl rfl trivial) <|
  z_fc (zo_l (by decide +kernel) rfl rfl trivial) <|
  z_fc (zo_l (by decide +kernel) rfl rfl trivial) <|
  z_fc (zo_h (by decide +kernel) rfl rfl) <|
  z_fc (zo_l (by decide +kernel) rfl rfl trivial) <|
  z_fc (zo_l (by decide +kernel) rfl rfl trivial) <|
  z_fc (zo_l (by decide +kernel) rfl rfl trivial) <|
  z_fc (zo_l (by decide +kernel) rfl rfl trivial) <|
  z_fc (zo_h (by decide +kernel) rfl rfl) <|
  z_fc (zo_l (by decide +kernel) rfl rfl trivial) <|
  z_fc (zo_l (by decide +kernel) rfl rfl trivial) <|
  z_fc (zo_l (by decide +kernel) rfl rfl trivial) <|
  z_fc (zo_l (by decide +kernel) rfl rfl trivial) <|
  h
theorem zk_327_1 (xs : List Int32) {l : List zE} (h : ∀ q ∈ l, z_oke' (za_T xs) za_P za_M ⟨"LyndonBenchLaw", "law", "([I)Z"⟩ code q) : ∀ q ∈ zc_327_1 ++ l, z_oke' (za_T xs) za_P za_M ⟨"LyndonBenchLaw", "law", "([I)Z"⟩ code q :=
  z_fc (zo_h (by decide +kernel) rfl rfl) <|
  z_fc (zo_l (by decide +kernel) rfl rfl trivial) <|
  z_fc (zo_l (by decide +kernel) rfl rfl trivial) <|
  z_fc (zo_l (by decide +kernel) rfl rfl trivial) <|
  z_fc (zo_l (by decide +kernel) rfl rfl trivial) <|
  z_fc (zo_h (by decide +kernel) rfl rfl) <|
  z_fc (zo_l (by decide +kernel) rfl rfl trivial) <|
  z_fc (zo_l (by decide +kernel) rfl rfl trivial) <|
  z_fc (zo_l (by decide +kernel) rfl rfl trivial) <|
  z_fc (zo_l (by decide +kernel) rfl rfl trivial) <|
  z_fc (zo_h (by decide +kernel) rfl rfl) <|
  z_fc (zo_v (by decide +kernel) rfl ⟨rfl, zd_77, zw_364, Nat.le_of_ble_eq_true rfl, ⟨_, Or.inl ⟨Nat.le_of_ble_eq_true rfl, rfl⟩, rfl⟩, zw_363, zw_365⟩) <|
  z_fc (zo_l (by decide +kernel) rfl rfl trivial) <|
  z_fc (zo_l (by decide +kernel) rfl rfl trivial) <|
  z_fc (zo_l (by decide +kernel) rfl rfl trivial) <|
  z_fc (zo_l (by decide +kernel) rfl rfl trivial) <|
  z_fc (zo_l (by decide +kernel) rfl rfl trivial) <|
  z_fc (zo_l (by decide +kernel) rfl rfl trivial) <|
  z_fc (zo_h (by decide +kernel) rfl rfl) <|
  z_fc (zo_l (by decide +kernel) rfl rfl trivial) <|
  z_fc (zo_l (by decide +kernel) rfl rfl trivial) <|
  z_fc (zo_l (by decide +kernel) rfl rfl trivial) <|
  z_fc (zo_l (by decide +kernel) rfl rfl trivial) <|
  z_fc (zo_h (by decide +kernel) rfl rfl) <|
  z_fc (zo_l (by decide +kernel) rfl rfl trivial) <|
  z_fc (zo_l (by decide +kernel) rfl rfl trivial) <|
  z_fc (zo_l (by decide +kernel) rfl rfl trivial) <|
  z_fc (zo_l (by decide +kernel) rfl rfl trivial) <|
  z_fc (zo_h (by decide +kernel) rfl rfl) <|
  z_fc (zo_l (by decide +kernel) rfl rfl trivial) <|
  z_fc (zo_l (by decide +kernel) rfl rfl trivial) <|
  z_fc (zo_l (by decide +kernel) rfl rfl trivial) <|
  z_fc (zo_l (by decide +kernel) rfl rfl trivial) <|
  z_fc (zo_h (by decide +kernel) rfl rfl) <|
  z_fc (zo_l (by decide +kernel) rfl rfl trivial) <|
  z_fc (zo_l (by decide +kernel) rfl rfl trivial) <|
  z_fc (zo_l (by decide +kernel) rfl rfl trivial) <|
  z_fc (zo_l (by decide +kernel) rfl rfl trivial) <|
  z_fc (zo_h (by decide +kernel) rfl rfl) <|
  z_fc (zo_v (by decide +kernel) rfl ⟨rfl, zd_222, zw_1509, Nat.le_of_ble_eq_true rfl, ⟨_, Or.inl ⟨Nat.le_of_ble_eq_true rfl, rfl⟩, rfl⟩, zw_1508, zw_1510⟩) <|
  h
theorem zk_327_2 (xs : List Int32) {l : List zE} (h : ∀ q ∈ l, z_oke' (za_T xs) za_P za_M ⟨"LyndonBenchLaw", "law", "([I)Z"⟩ code q) : ∀ q ∈ zc_327_2 ++ l, z_oke' (za_T xs) za_P za_M ⟨"LyndonBenchLaw", "law", "([I)Z"⟩ code q :=
  z_fc (zo_l (by decide +kernel) rfl rfl trivial) <|
  z_fc (zo_l (by decide +kernel) rfl rfl (by show ((362 : Nat) : Int) + (1201) = ((1563 : Nat) : Int); decide)) <|
  z_fc (zo_l (by decide +kernel) rfl rfl trivial) <|
  z_fc (zo_l (by decide +kernel) rfl rfl trivial) <|
  z_fc (zo_l (by decide +kernel) rfl rfl trivial) <|
  z_fc (zo_l (by decide +kernel) rfl rfl trivial) <|
  z_fc (zo_l (by decide +kernel) rfl rfl trivial) <|
  z_fc (zo_h (by decide +kernel) rfl rfl) <|
  z_fc (zo_l (by decide +kernel) rfl rfl trivial) <|
  z_fc (zo_s (by decide +kernel) rfl ⟨zd_301, zw_796, zw_797⟩) <|
  z_fc (zo_l (by decide +kernel) rfl rfl trivial) <|
  z_fc (zo_l (by decide +kernel) rfl rfl trivial) <|
  z_fc (zo_l (by decide +kernel) rfl rfl trivial) <|
  z_fc (zo_l (by decide +kernel) rfl rfl trivial) <|
  z_fc (zo_l (by decide +kernel) rfl rfl trivial) <|
  z_fc (zo_l (by decide +kernel) rfl rfl trivial) <|
  z_fc (zo_h (by decide +kernel) rfl rfl) <|
  z_fc (zo_v (by decide +kernel) rfl ⟨rfl, zd_224, zw_1517, Nat.le_of_ble_eq_true rfl, ⟨_, Or.inl ⟨Nat.le_of_ble_eq_true rfl, rfl⟩, rfl⟩, zw_1516, zw_1518⟩) <|
  z_fc (zo_l (by decide +kernel) rfl rfl trivial) <|
  z_fc (zo_l (by decide +kernel) rfl rfl (by show ((390 : Nat) : Int) + (1173) = ((1563 : Nat) : Int); decide)) <|
  z_fc (zo_l (by decide +kernel) rfl rfl trivial) <|
  z_fc (zo_v (by decide +kernel) rfl ⟨rfl, zd_79, zw_372, Nat.le_of_ble_eq_true rfl, ⟨_, Or.inl ⟨Nat.le_of_ble_eq_true rfl, rfl⟩, rfl⟩, zw_371, zw_373⟩) <|
  z_fc (zo_l (by decide +kernel) rfl rfl trivial) <|
  z_fc (zo_v (by decide +kernel) rfl ⟨rfl, zd_227, zw_1525, Nat.le_of_ble_eq_true rfl, ⟨_, Or.inl ⟨Nat.le_of_ble_eq_true rfl, rfl⟩, rfl⟩, zw_1524, zw_1526⟩) <|
  z_fc (zo_l (by decide +kernel) rfl rfl (by show ((401 : Nat) : Int) + (1162) = ((1563 : Nat) : Int); decide)) <|
  z_fc (zo_l (by decide +kernel) rfl rfl trivial) <|
  z_fc (zo_r (by decide +kernel) rfl) <|
  z_fc (zo_l (by decide +kernel) rfl rfl trivial) <|
  z_fc (zo_l (by decide +kernel) rfl rfl trivial) <|
  z_fc (zo_l (by decide +kernel) rfl rfl trivial) <|
  z_fc (zo_l (by decide +kernel) rfl rfl trivial) <|
  z_fc (zo_l (by decide +kernel) rfl rfl trivial) <|
  z_fc (zo_h (by decide +kernel) rfl rfl) <|
  z_fc (zo_l (by decide +kernel) rfl rfl trivial) <|
  z_fc (zo_s (by decide +kernel) rfl ⟨zd_302, zw_873, zw_874⟩) <|
  z_fc (zo_l (by decide +kernel) rfl rfl trivial) <|
  z_fc (zo_l (by decide +kernel) rfl rfl trivial) <|
  z_fc (zo_l (by decide +kernel) rfl rfl trivial) <|
  z_fc (zo_l (by decide +kernel) rfl rfl trivial) <|
  z_fc (zo_l (by decide +kernel) rfl rfl trivial) <|
  h
theorem zk_327_3 (xs : List Int32) {l : List zE} (h : ∀ q ∈ l, z_oke' (za_T xs) za_P za_M ⟨"LyndonBenchLaw", "law", "([I)Z"⟩ code q) : ∀ q ∈ zc_327_3 ++ l, z_oke' (za_T xs) za_P za_M ⟨"LyndonBenchLaw", "law", "([I)Z"⟩ code q :=
  z_fc (zo_l (by decide +kernel) rfl rfl trivial) <|
  z_fc (zo_h (by decide +kernel) rfl rfl) <|
  z_fc (zo_v (by decide +kernel) rfl ⟨rfl, zd_228, zw_1537, Nat.le_of_ble_eq_true rfl, ⟨_, Or.inl ⟨Nat.le_of_ble_eq_true rfl, rfl⟩, rfl⟩, zw_1536, zw_1538⟩) <|
  z_fc (zo_l (by decide +kernel) rfl rfl trivial) <|
  z_fc (zo_l (by decide +kernel) rfl rfl (by show ((431 : Nat) : Int) + (1132) = ((1563 : Nat) : Int); decide)) <|
  z_fc (zo_l (by decide +kernel) rfl rfl trivial) <|
  z_fc (zo_l (by decide +kernel) rfl rfl trivial) <|
  z_fc (zo_s (by decide +kernel) rfl ⟨zd_303, zw_906, zw_907⟩) <|
  z_fc (zo_l (by decide +kernel) rfl rfl trivial) <|
  z_fc (zo_l (by decide +kernel) rfl rfl trivial) <|
  z_fc (zo_v (by decide +kernel) rfl ⟨rfl, zd_229, zw_1550, Nat.le_of_ble_eq_true rfl, ⟨_, Or.inl ⟨Nat.le_of_ble_eq_true rfl, rfl⟩, rfl⟩, zw_1549, zw_1551⟩) <|
  z_fc (zo_l (by decide +kernel) rfl rfl trivial) <|
  z_fc (zo_l (by decide +kernel) rfl rfl (by show ((447 : Nat) : Int) + (1116) = ((1563 : Nat) : Int); decide)) <|
  z_fc (zo_l (by decide +kernel) rfl rfl trivial) <|
  z_fc (zo_l (by decide +kernel) rfl rfl trivial) <|
  z_fc (zo_l (by decide +kernel) rfl rfl trivial) <|
  z_fc (zo_l (by decide +kernel) rfl rfl trivial) <|
  z_fc (zo_l (by decide +kernel) rfl rfl trivial) <|
  z_fc (zo_h (by decide +kernel) rfl rfl) <|
  z_fc (zo_l (by decide +kernel) rfl rfl trivial) <|
  z_fc (zo_s (by decide +kernel) rfl ⟨zd_304, zw_915, zw_916⟩) <|
  z_fc (zo_l (by decide +kernel) rfl rfl trivial) <|
  z_fc (zo_l (by decide +kernel) rfl rfl trivial) <|
  z_fc (zo_l (by decide +kernel) rfl rfl trivial) <|
  z_fc (zo_l (by decide +kernel) rfl rfl trivial) <|
  z_fc (zo_l (by decide +kernel) rfl rfl trivial) <|
  z_fc (zo_l (by decide +kernel) rfl rfl trivial) <|
  z_fc (zo_h (by decide +kernel) rfl rfl) <|
  z_fc (zo_v (by decide +kernel) rfl ⟨rfl, zd_230, zw_1554, Nat.le_of_ble_eq_true rfl, ⟨_, Or.inl ⟨Nat.le_of_ble_eq_true rfl, rfl⟩, rfl⟩, zw_1553, zw_1555⟩) <|
  z_fc (zo_l (by decide +kernel) rfl rfl trivial) <|
  z_fc (zo_l (by decide +kernel) rfl rfl (by show ((475 : Nat) : Int) + (1088) = ((1563 : Nat) : Int); decide)) <|
  z_fc (zo_l (by decide +kernel) rfl rfl trivial) <|
  z_fc (zo_l (by decide +kernel) rfl rfl trivial) <|
  z_fc (zo_l (by decide +kernel) rfl rfl trivial) <|
  z_fc (zo_l (by decide +kernel) rfl rfl trivial) <|
  z_fc (zo_l (by decide +kernel) rfl rfl trivial) <|
  z_fc (zo_h (by decide +kernel) rfl rfl) <|
  z_fc (zo_l (by decide +kernel) rfl rfl trivial) <|
  z_fc (zo_s (by decide +kernel) rfl ⟨zd_305, zw_927, zw_928⟩) <|
  z_fc (zo_l (by decide +kernel) rfl rfl trivial) <|
  h
theorem zk_327_4 (xs : List Int32) {l : List zE} (h : ∀ q ∈ l, z_oke' (za_T xs) za_P za_M ⟨"LyndonBenchLaw", "law", "([I)Z"⟩ code q) : ∀ q ∈ zc_327_4 ++ l, z_oke' (za_T xs) za_P za_M ⟨"LyndonBenchLaw", "law", "([I)Z"⟩ code q :=
  z_fc (zo_l (by decide +kernel) rfl rfl trivial) <|
  z_fc (zo_l (by decide +kernel) rfl rfl trivial) <|
  z_fc (zo_l (by decide +kernel) rfl rfl trivial) <|
  z_fc (zo_l (by decide +kernel) rfl rfl trivial) <|
  z_fc (zo_l (by decide +kernel) rfl rfl trivial) <|
  z_fc (zo_h (by decide +kernel) rfl rfl) <|
  z_fc (zo_v (by decide +kernel) rfl ⟨rfl, zd_231, zw_1562, Nat.le_of_ble_eq_true rfl, ⟨_, Or.inl ⟨Nat.le_of_ble_eq_true rfl, rfl⟩, rfl⟩, zw_1561, zw_1563⟩) <|
  z_fc (zo_l (by decide +kernel) rfl rfl trivial) <|
  z_fc (zo_l (by decide +kernel) rfl rfl (by show ((503 : Nat) : Int) + (1060) = ((1563 : Nat) : Int); decide)) <|
  z_fc (zo_l (by decide +kernel) rfl rfl trivial) <|
  z_fc (zo_l (by decide +kernel) rfl rfl trivial) <|
  z_fc (zo_l (by decide +kernel) rfl rfl trivial) <|
  z_fc (zo_l (by decide +kernel) rfl rfl trivial) <|
  z_fc (zo_l (by decide +kernel) rfl rfl trivial) <|
  z_fc (zo_h (by decide +kernel) rfl rfl) <|
  z_fc (zo_l (by decide +kernel) rfl rfl trivial) <|
  z_fc (zo_l (by decide +kernel) rfl rfl trivial) <|
  z_fc (zo_l (by decide +kernel) rfl rfl trivial) <|
  z_fc (zo_l (by decide +kernel) rfl rfl trivial) <|
  z_fc (zo_h (by decide +kernel) rfl rfl) <|
  z_fc (zo_l (by decide +kernel) rfl rfl trivial) <|
  z_fc (zo_s (by decide +kernel) rfl ⟨zd_306, zw_939, zw_940⟩) <|
  z_fc (zo_l (by decide +kernel) rfl rfl trivial) <|
  z_fc (zo_l (by decide +kernel) rfl rfl trivial) <|
  z_fc (zo_l (by decide +kernel) rfl rfl trivial) <|
  z_fc (zo_l (by decide +kernel) rfl rfl trivial) <|
  z_fc (zo_l (by decide +kernel) rfl rfl trivial) <|
  z_fc (zo_l (by decide +kernel) rfl rfl trivial) <|
  z_fc (zo_h (by decide +kernel) rfl rfl) <|
  z_fc (zo_l (by decide +kernel) rfl rfl trivial) <|
  z_fc (zo_l (by decide +kernel) rfl rfl trivial) <|
  z_fc (zo_l (by decide +kernel) rfl rfl trivial) <|
  z_fc (zo_l (by decide +kernel) rfl rfl trivial) <|
  z_fc (zo_h (by decide +kernel) rfl rfl) <|
  z_fc (zo_v (by decide +kernel) rfl ⟨rfl, zd_232, zw_1566, Nat.le_of_ble_eq_true rfl, ⟨_, Or.inl ⟨Nat.le_of_ble_eq_true rfl, rfl⟩, rfl⟩, zw_1565, zw_1567⟩) <|
  z_fc (zo_l (by decide +kernel) rfl rfl trivial) <|
  z_fc (zo_l (by decide +kernel) rfl rfl (by show ((543 : Nat) : Int) + (1020) = ((1563 : Nat) : Int); decide)) <|
  z_fc (zo_l (by decide +kernel) rfl rfl trivial) <|
  z_fc (zo_l (by decide +kernel) rfl rfl trivial) <|
  z_fc (zo_l (by decide +kernel) rfl rfl trivial) <|
  h
theorem zk_327_5 (xs : List Int32) {l : List zE} (h : ∀ q ∈ l, z_oke' (za_T xs) za_P za_M ⟨"LyndonBenchLaw", "law", "([I)Z"⟩ code q) : ∀ q ∈ zc_327_5 ++ l, z_oke' (za_T xs) za_P za_M ⟨"LyndonBenchLaw", "law", "([I)Z"⟩ code q :=
  z_fc (zo_l (by decide +kernel) rfl rfl trivial) <|
  z_fc (zo_l (by decide +kernel) rfl rfl trivial) <|
  z_fc (zo_h (by decide +kernel) rfl rfl) <|
  z_fc (zo_l (by decide +kernel) rfl rfl trivial) <|
  z_fc (zo_s (by decide +kernel) rfl ⟨zd_307, zw_952, zw_953⟩) <|
  z_fc (zo_l (by decide +kernel) rfl rfl trivial) <|
  z_fc (zo_l (by decide +kernel) rfl rfl trivial) <|
  z_fc (zo_l (by decide +kernel) rfl rfl trivial) <|
  z_fc (zo_l (by decide +kernel) rfl rfl trivial) <|
  z_fc (zo_l (by decide +kernel) rfl rfl trivial) <|
  z_fc (zo_l (by decide +kernel) rfl rfl trivial) <|
  z_fc (zo_h (by decide +kernel) rfl rfl) <|
  z_fc (zo_v (by decide +kernel) rfl ⟨rfl, zd_233, zw_1570, Nat.le_of_ble_eq_true rfl, ⟨_, Or.inl ⟨Nat.le_of_ble_eq_true rfl, rfl⟩, rfl⟩, zw_1569, zw_1571⟩) <|
  z_fc (zo_l (by decide +kernel) rfl rfl trivial) <|
  z_fc (zo_l (by decide +kernel) rfl rfl (by show ((571 : Nat) : Int) + (992) = ((1563 : Nat) : Int); decide)) <|
  z_fc (zo_l (by decide +kernel) rfl rfl trivial) <|
  z_fc (zo_v (by decide +kernel) rfl ⟨rfl, zd_86, zw_604, Nat.le_of_ble_eq_true rfl, ⟨_, Or.inl ⟨Nat.le_of_ble_eq_true rfl, rfl⟩, rfl⟩, zw_603, zw_605⟩) <|
  z_fc (zo_l (by decide +kernel) rfl rfl trivial) <|
  z_fc (zo_l (by decide +kernel) rfl rfl trivial) <|
  z_fc (zo_v (by decide +kernel) rfl ⟨rfl, zd_234, zw_1574, Nat.le_of_ble_eq_true rfl, ⟨_, Or.inl ⟨Nat.le_of_ble_eq_true rfl, rfl⟩, rfl⟩, zw_1573, zw_1575⟩) <|
  z_fc (zo_l (by decide +kernel) rfl rfl trivial) <|
  z_fc (zo_l (by decide +kernel) rfl rfl (by show ((584 : Nat) : Int) + (979) = ((1563 : Nat) : Int); decide)) <|
  z_fc (zo_l (by decide +kernel) rfl rfl trivial) <|
  z_fc (zo_l (by decide +kernel) rfl rfl trivial) <|
  z_fc (zo_s (by decide +kernel) rfl ⟨zd_308, zw_960, zw_961⟩) <|
  z_fc (zo_l (by decide +kernel) rfl rfl trivial) <|
  z_fc (zo_l (by decide +kernel) rfl rfl trivial) <|
  z_fc (zo_v (by decide +kernel) rfl ⟨rfl, zd_235, zw_1578, Nat.le_of_ble_eq_true rfl, ⟨_, Or.inl ⟨Nat.le_of_ble_eq_true rfl, rfl⟩, rfl⟩, zw_1577, zw_1579⟩) <|
  z_fc (zo_l (by decide +kernel) rfl rfl trivial) <|
  z_fc (zo_l (by decide +kernel) rfl rfl (by show ((600 : Nat) : Int) + (963) = ((1563 : Nat) : Int); decide)) <|
  z_fc (zo_l (by decide +kernel) rfl rfl trivial) <|
  z_fc (zo_l (by decide +kernel) rfl rfl trivial) <|
  z_fc (zo_l (by decide +kernel) rfl rfl trivial) <|
  z_fc (zo_l (by decide +kernel) rfl rfl trivial) <|
  z_fc (zo_l (by decide +kernel) rfl rfl trivial) <|
  z_fc (zo_h (by decide +kernel) rfl rfl) <|
  z_fc (zo_l (by decide +kernel) rfl rfl trivial) <|
  z_fc (zo_s (by decide +kernel) rfl ⟨zd_309, zw_968, zw_969⟩) <|
  z_fc (zo_l (by decide +kernel) rfl rfl trivial) <|
  z_fc (zo_l (by decide +kernel) rfl rfl trivial) <|
  h
theorem zk_327_6 (xs : List Int32) {l : List zE} (h : ∀ q ∈ l, z_oke' (za_T xs) za_P za_M ⟨"LyndonBenchLaw", "law", "([I)Z"⟩ code q) : ∀ q ∈ zc_327_6 ++ l, z_oke' (za_T xs) za_P za_M ⟨"LyndonBenchLaw", "law", "([I)Z"⟩ code q :=
  z_fc (zo_l (by decide +kernel) rfl rfl trivial) <|
  z_fc (zo_l (by decide +kernel) rfl rfl trivial) <|
  z_fc (zo_l (by decide +kernel) rfl rfl trivial) <|
  z_fc (zo_l (by decide +kernel) rfl rfl trivial) <|
  z_fc (zo_h (by decide +kernel) rfl rfl) <|
  z_fc (zo_v (by decide +kernel) rfl ⟨rfl, zd_236, zw_1582, Nat.le_of_ble_eq_true rfl, ⟨_, Or.inl ⟨Nat.le_of_ble_eq_true rfl, rfl⟩, rfl⟩, zw_1581, zw_1583⟩) <|
  z_fc (zo_l (by decide +kernel) rfl rfl trivial) <|
  z_fc (zo_l (by decide +kernel) rfl rfl (by show ((628 : Nat) : Int) + (935) = ((1563 : Nat) : Int); decide)) <|
  z_fc (zo_l (by decide +kernel) rfl rfl trivial) <|
  z_fc (zo_l (by decide +kernel) rfl rfl trivial) <|
  z_fc (zo_l (by decide +kernel) rfl rfl trivial) <|
  z_fc (zo_l (by decide +kernel) rfl rfl trivial) <|
  z_fc (zo_l (by decide +kernel) rfl rfl trivial) <|
  z_fc (zo_h (by decide +kernel) rfl rfl) <|
  z_fc (zo_l (by decide +kernel) rfl rfl trivial) <|
  z_fc (zo_s (by decide +kernel) rfl ⟨zd_310, zw_980, zw_981⟩) <|
  z_fc (zo_l (by decide +kernel) rfl rfl trivial) <|
  z_fc (zo_l (by decide +kernel) rfl rfl trivial) <|
  z_fc (zo_l (by decide +kernel) rfl rfl trivial) <|
  z_fc (zo_l (by decide +kernel) rfl rfl trivial) <|
  z_fc (zo_l (by decide +kernel) rfl rfl trivial) <|
  z_fc (zo_l (by decide +kernel) rfl rfl trivial) <|
  z_fc (zo_h (by decide +kernel) rfl rfl) <|
  z_fc (zo_v (by decide +kernel) rfl ⟨rfl, zd_237, zw_1586, Nat.le_of_ble_eq_true rfl, ⟨_, Or.inl ⟨Nat.le_of_ble_eq_true rfl, rfl⟩, rfl⟩, zw_1585, zw_1587⟩) <|
  z_fc (zo_l (by decide +kernel) rfl rfl trivial) <|
  z_fc (zo_l (by decide +kernel) rfl rfl (by show ((656 : Nat) : Int) + (907) = ((1563 : Nat) : Int); decide)) <|
  z_fc (zo_l (by decide +kernel) rfl rfl trivial) <|
  z_fc (zo_l (by decide +kernel) rfl rfl trivial) <|
  z_fc (zo_s (by decide +kernel) rfl ⟨zd_311, zw_1011, zw_1012⟩) <|
  z_fc (zo_l (by decide +kernel) rfl rfl trivial) <|
  z_fc (zo_l (by decide +kernel) rfl rfl trivial) <|
  z_fc (zo_v (by decide +kernel) rfl ⟨rfl, zd_238, zw_1590, Nat.le_of_ble_eq_true rfl, ⟨_, Or.inl ⟨Nat.le_of_ble_eq_true rfl, rfl⟩, rfl⟩, zw_1589, zw_1591⟩) <|
  z_fc (zo_l (by decide +kernel) rfl rfl trivial) <|
  z_fc (zo_l (by decide +kernel) rfl rfl (by show ((672 : Nat) : Int) + (891) = ((1563 : Nat) : Int); decide)) <|
  z_fc (zo_l (by decide +kernel) rfl rfl trivial) <|
  z_fc (zo_l (by decide +kernel) rfl rfl trivial) <|
  z_fc (zo_l (by decide +kernel) rfl rfl trivial) <|
  z_fc (zo_l (by decide +kernel) rfl rfl trivial) <|
  z_fc (zo_l (by decide +kernel) rfl rfl trivial) <|
  z_fc (zo_h (by decide +kernel) rfl rfl) <|
  h
theorem zk_327_7 (xs : List Int32) {l : List zE} (h : ∀ q ∈ l, z_oke' (za_T xs) za_P za_M ⟨"LyndonBenchLaw", "law", "([I)Z"⟩ code q) : ∀ q ∈ zc_327_7 ++ l, z_oke' (za_T xs) za_P za_M ⟨"LyndonBenchLaw", "law", "([I)Z"⟩ code q :=
  z_fc (zo_l (by decide +kernel) rfl rfl trivial) <|
  z_fc (zo_s (by decide +kernel) rfl ⟨zd_312, zw_1019, zw_1020⟩) <|
  z_fc (zo_l (by decide +kernel) rfl rfl trivial) <|
  z_fc (zo_l (by decide +kernel) rfl rfl trivial) <|
  z_fc (zo_l (by decide +kernel) rfl rfl trivial) <|
  z_fc (zo_l (by decide +kernel) rfl rfl trivial) <|
  z_fc (zo_l (by decide +kernel) rfl rfl trivial) <|
  z_fc (zo_l (by decide +kernel) rfl rfl trivial) <|
  z_fc (zo_h (by decide +kernel) rfl rfl) <|
  z_fc (zo_v (by decide +kernel) rfl ⟨rfl, zd_239, zw_1594, Nat.le_of_ble_eq_true rfl, ⟨_, Or.inl ⟨Nat.le_of_ble_eq_true rfl, rfl⟩, rfl⟩, zw_1593, zw_1595⟩) <|
  z_fc (zo_l (by decide +kernel) rfl rfl trivial) <|
  z_fc (zo_l (by decide +kernel) rfl rfl (by show ((700 : Nat) : Int) + (863) = ((1563 : Nat) : Int); decide)) <|
  z_fc (zo_l (by decide +kernel) rfl rfl trivial) <|
  z_fc (zo_l (by decide +kernel) rfl rfl trivial) <|
  z_fc (zo_s (by decide +kernel) rfl ⟨zd_313, zw_1028, zw_1029⟩) <|
  z_fc (zo_l (by decide +kernel) rfl rfl trivial) <|
  z_fc (zo_l (by decide +kernel) rfl rfl trivial) <|
  z_fc (zo_v (by decide +kernel) rfl ⟨rfl, zd_240, zw_1602, Nat.le_of_ble_eq_true rfl, ⟨_, Or.inl ⟨Nat.le_of_ble_eq_true rfl, rfl⟩, rfl⟩, zw_1601, zw_1603⟩) <|
  z_fc (zo_l (by decide +kernel) rfl rfl trivial) <|
  z_fc (zo_l (by decide +kernel) rfl rfl (by show ((716 : Nat) : Int) + (847) = ((1563 : Nat) : Int); decide)) <|
  z_fc (zo_l (by decide +kernel) rfl rfl trivial) <|
  z_fc (zo_v (by decide +kernel) rfl ⟨rfl, zd_93, zw_613, Nat.le_of_ble_eq_true rfl, ⟨_, Or.inl ⟨Nat.le_of_ble_eq_true rfl, rfl⟩, rfl⟩, zw_612, zw_614⟩) <|
  z_fc (zo_l (by decide +kernel) rfl rfl trivial) <|
  z_fc (zo_l (by decide +kernel) rfl rfl trivial) <|
  z_fc (zo_v (by decide +kernel) rfl ⟨rfl, zd_241, zw_1606, Nat.le_of_ble_eq_true rfl, ⟨_, Or.inl ⟨Nat.le_of_ble_eq_true rfl, rfl⟩, rfl⟩, zw_1605, zw_1607⟩) <|
  z_fc (zo_l (by decide +kernel) rfl rfl trivial) <|
  z_fc (zo_l (by decide +kernel) rfl rfl (by show ((729 : Nat) : Int) + (834) = ((1563 : Nat) : Int); decide)) <|
  z_fc (zo_l (by decide +kernel) rfl rfl trivial) <|
  z_fc (zo_v (by decide +kernel) rfl ⟨rfl, zd_94, zw_621, Nat.le_of_ble_eq_true rfl, ⟨_, Or.inl ⟨Nat.le_of_ble_eq_true rfl, rfl⟩, rfl⟩, zw_620, zw_622⟩) <|
  z_fc (zo_l (by decide +kernel) rfl rfl trivial) <|
  z_fc (zo_l (by decide +kernel) rfl rfl trivial) <|
  z_fc (zo_v (by decide +kernel) rfl ⟨rfl, zd_242, zw_1610, Nat.le_of_ble_eq_true rfl, ⟨_, Or.inl ⟨Nat.le_of_ble_eq_true rfl, rfl⟩, rfl⟩, zw_1609, zw_1611⟩) <|
  z_fc (zo_l (by decide +kernel) rfl rfl trivial) <|
  z_fc (zo_l (by decide +kernel) rfl rfl (by show ((742 : Nat) : Int) + (821) = ((1563 : Nat) : Int); decide)) <|
  z_fc (zo_l (by decide +kernel) rfl rfl trivial) <|
  z_fc (zo_v (by decide +kernel) rfl ⟨rfl, zd_95, zw_625, Nat.le_of_ble_eq_true rfl, ⟨_, Or.inl ⟨Nat.le_of_ble_eq_true rfl, rfl⟩, rfl⟩, zw_624, zw_626⟩) <|
  z_fc (zo_l (by decide +kernel) rfl rfl trivial) <|
  z_fc (zo_l (by decide +kernel) rfl rfl trivial) <|
  z_fc (zo_v (by decide +kernel) rfl ⟨rfl, zd_243, zw_1614, Nat.le_of_ble_eq_true rfl, ⟨_, Or.inl ⟨Nat.le_of_ble_eq_true rfl, rfl⟩, rfl⟩, zw_1613, zw_1615⟩) <|
  z_fc (zo_l (by decide +kernel) rfl rfl trivial) <|
  h
theorem zk_327_8 (xs : List Int32) {l : List zE} (h : ∀ q ∈ l, z_oke' (za_T xs) za_P za_M ⟨"LyndonBenchLaw", "law", "([I)Z"⟩ code q) : ∀ q ∈ zc_327_8 ++ l, z_oke' (za_T xs) za_P za_M ⟨"LyndonBenchLaw", "law", "([I)Z"⟩ code q :=
  z_fc (zo_l (by decide +kernel) rfl rfl (by show ((755 : Nat) : Int) + (808) = ((1563 : Nat) : Int); decide)) <|
  z_fc (zo_l (by decide +kernel) rfl rfl trivial) <|
  z_fc (zo_l (by decide +kernel) rfl rfl trivial) <|
  z_fc (zo_s (by decide +kernel) rfl ⟨zd_314, zw_1038, zw_1039⟩) <|
  z_fc (zo_l (by decide +kernel) rfl rfl trivial) <|
  z_fc (zo_l (by decide +kernel) rfl rfl trivial) <|
  z_fc (zo_v (by decide +kernel) rfl ⟨rfl, zd_244, zw_1618, Nat.le_of_ble_eq_true rfl, ⟨_, Or.inl ⟨Nat.le_of_ble_eq_true rfl, rfl⟩, rfl⟩, zw_1617, zw_1619⟩) <|
  z_fc (zo_l (by decide +kernel) rfl rfl trivial) <|
  z_fc (zo_l (by decide +kernel) rfl rfl (by show ((771 : Nat) : Int) + (792) = ((1563 : Nat) : Int); decide)) <|
  z_fc (zo_l (by decide +kernel) rfl rfl trivial) <|
  z_fc (zo_v (by decide +kernel) rfl ⟨rfl, zd_97, zw_629, Nat.le_of_ble_eq_true rfl, ⟨_, Or.inl ⟨Nat.le_of_ble_eq_true rfl, rfl⟩, rfl⟩, zw_628, zw_630⟩) <|
  z_fc (zo_l (by decide +kernel) rfl rfl trivial) <|
  z_fc (zo_l (by decide +kernel) rfl rfl trivial) <|
  z_fc (zo_v (by decide +kernel) rfl ⟨rfl, zd_245, zw_1622, Nat.le_of_ble_eq_true rfl, ⟨_, Or.inl ⟨Nat.le_of_ble_eq_true rfl, rfl⟩, rfl⟩, zw_1621, zw_1623⟩) <|
  z_fc (zo_l (by decide +kernel) rfl rfl trivial) <|
  z_fc (zo_l (by decide +kernel) rfl rfl (by show ((784 : Nat) : Int) + (779) = ((1563 : Nat) : Int); decide)) <|
  z_fc (zo_l (by decide +kernel) rfl rfl trivial) <|
  z_fc (zo_v (by decide +kernel) rfl ⟨rfl, zd_98, zw_633, Nat.le_of_ble_eq_true rfl, ⟨_, Or.inl ⟨Nat.le_of_ble_eq_true rfl, rfl⟩, rfl⟩, zw_632, zw_634⟩) <|
  z_fc (zo_l (by decide +kernel) rfl rfl trivial) <|
  z_fc (zo_l (by decide +kernel) rfl rfl trivial) <|
  z_fc (zo_v (by decide +kernel) rfl ⟨rfl, zd_246, zw_1626, Nat.le_of_ble_eq_true rfl, ⟨_, Or.inl ⟨Nat.le_of_ble_eq_true rfl, rfl⟩, rfl⟩, zw_1625, zw_1627⟩) <|
  z_fc (zo_l (by decide +kernel) rfl rfl trivial) <|
  z_fc (zo_l (by decide +kernel) rfl rfl (by show ((797 : Nat) : Int) + (766) = ((1563 : Nat) : Int); decide)) <|
  z_fc (zo_l (by decide +kernel) rfl rfl trivial) <|
  z_fc (zo_v (by decide +kernel) rfl ⟨rfl, zd_99, zw_637, Nat.le_of_ble_eq_true rfl, ⟨_, Or.inl ⟨Nat.le_of_ble_eq_true rfl, rfl⟩, rfl⟩, zw_636, zw_638⟩) <|
  z_fc (zo_l (by decide +kernel) rfl rfl trivial) <|
  z_fc (zo_l (by decide +kernel) rfl rfl trivial) <|
  z_fc (zo_v (by decide +kernel) rfl ⟨rfl, zd_248, zw_1630, Nat.le_of_ble_eq_true rfl, ⟨_, Or.inl ⟨Nat.le_of_ble_eq_true rfl, rfl⟩, rfl⟩, zw_1629, zw_1631⟩) <|
  z_fc (zo_l (by decide +kernel) rfl rfl trivial) <|
  z_fc (zo_l (by decide +kernel) rfl rfl (by show ((810 : Nat) : Int) + (753) = ((1563 : Nat) : Int); decide)) <|
  z_fc (zo_l (by decide +kernel) rfl rfl trivial) <|
  z_fc (zo_v (by decide +kernel) rfl ⟨rfl, zd_100, zw_641, Nat.le_of_ble_eq_true rfl, ⟨_, Or.inl ⟨Nat.le_of_ble_eq_true rfl, rfl⟩, rfl⟩, zw_640, zw_642⟩) <|
  z_fc (zo_l (by decide +kernel) rfl rfl trivial) <|
  z_fc (zo_l (by decide +kernel) rfl rfl trivial) <|
  z_fc (zo_v (by decide +kernel) rfl ⟨rfl, zd_249, zw_1638, Nat.le_of_ble_eq_true rfl, ⟨_, Or.inl ⟨Nat.le_of_ble_eq_true rfl, rfl⟩, rfl⟩, zw_1637, zw_1639⟩) <|
  z_fc (zo_l (by decide +kernel) rfl rfl trivial) <|
  z_fc (zo_l (by decide +kernel) rfl rfl (by show ((823 : Nat) : Int) + (740) = ((1563 : Nat) : Int); decide)) <|
  z_fc (zo_l (by decide +kernel) rfl rfl trivial) <|
  z_fc (zo_l (by decide +kernel) rfl rfl trivial) <|
  z_fc (zo_l (by decide +kernel) rfl rfl trivial) <|
  h
theorem zk_327_9 (xs : List Int32) {l : List zE} (h : ∀ q ∈ l, z_oke' (za_T xs) za_P za_M ⟨"LyndonBenchLaw", "law", "([I)Z"⟩ code q) : ∀ q ∈ zc_327_9 ++ l, z_oke' (za_T xs) za_P za_M ⟨"LyndonBenchLaw", "law", "([I)Z"⟩ code q :=
  z_fc (zo_l (by decide +kernel) rfl rfl trivial) <|
  z_fc (zo_l (by decide +kernel) rfl rfl trivial) <|
  z_fc (zo_h (by decide +kernel) rfl rfl) <|
  z_fc (zo_v (by decide +kernel) rfl ⟨rfl, zd_101, zw_645, Nat.le_of_ble_eq_true rfl, ⟨_, Or.inl ⟨Nat.le_of_ble_eq_true rfl, rfl⟩, rfl⟩, zw_644, zw_646⟩) <|
  z_fc (zo_l (by decide +kernel) rfl rfl trivial) <|
  z_fc (zo_l (by decide +kernel) rfl rfl trivial) <|
  z_fc (zo_l (by decide +kernel) rfl rfl trivial) <|
  z_fc (zo_l (by decide +kernel) rfl rfl trivial) <|
  z_fc (zo_l (by decide +kernel) rfl rfl trivial) <|
  z_fc (zo_l (by decide +kernel) rfl rfl trivial) <|
  z_fc (zo_h (by decide +kernel) rfl rfl) <|
  z_fc (zo_v (by decide +kernel) rfl ⟨rfl, zd_250, zw_1642, Nat.le_of_ble_eq_true rfl, ⟨_, Or.inl ⟨Nat.le_of_ble_eq_true rfl, rfl⟩, rfl⟩, zw_1641, zw_1643⟩) <|
  z_fc (zo_l (by decide +kernel) rfl rfl trivial) <|
  z_fc (zo_l (by decide +kernel) rfl rfl (by show ((848 : Nat) : Int) + (715) = ((1563 : Nat) : Int); decide)) <|
  z_fc (zo_l (by decide +kernel) rfl rfl trivial) <|
  z_fc (zo_l (by decide +kernel) rfl rfl trivial) <|
  z_fc (zo_l (by decide +kernel) rfl rfl trivial) <|
  z_fc (zo_l (by decide +kernel) rfl rfl trivial) <|
  z_fc (zo_l (by decide +kernel) rfl rfl trivial) <|
  z_fc (zo_h (by decide +kernel) rfl rfl) <|
  z_fc (zo_l (by decide +kernel) rfl rfl trivial) <|
  z_fc (zo_l (by decide +kernel) rfl rfl trivial) <|
  z_fc (zo_l (by decide +kernel) rfl rfl trivial) <|
  z_fc (zo_l (by decide +kernel) rfl rfl trivial) <|
  z_fc (zo_h (by decide +kernel) rfl rfl) <|
  z_fc (zo_l (by decide +kernel) rfl rfl trivial) <|
  z_fc (zo_l (by decide +kernel) rfl rfl trivial) <|
  z_fc (zo_l (by decide +kernel) rfl rfl trivial) <|
  z_fc (zo_l (by decide +kernel) rfl rfl trivial) <|
  z_fc (zo_h (by decide +kernel) rfl rfl) <|
  z_fc (zo_l (by decide +kernel) rfl rfl trivial) <|
  z_fc (zo_l (by decide +kernel) rfl rfl trivial) <|
  z_fc (zo_l (by decide +kernel) rfl rfl trivial) <|
  z_fc (zo_l (by decide +kernel) rfl rfl trivial) <|
  z_fc (zo_h (by decide +kernel) rfl rfl) <|
  z_fc (zo_l (by decide +kernel) rfl rfl trivial) <|
  z_fc (zo_s (by decide +kernel) rfl ⟨zd_315, zw_1062, zw_1063⟩) <|
  z_fc (zo_l (by decide +kernel) rfl rfl trivial) <|
  z_fc (zo_l (by decide +kernel) rfl rfl trivial) <|
  z_fc (zo_l (by decide +kernel) rfl rfl trivial) <|
  h
theorem zk_327_10 (xs : List Int32) {l : List zE} (h : ∀ q ∈ l, z_oke' (za_T xs) za_P za_M ⟨"LyndonBenchLaw", "law", "([I)Z"⟩ code q) : ∀ q ∈ zc_327_10 ++ l, z_oke' (za_T xs) za_P za_M ⟨"LyndonBenchLaw", "law", "([I)Z"⟩ code q :=
  z_fc (zo_l (by decide +kernel) rfl rfl trivial) <|
  z_fc (zo_l (by decide +kernel) rfl rfl trivial) <|
  z_fc (zo_l (by decide +kernel) rfl rfl trivial) <|
  z_fc (zo_h (by decide +kernel) rfl rfl) <|
  z_fc (zo_l (by decide +kernel) rfl rfl trivial) <|
  z_fc (zo_l (by decide +kernel) rfl rfl trivial) <|
  z_fc (zo_l (by decide +kernel) rfl rfl trivial) <|
  z_fc (zo_l (by decide +kernel) rfl rfl trivial) <|
  z_fc (zo_h (by decide +kernel) rfl rfl) <|
  z_fc (zo_l (by decide +kernel) rfl rfl trivial) <|
  z_fc (zo_l (by decide +kernel) rfl rfl trivial) <|
  z_fc (zo_l (by decide +kernel) rfl rfl trivial) <|
  z_fc (zo_l (by decide +kernel) rfl rfl trivial) <|
  z_fc (zo_h (by decide +kernel) rfl rfl) <|
  z_fc (zo_l (by decide +kernel) rfl rfl trivial) <|
  z_fc (zo_l (by decide +kernel) rfl rfl trivial) <|
  z_fc (zo_l (by decide +kernel) rfl rfl trivial) <|
  z_fc (zo_l (by decide +kernel) rfl rfl trivial) <|
  z_fc (zo_h (by decide +kernel) rfl rfl) <|
  z_fc (zo_v (by decide +kernel) rfl ⟨rfl, zd_252, zw_1646, Nat.le_of_ble_eq_true rfl, ⟨_, Or.inl ⟨Nat.le_of_ble_eq_true rfl, rfl⟩, rfl⟩, zw_1645, zw_1647⟩) <|
  z_fc (zo_l (by decide +kernel) rfl rfl trivial) <|
  z_fc (zo_l (by decide +kernel) rfl rfl (by show ((912 : Nat) : Int) + (651) = ((1563 : Nat) : Int); decide)) <|
  z_fc (zo_l (by decide +kernel) rfl rfl trivial) <|
  z_fc (zo_v (by decide +kernel) rfl ⟨rfl, zd_103, zw_650, Nat.le_of_ble_eq_true rfl, ⟨_, Or.inl ⟨Nat.le_of_ble_eq_true rfl, rfl⟩, rfl⟩, zw_649, zw_651⟩) <|
  z_fc (zo_l (by decide +kernel) rfl rfl trivial) <|
  z_fc (zo_l (by decide +kernel) rfl rfl trivial) <|
  z_fc (zo_v (by decide +kernel) rfl ⟨rfl, zd_253, zw_1654, Nat.le_of_ble_eq_true rfl, ⟨_, Or.inl ⟨Nat.le_of_ble_eq_true rfl, rfl⟩, rfl⟩, zw_1653, zw_1655⟩) <|
  z_fc (zo_l (by decide +kernel) rfl rfl trivial) <|
  z_fc (zo_l (by decide +kernel) rfl rfl (by show ((925 : Nat) : Int) + (638) = ((1563 : Nat) : Int); decide)) <|
  z_fc (zo_l (by decide +kernel) rfl rfl trivial) <|
  z_fc (zo_l (by decide +kernel) rfl rfl trivial) <|
  z_fc (zo_l (by decide +kernel) rfl rfl trivial) <|
  z_fc (zo_l (by decide +kernel) rfl rfl trivial) <|
  z_fc (zo_l (by decide +kernel) rfl rfl trivial) <|
  z_fc (zo_h (by decide +kernel) rfl rfl) <|
  z_fc (zo_l (by decide +kernel) rfl rfl trivial) <|
  z_fc (zo_s (by decide +kernel) rfl ⟨zd_316, zw_1069, zw_1070⟩) <|
  z_fc (zo_l (by decide +kernel) rfl rfl trivial) <|
  z_fc (zo_l (by decide +kernel) rfl rfl trivial) <|
  z_fc (zo_l (by decide +kernel) rfl rfl trivial) <|
  h
theorem zk_327_11 (xs : List Int32) {l : List zE} (h : ∀ q ∈ l, z_oke' (za_T xs) za_P za_M ⟨"LyndonBenchLaw", "law", "([I)Z"⟩ code q) : ∀ q ∈ zc_327_11 ++ l, z_oke' (za_T xs) za_P za_M ⟨"LyndonBenchLaw", "law", "([I)Z"⟩ code q :=
  z_fc (zo_l (by decide +kernel) rfl rfl trivial) <|
  z_fc (zo_l (by decide +kernel) rfl rfl trivial) <|
  z_fc (zo_l (by decide +kernel) rfl rfl trivial) <|
  z_fc (zo_h (by decide +kernel) rfl rfl) <|
  z_fc (zo_v (by decide +kernel) rfl ⟨rfl, zd_255, zw_1658, Nat.le_of_ble_eq_true rfl, ⟨_, Or.inl ⟨Nat.le_of_ble_eq_true rfl, rfl⟩, rfl⟩, zw_1657, zw_1659⟩) <|
  z_fc (zo_l (by decide +kernel) rfl rfl trivial) <|
  z_fc (zo_l (by decide +kernel) rfl rfl (by show ((953 : Nat) : Int) + (610) = ((1563 : Nat) : Int); decide)) <|
  z_fc (zo_l (by decide +kernel) rfl rfl trivial) <|
  z_fc (zo_l (by decide +kernel) rfl rfl trivial) <|
  z_fc (zo_l (by decide +kernel) rfl rfl trivial) <|
  z_fc (zo_l (by decide +kernel) rfl rfl trivial) <|
  z_fc (zo_l (by decide +kernel) rfl rfl trivial) <|
  z_fc (zo_h (by decide +kernel) rfl rfl) <|
  z_fc (zo_l (by decide +kernel) rfl rfl trivial) <|
  z_fc (zo_s (by decide +kernel) rfl ⟨zd_317, zw_1076, zw_1077⟩) <|
  z_fc (zo_l (by decide +kernel) rfl rfl trivial) <|
  z_fc (zo_l (by decide +kernel) rfl rfl trivial) <|
  z_fc (zo_l (by decide +kernel) rfl rfl trivial) <|
  z_fc (zo_l (by decide +kernel) rfl rfl trivial) <|
  z_fc (zo_l (by decide +kernel) rfl rfl trivial) <|
  z_fc (zo_l (by decide +kernel) rfl rfl trivial) <|
  z_fc (zo_h (by decide +kernel) rfl rfl) <|
  z_fc (zo_v (by decide +kernel) rfl ⟨rfl, zd_256, zw_1666, Nat.le_of_ble_eq_true rfl, ⟨_, Or.inl ⟨Nat.le_of_ble_eq_true rfl, rfl⟩, rfl⟩, zw_1665, zw_1667⟩) <|
  z_fc (zo_l (by decide +kernel) rfl rfl trivial) <|
  z_fc (zo_l (by decide +kernel) rfl rfl (by show ((981 : Nat) : Int) + (582) = ((1563 : Nat) : Int); decide)) <|
  z_fc (zo_l (by decide +kernel) rfl rfl trivial) <|
  z_fc (zo_l (by decide +kernel) rfl rfl trivial) <|
  z_fc (zo_l (by decide +kernel) rfl rfl trivial) <|
  z_fc (zo_l (by decide +kernel) rfl rfl trivial) <|
  z_fc (zo_l (by decide +kernel) rfl rfl trivial) <|
  z_fc (zo_h (by decide +kernel) rfl rfl) <|
  z_fc (zo_l (by decide +kernel) rfl rfl trivial) <|
  z_fc (zo_s (by decide +kernel) rfl ⟨zd_318, zw_1083, zw_1084⟩) <|
  z_fc (zo_l (by decide +kernel) rfl rfl trivial) <|
  z_fc (zo_l (by decide +kernel) rfl rfl trivial) <|
  z_fc (zo_l (by decide +kernel) rfl rfl trivial) <|
  z_fc (zo_l (by decide +kernel) rfl rfl trivial) <|
  z_fc (zo_l (by decide +kernel) rfl rfl trivial) <|
  z_fc (zo_l (by decide +kernel) rfl rfl trivial) <|
  z_fc (zo_h (by decide +kernel) rfl rfl) <|
  h
theorem zk_327_12 (xs : List Int32) {l : List zE} (h : ∀ q ∈ l, z_oke' (za_T xs) za_P za_M ⟨"LyndonBenchLaw", "law", "([I)Z"⟩ code q) : ∀ q ∈ zc_327_12 ++ l, z_oke' (za_T xs) za_P za_M ⟨"LyndonBenchLaw", "law", "([I)Z"⟩ code q :=
  z_fc (zo_v (by decide +kernel) rfl ⟨rfl, zd_259, zw_1670, Nat.le_of_ble_eq_true rfl, ⟨_, Or.inl ⟨Nat.le_of_ble_eq_true rfl, rfl⟩, rfl⟩, zw_1669, zw_1671⟩) <|
  z_fc (zo_l (by decide +kernel) rfl rfl trivial) <|
  z_fc (zo_l (by decide +kernel) rfl rfl (by show ((1009 : Nat) : Int) + (554) = ((1563 : Nat) : Int); decide)) <|
  z_fc (zo_l (by decide +kernel) rfl rfl trivial) <|
  z_fc (zo_l (by decide +kernel) rfl rfl trivial) <|
  z_fc (zo_l (by decide +kernel) rfl rfl trivial) <|
  z_fc (zo_l (by decide +kernel) rfl rfl trivial) <|
  z_fc (zo_l (by decide +kernel) rfl rfl trivial) <|
  z_fc (zo_h (by decide +kernel) rfl rfl) <|
  z_fc (zo_v (by decide +kernel) rfl ⟨rfl, zd_107, zw_654, Nat.le_of_ble_eq_true rfl, ⟨_, Or.inl ⟨Nat.le_of_ble_eq_true rfl, rfl⟩, rfl⟩, zw_653, zw_655⟩) <|
  z_fc (zo_l (by decide +kernel) rfl rfl trivial) <|
  z_fc (zo_l (by decide +kernel) rfl rfl trivial) <|
  z_fc (zo_l (by decide +kernel) rfl rfl trivial) <|
  z_fc (zo_l (by decide +kernel) rfl rfl trivial) <|
  z_fc (zo_l (by decide +kernel) rfl rfl trivial) <|
  z_fc (zo_l (by decide +kernel) rfl rfl trivial) <|
  z_fc (zo_h (by decide +kernel) rfl rfl) <|
  z_fc (zo_v (by decide +kernel) rfl ⟨rfl, zd_260, zw_1682, Nat.le_of_ble_eq_true rfl, ⟨_, Or.inl ⟨Nat.le_of_ble_eq_true rfl, rfl⟩, rfl⟩, zw_1681, zw_1683⟩) <|
  z_fc (zo_l (by decide +kernel) rfl rfl trivial) <|
  z_fc (zo_l (by decide +kernel) rfl rfl (by show ((1034 : Nat) : Int) + (529) = ((1563 : Nat) : Int); decide)) <|
  z_fc (zo_l (by decide +kernel) rfl rfl trivial) <|
  z_fc (zo_v (by decide +kernel) rfl ⟨rfl, zd_108, zw_662, Nat.le_of_ble_eq_true rfl, ⟨_, Or.inl ⟨Nat.le_of_ble_eq_true rfl, rfl⟩, rfl⟩, zw_661, zw_663⟩) <|
  z_fc (zo_l (by decide +kernel) rfl rfl trivial) <|
  z_fc (zo_l (by decide +kernel) rfl rfl trivial) <|
  z_fc (zo_v (by decide +kernel) rfl ⟨rfl, zd_261, zw_1686, Nat.le_of_ble_eq_true rfl, ⟨_, Or.inl ⟨Nat.le_of_ble_eq_true rfl, rfl⟩, rfl⟩, zw_1685, zw_1687⟩) <|
  z_fc (zo_l (by decide +kernel) rfl rfl trivial) <|
  z_fc (zo_l (by decide +kernel) rfl rfl (by show ((1047 : Nat) : Int) + (516) = ((1563 : Nat) : Int); decide)) <|
  z_fc (zo_l (by decide +kernel) rfl rfl trivial) <|
  z_fc (zo_l (by decide +kernel) rfl rfl trivial) <|
  z_fc (zo_l (by decide +kernel) rfl rfl trivial) <|
  z_fc (zo_l (by decide +kernel) rfl rfl trivial) <|
  z_fc (zo_l (by decide +kernel) rfl rfl trivial) <|
  z_fc (zo_h (by decide +kernel) rfl rfl) <|
  z_fc (zo_l (by decide +kernel) rfl rfl trivial) <|
  z_fc (zo_s (by decide +kernel) rfl ⟨zd_319, zw_1090, zw_1091⟩) <|
  z_fc (zo_l (by decide +kernel) rfl rfl trivial) <|
  z_fc (zo_l (by decide +kernel) rfl rfl trivial) <|
  z_fc (zo_l (by decide +kernel) rfl rfl trivial) <|
  z_fc (zo_l (by decide +kernel) rfl rfl trivial) <|
  z_fc (zo_l (by decide +kernel) rfl rfl trivial) <|
  h
theorem zk_327_13 (xs : List Int32) {l : List zE} (h : ∀ q ∈ l, z_oke' (za_T xs) za_P za_M ⟨"LyndonBenchLaw", "law", "([I)Z"⟩ code q) : ∀ q ∈ zc_327_13 ++ l, z_oke' (za_T xs) za_P za_M ⟨"LyndonBenchLaw", "law", "([I)Z"⟩ code q :=
  z_fc (zo_l (by decide +kernel) rfl rfl trivial) <|
  z_fc (zo_h (by decide +kernel) rfl rfl) <|
  z_fc (zo_v (by decide +kernel) rfl ⟨rfl, zd_262, zw_1690, Nat.le_of_ble_eq_true rfl, ⟨_, Or.inl ⟨Nat.le_of_ble_eq_true rfl, rfl⟩, rfl⟩, zw_1689, zw_1691⟩) <|
  z_fc (zo_l (by decide +kernel) rfl rfl trivial) <|
  z_fc (zo_l (by decide +kernel) rfl rfl (by show ((1075 : Nat) : Int) + (488) = ((1563 : Nat) : Int); decide)) <|
  z_fc (zo_l (by decide +kernel) rfl rfl trivial) <|
  z_fc (zo_l (by decide +kernel) rfl rfl trivial) <|
  z_fc (zo_l (by decide +kernel) rfl rfl trivial) <|
  z_fc (zo_l (by decide +kernel) rfl rfl trivial) <|
  z_fc (zo_l (by decide +kernel) rfl rfl trivial) <|
  z_fc (zo_h (by decide +kernel) rfl rfl) <|
  z_fc (zo_l (by decide +kernel) rfl rfl trivial) <|
  z_fc (zo_s (by decide +kernel) rfl ⟨zd_320, zw_1098, zw_1099⟩) <|
  z_fc (zo_l (by decide +kernel) rfl rfl trivial) <|
  z_fc (zo_l (by decide +kernel) rfl rfl trivial) <|
  z_fc (zo_l (by decide +kernel) rfl rfl trivial) <|
  z_fc (zo_l (by decide +kernel) rfl rfl trivial) <|
  z_fc (zo_l (by decide +kernel) rfl rfl trivial) <|
  z_fc (zo_l (by decide +kernel) rfl rfl trivial) <|
  z_fc (zo_h (by decide +kernel) rfl rfl) <|
  z_fc (zo_v (by decide +kernel) rfl ⟨rfl, zd_263, zw_1694, Nat.le_of_ble_eq_true rfl, ⟨_, Or.inl ⟨Nat.le_of_ble_eq_true rfl, rfl⟩, rfl⟩, zw_1693, zw_1695⟩) <|
  z_fc (zo_l (by decide +kernel) rfl rfl trivial) <|
  z_fc (zo_l (by decide +kernel) rfl rfl (by show ((1103 : Nat) : Int) + (460) = ((1563 : Nat) : Int); decide)) <|
  z_fc (zo_l (by decide +kernel) rfl rfl trivial) <|
  z_fc (zo_l (by decide +kernel) rfl rfl trivial) <|
  z_fc (zo_l (by decide +kernel) rfl rfl trivial) <|
  z_fc (zo_l (by decide +kernel) rfl rfl trivial) <|
  z_fc (zo_l (by decide +kernel) rfl rfl trivial) <|
  z_fc (zo_h (by decide +kernel) rfl rfl) <|
  z_fc (zo_l (by decide +kernel) rfl rfl trivial) <|
  z_fc (zo_s (by decide +kernel) rfl ⟨zd_321, zw_1105, zw_1106⟩) <|
  z_fc (zo_l (by decide +kernel) rfl rfl trivial) <|
  z_fc (zo_l (by decide +kernel) rfl rfl trivial) <|
  z_fc (zo_l (by decide +kernel) rfl rfl trivial) <|
  z_fc (zo_l (by decide +kernel) rfl rfl trivial) <|
  z_fc (zo_l (by decide +kernel) rfl rfl trivial) <|
  z_fc (zo_l (by decide +kernel) rfl rfl trivial) <|
  z_fc (zo_h (by decide +kernel) rfl rfl) <|
  z_fc (zo_v (by decide +kernel) rfl ⟨rfl, zd_265, zw_1698, Nat.le_of_ble_eq_true rfl, ⟨_, Or.inl ⟨Nat.le_of_ble_eq_true rfl, rfl⟩, rfl⟩, zw_1697, zw_1699⟩) <|
  z_fc (zo_l (by decide +kernel) rfl rfl trivial) <|
  h
theorem zk_327_14 (xs : List Int32) {l : List zE} (h : ∀ q ∈ l, z_oke' (za_T xs) za_P za_M ⟨"LyndonBenchLaw", "law", "([I)Z"⟩ code q) : ∀ q ∈ zc_327_14 ++ l, z_oke' (za_T xs) za_P za_M ⟨"LyndonBenchLaw", "law", "([I)Z"⟩ code q :=
  z_fc (zo_l (by decide +kernel) rfl rfl (by show ((1131 : Nat) : Int) + (432) = ((1563 : Nat) : Int); decide)) <|
  z_fc (zo_l (by decide +kernel) rfl rfl trivial) <|
  z_fc (zo_v (by decide +kernel) rfl ⟨rfl, zd_112, zw_670, Nat.le_of_ble_eq_true rfl, ⟨_, Or.inl ⟨Nat.le_of_ble_eq_true rfl, rfl⟩, rfl⟩, zw_669, zw_671⟩) <|
  z_fc (zo_l (by decide +kernel) rfl rfl trivial) <|
  z_fc (zo_l (by decide +kernel) rfl rfl trivial) <|
  z_fc (zo_v (by decide +kernel) rfl ⟨rfl, zd_266, zw_1714, Nat.le_of_ble_eq_true rfl, ⟨_, Or.inl ⟨Nat.le_of_ble_eq_true rfl, rfl⟩, rfl⟩, zw_1713, zw_1715⟩) <|
  z_fc (zo_l (by decide +kernel) rfl rfl trivial) <|
  z_fc (zo_l (by decide +kernel) rfl rfl (by show ((1144 : Nat) : Int) + (419) = ((1563 : Nat) : Int); decide)) <|
  z_fc (zo_l (by decide +kernel) rfl rfl trivial) <|
  z_fc (zo_v (by decide +kernel) rfl ⟨rfl, zd_113, zw_675, Nat.le_of_ble_eq_true rfl, ⟨_, Or.inl ⟨Nat.le_of_ble_eq_true rfl, rfl⟩, rfl⟩, zw_674, zw_676⟩) <|
  z_fc (zo_l (by decide +kernel) rfl rfl trivial) <|
  z_fc (zo_l (by decide +kernel) rfl rfl trivial) <|
  z_fc (zo_v (by decide +kernel) rfl ⟨rfl, zd_267, zw_1718, Nat.le_of_ble_eq_true rfl, ⟨_, Or.inl ⟨Nat.le_of_ble_eq_true rfl, rfl⟩, rfl⟩, zw_1717, zw_1719⟩) <|
  z_fc (zo_l (by decide +kernel) rfl rfl trivial) <|
  z_fc (zo_l (by decide +kernel) rfl rfl (by show ((1157 : Nat) : Int) + (406) = ((1563 : Nat) : Int); decide)) <|
  z_fc (zo_l (by decide +kernel) rfl rfl trivial) <|
  z_fc (zo_v (by decide +kernel) rfl ⟨rfl, zd_114, zw_692, Nat.le_of_ble_eq_true rfl, ⟨_, Or.inl ⟨Nat.le_of_ble_eq_true rfl, rfl⟩, rfl⟩, zw_691, zw_693⟩) <|
  z_fc (zo_l (by decide +kernel) rfl rfl trivial) <|
  z_fc (zo_l (by decide +kernel) rfl rfl trivial) <|
  z_fc (zo_v (by decide +kernel) rfl ⟨rfl, zd_268, zw_1722, Nat.le_of_ble_eq_true rfl, ⟨_, Or.inl ⟨Nat.le_of_ble_eq_true rfl, rfl⟩, rfl⟩, zw_1721, zw_1723⟩) <|
  z_fc (zo_l (by decide +kernel) rfl rfl trivial) <|
  z_fc (zo_l (by decide +kernel) rfl rfl (by show ((1170 : Nat) : Int) + (393) = ((1563 : Nat) : Int); decide)) <|
  z_fc (zo_l (by decide +kernel) rfl rfl trivial) <|
  z_fc (zo_v (by decide +kernel) rfl ⟨rfl, zd_115, zw_696, Nat.le_of_ble_eq_true rfl, ⟨_, Or.inl ⟨Nat.le_of_ble_eq_true rfl, rfl⟩, rfl⟩, zw_695, zw_697⟩) <|
  z_fc (zo_l (by decide +kernel) rfl rfl trivial) <|
  z_fc (zo_l (by decide +kernel) rfl rfl trivial) <|
  z_fc (zo_v (by decide +kernel) rfl ⟨rfl, zd_269, zw_1726, Nat.le_of_ble_eq_true rfl, ⟨_, Or.inl ⟨Nat.le_of_ble_eq_true rfl, rfl⟩, rfl⟩, zw_1725, zw_1727⟩) <|
  z_fc (zo_l (by decide +kernel) rfl rfl trivial) <|
  z_fc (zo_l (by decide +kernel) rfl rfl (by show ((1183 : Nat) : Int) + (380) = ((1563 : Nat) : Int); decide)) <|
  z_fc (zo_l (by decide +kernel) rfl rfl trivial) <|
  z_fc (zo_v (by decide +kernel) rfl ⟨rfl, zd_116, zw_704, Nat.le_of_ble_eq_true rfl, ⟨_, Or.inl ⟨Nat.le_of_ble_eq_true rfl, rfl⟩, rfl⟩, zw_703, zw_705⟩) <|
  z_fc (zo_l (by decide +kernel) rfl rfl trivial) <|
  z_fc (zo_l (by decide +kernel) rfl rfl trivial) <|
  z_fc (zo_v (by decide +kernel) rfl ⟨rfl, zd_270, zw_1734, Nat.le_of_ble_eq_true rfl, ⟨_, Or.inl ⟨Nat.le_of_ble_eq_true rfl, rfl⟩, rfl⟩, zw_1733, zw_1735⟩) <|
  z_fc (zo_l (by decide +kernel) rfl rfl trivial) <|
  z_fc (zo_l (by decide +kernel) rfl rfl (by show ((1196 : Nat) : Int) + (367) = ((1563 : Nat) : Int); decide)) <|
  z_fc (zo_l (by decide +kernel) rfl rfl trivial) <|
  z_fc (zo_v (by decide +kernel) rfl ⟨rfl, zd_117, zw_709, Nat.le_of_ble_eq_true rfl, ⟨_, Or.inl ⟨Nat.le_of_ble_eq_true rfl, rfl⟩, rfl⟩, zw_708, zw_710⟩) <|
  z_fc (zo_l (by decide +kernel) rfl rfl trivial) <|
  z_fc (zo_l (by decide +kernel) rfl rfl trivial) <|
  h
theorem zk_327_15 (xs : List Int32) {l : List zE} (h : ∀ q ∈ l, z_oke' (za_T xs) za_P za_M ⟨"LyndonBenchLaw", "law", "([I)Z"⟩ code q) : ∀ q ∈ zc_327_15 ++ l, z_oke' (za_T xs) za_P za_M ⟨"LyndonBenchLaw", "law", "([I)Z"⟩ code q :=
  z_fc (zo_v (by decide +kernel) rfl ⟨rfl, zd_271, zw_1738, Nat.le_of_ble_eq_true rfl, ⟨_, Or.inl ⟨Nat.le_of_ble_eq_true rfl, rfl⟩, rfl⟩, zw_1737, zw_1739⟩) <|
  z_fc (zo_l (by decide +kernel) rfl rfl trivial) <|
  z_fc (zo_l (by decide +kernel) rfl rfl (by show ((1209 : Nat) : Int) + (354) = ((1563 : Nat) : Int); decide)) <|
  z_fc (zo_l (by decide +kernel) rfl rfl trivial) <|
  z_fc (zo_v (by decide +kernel) rfl ⟨rfl, zd_118, zw_713, Nat.le_of_ble_eq_true rfl, ⟨_, Or.inl ⟨Nat.le_of_ble_eq_true rfl, rfl⟩, rfl⟩, zw_712, zw_714⟩) <|
  z_fc (zo_l (by decide +kernel) rfl rfl trivial) <|
  z_fc (zo_l (by decide +kernel) rfl rfl trivial) <|
  z_fc (zo_v (by decide +kernel) rfl ⟨rfl, zd_272, zw_1742, Nat.le_of_ble_eq_true rfl, ⟨_, Or.inl ⟨Nat.le_of_ble_eq_true rfl, rfl⟩, rfl⟩, zw_1741, zw_1743⟩) <|
  z_fc (zo_l (by decide +kernel) rfl rfl trivial) <|
  z_fc (zo_l (by decide +kernel) rfl rfl (by show ((1222 : Nat) : Int) + (341) = ((1563 : Nat) : Int); decide)) <|
  z_fc (zo_l (by decide +kernel) rfl rfl trivial) <|
  z_fc (zo_v (by decide +kernel) rfl ⟨rfl, zd_119, zw_717, Nat.le_of_ble_eq_true rfl, ⟨_, Or.inl ⟨Nat.le_of_ble_eq_true rfl, rfl⟩, rfl⟩, zw_716, zw_718⟩) <|
  z_fc (zo_l (by decide +kernel) rfl rfl trivial) <|
  z_fc (zo_l (by decide +kernel) rfl rfl trivial) <|
  z_fc (zo_v (by decide +kernel) rfl ⟨rfl, zd_273, zw_1750, Nat.le_of_ble_eq_true rfl, ⟨_, Or.inl ⟨Nat.le_of_ble_eq_true rfl, rfl⟩, rfl⟩, zw_1749, zw_1751⟩) <|
  z_fc (zo_l (by decide +kernel) rfl rfl trivial) <|
  z_fc (zo_l (by decide +kernel) rfl rfl (by show ((1235 : Nat) : Int) + (328) = ((1563 : Nat) : Int); decide)) <|
  z_fc (zo_l (by decide +kernel) rfl rfl trivial) <|
  z_fc (zo_v (by decide +kernel) rfl ⟨rfl, zd_120, zw_722, Nat.le_of_ble_eq_true rfl, ⟨_, Or.inl ⟨Nat.le_of_ble_eq_true rfl, rfl⟩, rfl⟩, zw_721, zw_723⟩) <|
  z_fc (zo_l (by decide +kernel) rfl rfl trivial) <|
  z_fc (zo_l (by decide +kernel) rfl rfl trivial) <|
  z_fc (zo_v (by decide +kernel) rfl ⟨rfl, zd_274, zw_1758, Nat.le_of_ble_eq_true rfl, ⟨_, Or.inl ⟨Nat.le_of_ble_eq_true rfl, rfl⟩, rfl⟩, zw_1757, zw_1759⟩) <|
  z_fc (zo_l (by decide +kernel) rfl rfl trivial) <|
  z_fc (zo_l (by decide +kernel) rfl rfl (by show ((1248 : Nat) : Int) + (315) = ((1563 : Nat) : Int); decide)) <|
  z_fc (zo_l (by decide +kernel) rfl rfl trivial) <|
  z_fc (zo_v (by decide +kernel) rfl ⟨rfl, zd_121, zw_726, Nat.le_of_ble_eq_true rfl, ⟨_, Or.inl ⟨Nat.le_of_ble_eq_true rfl, rfl⟩, rfl⟩, zw_725, zw_727⟩) <|
  z_fc (zo_l (by decide +kernel) rfl rfl trivial) <|
  z_fc (zo_l (by decide +kernel) rfl rfl trivial) <|
  z_fc (zo_v (by decide +kernel) rfl ⟨rfl, zd_275, zw_1762, Nat.le_of_ble_eq_true rfl, ⟨_, Or.inl ⟨Nat.le_of_ble_eq_true rfl, rfl⟩, rfl⟩, zw_1761, zw_1763⟩) <|
  z_fc (zo_l (by decide +kernel) rfl rfl trivial) <|
  z_fc (zo_l (by decide +kernel) rfl rfl (by show ((1261 : Nat) : Int) + (302) = ((1563 : Nat) : Int); decide)) <|
  z_fc (zo_l (by decide +kernel) rfl rfl trivial) <|
  z_fc (zo_v (by decide +kernel) rfl ⟨rfl, zd_122, zw_734, Nat.le_of_ble_eq_true rfl, ⟨_, Or.inl ⟨Nat.le_of_ble_eq_true rfl, rfl⟩, rfl⟩, zw_733, zw_735⟩) <|
  z_fc (zo_l (by decide +kernel) rfl rfl trivial) <|
  z_fc (zo_l (by decide +kernel) rfl rfl trivial) <|
  z_fc (zo_v (by decide +kernel) rfl ⟨rfl, zd_276, zw_1770, Nat.le_of_ble_eq_true rfl, ⟨_, Or.inl ⟨Nat.le_of_ble_eq_true rfl, rfl⟩, rfl⟩, zw_1769, zw_1771⟩) <|
  z_fc (zo_l (by decide +kernel) rfl rfl trivial) <|
  z_fc (zo_l (by decide +kernel) rfl rfl (by show ((1274 : Nat) : Int) + (289) = ((1563 : Nat) : Int); decide)) <|
  z_fc (zo_l (by decide +kernel) rfl rfl trivial) <|
  z_fc (zo_l (by decide +kernel) rfl rfl trivial) <|
  h
theorem zk_327_16 (xs : List Int32) {l : List zE} (h : ∀ q ∈ l, z_oke' (za_T xs) za_P za_M ⟨"LyndonBenchLaw", "law", "([I)Z"⟩ code q) : ∀ q ∈ zc_327_16 ++ l, z_oke' (za_T xs) za_P za_M ⟨"LyndonBenchLaw", "law", "([I)Z"⟩ code q :=
  z_fc (zo_l (by decide +kernel) rfl rfl trivial) <|
  z_fc (zo_l (by decide +kernel) rfl rfl trivial) <|
  z_fc (zo_l (by decide +kernel) rfl rfl trivial) <|
  z_fc (zo_h (by decide +kernel) rfl rfl) <|
  z_fc (zo_l (by decide +kernel) rfl rfl trivial) <|
  z_fc (zo_s (by decide +kernel) rfl ⟨zd_322, zw_1124, zw_1125⟩) <|
  z_fc (zo_l (by decide +kernel) rfl rfl trivial) <|
  z_fc (zo_l (by decide +kernel) rfl rfl trivial) <|
  z_fc (zo_l (by decide +kernel) rfl rfl trivial) <|
  z_fc (zo_l (by decide +kernel) rfl rfl trivial) <|
  z_fc (zo_l (by decide +kernel) rfl rfl trivial) <|
  z_fc (zo_l (by decide +kernel) rfl rfl trivial) <|
  z_fc (zo_h (by decide +kernel) rfl rfl) <|
  z_fc (zo_v (by decide +kernel) rfl ⟨rfl, zd_277, zw_1774, Nat.le_of_ble_eq_true rfl, ⟨_, Or.inl ⟨Nat.le_of_ble_eq_true rfl, rfl⟩, rfl⟩, zw_1773, zw_1775⟩) <|
  z_fc (zo_l (by decide +kernel) rfl rfl trivial) <|
  z_fc (zo_l (by decide +kernel) rfl rfl (by show ((1302 : Nat) : Int) + (261) = ((1563 : Nat) : Int); decide)) <|
  z_fc (zo_l (by decide +kernel) rfl rfl trivial) <|
  z_fc (zo_l (by decide +kernel) rfl rfl trivial) <|
  z_fc (zo_l (by decide +kernel) rfl rfl trivial) <|
  z_fc (zo_l (by decide +kernel) rfl rfl trivial) <|
  z_fc (zo_l (by decide +kernel) rfl rfl trivial) <|
  z_fc (zo_h (by decide +kernel) rfl rfl) <|
  z_fc (zo_l (by decide +kernel) rfl rfl trivial) <|
  z_fc (zo_s (by decide +kernel) rfl ⟨zd_323, zw_1136, zw_1137⟩) <|
  z_fc (zo_l (by decide +kernel) rfl rfl trivial) <|
  z_fc (zo_l (by decide +kernel) rfl rfl trivial) <|
  z_fc (zo_l (by decide +kernel) rfl rfl trivial) <|
  z_fc (zo_l (by decide +kernel) rfl rfl trivial) <|
  z_fc (zo_l (by decide +kernel) rfl rfl trivial) <|
  z_fc (zo_l (by decide +kernel) rfl rfl trivial) <|
  z_fc (zo_h (by decide +kernel) rfl rfl) <|
  z_fc (zo_v (by decide +kernel) rfl ⟨rfl, zd_278, zw_1782, Nat.le_of_ble_eq_true rfl, ⟨_, Or.inl ⟨Nat.le_of_ble_eq_true rfl, rfl⟩, rfl⟩, zw_1781, zw_1783⟩) <|
  z_fc (zo_l (by decide +kernel) rfl rfl trivial) <|
  z_fc (zo_l (by decide +kernel) rfl rfl (by show ((1330 : Nat) : Int) + (233) = ((1563 : Nat) : Int); decide)) <|
  z_fc (zo_l (by decide +kernel) rfl rfl trivial) <|
  z_fc (zo_l (by decide +kernel) rfl rfl trivial) <|
  z_fc (zo_l (by decide +kernel) rfl rfl trivial) <|
  z_fc (zo_l (by decide +kernel) rfl rfl trivial) <|
  z_fc (zo_l (by decide +kernel) rfl rfl trivial) <|
  z_fc (zo_h (by decide +kernel) rfl rfl) <|
  h
theorem zk_327_17 (xs : List Int32) {l : List zE} (h : ∀ q ∈ l, z_oke' (za_T xs) za_P za_M ⟨"LyndonBenchLaw", "law", "([I)Z"⟩ code q) : ∀ q ∈ zc_327_17 ++ l, z_oke' (za_T xs) za_P za_M ⟨"LyndonBenchLaw", "law", "([I)Z"⟩ code q :=
  z_fc (zo_l (by decide +kernel) rfl rfl trivial) <|
  z_fc (zo_l (by decide +kernel) rfl rfl trivial) <|
  z_fc (zo_l (by decide +kernel) rfl rfl trivial) <|
  z_fc (zo_l (by decide +kernel) rfl rfl trivial) <|
  z_fc (zo_h (by decide +kernel) rfl rfl) <|
  z_fc (zo_l (by decide +kernel) rfl rfl trivial) <|
  z_fc (zo_s (by decide +kernel) rfl ⟨zd_324, zw_1143, zw_1144⟩) <|
  z_fc (zo_l (by decide +kernel) rfl rfl trivial) <|
  z_fc (zo_l (by decide +kernel) rfl rfl trivial) <|
  z_fc (zo_l (by decide +kernel) rfl rfl trivial) <|
  z_fc (zo_l (by decide +kernel) rfl rfl trivial) <|
  z_fc (zo_l (by decide +kernel) rfl rfl trivial) <|
  z_fc (zo_l (by decide +kernel) rfl rfl trivial) <|
  z_fc (zo_h (by decide +kernel) rfl rfl) <|
  z_fc (zo_l (by decide +kernel) rfl rfl trivial) <|
  z_fc (zo_l (by decide +kernel) rfl rfl trivial) <|
  z_fc (zo_l (by decide +kernel) rfl rfl trivial) <|
  z_fc (zo_l (by decide +kernel) rfl rfl trivial) <|
  z_fc (zo_h (by decide +kernel) rfl rfl) <|
  z_fc (zo_v (by decide +kernel) rfl ⟨rfl, zd_279, zw_1790, Nat.le_of_ble_eq_true rfl, ⟨_, Or.inl ⟨Nat.le_of_ble_eq_true rfl, rfl⟩, rfl⟩, zw_1789, zw_1791⟩) <|
  z_fc (zo_l (by decide +kernel) rfl rfl trivial) <|
  z_fc (zo_l (by decide +kernel) rfl rfl (by show ((1370 : Nat) : Int) + (193) = ((1563 : Nat) : Int); decide)) <|
  z_fc (zo_l (by decide +kernel) rfl rfl trivial) <|
  z_fc (zo_v (by decide +kernel) rfl ⟨rfl, zd_126, zw_738, Nat.le_of_ble_eq_true rfl, ⟨_, Or.inl ⟨Nat.le_of_ble_eq_true rfl, rfl⟩, rfl⟩, zw_737, zw_739⟩) <|
  z_fc (zo_l (by decide +kernel) rfl rfl trivial) <|
  z_fc (zo_l (by decide +kernel) rfl rfl trivial) <|
  z_fc (zo_v (by decide +kernel) rfl ⟨rfl, zd_280, zw_1794, Nat.le_of_ble_eq_true rfl, ⟨_, Or.inl ⟨Nat.le_of_ble_eq_true rfl, rfl⟩, rfl⟩, zw_1793, zw_1795⟩) <|
  z_fc (zo_l (by decide +kernel) rfl rfl trivial) <|
  z_fc (zo_l (by decide +kernel) rfl rfl (by show ((1383 : Nat) : Int) + (180) = ((1563 : Nat) : Int); decide)) <|
  z_fc (zo_l (by decide +kernel) rfl rfl trivial) <|
  z_fc (zo_l (by decide +kernel) rfl rfl trivial) <|
  z_fc (zo_l (by decide +kernel) rfl rfl trivial) <|
  z_fc (zo_l (by decide +kernel) rfl rfl trivial) <|
  z_fc (zo_l (by decide +kernel) rfl rfl trivial) <|
  z_fc (zo_h (by decide +kernel) rfl rfl) <|
  z_fc (zo_l (by decide +kernel) rfl rfl trivial) <|
  z_fc (zo_s (by decide +kernel) rfl ⟨zd_325, zw_1156, zw_1157⟩) <|
  z_fc (zo_l (by decide +kernel) rfl rfl trivial) <|
  z_fc (zo_l (by decide +kernel) rfl rfl trivial) <|
  z_fc (zo_l (by decide +kernel) rfl rfl trivial) <|
  h
theorem zk_327_18 (xs : List Int32) {l : List zE} (h : ∀ q ∈ l, z_oke' (za_T xs) za_P za_M ⟨"LyndonBenchLaw", "law", "([I)Z"⟩ code q) : ∀ q ∈ zc_327_18 ++ l, z_oke' (za_T xs) za_P za_M ⟨"LyndonBenchLaw", "law", "([I)Z"⟩ code q :=
  z_fc (zo_l (by decide +kernel) rfl rfl trivial) <|
  z_fc (zo_l (by decide +kernel) rfl rfl trivial) <|
  z_fc (zo_l (by decide +kernel) rfl rfl trivial) <|
  z_fc (zo_h (by decide +kernel) rfl rfl) <|
  z_fc (zo_v (by decide +kernel) rfl ⟨rfl, zd_281, zw_1798, Nat.le_of_ble_eq_true rfl, ⟨_, Or.inl ⟨Nat.le_of_ble_eq_true rfl, rfl⟩, rfl⟩, zw_1797, zw_1799⟩) <|
  z_fc (zo_l (by decide +kernel) rfl rfl trivial) <|
  z_fc (zo_l (by decide +kernel) rfl rfl (by show ((1411 : Nat) : Int) + (152) = ((1563 : Nat) : Int); decide)) <|
  z_fc (zo_l (by decide +kernel) rfl rfl trivial) <|
  z_fc (zo_l (by decide +kernel) rfl rfl trivial) <|
  z_fc (zo_l (by decide +kernel) rfl rfl trivial) <|
  z_fc (zo_l (by decide +kernel) rfl rfl trivial) <|
  z_fc (zo_l (by decide +kernel) rfl rfl trivial) <|
  z_fc (zo_h (by decide +kernel) rfl rfl) <|
  z_fc (zo_l (by decide +kernel) rfl rfl trivial) <|
  z_fc (zo_l (by decide +kernel) rfl rfl trivial) <|
  z_fc (zo_l (by decide +kernel) rfl rfl trivial) <|
  z_fc (zo_l (by decide +kernel) rfl rfl trivial) <|
  z_fc (zo_h (by decide +kernel) rfl rfl) <|
  z_fc (zo_l (by decide +kernel) rfl rfl trivial) <|
  z_fc (zo_s (by decide +kernel) rfl ⟨zd_326, zw_1163, zw_1164⟩) <|
  z_fc (zo_l (by decide +kernel) rfl rfl trivial) <|
  z_fc (zo_l (by decide +kernel) rfl rfl trivial) <|
  z_fc (zo_l (by decide +kernel) rfl rfl trivial) <|
  z_fc (zo_l (by decide +kernel) rfl rfl trivial) <|
  z_fc (zo_l (by decide +kernel) rfl rfl trivial) <|
  z_fc (zo_l (by decide +kernel) rfl rfl trivial) <|
  z_fc (zo_h (by decide +kernel) rfl rfl) <|
  z_fc (zo_l (by decide +kernel) rfl rfl trivial) <|
  z_fc (zo_l (by decide +kernel) rfl rfl trivial) <|
  z_fc (zo_l (by decide +kernel) rfl rfl trivial) <|
  z_fc (zo_l (by decide +kernel) rfl rfl trivial) <|
  z_fc (zo_h (by decide +kernel) rfl rfl) <|
  z_fc (zo_v (by decide +kernel) rfl ⟨rfl, zd_282, zw_1802, Nat.le_of_ble_eq_true rfl, ⟨_, Or.inl ⟨Nat.le_of_ble_eq_true rfl, rfl⟩, rfl⟩, zw_1801, zw_1803⟩) <|
  z_fc (zo_l (by decide +kernel) rfl rfl trivial) <|
  z_fc (zo_l (by decide +kernel) rfl rfl (by show ((1451 : Nat) : Int) + (112) = ((1563 : Nat) : Int); decide)) <|
  z_fc (zo_l (by decide +kernel) rfl rfl trivial) <|
  z_fc (zo_v (by decide +kernel) rfl ⟨rfl, zd_129, zw_742, Nat.le_of_ble_eq_true rfl, ⟨_, Or.inl ⟨Nat.le_of_ble_eq_true rfl, rfl⟩, rfl⟩, zw_741, zw_743⟩) <|
  z_fc (zo_l (by decide +kernel) rfl rfl trivial) <|
  z_fc (zo_l (by decide +kernel) rfl rfl trivial) <|
  z_fc (zo_v (by decide +kernel) rfl ⟨rfl, zd_283, zw_1806, Nat.le_of_ble_eq_true rfl, ⟨_, Or.inl ⟨Nat.le_of_ble_eq_true rfl, rfl⟩, rfl⟩, zw_1805, zw_1807⟩) <|
  h
theorem zk_327_19 (xs : List Int32) {l : List zE} (h : ∀ q ∈ l, z_oke' (za_T xs) za_P za_M ⟨"LyndonBenchLaw", "law", "([I)Z"⟩ code q) : ∀ q ∈ zc_327_19 ++ l, z_oke' (za_T xs) za_P za_M ⟨"LyndonBenchLaw", "law", "([I)Z"⟩ code q :=
  z_fc (zo_l (by decide +kernel) rfl rfl trivial) <|
  z_fc (zo_l (by decide +kernel) rfl rfl (by show ((1464 : Nat) : Int) + (99) = ((1563 : Nat) : Int); decide)) <|
  z_fc (zo_l (by decide +kernel) rfl rfl trivial) <|
  z_fc (zo_v (by decide +kernel) rfl ⟨rfl, zd_130, zw_748, Nat.le_of_ble_eq_true rfl, ⟨_, Or.inl ⟨Nat.le_of_ble_eq_true rfl, rfl⟩, rfl⟩, zw_747, zw_749⟩) <|
  z_fc (zo_l (by decide +kernel) rfl rfl trivial) <|
  z_fc (zo_l (by decide +kernel) rfl rfl trivial) <|
  z_fc (zo_v (by decide +kernel) rfl ⟨rfl, zd_284, zw_1810, Nat.le_of_ble_eq_true rfl, ⟨_, Or.inl ⟨Nat.le_of_ble_eq_true rfl, rfl⟩, rfl⟩, zw_1809, zw_1811⟩) <|
  z_fc (zo_l (by decide +kernel) rfl rfl trivial) <|
  z_fc (zo_l (by decide +kernel) rfl rfl (by show ((1477 : Nat) : Int) + (86) = ((1563 : Nat) : Int); decide)) <|
  z_fc (zo_l (by decide +kernel) rfl rfl trivial) <|
  z_fc (zo_v (by decide +kernel) rfl ⟨rfl, zd_131, zw_753, Nat.le_of_ble_eq_true rfl, ⟨_, Or.inl ⟨Nat.le_of_ble_eq_true rfl, rfl⟩, rfl⟩, zw_752, zw_754⟩) <|
  z_fc (zo_l (by decide +kernel) rfl rfl trivial) <|
  z_fc (zo_l (by decide +kernel) rfl rfl trivial) <|
  z_fc (zo_v (by decide +kernel) rfl ⟨rfl, zd_285, zw_1814, Nat.le_of_ble_eq_true rfl, ⟨_, Or.inl ⟨Nat.le_of_ble_eq_true rfl, rfl⟩, rfl⟩, zw_1813, zw_1815⟩) <|
  z_fc (zo_l (by decide +kernel) rfl rfl trivial) <|
  z_fc (zo_l (by decide +kernel) rfl rfl (by show ((1492 : Nat) : Int) + (71) = ((1563 : Nat) : Int); decide)) <|
  z_fc (zo_l (by decide +kernel) rfl rfl trivial) <|
  z_fc (zo_v (by decide +kernel) rfl ⟨rfl, zd_132, zw_757, Nat.le_of_ble_eq_true rfl, ⟨_, Or.inl ⟨Nat.le_of_ble_eq_true rfl, rfl⟩, rfl⟩, zw_756, zw_758⟩) <|
  z_fc (zo_l (by decide +kernel) rfl rfl trivial) <|
  z_fc (zo_l (by decide +kernel) rfl rfl trivial) <|
  z_fc (zo_l (by decide +kernel) rfl rfl trivial) <|
  z_fc (zo_v (by decide +kernel) rfl ⟨rfl, zd_286, zw_1818, Nat.le_of_ble_eq_true rfl, ⟨_, Or.inl ⟨Nat.le_of_ble_eq_true rfl, rfl⟩, rfl⟩, zw_1817, zw_1819⟩) <|
  z_fc (zo_l (by decide +kernel) rfl rfl trivial) <|
  z_fc (zo_l (by decide +kernel) rfl rfl trivial) <|
  z_fc (zo_l (by decide +kernel) rfl rfl (by show ((1509 : Nat) : Int) + (54) = ((1563 : Nat) : Int); decide)) <|
  z_fc (zo_l (by decide +kernel) rfl rfl trivial) <|
  z_fc (zo_v (by decide +kernel) rfl ⟨rfl, zd_133, zw_771, Nat.le_of_ble_eq_true rfl, ⟨_, Or.inl ⟨Nat.le_of_ble_eq_true rfl, rfl⟩, rfl⟩, zw_770, zw_772⟩) <|
  z_fc (zo_l (by decide +kernel) rfl rfl trivial) <|
  z_fc (zo_l (by decide +kernel) rfl rfl trivial) <|
  z_fc (zo_v (by decide +kernel) rfl ⟨rfl, zd_287, zw_1823, Nat.le_of_ble_eq_true rfl, ⟨_, Or.inl ⟨Nat.le_of_ble_eq_true rfl, rfl⟩, rfl⟩, zw_1822, zw_1824⟩) <|
  z_fc (zo_l (by decide +kernel) rfl rfl trivial) <|
  z_fc (zo_l (by decide +kernel) rfl rfl (by show ((1522 : Nat) : Int) + (41) = ((1563 : Nat) : Int); decide)) <|
  z_fc (zo_l (by decide +kernel) rfl rfl trivial) <|
  z_fc (zo_v (by decide +kernel) rfl ⟨rfl, zd_134, zw_779, Nat.le_of_ble_eq_true rfl, ⟨_, Or.inl ⟨Nat.le_of_ble_eq_true rfl, rfl⟩, rfl⟩, zw_778, zw_780⟩) <|
  z_fc (zo_l (by decide +kernel) rfl rfl trivial) <|
  z_fc (zo_l (by decide +kernel) rfl rfl trivial) <|
  z_fc (zo_v (by decide +kernel) rfl ⟨rfl, zd_291, zw_1827, Nat.le_of_ble_eq_true rfl, ⟨_, Or.inl ⟨Nat.le_of_ble_eq_true rfl, rfl⟩, rfl⟩, zw_1826, zw_1828⟩) <|
  z_fc (zo_l (by decide +kernel) rfl rfl trivial) <|
  z_fc (zo_l (by decide +kernel) rfl rfl (by show ((1535 : Nat) : Int) + (28) = ((1563 : Nat) : Int); decide)) <|
  z_fc (zo_l (by decide +kernel) rfl rfl trivial) <|
  h
theorem zk_327_20 (xs : List Int32) {l : List zE} (h : ∀ q ∈ l, z_oke' (za_T xs) za_P za_M ⟨"LyndonBenchLaw", "law", "([I)Z"⟩ code q) : ∀ q ∈ zc_327_20 ++ l, z_oke' (za_T xs) za_P za_M ⟨"LyndonBenchLaw", "law", "([I)Z"⟩ code q :=
  z_fc (zo_l (by decide +kernel) rfl rfl trivial) <|
  z_fc (zo_l (by decide +kernel) rfl rfl trivial) <|
  z_fc (zo_l (by decide +kernel) rfl rfl trivial) <|
  z_fc (zo_l (by decide +kernel) rfl rfl trivial) <|
  z_fc (zo_h (by decide +kernel) rfl rfl) <|
  z_fc (zo_v (by decide +kernel) rfl ⟨rfl, zd_135, zw_793, Nat.le_of_ble_eq_true rfl, ⟨_, Or.inl ⟨Nat.le_of_ble_eq_true rfl, rfl⟩, rfl⟩, zw_792, zw_794⟩) <|
  z_fc (zo_l (by decide +kernel) rfl rfl trivial) <|
  z_fc (zo_l (by decide +kernel) rfl rfl trivial) <|
  z_fc (zo_l (by decide +kernel) rfl rfl trivial) <|
  z_fc (zo_l (by decide +kernel) rfl rfl trivial) <|
  z_fc (zo_l (by decide +kernel) rfl rfl trivial) <|
  z_fc (zo_l (by decide +kernel) rfl rfl trivial) <|
  z_fc (zo_h (by decide +kernel) rfl rfl) <|
  z_fc (zo_v (by decide +kernel) rfl ⟨rfl, zd_292, zw_1843, Nat.le_of_ble_eq_true rfl, ⟨_, Or.inl ⟨Nat.le_of_ble_eq_true rfl, rfl⟩, rfl⟩, zw_1842, zw_1844⟩) <|
  z_fc (zo_l (by decide +kernel) rfl rfl trivial) <|
  z_fc (zo_l (by decide +kernel) rfl rfl (by show ((1560 : Nat) : Int) + (3) = ((1563 : Nat) : Int); decide)) <|
  z_fc (zo_l (by decide +kernel) rfl rfl trivial) <|
  z_fc (zo_l (by decide +kernel) rfl rfl (by show ((1566 : Nat) : Int) + (-1543) = ((23 : Nat) : Int); decide)) <|
  z_fc (zo_l (by decide +kernel) rfl rfl trivial) <|
  z_fc (zo_r (by decide +kernel) rfl) <|
  h
theorem zk_327 (xs : List Int32) : z_okm (za_T xs) za_P za_M 327 := z_okm_of ⟨"LyndonBenchLaw", "law", "([I)Z"⟩ code zc_327 _ rfl rfl rfl rfl
  (zk_327_0 xs <|
  zk_327_1 xs <|
  zk_327_2 xs <|
  zk_327_3 xs <|
  zk_327_4 xs <|
  zk_327_5 xs <|
  zk_327_6 xs <|
  zk_327_7 xs <|
  zk_327_8 xs <|
  zk_327_9 xs <|
  zk_327_10 xs <|
  zk_327_11 xs <|
  zk_327_12 xs <|
  zk_327_13 xs <|
  zk_327_14 xs <|
  zk_327_15 xs <|
  zk_327_16 xs <|
  zk_327_17 xs <|
  zk_327_18 xs <|
  zk_327_19 xs <|
  zk_327_20 xs <|
  z_fn)
  (z_fn)
