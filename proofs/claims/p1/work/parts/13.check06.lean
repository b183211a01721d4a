/-! The check of the tables, methods 328 to 328. -/
theorem zk_328_0 (xs : List Int32) {l : List zE} (h : ∀ q ∈ l, z_oke' (za_T xs) za_P za_M ⟨"LyndonBenchLaw", "law", "([I)Z"⟩ code q) : ∀ q ∈ zc_328_0 ++ l, z_oke' (za_T xs) za_P za_M ⟨"LyndonBenchLaw", "law", "([I)Z"⟩ code q :=
  z_fc (zo_h (by decide +kernel) rfl ⟨rfl, Nat.le_of_ble_eq_true rfl, _, _, rfl, zn_0, zm_0, zw_139, zw_140, zw_118⟩) <|
  z_fc (zo_l (by decide +kernel) rfl rfl trivial) <|
  z_fc (zo_n (by decide +kernel) rfl ⟨rfl, zd_76, rfl, rfl, zw_142, Or.inl zw_141⟩) <|
  z_fc (zo_l (by decide +kernel) rfl rfl trivial) <|
  z_fc (zo_h (by decide +kernel) rfl ⟨rfl, Nat.le_of_ble_eq_true rfl, _, _, rfl, zn_5, zm_5, zw_1170, zw_1171, zw_128⟩) <|
  z_fc (zo_l (by decide +kernel) rfl rfl trivial) <|
  z_fc (zo_n (by decide +kernel) rfl ⟨rfl, zd_147, rfl, rfl, zw_1173, Or.inl zw_1172⟩) <|
  z_fc (zo_l (by decide +kernel) rfl rfl trivial) <|
  z_fc (zo_l (by decide +kernel) rfl rfl trivial) <|
  z_fc (zo_h (by decide +kernel) rfl ⟨rfl, zw_1850⟩) <|
  z_fc (zo_l (by decide +kernel) rfl rfl trivial) <|
  z_fc (zo_l (by decide +kernel) rfl rfl trivial) <|
  z_fc (zo_l (by decide +kernel) rfl rfl trivial) <|
  z_fc (zo_l (by decide +kernel) rfl rfl trivial) <|
  z_fc (zo_l (by decide +kernel) rfl rfl trivial) <|
  z_fc (zo_h (by decide +kernel) rfl rfl) <|
  z_fc (zo_l (by decide +kernel) rfl rfl trivial) <|
  z_fc (zo_l (by decide +kernel) rfl rfl trivial) <|
  z_fc (zo_l (by decide +kernel) rfl rfl (by show ((30 : Nat) : Int) + (2317) = ((2347 : Nat) : Int); decide)) <|
  z_fc (zo_l (by decide +kernel) rfl rfl trivial) <|
  z_fc (zo_l (by decide +kernel) rfl rfl trivial) <|
  z_fc (zo_h (by decide +kernel) rfl rfl) <|
  z_fc (zo_l (by decide +kernel) rfl rfl trivial) <|
  z_fc (zo_l (by decide +kernel) rfl rfl trivial) <|
  z_fc (zo_l (by decide +kernel) rfl trivial trivial) <|
  z_fc (zo_l (by decide +kernel) rfl rfl trivial) <|
  z_fc (zo_l (by decide +kernel) rfl rfl trivial) <|
  z_fc (zo_l (by decide +kernel) rfl rfl trivial) <|
  z_fc (zo_l (by decide +kernel) rfl rfl trivial) <|
  z_fc (zo_l (by decide +kernel) rfl rfl trivial) <|
  z_fc (zo_h (by decide +kernel) rfl rfl) <|
  z_fc (zo_l (by decide +kernel) rfl rfl trivial) <|
  z_fc (zo_l (by decide +kernel) rfl rfl trivial) <|
  z_fc (zo_l (by decide +kernel) rfl rfl trivial) <|
  z_fc (zo_l (by decide +kernel) rfl rfl trivial) <|
  z_fc (zo_h (by decide +kernel) rfl rfl) <|
  z_fc (zo_l (by decide +kernel) rfl rfl trivial) <|
  z_fc (zo_l (by decide +kernel) rfl rfl trivial) <|
  z_fc (zo_l (by decide +kernel) rfl rfl trivial) <|
  z_fc (zo_l (by decide +kernel) rfl rfl trivial) <|
  h
theorem zk_328_1 (xs : List Int32) {l : List zE} (h : ∀ q ∈ l, z_oke' (za_T xs) za_P za_M ⟨"LyndonBenchLaw", "law", "([I)Z"⟩ code q) : ∀ q ∈ zc_328_1 ++ l, z_oke' (za_T xs) za_P za_M ⟨"LyndonBenchLaw", "law", "([I)Z"⟩ code q :=
  z_fc (zo_h (by decide +kernel) rfl rfl) <|
  z_fc (zo_l (by decide +kernel) rfl rfl trivial) <|
  z_fc (zo_l (by decide +kernel) rfl rfl trivial) <|
  z_fc (zo_l (by decide +kernel) rfl rfl trivial) <|
  z_fc (zo_l (by decide +kernel) rfl rfl trivial) <|
  z_fc (zo_h (by decide +kernel) rfl rfl) <|
  z_fc (zo_l (by decide +kernel) rfl rfl trivial) <|
  z_fc (zo_l (by decide +kernel) rfl rfl trivial) <|
  z_fc (zo_l (by decide +kernel) rfl rfl trivial) <|
  z_fc (zo_l (by decide +kernel) rfl rfl trivial) <|
  z_fc (zo_h (by decide +kernel) rfl rfl) <|
  z_fc (zo_v (by decide +kernel) rfl ⟨rfl, zd_77, zw_364, Nat.le_of_ble_eq_true rfl, ⟨_, Or.inl ⟨Nat.le_of_ble_eq_true rfl, rfl⟩, rfl⟩, zw_363, zw_365⟩) <|
  z_fc (zo_l (by decide +kernel) rfl rfl trivial) <|
  z_fc (zo_l (by decide +kernel) rfl rfl trivial) <|
  z_fc (zo_l (by decide +kernel) rfl rfl trivial) <|
  z_fc (zo_l (by decide +kernel) rfl rfl trivial) <|
  z_fc (zo_l (by decide +kernel) rfl rfl trivial) <|
  z_fc (zo_h (by decide +kernel) rfl rfl) <|
  z_fc (zo_l (by decide +kernel) rfl rfl trivial) <|
  z_fc (zo_l (by decide +kernel) rfl rfl trivial) <|
  z_fc (zo_l (by decide +kernel) rfl rfl trivial) <|
  z_fc (zo_l (by decide +kernel) rfl rfl trivial) <|
  z_fc (zo_h (by decide +kernel) rfl rfl) <|
  z_fc (zo_l (by decide +kernel) rfl rfl trivial) <|
  z_fc (zo_l (by decide +kernel) rfl rfl trivial) <|
  z_fc (zo_l (by decide +kernel) rfl rfl trivial) <|
  z_fc (zo_l (by decide +kernel) rfl rfl trivial) <|
  z_fc (zo_h (by decide +kernel) rfl rfl) <|
  z_fc (zo_l (by decide +kernel) rfl rfl trivial) <|
  z_fc (zo_l (by decide +kernel) rfl rfl trivial) <|
  z_fc (zo_l (by decide +kernel) rfl rfl trivial) <|
  z_fc (zo_l (by decide +kernel) rfl rfl trivial) <|
  z_fc (zo_h (by decide +kernel) rfl rfl) <|
  z_fc (zo_l (by decide +kernel) rfl rfl trivial) <|
  z_fc (zo_l (by decide +kernel) rfl rfl trivial) <|
  z_fc (zo_l (by decide +kernel) rfl rfl trivial) <|
  z_fc (zo_l (by decide +kernel) rfl rfl trivial) <|
  z_fc (zo_h (by decide +kernel) rfl rfl) <|
  z_fc (zo_v (by decide +kernel) rfl ⟨rfl, zd_223, zw_1513, Nat.le_of_ble_eq_true rfl, ⟨_, Or.inl ⟨Nat.le_of_ble_eq_true rfl, rfl⟩, rfl⟩, zw_1512, zw_1514⟩) <|
  z_fc (zo_l (by decide +kernel) rfl rfl (by show ((360 : Nat) : Int) + (1981) = ((2341 : Nat) : Int); decide)) <|
  h
theorem zk_328_2 (xs : List Int32) {l : List zE} (h : ∀ q ∈ l, z_oke' (za_T xs) za_P za_M ⟨"LyndonBenchLaw", "law", "([I)Z"⟩ code q) : ∀ q ∈ zc_328_2 ++ l, z_oke' (za_T xs) za_P za_M ⟨"LyndonBenchLaw", "law", "([I)Z"⟩ code q :=
  z_fc (zo_l (by decide +kernel) rfl rfl trivial) <|
  z_fc (zo_r (by decide +kernel) rfl) <|
  z_fc (zo_l (by decide +kernel) rfl rfl trivial) <|
  z_fc (zo_l (by decide +kernel) rfl rfl trivial) <|
  z_fc (zo_l (by decide +kernel) rfl rfl trivial) <|
  z_fc (zo_l (by decide +kernel) rfl rfl trivial) <|
  z_fc (zo_l (by decide +kernel) rfl rfl trivial) <|
  z_fc (zo_h (by decide +kernel) rfl rfl) <|
  z_fc (zo_l (by decide +kernel) rfl rfl trivial) <|
  z_fc (zo_s (by decide +kernel) rfl ⟨zd_302, zw_796, zw_797⟩) <|
  z_fc (zo_l (by decide +kernel) rfl rfl trivial) <|
  z_fc (zo_l (by decide +kernel) rfl rfl trivial) <|
  z_fc (zo_l (by decide +kernel) rfl rfl trivial) <|
  z_fc (zo_l (by decide +kernel) rfl rfl trivial) <|
  z_fc (zo_l (by decide +kernel) rfl rfl trivial) <|
  z_fc (zo_l (by decide +kernel) rfl rfl trivial) <|
  z_fc (zo_h (by decide +kernel) rfl rfl) <|
  z_fc (zo_v (by decide +kernel) rfl ⟨rfl, zd_225, zw_1521, Nat.le_of_ble_eq_true rfl, ⟨_, Or.inl ⟨Nat.le_of_ble_eq_true rfl, rfl⟩, rfl⟩, zw_1520, zw_1522⟩) <|
  z_fc (zo_l (by decide +kernel) rfl rfl trivial) <|
  z_fc (zo_l (by decide +kernel) rfl rfl trivial) <|
  z_fc (zo_v (by decide +kernel) rfl ⟨rfl, zd_148, zw_1509, Nat.le_of_ble_eq_true rfl, ⟨_, Or.inl ⟨Nat.le_of_ble_eq_true rfl, rfl⟩, rfl⟩, zw_1508, zw_1510⟩) <|
  z_fc (zo_l (by decide +kernel) rfl rfl trivial) <|
  z_fc (zo_l (by decide +kernel) rfl rfl (by show ((396 : Nat) : Int) + (5) = ((401 : Nat) : Int); decide)) <|
  z_fc (zo_l (by decide +kernel) rfl rfl trivial) <|
  z_fc (zo_r (by decide +kernel) rfl) <|
  z_fc (zo_l (by decide +kernel) rfl rfl trivial) <|
  z_fc (zo_l (by decide +kernel) rfl rfl (by show ((403 : Nat) : Int) + (15) = ((418 : Nat) : Int); decide)) <|
  z_fc (zo_l (by decide +kernel) rfl rfl trivial) <|
  z_fc (zo_l (by decide +kernel) rfl rfl trivial) <|
  z_fc (zo_h (by decide +kernel) rfl rfl) <|
  z_fc (zo_l (by decide +kernel) rfl rfl trivial) <|
  z_fc (zo_l (by decide +kernel) rfl rfl trivial) <|
  z_fc (zo_l (by decide +kernel) rfl rfl trivial) <|
  z_fc (zo_l (by decide +kernel) rfl rfl (by show ((413 : Nat) : Int) + (5) = ((418 : Nat) : Int); decide)) <|
  z_fc (zo_l (by decide +kernel) rfl rfl trivial) <|
  z_fc (zo_r (by decide +kernel) rfl) <|
  z_fc (zo_l (by decide +kernel) rfl rfl (by show ((418 : Nat) : Int) + (1923) = ((2341 : Nat) : Int); decide)) <|
  z_fc (zo_l (by decide +kernel) rfl rfl trivial) <|
  z_fc (zo_v (by decide +kernel) rfl ⟨rfl, zd_79, zw_372, Nat.le_of_ble_eq_true rfl, ⟨_, Or.inl ⟨Nat.le_of_ble_eq_true rfl, rfl⟩, rfl⟩, zw_371, zw_373⟩) <|
  z_fc (zo_l (by decide +kernel) rfl rfl trivial) <|
  h
theorem zk_328_3 (xs : List Int32) {l : List zE} (h : ∀ q ∈ l, z_oke' (za_T xs) za_P za_M ⟨"LyndonBenchLaw", "law", "([I)Z"⟩ code q) : ∀ q ∈ zc_328_3 ++ l, z_oke' (za_T xs) za_P za_M ⟨"LyndonBenchLaw", "law", "([I)Z"⟩ code q :=
  z_fc (zo_v (by decide +kernel) rfl ⟨rfl, zd_228, zw_1529, Nat.le_of_ble_eq_true rfl, ⟨_, Or.inl ⟨Nat.le_of_ble_eq_true rfl, rfl⟩, rfl⟩, zw_1528, zw_1530⟩) <|
  z_fc (zo_l (by decide +kernel) rfl rfl (by show ((429 : Nat) : Int) + (1912) = ((2341 : Nat) : Int); decide)) <|
  z_fc (zo_l (by decide +kernel) rfl rfl trivial) <|
  z_fc (zo_r (by decide +kernel) rfl) <|
  z_fc (zo_l (by decide +kernel) rfl rfl trivial) <|
  z_fc (zo_l (by decide +kernel) rfl rfl trivial) <|
  z_fc (zo_l (by decide +kernel) rfl rfl trivial) <|
  z_fc (zo_l (by decide +kernel) rfl rfl trivial) <|
  z_fc (zo_l (by decide +kernel) rfl rfl trivial) <|
  z_fc (zo_h (by decide +kernel) rfl rfl) <|
  z_fc (zo_l (by decide +kernel) rfl rfl trivial) <|
  z_fc (zo_s (by decide +kernel) rfl ⟨zd_303, zw_873, zw_874⟩) <|
  z_fc (zo_l (by decide +kernel) rfl rfl trivial) <|
  z_fc (zo_l (by decide +kernel) rfl rfl trivial) <|
  z_fc (zo_l (by decide +kernel) rfl rfl trivial) <|
  z_fc (zo_l (by decide +kernel) rfl rfl trivial) <|
  z_fc (zo_l (by decide +kernel) rfl rfl trivial) <|
  z_fc (zo_l (by decide +kernel) rfl rfl trivial) <|
  z_fc (zo_h (by decide +kernel) rfl rfl) <|
  z_fc (zo_v (by decide +kernel) rfl ⟨rfl, zd_229, zw_1541, Nat.le_of_ble_eq_true rfl, ⟨_, Or.inl ⟨Nat.le_of_ble_eq_true rfl, rfl⟩, rfl⟩, zw_1540, zw_1542⟩) <|
  z_fc (zo_l (by decide +kernel) rfl rfl trivial) <|
  z_fc (zo_l (by decide +kernel) rfl rfl trivial) <|
  z_fc (zo_v (by decide +kernel) rfl ⟨rfl, zd_148, zw_1509, Nat.le_of_ble_eq_true rfl, ⟨_, Or.inl ⟨Nat.le_of_ble_eq_true rfl, rfl⟩, rfl⟩, zw_1508, zw_1510⟩) <|
  z_fc (zo_l (by decide +kernel) rfl rfl trivial) <|
  z_fc (zo_l (by decide +kernel) rfl rfl (by show ((465 : Nat) : Int) + (5) = ((470 : Nat) : Int); decide)) <|
  z_fc (zo_l (by decide +kernel) rfl rfl trivial) <|
  z_fc (zo_r (by decide +kernel) rfl) <|
  z_fc (zo_l (by decide +kernel) rfl rfl trivial) <|
  z_fc (zo_l (by decide +kernel) rfl rfl (by show ((472 : Nat) : Int) + (15) = ((487 : Nat) : Int); decide)) <|
  z_fc (zo_l (by decide +kernel) rfl rfl trivial) <|
  z_fc (zo_l (by decide +kernel) rfl rfl trivial) <|
  z_fc (zo_h (by decide +kernel) rfl rfl) <|
  z_fc (zo_l (by decide +kernel) rfl rfl trivial) <|
  z_fc (zo_l (by decide +kernel) rfl rfl trivial) <|
  z_fc (zo_l (by decide +kernel) rfl rfl trivial) <|
  z_fc (zo_l (by decide +kernel) rfl rfl (by show ((482 : Nat) : Int) + (5) = ((487 : Nat) : Int); decide)) <|
  z_fc (zo_l (by decide +kernel) rfl rfl trivial) <|
  z_fc (zo_r (by decide +kernel) rfl) <|
  z_fc (zo_l (by decide +kernel) rfl rfl (by show ((487 : Nat) : Int) + (1854) = ((2341 : Nat) : Int); decide)) <|
  z_fc (zo_l (by decide +kernel) rfl rfl trivial) <|
  h
theorem zk_328_4 (xs : List Int32) {l : List zE} (h : ∀ q ∈ l, z_oke' (za_T xs) za_P za_M ⟨"LyndonBenchLaw", "law", "([I)Z"⟩ code q) : ∀ q ∈ zc_328_4 ++ l, z_oke' (za_T xs) za_P za_M ⟨"LyndonBenchLaw", "law", "([I)Z"⟩ code q :=
  z_fc (zo_l (by decide +kernel) rfl rfl trivial) <|
  z_fc (zo_s (by decide +kernel) rfl ⟨zd_304, zw_906, zw_907⟩) <|
  z_fc (zo_l (by decide +kernel) rfl rfl trivial) <|
  z_fc (zo_l (by decide +kernel) rfl rfl trivial) <|
  z_fc (zo_v (by decide +kernel) rfl ⟨rfl, zd_230, zw_1554, Nat.le_of_ble_eq_true rfl, ⟨_, Or.inl ⟨Nat.le_of_ble_eq_true rfl, rfl⟩, rfl⟩, zw_1553, zw_1555⟩) <|
  z_fc (zo_l (by decide +kernel) rfl rfl trivial) <|
  z_fc (zo_l (by decide +kernel) rfl rfl trivial) <|
  z_fc (zo_v (by decide +kernel) rfl ⟨rfl, zd_148, zw_1509, Nat.le_of_ble_eq_true rfl, ⟨_, Or.inl ⟨Nat.le_of_ble_eq_true rfl, rfl⟩, rfl⟩, zw_1508, zw_1510⟩) <|
  z_fc (zo_l (by decide +kernel) rfl rfl trivial) <|
  z_fc (zo_l (by decide +kernel) rfl rfl (by show ((509 : Nat) : Int) + (5) = ((514 : Nat) : Int); decide)) <|
  z_fc (zo_l (by decide +kernel) rfl rfl trivial) <|
  z_fc (zo_r (by decide +kernel) rfl) <|
  z_fc (zo_l (by decide +kernel) rfl rfl trivial) <|
  z_fc (zo_l (by decide +kernel) rfl rfl (by show ((516 : Nat) : Int) + (15) = ((531 : Nat) : Int); decide)) <|
  z_fc (zo_l (by decide +kernel) rfl rfl trivial) <|
  z_fc (zo_l (by decide +kernel) rfl rfl trivial) <|
  z_fc (zo_h (by decide +kernel) rfl rfl) <|
  z_fc (zo_l (by decide +kernel) rfl rfl trivial) <|
  z_fc (zo_l (by decide +kernel) rfl rfl trivial) <|
  z_fc (zo_l (by decide +kernel) rfl rfl trivial) <|
  z_fc (zo_l (by decide +kernel) rfl rfl (by show ((526 : Nat) : Int) + (5) = ((531 : Nat) : Int); decide)) <|
  z_fc (zo_l (by decide +kernel) rfl rfl trivial) <|
  z_fc (zo_r (by decide +kernel) rfl) <|
  z_fc (zo_l (by decide +kernel) rfl rfl (by show ((531 : Nat) : Int) + (1810) = ((2341 : Nat) : Int); decide)) <|
  z_fc (zo_l (by decide +kernel) rfl rfl trivial) <|
  z_fc (zo_l (by decide +kernel) rfl rfl trivial) <|
  z_fc (zo_l (by decide +kernel) rfl rfl trivial) <|
  z_fc (zo_l (by decide +kernel) rfl rfl trivial) <|
  z_fc (zo_l (by decide +kernel) rfl rfl trivial) <|
  z_fc (zo_h (by decide +kernel) rfl rfl) <|
  z_fc (zo_l (by decide +kernel) rfl rfl trivial) <|
  z_fc (zo_s (by decide +kernel) rfl ⟨zd_305, zw_915, zw_916⟩) <|
  z_fc (zo_l (by decide +kernel) rfl rfl trivial) <|
  z_fc (zo_l (by decide +kernel) rfl rfl trivial) <|
  z_fc (zo_l (by decide +kernel) rfl rfl trivial) <|
  z_fc (zo_l (by decide +kernel) rfl rfl trivial) <|
  z_fc (zo_l (by decide +kernel) rfl rfl trivial) <|
  z_fc (zo_l (by decide +kernel) rfl rfl trivial) <|
  z_fc (zo_h (by decide +kernel) rfl rfl) <|
  z_fc (zo_v (by decide +kernel) rfl ⟨rfl, zd_231, zw_1558, Nat.le_of_ble_eq_true rfl, ⟨_, Or.inl ⟨Nat.le_of_ble_eq_true rfl, rfl⟩, rfl⟩, zw_1557, zw_1559⟩) <|
  h
theorem zk_328_5 (xs : List Int32) {l : List zE} (h : ∀ q ∈ l, z_oke' (za_T xs) za_P za_M ⟨"LyndonBenchLaw", "law", "([I)Z"⟩ code q) : ∀ q ∈ zc_328_5 ++ l, z_oke' (za_T xs) za_P za_M ⟨"LyndonBenchLaw", "law", "([I)Z"⟩ code q :=
  z_fc (zo_l (by decide +kernel) rfl rfl trivial) <|
  z_fc (zo_l (by decide +kernel) rfl rfl trivial) <|
  z_fc (zo_v (by decide +kernel) rfl ⟨rfl, zd_148, zw_1509, Nat.le_of_ble_eq_true rfl, ⟨_, Or.inl ⟨Nat.le_of_ble_eq_true rfl, rfl⟩, rfl⟩, zw_1508, zw_1510⟩) <|
  z_fc (zo_l (by decide +kernel) rfl rfl trivial) <|
  z_fc (zo_l (by decide +kernel) rfl rfl (by show ((565 : Nat) : Int) + (5) = ((570 : Nat) : Int); decide)) <|
  z_fc (zo_l (by decide +kernel) rfl rfl trivial) <|
  z_fc (zo_r (by decide +kernel) rfl) <|
  z_fc (zo_l (by decide +kernel) rfl rfl trivial) <|
  z_fc (zo_l (by decide +kernel) rfl rfl (by show ((572 : Nat) : Int) + (15) = ((587 : Nat) : Int); decide)) <|
  z_fc (zo_l (by decide +kernel) rfl rfl trivial) <|
  z_fc (zo_l (by decide +kernel) rfl rfl trivial) <|
  z_fc (zo_h (by decide +kernel) rfl rfl) <|
  z_fc (zo_l (by decide +kernel) rfl rfl trivial) <|
  z_fc (zo_l (by decide +kernel) rfl rfl trivial) <|
  z_fc (zo_l (by decide +kernel) rfl rfl trivial) <|
  z_fc (zo_l (by decide +kernel) rfl rfl (by show ((582 : Nat) : Int) + (5) = ((587 : Nat) : Int); decide)) <|
  z_fc (zo_l (by decide +kernel) rfl rfl trivial) <|
  z_fc (zo_r (by decide +kernel) rfl) <|
  z_fc (zo_l (by decide +kernel) rfl rfl (by show ((587 : Nat) : Int) + (1754) = ((2341 : Nat) : Int); decide)) <|
  z_fc (zo_l (by decide +kernel) rfl rfl trivial) <|
  z_fc (zo_l (by decide +kernel) rfl rfl trivial) <|
  z_fc (zo_l (by decide +kernel) rfl rfl trivial) <|
  z_fc (zo_l (by decide +kernel) rfl rfl trivial) <|
  z_fc (zo_l (by decide +kernel) rfl rfl trivial) <|
  z_fc (zo_h (by decide +kernel) rfl rfl) <|
  z_fc (zo_l (by decide +kernel) rfl rfl trivial) <|
  z_fc (zo_s (by decide +kernel) rfl ⟨zd_306, zw_927, zw_928⟩) <|
  z_fc (zo_l (by decide +kernel) rfl rfl trivial) <|
  z_fc (zo_l (by decide +kernel) rfl rfl trivial) <|
  z_fc (zo_l (by decide +kernel) rfl rfl trivial) <|
  z_fc (zo_l (by decide +kernel) rfl rfl trivial) <|
  z_fc (zo_l (by decide +kernel) rfl rfl trivial) <|
  z_fc (zo_l (by decide +kernel) rfl rfl trivial) <|
  z_fc (zo_h (by decide +kernel) rfl rfl) <|
  z_fc (zo_v (by decide +kernel) rfl ⟨rfl, zd_232, zw_1566, Nat.le_of_ble_eq_true rfl, ⟨_, Or.inl ⟨Nat.le_of_ble_eq_true rfl, rfl⟩, rfl⟩, zw_1565, zw_1567⟩) <|
  z_fc (zo_l (by decide +kernel) rfl rfl trivial) <|
  z_fc (zo_l (by decide +kernel) rfl rfl trivial) <|
  z_fc (zo_v (by decide +kernel) rfl ⟨rfl, zd_148, zw_1509, Nat.le_of_ble_eq_true rfl, ⟨_, Or.inl ⟨Nat.le_of_ble_eq_true rfl, rfl⟩, rfl⟩, zw_1508, zw_1510⟩) <|
  z_fc (zo_l (by decide +kernel) rfl rfl trivial) <|
  z_fc (zo_l (by decide +kernel) rfl rfl (by show ((621 : Nat) : Int) + (5) = ((626 : Nat) : Int); decide)) <|
  h
theorem zk_328_6 (xs : List Int32) {l : List zE} (h : ∀ q ∈ l, z_oke' (za_T xs) za_P za_M ⟨"LyndonBenchLaw", "law", "([I)Z"⟩ code q) : ∀ q ∈ zc_328_6 ++ l, z_oke' (za_T xs) za_P za_M ⟨"LyndonBenchLaw", "law", "([I)Z"⟩ code q :=
  z_fc (zo_l (by decide +kernel) rfl rfl trivial) <|
  z_fc (zo_r (by decide +kernel) rfl) <|
  z_fc (zo_l (by decide +kernel) rfl rfl trivial) <|
  z_fc (zo_l (by decide +kernel) rfl rfl (by show ((628 : Nat) : Int) + (15) = ((643 : Nat) : Int); decide)) <|
  z_fc (zo_l (by decide +kernel) rfl rfl trivial) <|
  z_fc (zo_l (by decide +kernel) rfl rfl trivial) <|
  z_fc (zo_h (by decide +kernel) rfl rfl) <|
  z_fc (zo_l (by decide +kernel) rfl rfl trivial) <|
  z_fc (zo_l (by decide +kernel) rfl rfl trivial) <|
  z_fc (zo_l (by decide +kernel) rfl rfl trivial) <|
  z_fc (zo_l (by decide +kernel) rfl rfl (by show ((638 : Nat) : Int) + (5) = ((643 : Nat) : Int); decide)) <|
  z_fc (zo_l (by decide +kernel) rfl rfl trivial) <|
  z_fc (zo_r (by decide +kernel) rfl) <|
  z_fc (zo_l (by decide +kernel) rfl rfl (by show ((643 : Nat) : Int) + (1698) = ((2341 : Nat) : Int); decide)) <|
  z_fc (zo_l (by decide +kernel) rfl rfl trivial) <|
  z_fc (zo_l (by decide +kernel) rfl rfl trivial) <|
  z_fc (zo_l (by decide +kernel) rfl rfl trivial) <|
  z_fc (zo_l (by decide +kernel) rfl rfl trivial) <|
  z_fc (zo_l (by decide +kernel) rfl rfl trivial) <|
  z_fc (zo_h (by decide +kernel) rfl rfl) <|
  z_fc (zo_l (by decide +kernel) rfl rfl trivial) <|
  z_fc (zo_l (by decide +kernel) rfl rfl trivial) <|
  z_fc (zo_l (by decide +kernel) rfl rfl trivial) <|
  z_fc (zo_l (by decide +kernel) rfl rfl trivial) <|
  z_fc (zo_h (by decide +kernel) rfl rfl) <|
  z_fc (zo_l (by decide +kernel) rfl rfl trivial) <|
  z_fc (zo_s (by decide +kernel) rfl ⟨zd_307, zw_939, zw_940⟩) <|
  z_fc (zo_l (by decide +kernel) rfl rfl trivial) <|
  z_fc (zo_l (by decide +kernel) rfl rfl trivial) <|
  z_fc (zo_l (by decide +kernel) rfl rfl trivial) <|
  z_fc (zo_l (by decide +kernel) rfl rfl trivial) <|
  z_fc (zo_l (by decide +kernel) rfl rfl trivial) <|
  z_fc (zo_l (by decide +kernel) rfl rfl trivial) <|
  z_fc (zo_h (by decide +kernel) rfl rfl) <|
  z_fc (zo_l (by decide +kernel) rfl rfl trivial) <|
  z_fc (zo_l (by decide +kernel) rfl rfl trivial) <|
  z_fc (zo_l (by decide +kernel) rfl rfl trivial) <|
  z_fc (zo_l (by decide +kernel) rfl rfl trivial) <|
  z_fc (zo_h (by decide +kernel) rfl rfl) <|
  z_fc (zo_v (by decide +kernel) rfl ⟨rfl, zd_233, zw_1570, Nat.le_of_ble_eq_true rfl, ⟨_, Or.inl ⟨Nat.le_of_ble_eq_true rfl, rfl⟩, rfl⟩, zw_1569, zw_1571⟩) <|
  h
theorem zk_328_7 (xs : List Int32) {l : List zE} (h : ∀ q ∈ l, z_oke' (za_T xs) za_P za_M ⟨"LyndonBenchLaw", "law", "([I)Z"⟩ code q) : ∀ q ∈ zc_328_7 ++ l, z_oke' (za_T xs) za_P za_M ⟨"LyndonBenchLaw", "law", "([I)Z"⟩ code q :=
  z_fc (zo_l (by decide +kernel) rfl rfl trivial) <|
  z_fc (zo_l (by decide +kernel) rfl rfl trivial) <|
  z_fc (zo_v (by decide +kernel) rfl ⟨rfl, zd_148, zw_1509, Nat.le_of_ble_eq_true rfl, ⟨_, Or.inl ⟨Nat.le_of_ble_eq_true rfl, rfl⟩, rfl⟩, zw_1508, zw_1510⟩) <|
  z_fc (zo_l (by decide +kernel) rfl rfl trivial) <|
  z_fc (zo_l (by decide +kernel) rfl rfl (by show ((689 : Nat) : Int) + (5) = ((694 : Nat) : Int); decide)) <|
  z_fc (zo_l (by decide +kernel) rfl rfl trivial) <|
  z_fc (zo_r (by decide +kernel) rfl) <|
  z_fc (zo_l (by decide +kernel) rfl rfl trivial) <|
  z_fc (zo_l (by decide +kernel) rfl rfl (by show ((696 : Nat) : Int) + (15) = ((711 : Nat) : Int); decide)) <|
  z_fc (zo_l (by decide +kernel) rfl rfl trivial) <|
  z_fc (zo_l (by decide +kernel) rfl rfl trivial) <|
  z_fc (zo_h (by decide +kernel) rfl rfl) <|
  z_fc (zo_l (by decide +kernel) rfl rfl trivial) <|
  z_fc (zo_l (by decide +kernel) rfl rfl trivial) <|
  z_fc (zo_l (by decide +kernel) rfl rfl trivial) <|
  z_fc (zo_l (by decide +kernel) rfl rfl (by show ((706 : Nat) : Int) + (5) = ((711 : Nat) : Int); decide)) <|
  z_fc (zo_l (by decide +kernel) rfl rfl trivial) <|
  z_fc (zo_r (by decide +kernel) rfl) <|
  z_fc (zo_l (by decide +kernel) rfl rfl (by show ((711 : Nat) : Int) + (1630) = ((2341 : Nat) : Int); decide)) <|
  z_fc (zo_l (by decide +kernel) rfl rfl trivial) <|
  z_fc (zo_l (by decide +kernel) rfl rfl trivial) <|
  z_fc (zo_l (by decide +kernel) rfl rfl trivial) <|
  z_fc (zo_l (by decide +kernel) rfl rfl trivial) <|
  z_fc (zo_l (by decide +kernel) rfl rfl trivial) <|
  z_fc (zo_h (by decide +kernel) rfl rfl) <|
  z_fc (zo_l (by decide +kernel) rfl rfl trivial) <|
  z_fc (zo_s (by decide +kernel) rfl ⟨zd_308, zw_952, zw_953⟩) <|
  z_fc (zo_l (by decide +kernel) rfl rfl trivial) <|
  z_fc (zo_l (by decide +kernel) rfl rfl trivial) <|
  z_fc (zo_l (by decide +kernel) rfl rfl trivial) <|
  z_fc (zo_l (by decide +kernel) rfl rfl trivial) <|
  z_fc (zo_l (by decide +kernel) rfl rfl trivial) <|
  z_fc (zo_l (by decide +kernel) rfl rfl trivial) <|
  z_fc (zo_h (by decide +kernel) rfl rfl) <|
  z_fc (zo_v (by decide +kernel) rfl ⟨rfl, zd_234, zw_1574, Nat.le_of_ble_eq_true rfl, ⟨_, Or.inl ⟨Nat.le_of_ble_eq_true rfl, rfl⟩, rfl⟩, zw_1573, zw_1575⟩) <|
  z_fc (zo_l (by decide +kernel) rfl rfl trivial) <|
  z_fc (zo_l (by decide +kernel) rfl rfl trivial) <|
  z_fc (zo_v (by decide +kernel) rfl ⟨rfl, zd_148, zw_1509, Nat.le_of_ble_eq_true rfl, ⟨_, Or.inl ⟨Nat.le_of_ble_eq_true rfl, rfl⟩, rfl⟩, zw_1508, zw_1510⟩) <|
  z_fc (zo_l (by decide +kernel) rfl rfl trivial) <|
  z_fc (zo_l (by decide +kernel) rfl rfl (by show ((745 : Nat) : Int) + (5) = ((750 : Nat) : Int); decide)) <|
  h
theorem zk_328_8 (xs : List Int32) {l : List zE} (h : ∀ q ∈ l, z_oke' (za_T xs) za_P za_M ⟨"LyndonBenchLaw", "law", "([I)Z"⟩ code q) : ∀ q ∈ zc_328_8 ++ l, z_oke' (za_T xs) za_P za_M ⟨"LyndonBenchLaw", "law", "([I)Z"⟩ code q :=
  z_fc (zo_l (by decide +kernel) rfl rfl trivial) <|
  z_fc (zo_r (by decide +kernel) rfl) <|
  z_fc (zo_l (by decide +kernel) rfl rfl trivial) <|
  z_fc (zo_l (by decide +kernel) rfl rfl (by show ((752 : Nat) : Int) + (15) = ((767 : Nat) : Int); decide)) <|
  z_fc (zo_l (by decide +kernel) rfl rfl trivial) <|
  z_fc (zo_l (by decide +kernel) rfl rfl trivial) <|
  z_fc (zo_h (by decide +kernel) rfl rfl) <|
  z_fc (zo_l (by decide +kernel) rfl rfl trivial) <|
  z_fc (zo_l (by decide +kernel) rfl rfl trivial) <|
  z_fc (zo_l (by decide +kernel) rfl rfl trivial) <|
  z_fc (zo_l (by decide +kernel) rfl rfl (by show ((762 : Nat) : Int) + (5) = ((767 : Nat) : Int); decide)) <|
  z_fc (zo_l (by decide +kernel) rfl rfl trivial) <|
  z_fc (zo_r (by decide +kernel) rfl) <|
  z_fc (zo_l (by decide +kernel) rfl rfl (by show ((767 : Nat) : Int) + (1574) = ((2341 : Nat) : Int); decide)) <|
  z_fc (zo_l (by decide +kernel) rfl rfl trivial) <|
  z_fc (zo_v (by decide +kernel) rfl ⟨rfl, zd_86, zw_604, Nat.le_of_ble_eq_true rfl, ⟨_, Or.inl ⟨Nat.le_of_ble_eq_true rfl, rfl⟩, rfl⟩, zw_603, zw_605⟩) <|
  z_fc (zo_l (by decide +kernel) rfl rfl trivial) <|
  z_fc (zo_v (by decide +kernel) rfl ⟨rfl, zd_235, zw_1578, Nat.le_of_ble_eq_true rfl, ⟨_, Or.inl ⟨Nat.le_of_ble_eq_true rfl, rfl⟩, rfl⟩, zw_1577, zw_1579⟩) <|
  z_fc (zo_l (by decide +kernel) rfl rfl (by show ((778 : Nat) : Int) + (1563) = ((2341 : Nat) : Int); decide)) <|
  z_fc (zo_l (by decide +kernel) rfl rfl trivial) <|
  z_fc (zo_r (by decide +kernel) rfl) <|
  z_fc (zo_l (by decide +kernel) rfl rfl trivial) <|
  z_fc (zo_l (by decide +kernel) rfl rfl trivial) <|
  z_fc (zo_s (by decide +kernel) rfl ⟨zd_309, zw_960, zw_961⟩) <|
  z_fc (zo_l (by decide +kernel) rfl rfl trivial) <|
  z_fc (zo_l (by decide +kernel) rfl rfl trivial) <|
  z_fc (zo_v (by decide +kernel) rfl ⟨rfl, zd_236, zw_1582, Nat.le_of_ble_eq_true rfl, ⟨_, Or.inl ⟨Nat.le_of_ble_eq_true rfl, rfl⟩, rfl⟩, zw_1581, zw_1583⟩) <|
  z_fc (zo_l (by decide +kernel) rfl rfl trivial) <|
  z_fc (zo_l (by decide +kernel) rfl rfl trivial) <|
  z_fc (zo_v (by decide +kernel) rfl ⟨rfl, zd_148, zw_1509, Nat.le_of_ble_eq_true rfl, ⟨_, Or.inl ⟨Nat.le_of_ble_eq_true rfl, rfl⟩, rfl⟩, zw_1508, zw_1510⟩) <|
  z_fc (zo_l (by decide +kernel) rfl rfl trivial) <|
  z_fc (zo_l (by decide +kernel) rfl rfl (by show ((802 : Nat) : Int) + (5) = ((807 : Nat) : Int); decide)) <|
  z_fc (zo_l (by decide +kernel) rfl rfl trivial) <|
  z_fc (zo_r (by decide +kernel) rfl) <|
  z_fc (zo_l (by decide +kernel) rfl rfl trivial) <|
  z_fc (zo_l (by decide +kernel) rfl rfl (by show ((809 : Nat) : Int) + (15) = ((824 : Nat) : Int); decide)) <|
  z_fc (zo_l (by decide +kernel) rfl rfl trivial) <|
  z_fc (zo_l (by decide +kernel) rfl rfl trivial) <|
  z_fc (zo_h (by decide +kernel) rfl rfl) <|
  z_fc (zo_l (by decide +kernel) rfl rfl trivial) <|
  h
theorem zk_328_9 (xs : List Int32) {l : List zE} (h : ∀ q ∈ l, z_oke' (za_T xs) za_P za_M ⟨"LyndonBenchLaw", "law", "([I)Z"⟩ code q) : ∀ q ∈ zc_328_9 ++ l, z_oke' (za_T xs) za_P za_M ⟨"LyndonBenchLaw", "law", "([I)Z"⟩ code q :=
  z_fc (zo_l (by decide +kernel) rfl rfl trivial) <|
  z_fc (zo_l (by decide +kernel) rfl rfl trivial) <|
  z_fc (zo_l (by decide +kernel) rfl rfl (by show ((819 : Nat) : Int) + (5) = ((824 : Nat) : Int); decide)) <|
  z_fc (zo_l (by decide +kernel) rfl rfl trivial) <|
  z_fc (zo_r (by decide +kernel) rfl) <|
  z_fc (zo_l (by decide +kernel) rfl rfl (by show ((824 : Nat) : Int) + (1517) = ((2341 : Nat) : Int); decide)) <|
  z_fc (zo_l (by decide +kernel) rfl rfl trivial) <|
  z_fc (zo_l (by decide +kernel) rfl rfl trivial) <|
  z_fc (zo_l (by decide +kernel) rfl rfl trivial) <|
  z_fc (zo_l (by decide +kernel) rfl rfl trivial) <|
  z_fc (zo_l (by decide +kernel) rfl rfl trivial) <|
  z_fc (zo_h (by decide +kernel) rfl rfl) <|
  z_fc (zo_l (by decide +kernel) rfl rfl trivial) <|
  z_fc (zo_s (by decide +kernel) rfl ⟨zd_310, zw_968, zw_969⟩) <|
  z_fc (zo_l (by decide +kernel) rfl rfl trivial) <|
  z_fc (zo_l (by decide +kernel) rfl rfl trivial) <|
  z_fc (zo_l (by decide +kernel) rfl rfl trivial) <|
  z_fc (zo_l (by decide +kernel) rfl rfl trivial) <|
  z_fc (zo_l (by decide +kernel) rfl rfl trivial) <|
  z_fc (zo_l (by decide +kernel) rfl rfl trivial) <|
  z_fc (zo_h (by decide +kernel) rfl rfl) <|
  z_fc (zo_v (by decide +kernel) rfl ⟨rfl, zd_237, zw_1586, Nat.le_of_ble_eq_true rfl, ⟨_, Or.inl ⟨Nat.le_of_ble_eq_true rfl, rfl⟩, rfl⟩, zw_1585, zw_1587⟩) <|
  z_fc (zo_l (by decide +kernel) rfl rfl trivial) <|
  z_fc (zo_l (by decide +kernel) rfl rfl trivial) <|
  z_fc (zo_v (by decide +kernel) rfl ⟨rfl, zd_148, zw_1509, Nat.le_of_ble_eq_true rfl, ⟨_, Or.inl ⟨Nat.le_of_ble_eq_true rfl, rfl⟩, rfl⟩, zw_1508, zw_1510⟩) <|
  z_fc (zo_l (by decide +kernel) rfl rfl trivial) <|
  z_fc (zo_l (by decide +kernel) rfl rfl (by show ((858 : Nat) : Int) + (5) = ((863 : Nat) : Int); decide)) <|
  z_fc (zo_l (by decide +kernel) rfl rfl trivial) <|
  z_fc (zo_r (by decide +kernel) rfl) <|
  z_fc (zo_l (by decide +kernel) rfl rfl trivial) <|
  z_fc (zo_l (by decide +kernel) rfl rfl (by show ((865 : Nat) : Int) + (15) = ((880 : Nat) : Int); decide)) <|
  z_fc (zo_l (by decide +kernel) rfl rfl trivial) <|
  z_fc (zo_l (by decide +kernel) rfl rfl trivial) <|
  z_fc (zo_h (by decide +kernel) rfl rfl) <|
  z_fc (zo_l (by decide +kernel) rfl rfl trivial) <|
  z_fc (zo_l (by decide +kernel) rfl rfl trivial) <|
  z_fc (zo_l (by decide +kernel) rfl rfl trivial) <|
  z_fc (zo_l (by decide +kernel) rfl rfl (by show ((875 : Nat) : Int) + (5) = ((880 : Nat) : Int); decide)) <|
  z_fc (zo_l (by decide +kernel) rfl rfl trivial) <|
  z_fc (zo_r (by decide +kernel) rfl) <|
  h
theorem zk_328_10 (xs : List Int32) {l : List zE} (h : ∀ q ∈ l, z_oke' (za_T xs) za_P za_M ⟨"LyndonBenchLaw", "law", "([I)Z"⟩ code q) : ∀ q ∈ zc_328_10 ++ l, z_oke' (za_T xs) za_P za_M ⟨"LyndonBenchLaw", "law", "([I)Z"⟩ code q :=
  z_fc (zo_l (by decide +kernel) rfl rfl (by show ((880 : Nat) : Int) + (1461) = ((2341 : Nat) : Int); decide)) <|
  z_fc (zo_l (by decide +kernel) rfl rfl trivial) <|
  z_fc (zo_l (by decide +kernel) rfl rfl trivial) <|
  z_fc (zo_l (by decide +kernel) rfl rfl trivial) <|
  z_fc (zo_l (by decide +kernel) rfl rfl trivial) <|
  z_fc (zo_l (by decide +kernel) rfl rfl trivial) <|
  z_fc (zo_h (by decide +kernel) rfl rfl) <|
  z_fc (zo_l (by decide +kernel) rfl rfl trivial) <|
  z_fc (zo_s (by decide +kernel) rfl ⟨zd_311, zw_980, zw_981⟩) <|
  z_fc (zo_l (by decide +kernel) rfl rfl trivial) <|
  z_fc (zo_l (by decide +kernel) rfl rfl trivial) <|
  z_fc (zo_l (by decide +kernel) rfl rfl trivial) <|
  z_fc (zo_l (by decide +kernel) rfl rfl trivial) <|
  z_fc (zo_l (by decide +kernel) rfl rfl trivial) <|
  z_fc (zo_l (by decide +kernel) rfl rfl trivial) <|
  z_fc (zo_h (by decide +kernel) rfl rfl) <|
  z_fc (zo_v (by decide +kernel) rfl ⟨rfl, zd_238, zw_1590, Nat.le_of_ble_eq_true rfl, ⟨_, Or.inl ⟨Nat.le_of_ble_eq_true rfl, rfl⟩, rfl⟩, zw_1589, zw_1591⟩) <|
  z_fc (zo_l (by decide +kernel) rfl rfl trivial) <|
  z_fc (zo_l (by decide +kernel) rfl rfl trivial) <|
  z_fc (zo_v (by decide +kernel) rfl ⟨rfl, zd_148, zw_1509, Nat.le_of_ble_eq_true rfl, ⟨_, Or.inl ⟨Nat.le_of_ble_eq_true rfl, rfl⟩, rfl⟩, zw_1508, zw_1510⟩) <|
  z_fc (zo_l (by decide +kernel) rfl rfl trivial) <|
  z_fc (zo_l (by decide +kernel) rfl rfl (by show ((914 : Nat) : Int) + (5) = ((919 : Nat) : Int); decide)) <|
  z_fc (zo_l (by decide +kernel) rfl rfl trivial) <|
  z_fc (zo_r (by decide +kernel) rfl) <|
  z_fc (zo_l (by decide +kernel) rfl rfl trivial) <|
  z_fc (zo_l (by decide +kernel) rfl rfl (by show ((921 : Nat) : Int) + (15) = ((936 : Nat) : Int); decide)) <|
  z_fc (zo_l (by decide +kernel) rfl rfl trivial) <|
  z_fc (zo_l (by decide +kernel) rfl rfl trivial) <|
  z_fc (zo_h (by decide +kernel) rfl rfl) <|
  z_fc (zo_l (by decide +kernel) rfl rfl trivial) <|
  z_fc (zo_l (by decide +kernel) rfl rfl trivial) <|
  z_fc (zo_l (by decide +kernel) rfl rfl trivial) <|
  z_fc (zo_l (by decide +kernel) rfl rfl (by show ((931 : Nat) : Int) + (5) = ((936 : Nat) : Int); decide)) <|
  z_fc (zo_l (by decide +kernel) rfl rfl trivial) <|
  z_fc (zo_r (by decide +kernel) rfl) <|
  z_fc (zo_l (by decide +kernel) rfl rfl (by show ((936 : Nat) : Int) + (1405) = ((2341 : Nat) : Int); decide)) <|
  z_fc (zo_l (by decide +kernel) rfl rfl trivial) <|
  z_fc (zo_l (by decide +kernel) rfl rfl trivial) <|
  z_fc (zo_s (by decide +kernel) rfl ⟨zd_312, zw_1011, zw_1012⟩) <|
  z_fc (zo_l (by decide +kernel) rfl rfl trivial) <|
  h
theorem zk_328_11 (xs : List Int32) {l : List zE} (h : ∀ q ∈ l, z_oke' (za_T xs) za_P za_M ⟨"LyndonBenchLaw", "law", "([I)Z"⟩ code q) : ∀ q ∈ zc_328_11 ++ l, z_oke' (za_T xs) za_P za_M ⟨"LyndonBenchLaw", "law", "([I)Z"⟩ code q :=
  z_fc (zo_l (by decide +kernel) rfl rfl trivial) <|
  z_fc (zo_v (by decide +kernel) rfl ⟨rfl, zd_239, zw_1594, Nat.le_of_ble_eq_true rfl, ⟨_, Or.inl ⟨Nat.le_of_ble_eq_true rfl, rfl⟩, rfl⟩, zw_1593, zw_1595⟩) <|
  z_fc (zo_l (by decide +kernel) rfl rfl trivial) <|
  z_fc (zo_l (by decide +kernel) rfl rfl trivial) <|
  z_fc (zo_v (by decide +kernel) rfl ⟨rfl, zd_148, zw_1509, Nat.le_of_ble_eq_true rfl, ⟨_, Or.inl ⟨Nat.le_of_ble_eq_true rfl, rfl⟩, rfl⟩, zw_1508, zw_1510⟩) <|
  z_fc (zo_l (by decide +kernel) rfl rfl trivial) <|
  z_fc (zo_l (by decide +kernel) rfl rfl (by show ((958 : Nat) : Int) + (5) = ((963 : Nat) : Int); decide)) <|
  z_fc (zo_l (by decide +kernel) rfl rfl trivial) <|
  z_fc (zo_r (by decide +kernel) rfl) <|
  z_fc (zo_l (by decide +kernel) rfl rfl trivial) <|
  z_fc (zo_l (by decide +kernel) rfl rfl (by show ((965 : Nat) : Int) + (15) = ((980 : Nat) : Int); decide)) <|
  z_fc (zo_l (by decide +kernel) rfl rfl trivial) <|
  z_fc (zo_l (by decide +kernel) rfl rfl trivial) <|
  z_fc (zo_h (by decide +kernel) rfl rfl) <|
  z_fc (zo_l (by decide +kernel) rfl rfl trivial) <|
  z_fc (zo_l (by decide +kernel) rfl rfl trivial) <|
  z_fc (zo_l (by decide +kernel) rfl rfl trivial) <|
  z_fc (zo_l (by decide +kernel) rfl rfl (by show ((975 : Nat) : Int) + (5) = ((980 : Nat) : Int); decide)) <|
  z_fc (zo_l (by decide +kernel) rfl rfl trivial) <|
  z_fc (zo_r (by decide +kernel) rfl) <|
  z_fc (zo_l (by decide +kernel) rfl rfl (by show ((980 : Nat) : Int) + (1361) = ((2341 : Nat) : Int); decide)) <|
  z_fc (zo_l (by decide +kernel) rfl rfl trivial) <|
  z_fc (zo_l (by decide +kernel) rfl rfl trivial) <|
  z_fc (zo_l (by decide +kernel) rfl rfl trivial) <|
  z_fc (zo_l (by decide +kernel) rfl rfl trivial) <|
  z_fc (zo_l (by decide +kernel) rfl rfl trivial) <|
  z_fc (zo_h (by decide +kernel) rfl rfl) <|
  z_fc (zo_l (by decide +kernel) rfl rfl trivial) <|
  z_fc (zo_s (by decide +kernel) rfl ⟨zd_313, zw_1019, zw_1020⟩) <|
  z_fc (zo_l (by decide +kernel) rfl rfl trivial) <|
  z_fc (zo_l (by decide +kernel) rfl rfl trivial) <|
  z_fc (zo_l (by decide +kernel) rfl rfl trivial) <|
  z_fc (zo_l (by decide +kernel) rfl rfl trivial) <|
  z_fc (zo_l (by decide +kernel) rfl rfl trivial) <|
  z_fc (zo_l (by decide +kernel) rfl rfl trivial) <|
  z_fc (zo_h (by decide +kernel) rfl rfl) <|
  z_fc (zo_v (by decide +kernel) rfl ⟨rfl, zd_240, zw_1598, Nat.le_of_ble_eq_true rfl, ⟨_, Or.inl ⟨Nat.le_of_ble_eq_true rfl, rfl⟩, rfl⟩, zw_1597, zw_1599⟩) <|
  z_fc (zo_l (by decide +kernel) rfl rfl trivial) <|
  z_fc (zo_l (by decide +kernel) rfl rfl trivial) <|
  z_fc (zo_v (by decide +kernel) rfl ⟨rfl, zd_148, zw_1509, Nat.le_of_ble_eq_true rfl, ⟨_, Or.inl ⟨Nat.le_of_ble_eq_true rfl, rfl⟩, rfl⟩, zw_1508, zw_1510⟩) <|
  h
theorem zk_328_12 (xs : List Int32) {l : List zE} (h : ∀ q ∈ l, z_oke' (za_T xs) za_P za_M ⟨"LyndonBenchLaw", "law", "([I)Z"⟩ code q) : ∀ q ∈ zc_328_12 ++ l, z_oke' (za_T xs) za_P za_M ⟨"LyndonBenchLaw", "law", "([I)Z"⟩ code q :=
  z_fc (zo_l (by decide +kernel) rfl rfl trivial) <|
  z_fc (zo_l (by decide +kernel) rfl rfl (by show ((1014 : Nat) : Int) + (5) = ((1019 : Nat) : Int); decide)) <|
  z_fc (zo_l (by decide +kernel) rfl rfl trivial) <|
  z_fc (zo_r (by decide +kernel) rfl) <|
  z_fc (zo_l (by decide +kernel) rfl rfl trivial) <|
  z_fc (zo_l (by decide +kernel) rfl rfl (by show ((1021 : Nat) : Int) + (15) = ((1036 : Nat) : Int); decide)) <|
  z_fc (zo_l (by decide +kernel) rfl rfl trivial) <|
  z_fc (zo_l (by decide +kernel) rfl rfl trivial) <|
  z_fc (zo_h (by decide +kernel) rfl rfl) <|
  z_fc (zo_l (by decide +kernel) rfl rfl trivial) <|
  z_fc (zo_l (by decide +kernel) rfl rfl trivial) <|
  z_fc (zo_l (by decide +kernel) rfl rfl trivial) <|
  z_fc (zo_l (by decide +kernel) rfl rfl (by show ((1031 : Nat) : Int) + (5) = ((1036 : Nat) : Int); decide)) <|
  z_fc (zo_l (by decide +kernel) rfl rfl trivial) <|
  z_fc (zo_r (by decide +kernel) rfl) <|
  z_fc (zo_l (by decide +kernel) rfl rfl (by show ((1036 : Nat) : Int) + (1305) = ((2341 : Nat) : Int); decide)) <|
  z_fc (zo_l (by decide +kernel) rfl rfl trivial) <|
  z_fc (zo_l (by decide +kernel) rfl rfl trivial) <|
  z_fc (zo_s (by decide +kernel) rfl ⟨zd_314, zw_1028, zw_1029⟩) <|
  z_fc (zo_l (by decide +kernel) rfl rfl trivial) <|
  z_fc (zo_l (by decide +kernel) rfl rfl trivial) <|
  z_fc (zo_v (by decide +kernel) rfl ⟨rfl, zd_241, zw_1606, Nat.le_of_ble_eq_true rfl, ⟨_, Or.inl ⟨Nat.le_of_ble_eq_true rfl, rfl⟩, rfl⟩, zw_1605, zw_1607⟩) <|
  z_fc (zo_l (by decide +kernel) rfl rfl trivial) <|
  z_fc (zo_l (by decide +kernel) rfl rfl trivial) <|
  z_fc (zo_v (by decide +kernel) rfl ⟨rfl, zd_148, zw_1509, Nat.le_of_ble_eq_true rfl, ⟨_, Or.inl ⟨Nat.le_of_ble_eq_true rfl, rfl⟩, rfl⟩, zw_1508, zw_1510⟩) <|
  z_fc (zo_l (by decide +kernel) rfl rfl trivial) <|
  z_fc (zo_l (by decide +kernel) rfl rfl (by show ((1058 : Nat) : Int) + (5) = ((1063 : Nat) : Int); decide)) <|
  z_fc (zo_l (by decide +kernel) rfl rfl trivial) <|
  z_fc (zo_r (by decide +kernel) rfl) <|
  z_fc (zo_l (by decide +kernel) rfl rfl trivial) <|
  z_fc (zo_l (by decide +kernel) rfl rfl (by show ((1065 : Nat) : Int) + (15) = ((1080 : Nat) : Int); decide)) <|
  z_fc (zo_l (by decide +kernel) rfl rfl trivial) <|
  z_fc (zo_l (by decide +kernel) rfl rfl trivial) <|
  z_fc (zo_h (by decide +kernel) rfl rfl) <|
  z_fc (zo_l (by decide +kernel) rfl rfl trivial) <|
  z_fc (zo_l (by decide +kernel) rfl rfl trivial) <|
  z_fc (zo_l (by decide +kernel) rfl rfl trivial) <|
  z_fc (zo_l (by decide +kernel) rfl rfl (by show ((1075 : Nat) : Int) + (5) = ((1080 : Nat) : Int); decide)) <|
  z_fc (zo_l (by decide +kernel) rfl rfl trivial) <|
  z_fc (zo_r (by decide +kernel) rfl) <|
  h
theorem zk_328_13 (xs : List Int32) {l : List zE} (h : ∀ q ∈ l, z_oke' (za_T xs) za_P za_M ⟨"LyndonBenchLaw", "law", "([I)Z"⟩ code q) : ∀ q ∈ zc_328_13 ++ l, z_oke' (za_T xs) za_P za_M ⟨"LyndonBenchLaw", "law", "([I)Z"⟩ code q :=
  z_fc (zo_l (by decide +kernel) rfl rfl (by show ((1080 : Nat) : Int) + (1261) = ((2341 : Nat) : Int); decide)) <|
  z_fc (zo_l (by decide +kernel) rfl rfl trivial) <|
  z_fc (zo_v (by decide +kernel) rfl ⟨rfl, zd_93, zw_613, Nat.le_of_ble_eq_true rfl, ⟨_, Or.inl ⟨Nat.le_of_ble_eq_true rfl, rfl⟩, rfl⟩, zw_612, zw_614⟩) <|
  z_fc (zo_l (by decide +kernel) rfl rfl trivial) <|
  z_fc (zo_v (by decide +kernel) rfl ⟨rfl, zd_242, zw_1610, Nat.le_of_ble_eq_true rfl, ⟨_, Or.inl ⟨Nat.le_of_ble_eq_true rfl, rfl⟩, rfl⟩, zw_1609, zw_1611⟩) <|
  z_fc (zo_l (by decide +kernel) rfl rfl (by show ((1091 : Nat) : Int) + (1250) = ((2341 : Nat) : Int); decide)) <|
  z_fc (zo_l (by decide +kernel) rfl rfl trivial) <|
  z_fc (zo_r (by decide +kernel) rfl) <|
  z_fc (zo_l (by decide +kernel) rfl rfl trivial) <|
  z_fc (zo_v (by decide +kernel) rfl ⟨rfl, zd_94, zw_621, Nat.le_of_ble_eq_true rfl, ⟨_, Or.inl ⟨Nat.le_of_ble_eq_true rfl, rfl⟩, rfl⟩, zw_620, zw_622⟩) <|
  z_fc (zo_l (by decide +kernel) rfl rfl trivial) <|
  z_fc (zo_v (by decide +kernel) rfl ⟨rfl, zd_243, zw_1614, Nat.le_of_ble_eq_true rfl, ⟨_, Or.inl ⟨Nat.le_of_ble_eq_true rfl, rfl⟩, rfl⟩, zw_1613, zw_1615⟩) <|
  z_fc (zo_l (by decide +kernel) rfl rfl (by show ((1104 : Nat) : Int) + (1237) = ((2341 : Nat) : Int); decide)) <|
  z_fc (zo_l (by decide +kernel) rfl rfl trivial) <|
  z_fc (zo_r (by decide +kernel) rfl) <|
  z_fc (zo_l (by decide +kernel) rfl rfl trivial) <|
  z_fc (zo_v (by decide +kernel) rfl ⟨rfl, zd_95, zw_625, Nat.le_of_ble_eq_true rfl, ⟨_, Or.inl ⟨Nat.le_of_ble_eq_true rfl, rfl⟩, rfl⟩, zw_624, zw_626⟩) <|
  z_fc (zo_l (by decide +kernel) rfl rfl trivial) <|
  z_fc (zo_v (by decide +kernel) rfl ⟨rfl, zd_244, zw_1618, Nat.le_of_ble_eq_true rfl, ⟨_, Or.inl ⟨Nat.le_of_ble_eq_true rfl, rfl⟩, rfl⟩, zw_1617, zw_1619⟩) <|
  z_fc (zo_l (by decide +kernel) rfl rfl (by show ((1117 : Nat) : Int) + (1224) = ((2341 : Nat) : Int); decide)) <|
  z_fc (zo_l (by decide +kernel) rfl rfl trivial) <|
  z_fc (zo_r (by decide +kernel) rfl) <|
  z_fc (zo_l (by decide +kernel) rfl rfl trivial) <|
  z_fc (zo_l (by decide +kernel) rfl rfl trivial) <|
  z_fc (zo_s (by decide +kernel) rfl ⟨zd_315, zw_1038, zw_1039⟩) <|
  z_fc (zo_l (by decide +kernel) rfl rfl trivial) <|
  z_fc (zo_l (by decide +kernel) rfl rfl trivial) <|
  z_fc (zo_v (by decide +kernel) rfl ⟨rfl, zd_245, zw_1622, Nat.le_of_ble_eq_true rfl, ⟨_, Or.inl ⟨Nat.le_of_ble_eq_true rfl, rfl⟩, rfl⟩, zw_1621, zw_1623⟩) <|
  z_fc (zo_l (by decide +kernel) rfl rfl trivial) <|
  z_fc (zo_l (by decide +kernel) rfl rfl trivial) <|
  z_fc (zo_v (by decide +kernel) rfl ⟨rfl, zd_148, zw_1509, Nat.le_of_ble_eq_true rfl, ⟨_, Or.inl ⟨Nat.le_of_ble_eq_true rfl, rfl⟩, rfl⟩, zw_1508, zw_1510⟩) <|
  z_fc (zo_l (by decide +kernel) rfl rfl trivial) <|
  z_fc (zo_l (by decide +kernel) rfl rfl (by show ((1141 : Nat) : Int) + (5) = ((1146 : Nat) : Int); decide)) <|
  z_fc (zo_l (by decide +kernel) rfl rfl trivial) <|
  z_fc (zo_r (by decide +kernel) rfl) <|
  z_fc (zo_l (by decide +kernel) rfl rfl trivial) <|
  z_fc (zo_l (by decide +kernel) rfl rfl (by show ((1148 : Nat) : Int) + (15) = ((1163 : Nat) : Int); decide)) <|
  z_fc (zo_l (by decide +kernel) rfl rfl trivial) <|
  z_fc (zo_l (by decide +kernel) rfl rfl trivial) <|
  z_fc (zo_h (by decide +kernel) rfl rfl) <|
  h
theorem zk_328_14 (xs : List Int32) {l : List zE} (h : ∀ q ∈ l, z_oke' (za_T xs) za_P za_M ⟨"LyndonBenchLaw", "law", "([I)Z"⟩ code q) : ∀ q ∈ zc_328_14 ++ l, z_oke' (za_T xs) za_P za_M ⟨"LyndonBenchLaw", "law", "([I)Z"⟩ code q :=
  z_fc (zo_l (by decide +kernel) rfl rfl trivial) <|
  z_fc (zo_l (by decide +kernel) rfl rfl trivial) <|
  z_fc (zo_l (by decide +kernel) rfl rfl trivial) <|
  z_fc (zo_l (by decide +kernel) rfl rfl (by show ((1158 : Nat) : Int) + (5) = ((1163 : Nat) : Int); decide)) <|
  z_fc (zo_l (by decide +kernel) rfl rfl trivial) <|
  z_fc (zo_r (by decide +kernel) rfl) <|
  z_fc (zo_l (by decide +kernel) rfl rfl (by show ((1163 : Nat) : Int) + (1178) = ((2341 : Nat) : Int); decide)) <|
  z_fc (zo_l (by decide +kernel) rfl rfl trivial) <|
  z_fc (zo_v (by decide +kernel) rfl ⟨rfl, zd_97, zw_629, Nat.le_of_ble_eq_true rfl, ⟨_, Or.inl ⟨Nat.le_of_ble_eq_true rfl, rfl⟩, rfl⟩, zw_628, zw_630⟩) <|
  z_fc (zo_l (by decide +kernel) rfl rfl trivial) <|
  z_fc (zo_v (by decide +kernel) rfl ⟨rfl, zd_246, zw_1626, Nat.le_of_ble_eq_true rfl, ⟨_, Or.inl ⟨Nat.le_of_ble_eq_true rfl, rfl⟩, rfl⟩, zw_1625, zw_1627⟩) <|
  z_fc (zo_l (by decide +kernel) rfl rfl (by show ((1174 : Nat) : Int) + (1167) = ((2341 : Nat) : Int); decide)) <|
  z_fc (zo_l (by decide +kernel) rfl rfl trivial) <|
  z_fc (zo_r (by decide +kernel) rfl) <|
  z_fc (zo_l (by decide +kernel) rfl rfl trivial) <|
  z_fc (zo_v (by decide +kernel) rfl ⟨rfl, zd_98, zw_633, Nat.le_of_ble_eq_true rfl, ⟨_, Or.inl ⟨Nat.le_of_ble_eq_true rfl, rfl⟩, rfl⟩, zw_632, zw_634⟩) <|
  z_fc (zo_l (by decide +kernel) rfl rfl trivial) <|
  z_fc (zo_v (by decide +kernel) rfl ⟨rfl, zd_247, zw_1630, Nat.le_of_ble_eq_true rfl, ⟨_, Or.inl ⟨Nat.le_of_ble_eq_true rfl, rfl⟩, rfl⟩, zw_1629, zw_1631⟩) <|
  z_fc (zo_l (by decide +kernel) rfl rfl (by show ((1187 : Nat) : Int) + (1154) = ((2341 : Nat) : Int); decide)) <|
  z_fc (zo_l (by decide +kernel) rfl rfl trivial) <|
  z_fc (zo_r (by decide +kernel) rfl) <|
  z_fc (zo_l (by decide +kernel) rfl rfl trivial) <|
  z_fc (zo_v (by decide +kernel) rfl ⟨rfl, zd_99, zw_637, Nat.le_of_ble_eq_true rfl, ⟨_, Or.inl ⟨Nat.le_of_ble_eq_true rfl, rfl⟩, rfl⟩, zw_636, zw_638⟩) <|
  z_fc (zo_l (by decide +kernel) rfl rfl trivial) <|
  z_fc (zo_v (by decide +kernel) rfl ⟨rfl, zd_249, zw_1634, Nat.le_of_ble_eq_true rfl, ⟨_, Or.inl ⟨Nat.le_of_ble_eq_true rfl, rfl⟩, rfl⟩, zw_1633, zw_1635⟩) <|
  z_fc (zo_l (by decide +kernel) rfl rfl (by show ((1200 : Nat) : Int) + (1141) = ((2341 : Nat) : Int); decide)) <|
  z_fc (zo_l (by decide +kernel) rfl rfl trivial) <|
  z_fc (zo_r (by decide +kernel) rfl) <|
  z_fc (zo_l (by decide +kernel) rfl rfl trivial) <|
  z_fc (zo_v (by decide +kernel) rfl ⟨rfl, zd_100, zw_641, Nat.le_of_ble_eq_true rfl, ⟨_, Or.inl ⟨Nat.le_of_ble_eq_true rfl, rfl⟩, rfl⟩, zw_640, zw_642⟩) <|
  z_fc (zo_l (by decide +kernel) rfl rfl trivial) <|
  z_fc (zo_v (by decide +kernel) rfl ⟨rfl, zd_250, zw_1642, Nat.le_of_ble_eq_true rfl, ⟨_, Or.inl ⟨Nat.le_of_ble_eq_true rfl, rfl⟩, rfl⟩, zw_1641, zw_1643⟩) <|
  z_fc (zo_l (by decide +kernel) rfl rfl (by show ((1213 : Nat) : Int) + (1128) = ((2341 : Nat) : Int); decide)) <|
  z_fc (zo_l (by decide +kernel) rfl rfl trivial) <|
  z_fc (zo_r (by decide +kernel) rfl) <|
  z_fc (zo_l (by decide +kernel) rfl rfl trivial) <|
  z_fc (zo_l (by decide +kernel) rfl rfl trivial) <|
  z_fc (zo_l (by decide +kernel) rfl rfl trivial) <|
  z_fc (zo_l (by decide +kernel) rfl rfl trivial) <|
  z_fc (zo_l (by decide +kernel) rfl rfl trivial) <|
  h
theorem zk_328_15 (xs : List Int32) {l : List zE} (h : ∀ q ∈ l, z_oke' (za_T xs) za_P za_M ⟨"LyndonBenchLaw", "law", "([I)Z"⟩ code q) : ∀ q ∈ zc_328_15 ++ l, z_oke' (za_T xs) za_P za_M ⟨"LyndonBenchLaw", "law", "([I)Z"⟩ code q :=
  z_fc (zo_h (by decide +kernel) rfl rfl) <|
  z_fc (zo_v (by decide +kernel) rfl ⟨rfl, zd_101, zw_645, Nat.le_of_ble_eq_true rfl, ⟨_, Or.inl ⟨Nat.le_of_ble_eq_true rfl, rfl⟩, rfl⟩, zw_644, zw_646⟩) <|
  z_fc (zo_l (by decide +kernel) rfl rfl trivial) <|
  z_fc (zo_l (by decide +kernel) rfl rfl trivial) <|
  z_fc (zo_l (by decide +kernel) rfl rfl trivial) <|
  z_fc (zo_l (by decide +kernel) rfl rfl trivial) <|
  z_fc (zo_l (by decide +kernel) rfl rfl trivial) <|
  z_fc (zo_h (by decide +kernel) rfl rfl) <|
  z_fc (zo_v (by decide +kernel) rfl ⟨rfl, zd_251, zw_1646, Nat.le_of_ble_eq_true rfl, ⟨_, Or.inl ⟨Nat.le_of_ble_eq_true rfl, rfl⟩, rfl⟩, zw_1645, zw_1647⟩) <|
  z_fc (zo_l (by decide +kernel) rfl rfl (by show ((1238 : Nat) : Int) + (1103) = ((2341 : Nat) : Int); decide)) <|
  z_fc (zo_l (by decide +kernel) rfl rfl trivial) <|
  z_fc (zo_r (by decide +kernel) rfl) <|
  z_fc (zo_l (by decide +kernel) rfl rfl trivial) <|
  z_fc (zo_l (by decide +kernel) rfl rfl trivial) <|
  z_fc (zo_l (by decide +kernel) rfl rfl trivial) <|
  z_fc (zo_l (by decide +kernel) rfl rfl trivial) <|
  z_fc (zo_l (by decide +kernel) rfl rfl trivial) <|
  z_fc (zo_h (by decide +kernel) rfl rfl) <|
  z_fc (zo_l (by decide +kernel) rfl rfl trivial) <|
  z_fc (zo_l (by decide +kernel) rfl rfl trivial) <|
  z_fc (zo_l (by decide +kernel) rfl rfl trivial) <|
  z_fc (zo_l (by decide +kernel) rfl rfl trivial) <|
  z_fc (zo_h (by decide +kernel) rfl rfl) <|
  z_fc (zo_l (by decide +kernel) rfl rfl trivial) <|
  z_fc (zo_l (by decide +kernel) rfl rfl trivial) <|
  z_fc (zo_l (by decide +kernel) rfl rfl trivial) <|
  z_fc (zo_l (by decide +kernel) rfl rfl trivial) <|
  z_fc (zo_h (by decide +kernel) rfl rfl) <|
  z_fc (zo_l (by decide +kernel) rfl rfl trivial) <|
  z_fc (zo_l (by decide +kernel) rfl rfl trivial) <|
  z_fc (zo_l (by decide +kernel) rfl rfl trivial) <|
  z_fc (zo_l (by decide +kernel) rfl rfl trivial) <|
  z_fc (zo_h (by decide +kernel) rfl rfl) <|
  z_fc (zo_l (by decide +kernel) rfl rfl trivial) <|
  z_fc (zo_s (by decide +kernel) rfl ⟨zd_316, zw_1062, zw_1063⟩) <|
  z_fc (zo_l (by decide +kernel) rfl rfl trivial) <|
  z_fc (zo_l (by decide +kernel) rfl rfl trivial) <|
  z_fc (zo_l (by decide +kernel) rfl rfl trivial) <|
  z_fc (zo_l (by decide +kernel) rfl rfl trivial) <|
  z_fc (zo_l (by decide +kernel) rfl rfl trivial) <|
  h
theorem zk_328_16 (xs : List Int32) {l : List zE} (h : ∀ q ∈ l, z_oke' (za_T xs) za_P za_M ⟨"LyndonBenchLaw", "law", "([I)Z"⟩ code q) : ∀ q ∈ zc_328_16 ++ l, z_oke' (za_T xs) za_P za_M ⟨"LyndonBenchLaw", "law", "([I)Z"⟩ code q :=
  z_fc (zo_l (by decide +kernel) rfl rfl trivial) <|
  z_fc (zo_h (by decide +kernel) rfl rfl) <|
  z_fc (zo_l (by decide +kernel) rfl rfl trivial) <|
  z_fc (zo_l (by decide +kernel) rfl rfl trivial) <|
  z_fc (zo_l (by decide +kernel) rfl rfl trivial) <|
  z_fc (zo_l (by decide +kernel) rfl rfl trivial) <|
  z_fc (zo_h (by decide +kernel) rfl rfl) <|
  z_fc (zo_l (by decide +kernel) rfl rfl trivial) <|
  z_fc (zo_l (by decide +kernel) rfl rfl trivial) <|
  z_fc (zo_l (by decide +kernel) rfl rfl trivial) <|
  z_fc (zo_l (by decide +kernel) rfl rfl trivial) <|
  z_fc (zo_h (by decide +kernel) rfl rfl) <|
  z_fc (zo_l (by decide +kernel) rfl rfl trivial) <|
  z_fc (zo_l (by decide +kernel) rfl rfl trivial) <|
  z_fc (zo_l (by decide +kernel) rfl rfl trivial) <|
  z_fc (zo_l (by decide +kernel) rfl rfl trivial) <|
  z_fc (zo_h (by decide +kernel) rfl rfl) <|
  z_fc (zo_v (by decide +kernel) rfl ⟨rfl, zd_253, zw_1650, Nat.le_of_ble_eq_true rfl, ⟨_, Or.inl ⟨Nat.le_of_ble_eq_true rfl, rfl⟩, rfl⟩, zw_1649, zw_1651⟩) <|
  z_fc (zo_l (by decide +kernel) rfl rfl trivial) <|
  z_fc (zo_l (by decide +kernel) rfl rfl trivial) <|
  z_fc (zo_v (by decide +kernel) rfl ⟨rfl, zd_148, zw_1509, Nat.le_of_ble_eq_true rfl, ⟨_, Or.inl ⟨Nat.le_of_ble_eq_true rfl, rfl⟩, rfl⟩, zw_1508, zw_1510⟩) <|
  z_fc (zo_l (by decide +kernel) rfl rfl trivial) <|
  z_fc (zo_l (by decide +kernel) rfl rfl (by show ((1310 : Nat) : Int) + (5) = ((1315 : Nat) : Int); decide)) <|
  z_fc (zo_l (by decide +kernel) rfl rfl trivial) <|
  z_fc (zo_r (by decide +kernel) rfl) <|
  z_fc (zo_l (by decide +kernel) rfl rfl trivial) <|
  z_fc (zo_l (by decide +kernel) rfl rfl (by show ((1317 : Nat) : Int) + (15) = ((1332 : Nat) : Int); decide)) <|
  z_fc (zo_l (by decide +kernel) rfl rfl trivial) <|
  z_fc (zo_l (by decide +kernel) rfl rfl trivial) <|
  z_fc (zo_h (by decide +kernel) rfl rfl) <|
  z_fc (zo_l (by decide +kernel) rfl rfl trivial) <|
  z_fc (zo_l (by decide +kernel) rfl rfl trivial) <|
  z_fc (zo_l (by decide +kernel) rfl rfl trivial) <|
  z_fc (zo_l (by decide +kernel) rfl rfl (by show ((1327 : Nat) : Int) + (5) = ((1332 : Nat) : Int); decide)) <|
  z_fc (zo_l (by decide +kernel) rfl rfl trivial) <|
  z_fc (zo_r (by decide +kernel) rfl) <|
  z_fc (zo_l (by decide +kernel) rfl rfl (by show ((1332 : Nat) : Int) + (1009) = ((2341 : Nat) : Int); decide)) <|
  z_fc (zo_l (by decide +kernel) rfl rfl trivial) <|
  z_fc (zo_v (by decide +kernel) rfl ⟨rfl, zd_103, zw_650, Nat.le_of_ble_eq_true rfl, ⟨_, Or.inl ⟨Nat.le_of_ble_eq_true rfl, rfl⟩, rfl⟩, zw_649, zw_651⟩) <|
  z_fc (zo_l (by decide +kernel) rfl rfl trivial) <|
  h
theorem zk_328_17 (xs : List Int32) {l : List zE} (h : ∀ q ∈ l, z_oke' (za_T xs) za_P za_M ⟨"LyndonBenchLaw", "law", "([I)Z"⟩ code q) : ∀ q ∈ zc_328_17 ++ l, z_oke' (za_T xs) za_P za_M ⟨"LyndonBenchLaw", "law", "([I)Z"⟩ code q :=
  z_fc (zo_v (by decide +kernel) rfl ⟨rfl, zd_254, zw_1658, Nat.le_of_ble_eq_true rfl, ⟨_, Or.inl ⟨Nat.le_of_ble_eq_true rfl, rfl⟩, rfl⟩, zw_1657, zw_1659⟩) <|
  z_fc (zo_l (by decide +kernel) rfl rfl (by show ((1343 : Nat) : Int) + (998) = ((2341 : Nat) : Int); decide)) <|
  z_fc (zo_l (by decide +kernel) rfl rfl trivial) <|
  z_fc (zo_r (by decide +kernel) rfl) <|
  z_fc (zo_l (by decide +kernel) rfl rfl trivial) <|
  z_fc (zo_l (by decide +kernel) rfl rfl trivial) <|
  z_fc (zo_l (by decide +kernel) rfl rfl trivial) <|
  z_fc (zo_l (by decide +kernel) rfl rfl trivial) <|
  z_fc (zo_l (by decide +kernel) rfl rfl trivial) <|
  z_fc (zo_h (by decide +kernel) rfl rfl) <|
  z_fc (zo_l (by decide +kernel) rfl rfl trivial) <|
  z_fc (zo_s (by decide +kernel) rfl ⟨zd_317, zw_1069, zw_1070⟩) <|
  z_fc (zo_l (by decide +kernel) rfl rfl trivial) <|
  z_fc (zo_l (by decide +kernel) rfl rfl trivial) <|
  z_fc (zo_l (by decide +kernel) rfl rfl trivial) <|
  z_fc (zo_l (by decide +kernel) rfl rfl trivial) <|
  z_fc (zo_l (by decide +kernel) rfl rfl trivial) <|
  z_fc (zo_l (by decide +kernel) rfl rfl trivial) <|
  z_fc (zo_h (by decide +kernel) rfl rfl) <|
  z_fc (zo_v (by decide +kernel) rfl ⟨rfl, zd_256, zw_1662, Nat.le_of_ble_eq_true rfl, ⟨_, Or.inl ⟨Nat.le_of_ble_eq_true rfl, rfl⟩, rfl⟩, zw_1661, zw_1663⟩) <|
  z_fc (zo_l (by decide +kernel) rfl rfl trivial) <|
  z_fc (zo_l (by decide +kernel) rfl rfl trivial) <|
  z_fc (zo_v (by decide +kernel) rfl ⟨rfl, zd_148, zw_1509, Nat.le_of_ble_eq_true rfl, ⟨_, Or.inl ⟨Nat.le_of_ble_eq_true rfl, rfl⟩, rfl⟩, zw_1508, zw_1510⟩) <|
  z_fc (zo_l (by decide +kernel) rfl rfl trivial) <|
  z_fc (zo_l (by decide +kernel) rfl rfl (by show ((1379 : Nat) : Int) + (5) = ((1384 : Nat) : Int); decide)) <|
  z_fc (zo_l (by decide +kernel) rfl rfl trivial) <|
  z_fc (zo_r (by decide +kernel) rfl) <|
  z_fc (zo_l (by decide +kernel) rfl rfl trivial) <|
  z_fc (zo_l (by decide +kernel) rfl rfl (by show ((1386 : Nat) : Int) + (15) = ((1401 : Nat) : Int); decide)) <|
  z_fc (zo_l (by decide +kernel) rfl rfl trivial) <|
  z_fc (zo_l (by decide +kernel) rfl rfl trivial) <|
  z_fc (zo_h (by decide +kernel) rfl rfl) <|
  z_fc (zo_l (by decide +kernel) rfl rfl trivial) <|
  z_fc (zo_l (by decide +kernel) rfl rfl trivial) <|
  z_fc (zo_l (by decide +kernel) rfl rfl trivial) <|
  z_fc (zo_l (by decide +kernel) rfl rfl (by show ((1396 : Nat) : Int) + (5) = ((1401 : Nat) : Int); decide)) <|
  z_fc (zo_l (by decide +kernel) rfl rfl trivial) <|
  z_fc (zo_r (by decide +kernel) rfl) <|
  z_fc (zo_l (by decide +kernel) rfl rfl (by show ((1401 : Nat) : Int) + (940) = ((2341 : Nat) : Int); decide)) <|
  z_fc (zo_l (by decide +kernel) rfl rfl trivial) <|
  h
theorem zk_328_18 (xs : List Int32) {l : List zE} (h : ∀ q ∈ l, z_oke' (za_T xs) za_P za_M ⟨"LyndonBenchLaw", "law", "([I)Z"⟩ code q) : ∀ q ∈ zc_328_18 ++ l, z_oke' (za_T xs) za_P za_M ⟨"LyndonBenchLaw", "law", "([I)Z"⟩ code q :=
  z_fc (zo_l (by decide +kernel) rfl rfl trivial) <|
  z_fc (zo_l (by decide +kernel) rfl rfl trivial) <|
  z_fc (zo_l (by decide +kernel) rfl rfl trivial) <|
  z_fc (zo_l (by decide +kernel) rfl rfl trivial) <|
  z_fc (zo_h (by decide +kernel) rfl rfl) <|
  z_fc (zo_l (by decide +kernel) rfl rfl trivial) <|
  z_fc (zo_s (by decide +kernel) rfl ⟨zd_318, zw_1076, zw_1077⟩) <|
  z_fc (zo_l (by decide +kernel) rfl rfl trivial) <|
  z_fc (zo_l (by decide +kernel) rfl rfl trivial) <|
  z_fc (zo_l (by decide +kernel) rfl rfl trivial) <|
  z_fc (zo_l (by decide +kernel) rfl rfl trivial) <|
  z_fc (zo_l (by decide +kernel) rfl rfl trivial) <|
  z_fc (zo_l (by decide +kernel) rfl rfl trivial) <|
  z_fc (zo_h (by decide +kernel) rfl rfl) <|
  z_fc (zo_v (by decide +kernel) rfl ⟨rfl, zd_257, zw_1670, Nat.le_of_ble_eq_true rfl, ⟨_, Or.inl ⟨Nat.le_of_ble_eq_true rfl, rfl⟩, rfl⟩, zw_1669, zw_1671⟩) <|
  z_fc (zo_l (by decide +kernel) rfl rfl trivial) <|
  z_fc (zo_l (by decide +kernel) rfl rfl trivial) <|
  z_fc (zo_v (by decide +kernel) rfl ⟨rfl, zd_148, zw_1509, Nat.le_of_ble_eq_true rfl, ⟨_, Or.inl ⟨Nat.le_of_ble_eq_true rfl, rfl⟩, rfl⟩, zw_1508, zw_1510⟩) <|
  z_fc (zo_l (by decide +kernel) rfl rfl trivial) <|
  z_fc (zo_l (by decide +kernel) rfl rfl (by show ((1435 : Nat) : Int) + (5) = ((1440 : Nat) : Int); decide)) <|
  z_fc (zo_l (by decide +kernel) rfl rfl trivial) <|
  z_fc (zo_r (by decide +kernel) rfl) <|
  z_fc (zo_l (by decide +kernel) rfl rfl trivial) <|
  z_fc (zo_l (by decide +kernel) rfl rfl (by show ((1442 : Nat) : Int) + (15) = ((1457 : Nat) : Int); decide)) <|
  z_fc (zo_l (by decide +kernel) rfl rfl trivial) <|
  z_fc (zo_l (by decide +kernel) rfl rfl trivial) <|
  z_fc (zo_h (by decide +kernel) rfl rfl) <|
  z_fc (zo_l (by decide +kernel) rfl rfl trivial) <|
  z_fc (zo_l (by decide +kernel) rfl rfl trivial) <|
  z_fc (zo_l (by decide +kernel) rfl rfl trivial) <|
  z_fc (zo_l (by decide +kernel) rfl rfl (by show ((1452 : Nat) : Int) + (5) = ((1457 : Nat) : Int); decide)) <|
  z_fc (zo_l (by decide +kernel) rfl rfl trivial) <|
  z_fc (zo_r (by decide +kernel) rfl) <|
  z_fc (zo_l (by decide +kernel) rfl rfl (by show ((1457 : Nat) : Int) + (884) = ((2341 : Nat) : Int); decide)) <|
  z_fc (zo_l (by decide +kernel) rfl rfl trivial) <|
  z_fc (zo_l (by decide +kernel) rfl rfl trivial) <|
  z_fc (zo_l (by decide +kernel) rfl rfl trivial) <|
  z_fc (zo_l (by decide +kernel) rfl rfl trivial) <|
  z_fc (zo_l (by decide +kernel) rfl rfl trivial) <|
  z_fc (zo_h (by decide +kernel) rfl rfl) <|
  h
theorem zk_328_19 (xs : List Int32) {l : List zE} (h : ∀ q ∈ l, z_oke' (za_T xs) za_P za_M ⟨"LyndonBenchLaw", "law", "([I)Z"⟩ code q) : ∀ q ∈ zc_328_19 ++ l, z_oke' (za_T xs) za_P za_M ⟨"LyndonBenchLaw", "law", "([I)Z"⟩ code q :=
  z_fc (zo_l (by decide +kernel) rfl rfl trivial) <|
  z_fc (zo_s (by decide +kernel) rfl ⟨zd_319, zw_1083, zw_1084⟩) <|
  z_fc (zo_l (by decide +kernel) rfl rfl trivial) <|
  z_fc (zo_l (by decide +kernel) rfl rfl trivial) <|
  z_fc (zo_l (by decide +kernel) rfl rfl trivial) <|
  z_fc (zo_l (by decide +kernel) rfl rfl trivial) <|
  z_fc (zo_l (by decide +kernel) rfl rfl trivial) <|
  z_fc (zo_l (by decide +kernel) rfl rfl trivial) <|
  z_fc (zo_h (by decide +kernel) rfl rfl) <|
  z_fc (zo_v (by decide +kernel) rfl ⟨rfl, zd_260, zw_1674, Nat.le_of_ble_eq_true rfl, ⟨_, Or.inl ⟨Nat.le_of_ble_eq_true rfl, rfl⟩, rfl⟩, zw_1673, zw_1675⟩) <|
  z_fc (zo_l (by decide +kernel) rfl rfl trivial) <|
  z_fc (zo_l (by decide +kernel) rfl rfl trivial) <|
  z_fc (zo_v (by decide +kernel) rfl ⟨rfl, zd_148, zw_1509, Nat.le_of_ble_eq_true rfl, ⟨_, Or.inl ⟨Nat.le_of_ble_eq_true rfl, rfl⟩, rfl⟩, zw_1508, zw_1510⟩) <|
  z_fc (zo_l (by decide +kernel) rfl rfl trivial) <|
  z_fc (zo_l (by decide +kernel) rfl rfl (by show ((1491 : Nat) : Int) + (5) = ((1496 : Nat) : Int); decide)) <|
  z_fc (zo_l (by decide +kernel) rfl rfl trivial) <|
  z_fc (zo_r (by decide +kernel) rfl) <|
  z_fc (zo_l (by decide +kernel) rfl rfl trivial) <|
  z_fc (zo_l (by decide +kernel) rfl rfl (by show ((1498 : Nat) : Int) + (15) = ((1513 : Nat) : Int); decide)) <|
  z_fc (zo_l (by decide +kernel) rfl rfl trivial) <|
  z_fc (zo_l (by decide +kernel) rfl rfl trivial) <|
  z_fc (zo_h (by decide +kernel) rfl rfl) <|
  z_fc (zo_l (by decide +kernel) rfl rfl trivial) <|
  z_fc (zo_l (by decide +kernel) rfl rfl trivial) <|
  z_fc (zo_l (by decide +kernel) rfl rfl trivial) <|
  z_fc (zo_l (by decide +kernel) rfl rfl (by show ((1508 : Nat) : Int) + (5) = ((1513 : Nat) : Int); decide)) <|
  z_fc (zo_l (by decide +kernel) rfl rfl trivial) <|
  z_fc (zo_r (by decide +kernel) rfl) <|
  z_fc (zo_l (by decide +kernel) rfl rfl (by show ((1513 : Nat) : Int) + (828) = ((2341 : Nat) : Int); decide)) <|
  z_fc (zo_l (by decide +kernel) rfl rfl trivial) <|
  z_fc (zo_l (by decide +kernel) rfl rfl trivial) <|
  z_fc (zo_l (by decide +kernel) rfl rfl trivial) <|
  z_fc (zo_l (by decide +kernel) rfl rfl trivial) <|
  z_fc (zo_l (by decide +kernel) rfl rfl trivial) <|
  z_fc (zo_h (by decide +kernel) rfl rfl) <|
  z_fc (zo_v (by decide +kernel) rfl ⟨rfl, zd_107, zw_654, Nat.le_of_ble_eq_true rfl, ⟨_, Or.inl ⟨Nat.le_of_ble_eq_true rfl, rfl⟩, rfl⟩, zw_653, zw_655⟩) <|
  z_fc (zo_l (by decide +kernel) rfl rfl trivial) <|
  z_fc (zo_l (by decide +kernel) rfl rfl trivial) <|
  z_fc (zo_l (by decide +kernel) rfl rfl trivial) <|
  z_fc (zo_l (by decide +kernel) rfl rfl trivial) <|
  h
theorem zk_328_20 (xs : List Int32) {l : List zE} (h : ∀ q ∈ l, z_oke' (za_T xs) za_P za_M ⟨"LyndonBenchLaw", "law", "([I)Z"⟩ code q) : ∀ q ∈ zc_328_20 ++ l, z_oke' (za_T xs) za_P za_M ⟨"LyndonBenchLaw", "law", "([I)Z"⟩ code q :=
  z_fc (zo_l (by decide +kernel) rfl rfl trivial) <|
  z_fc (zo_h (by decide +kernel) rfl rfl) <|
  z_fc (zo_v (by decide +kernel) rfl ⟨rfl, zd_261, zw_1686, Nat.le_of_ble_eq_true rfl, ⟨_, Or.inl ⟨Nat.le_of_ble_eq_true rfl, rfl⟩, rfl⟩, zw_1685, zw_1687⟩) <|
  z_fc (zo_l (by decide +kernel) rfl rfl (by show ((1536 : Nat) : Int) + (805) = ((2341 : Nat) : Int); decide)) <|
  z_fc (zo_l (by decide +kernel) rfl rfl trivial) <|
  z_fc (zo_r (by decide +kernel) rfl) <|
  z_fc (zo_l (by decide +kernel) rfl rfl trivial) <|
  z_fc (zo_v (by decide +kernel) rfl ⟨rfl, zd_108, zw_662, Nat.le_of_ble_eq_true rfl, ⟨_, Or.inl ⟨Nat.le_of_ble_eq_true rfl, rfl⟩, rfl⟩, zw_661, zw_663⟩) <|
  z_fc (zo_l (by decide +kernel) rfl rfl trivial) <|
  z_fc (zo_v (by decide +kernel) rfl ⟨rfl, zd_262, zw_1690, Nat.le_of_ble_eq_true rfl, ⟨_, Or.inl ⟨Nat.le_of_ble_eq_true rfl, rfl⟩, rfl⟩, zw_1689, zw_1691⟩) <|
  z_fc (zo_l (by decide +kernel) rfl rfl (by show ((1549 : Nat) : Int) + (792) = ((2341 : Nat) : Int); decide)) <|
  z_fc (zo_l (by decide +kernel) rfl rfl trivial) <|
  z_fc (zo_r (by decide +kernel) rfl) <|
  z_fc (zo_l (by decide +kernel) rfl rfl trivial) <|
  z_fc (zo_l (by decide +kernel) rfl rfl trivial) <|
  z_fc (zo_l (by decide +kernel) rfl rfl trivial) <|
  z_fc (zo_l (by decide +kernel) rfl rfl trivial) <|
  z_fc (zo_l (by decide +kernel) rfl rfl trivial) <|
  z_fc (zo_h (by decide +kernel) rfl rfl) <|
  z_fc (zo_l (by decide +kernel) rfl rfl trivial) <|
  z_fc (zo_s (by decide +kernel) rfl ⟨zd_320, zw_1090, zw_1091⟩) <|
  z_fc (zo_l (by decide +kernel) rfl rfl trivial) <|
  z_fc (zo_l (by decide +kernel) rfl rfl trivial) <|
  z_fc (zo_l (by decide +kernel) rfl rfl trivial) <|
  z_fc (zo_l (by decide +kernel) rfl rfl trivial) <|
  z_fc (zo_l (by decide +kernel) rfl rfl trivial) <|
  z_fc (zo_l (by decide +kernel) rfl rfl trivial) <|
  z_fc (zo_h (by decide +kernel) rfl rfl) <|
  z_fc (zo_v (by decide +kernel) rfl ⟨rfl, zd_263, zw_1694, Nat.le_of_ble_eq_true rfl, ⟨_, Or.inl ⟨Nat.le_of_ble_eq_true rfl, rfl⟩, rfl⟩, zw_1693, zw_1695⟩) <|
  z_fc (zo_l (by decide +kernel) rfl rfl trivial) <|
  z_fc (zo_l (by decide +kernel) rfl rfl trivial) <|
  z_fc (zo_v (by decide +kernel) rfl ⟨rfl, zd_148, zw_1509, Nat.le_of_ble_eq_true rfl, ⟨_, Or.inl ⟨Nat.le_of_ble_eq_true rfl, rfl⟩, rfl⟩, zw_1508, zw_1510⟩) <|
  z_fc (zo_l (by decide +kernel) rfl rfl trivial) <|
  z_fc (zo_l (by decide +kernel) rfl rfl (by show ((1585 : Nat) : Int) + (5) = ((1590 : Nat) : Int); decide)) <|
  z_fc (zo_l (by decide +kernel) rfl rfl trivial) <|
  z_fc (zo_r (by decide +kernel) rfl) <|
  z_fc (zo_l (by decide +kernel) rfl rfl trivial) <|
  z_fc (zo_l (by decide +kernel) rfl rfl (by show ((1592 : Nat) : Int) + (15) = ((1607 : Nat) : Int); decide)) <|
  z_fc (zo_l (by decide +kernel) rfl rfl trivial) <|
  z_fc (zo_l (by decide +kernel) rfl rfl trivial) <|
  h
theorem zk_328_21 (xs : List Int32) {l : List zE} (h : ∀ q ∈ l, z_oke' (za_T xs) za_P za_M ⟨"LyndonBenchLaw", "law", "([I)Z"⟩ code q) : ∀ q ∈ zc_328_21 ++ l, z_oke' (za_T xs) za_P za_M ⟨"LyndonBenchLaw", "law", "([I)Z"⟩ code q :=
  z_fc (zo_h (by decide +kernel) rfl rfl) <|
  z_fc (zo_l (by decide +kernel) rfl rfl trivial) <|
  z_fc (zo_l (by decide +kernel) rfl rfl trivial) <|
  z_fc (zo_l (by decide +kernel) rfl rfl trivial) <|
  z_fc (zo_l (by decide +kernel) rfl rfl (by show ((1602 : Nat) : Int) + (5) = ((1607 : Nat) : Int); decide)) <|
  z_fc (zo_l (by decide +kernel) rfl rfl trivial) <|
  z_fc (zo_r (by decide +kernel) rfl) <|
  z_fc (zo_l (by decide +kernel) rfl rfl (by show ((1607 : Nat) : Int) + (734) = ((2341 : Nat) : Int); decide)) <|
  z_fc (zo_l (by decide +kernel) rfl rfl trivial) <|
  z_fc (zo_l (by decide +kernel) rfl rfl trivial) <|
  z_fc (zo_l (by decide +kernel) rfl rfl trivial) <|
  z_fc (zo_l (by decide +kernel) rfl rfl trivial) <|
  z_fc (zo_l (by decide +kernel) rfl rfl trivial) <|
  z_fc (zo_h (by decide +kernel) rfl rfl) <|
  z_fc (zo_l (by decide +kernel) rfl rfl trivial) <|
  z_fc (zo_s (by decide +kernel) rfl ⟨zd_321, zw_1098, zw_1099⟩) <|
  z_fc (zo_l (by decide +kernel) rfl rfl trivial) <|
  z_fc (zo_l (by decide +kernel) rfl rfl trivial) <|
  z_fc (zo_l (by decide +kernel) rfl rfl trivial) <|
  z_fc (zo_l (by decide +kernel) rfl rfl trivial) <|
  z_fc (zo_l (by decide +kernel) rfl rfl trivial) <|
  z_fc (zo_l (by decide +kernel) rfl rfl trivial) <|
  z_fc (zo_h (by decide +kernel) rfl rfl) <|
  z_fc (zo_v (by decide +kernel) rfl ⟨rfl, zd_264, zw_1698, Nat.le_of_ble_eq_true rfl, ⟨_, Or.inl ⟨Nat.le_of_ble_eq_true rfl, rfl⟩, rfl⟩, zw_1697, zw_1699⟩) <|
  z_fc (zo_l (by decide +kernel) rfl rfl trivial) <|
  z_fc (zo_l (by decide +kernel) rfl rfl trivial) <|
  z_fc (zo_v (by decide +kernel) rfl ⟨rfl, zd_148, zw_1509, Nat.le_of_ble_eq_true rfl, ⟨_, Or.inl ⟨Nat.le_of_ble_eq_true rfl, rfl⟩, rfl⟩, zw_1508, zw_1510⟩) <|
  z_fc (zo_l (by decide +kernel) rfl rfl trivial) <|
  z_fc (zo_l (by decide +kernel) rfl rfl (by show ((1641 : Nat) : Int) + (5) = ((1646 : Nat) : Int); decide)) <|
  z_fc (zo_l (by decide +kernel) rfl rfl trivial) <|
  z_fc (zo_r (by decide +kernel) rfl) <|
  z_fc (zo_l (by decide +kernel) rfl rfl trivial) <|
  z_fc (zo_l (by decide +kernel) rfl rfl (by show ((1648 : Nat) : Int) + (15) = ((1663 : Nat) : Int); decide)) <|
  z_fc (zo_l (by decide +kernel) rfl rfl trivial) <|
  z_fc (zo_l (by decide +kernel) rfl rfl trivial) <|
  z_fc (zo_h (by decide +kernel) rfl rfl) <|
  z_fc (zo_l (by decide +kernel) rfl rfl trivial) <|
  z_fc (zo_l (by decide +kernel) rfl rfl trivial) <|
  z_fc (zo_l (by decide +kernel) rfl rfl trivial) <|
  z_fc (zo_l (by decide +kernel) rfl rfl (by show ((1658 : Nat) : Int) + (5) = ((1663 : Nat) : Int); decide)) <|
  h
theorem zk_328_22 (xs : List Int32) {l : List zE} (h : ∀ q ∈ l, z_oke' (za_T xs) za_P za_M ⟨"LyndonBenchLaw", "law", "([I)Z"⟩ code q) : ∀ q ∈ zc_328_22 ++ l, z_oke' (za_T xs) za_P za_M ⟨"LyndonBenchLaw", "law", "([I)Z"⟩ code q :=
  z_fc (zo_l (by decide +kernel) rfl rfl trivial) <|
  z_fc (zo_r (by decide +kernel) rfl) <|
  z_fc (zo_l (by decide +kernel) rfl rfl (by show ((1663 : Nat) : Int) + (678) = ((2341 : Nat) : Int); decide)) <|
  z_fc (zo_l (by decide +kernel) rfl rfl trivial) <|
  z_fc (zo_l (by decide +kernel) rfl rfl trivial) <|
  z_fc (zo_l (by decide +kernel) rfl rfl trivial) <|
  z_fc (zo_l (by decide +kernel) rfl rfl trivial) <|
  z_fc (zo_l (by decide +kernel) rfl rfl trivial) <|
  z_fc (zo_h (by decide +kernel) rfl rfl) <|
  z_fc (zo_l (by decide +kernel) rfl rfl trivial) <|
  z_fc (zo_s (by decide +kernel) rfl ⟨zd_322, zw_1105, zw_1106⟩) <|
  z_fc (zo_l (by decide +kernel) rfl rfl trivial) <|
  z_fc (zo_l (by decide +kernel) rfl rfl trivial) <|
  z_fc (zo_l (by decide +kernel) rfl rfl trivial) <|
  z_fc (zo_l (by decide +kernel) rfl rfl trivial) <|
  z_fc (zo_l (by decide +kernel) rfl rfl trivial) <|
  z_fc (zo_l (by decide +kernel) rfl rfl trivial) <|
  z_fc (zo_h (by decide +kernel) rfl rfl) <|
  z_fc (zo_v (by decide +kernel) rfl ⟨rfl, zd_266, zw_1702, Nat.le_of_ble_eq_true rfl, ⟨_, Or.inl ⟨Nat.le_of_ble_eq_true rfl, rfl⟩, rfl⟩, zw_1701, zw_1703⟩) <|
  z_fc (zo_l (by decide +kernel) rfl rfl trivial) <|
  z_fc (zo_l (by decide +kernel) rfl rfl trivial) <|
  z_fc (zo_v (by decide +kernel) rfl ⟨rfl, zd_148, zw_1509, Nat.le_of_ble_eq_true rfl, ⟨_, Or.inl ⟨Nat.le_of_ble_eq_true rfl, rfl⟩, rfl⟩, zw_1508, zw_1510⟩) <|
  z_fc (zo_l (by decide +kernel) rfl rfl trivial) <|
  z_fc (zo_l (by decide +kernel) rfl rfl (by show ((1697 : Nat) : Int) + (5) = ((1702 : Nat) : Int); decide)) <|
  z_fc (zo_l (by decide +kernel) rfl rfl trivial) <|
  z_fc (zo_r (by decide +kernel) rfl) <|
  z_fc (zo_l (by decide +kernel) rfl rfl trivial) <|
  z_fc (zo_l (by decide +kernel) rfl rfl (by show ((1704 : Nat) : Int) + (15) = ((1719 : Nat) : Int); decide)) <|
  z_fc (zo_l (by decide +kernel) rfl rfl trivial) <|
  z_fc (zo_l (by decide +kernel) rfl rfl trivial) <|
  z_fc (zo_h (by decide +kernel) rfl rfl) <|
  z_fc (zo_l (by decide +kernel) rfl rfl trivial) <|
  z_fc (zo_l (by decide +kernel) rfl rfl trivial) <|
  z_fc (zo_l (by decide +kernel) rfl rfl trivial) <|
  z_fc (zo_l (by decide +kernel) rfl rfl (by show ((1714 : Nat) : Int) + (5) = ((1719 : Nat) : Int); decide)) <|
  z_fc (zo_l (by decide +kernel) rfl rfl trivial) <|
  z_fc (zo_r (by decide +kernel) rfl) <|
  z_fc (zo_l (by decide +kernel) rfl rfl (by show ((1719 : Nat) : Int) + (622) = ((2341 : Nat) : Int); decide)) <|
  z_fc (zo_l (by decide +kernel) rfl rfl trivial) <|
  z_fc (zo_v (by decide +kernel) rfl ⟨rfl, zd_112, zw_670, Nat.le_of_ble_eq_true rfl, ⟨_, Or.inl ⟨Nat.le_of_ble_eq_true rfl, rfl⟩, rfl⟩, zw_669, zw_671⟩) <|
  h
theorem zk_328_23 (xs : List Int32) {l : List zE} (h : ∀ q ∈ l, z_oke' (za_T xs) za_P za_M ⟨"LyndonBenchLaw", "law", "([I)Z"⟩ code q) : ∀ q ∈ zc_328_23 ++ l, z_oke' (za_T xs) za_P za_M ⟨"LyndonBenchLaw", "law", "([I)Z"⟩ code q :=
  z_fc (zo_l (by decide +kernel) rfl rfl trivial) <|
  z_fc (zo_v (by decide +kernel) rfl ⟨rfl, zd_267, zw_1718, Nat.le_of_ble_eq_true rfl, ⟨_, Or.inl ⟨Nat.le_of_ble_eq_true rfl, rfl⟩, rfl⟩, zw_1717, zw_1719⟩) <|
  z_fc (zo_l (by decide +kernel) rfl rfl (by show ((1730 : Nat) : Int) + (611) = ((2341 : Nat) : Int); decide)) <|
  z_fc (zo_l (by decide +kernel) rfl rfl trivial) <|
  z_fc (zo_r (by decide +kernel) rfl) <|
  z_fc (zo_l (by decide +kernel) rfl rfl trivial) <|
  z_fc (zo_v (by decide +kernel) rfl ⟨rfl, zd_113, zw_675, Nat.le_of_ble_eq_true rfl, ⟨_, Or.inl ⟨Nat.le_of_ble_eq_true rfl, rfl⟩, rfl⟩, zw_674, zw_676⟩) <|
  z_fc (zo_l (by decide +kernel) rfl rfl trivial) <|
  z_fc (zo_v (by decide +kernel) rfl ⟨rfl, zd_268, zw_1722, Nat.le_of_ble_eq_true rfl, ⟨_, Or.inl ⟨Nat.le_of_ble_eq_true rfl, rfl⟩, rfl⟩, zw_1721, zw_1723⟩) <|
  z_fc (zo_l (by decide +kernel) rfl rfl (by show ((1743 : Nat) : Int) + (598) = ((2341 : Nat) : Int); decide)) <|
  z_fc (zo_l (by decide +kernel) rfl rfl trivial) <|
  z_fc (zo_r (by decide +kernel) rfl) <|
  z_fc (zo_l (by decide +kernel) rfl rfl trivial) <|
  z_fc (zo_v (by decide +kernel) rfl ⟨rfl, zd_114, zw_692, Nat.le_of_ble_eq_true rfl, ⟨_, Or.inl ⟨Nat.le_of_ble_eq_true rfl, rfl⟩, rfl⟩, zw_691, zw_693⟩) <|
  z_fc (zo_l (by decide +kernel) rfl rfl trivial) <|
  z_fc (zo_v (by decide +kernel) rfl ⟨rfl, zd_269, zw_1726, Nat.le_of_ble_eq_true rfl, ⟨_, Or.inl ⟨Nat.le_of_ble_eq_true rfl, rfl⟩, rfl⟩, zw_1725, zw_1727⟩) <|
  z_fc (zo_l (by decide +kernel) rfl rfl (by show ((1756 : Nat) : Int) + (585) = ((2341 : Nat) : Int); decide)) <|
  z_fc (zo_l (by decide +kernel) rfl rfl trivial) <|
  z_fc (zo_r (by decide +kernel) rfl) <|
  z_fc (zo_l (by decide +kernel) rfl rfl trivial) <|
  z_fc (zo_v (by decide +kernel) rfl ⟨rfl, zd_115, zw_696, Nat.le_of_ble_eq_true rfl, ⟨_, Or.inl ⟨Nat.le_of_ble_eq_true rfl, rfl⟩, rfl⟩, zw_695, zw_697⟩) <|
  z_fc (zo_l (by decide +kernel) rfl rfl trivial) <|
  z_fc (zo_v (by decide +kernel) rfl ⟨rfl, zd_270, zw_1730, Nat.le_of_ble_eq_true rfl, ⟨_, Or.inl ⟨Nat.le_of_ble_eq_true rfl, rfl⟩, rfl⟩, zw_1729, zw_1731⟩) <|
  z_fc (zo_l (by decide +kernel) rfl rfl (by show ((1769 : Nat) : Int) + (572) = ((2341 : Nat) : Int); decide)) <|
  z_fc (zo_l (by decide +kernel) rfl rfl trivial) <|
  z_fc (zo_r (by decide +kernel) rfl) <|
  z_fc (zo_l (by decide +kernel) rfl rfl trivial) <|
  z_fc (zo_v (by decide +kernel) rfl ⟨rfl, zd_116, zw_704, Nat.le_of_ble_eq_true rfl, ⟨_, Or.inl ⟨Nat.le_of_ble_eq_true rfl, rfl⟩, rfl⟩, zw_703, zw_705⟩) <|
  z_fc (zo_l (by decide +kernel) rfl rfl trivial) <|
  z_fc (zo_v (by decide +kernel) rfl ⟨rfl, zd_271, zw_1738, Nat.le_of_ble_eq_true rfl, ⟨_, Or.inl ⟨Nat.le_of_ble_eq_true rfl, rfl⟩, rfl⟩, zw_1737, zw_1739⟩) <|
  z_fc (zo_l (by decide +kernel) rfl rfl (by show ((1782 : Nat) : Int) + (559) = ((2341 : Nat) : Int); decide)) <|
  z_fc (zo_l (by decide +kernel) rfl rfl trivial) <|
  z_fc (zo_r (by decide +kernel) rfl) <|
  z_fc (zo_l (by decide +kernel) rfl rfl trivial) <|
  z_fc (zo_v (by decide +kernel) rfl ⟨rfl, zd_117, zw_709, Nat.le_of_ble_eq_true rfl, ⟨_, Or.inl ⟨Nat.le_of_ble_eq_true rfl, rfl⟩, rfl⟩, zw_708, zw_710⟩) <|
  z_fc (zo_l (by decide +kernel) rfl rfl trivial) <|
  z_fc (zo_v (by decide +kernel) rfl ⟨rfl, zd_272, zw_1742, Nat.le_of_ble_eq_true rfl, ⟨_, Or.inl ⟨Nat.le_of_ble_eq_true rfl, rfl⟩, rfl⟩, zw_1741, zw_1743⟩) <|
  z_fc (zo_l (by decide +kernel) rfl rfl (by show ((1795 : Nat) : Int) + (546) = ((2341 : Nat) : Int); decide)) <|
  z_fc (zo_l (by decide +kernel) rfl rfl trivial) <|
  z_fc (zo_r (by decide +kernel) rfl) <|
  h
theorem zk_328_24 (xs : List Int32) {l : List zE} (h : ∀ q ∈ l, z_oke' (za_T xs) za_P za_M ⟨"LyndonBenchLaw", "law", "([I)Z"⟩ code q) : ∀ q ∈ zc_328_24 ++ l, z_oke' (za_T xs) za_P za_M ⟨"LyndonBenchLaw", "law", "([I)Z"⟩ code q :=
  z_fc (zo_l (by decide +kernel) rfl rfl trivial) <|
  z_fc (zo_v (by decide +kernel) rfl ⟨rfl, zd_118, zw_713, Nat.le_of_ble_eq_true rfl, ⟨_, Or.inl ⟨Nat.le_of_ble_eq_true rfl, rfl⟩, rfl⟩, zw_712, zw_714⟩) <|
  z_fc (zo_l (by decide +kernel) rfl rfl trivial) <|
  z_fc (zo_v (by decide +kernel) rfl ⟨rfl, zd_273, zw_1746, Nat.le_of_ble_eq_true rfl, ⟨_, Or.inl ⟨Nat.le_of_ble_eq_true rfl, rfl⟩, rfl⟩, zw_1745, zw_1747⟩) <|
  z_fc (zo_l (by decide +kernel) rfl rfl (by show ((1808 : Nat) : Int) + (533) = ((2341 : Nat) : Int); decide)) <|
  z_fc (zo_l (by decide +kernel) rfl rfl trivial) <|
  z_fc (zo_r (by decide +kernel) rfl) <|
  z_fc (zo_l (by decide +kernel) rfl rfl trivial) <|
  z_fc (zo_v (by decide +kernel) rfl ⟨rfl, zd_119, zw_717, Nat.le_of_ble_eq_true rfl, ⟨_, Or.inl ⟨Nat.le_of_ble_eq_true rfl, rfl⟩, rfl⟩, zw_716, zw_718⟩) <|
  z_fc (zo_l (by decide +kernel) rfl rfl trivial) <|
  z_fc (zo_v (by decide +kernel) rfl ⟨rfl, zd_274, zw_1754, Nat.le_of_ble_eq_true rfl, ⟨_, Or.inl ⟨Nat.le_of_ble_eq_true rfl, rfl⟩, rfl⟩, zw_1753, zw_1755⟩) <|
  z_fc (zo_l (by decide +kernel) rfl rfl (by show ((1821 : Nat) : Int) + (520) = ((2341 : Nat) : Int); decide)) <|
  z_fc (zo_l (by decide +kernel) rfl rfl trivial) <|
  z_fc (zo_r (by decide +kernel) rfl) <|
  z_fc (zo_l (by decide +kernel) rfl rfl trivial) <|
  z_fc (zo_v (by decide +kernel) rfl ⟨rfl, zd_120, zw_722, Nat.le_of_ble_eq_true rfl, ⟨_, Or.inl ⟨Nat.le_of_ble_eq_true rfl, rfl⟩, rfl⟩, zw_721, zw_723⟩) <|
  z_fc (zo_l (by decide +kernel) rfl rfl trivial) <|
  z_fc (zo_v (by decide +kernel) rfl ⟨rfl, zd_275, zw_1762, Nat.le_of_ble_eq_true rfl, ⟨_, Or.inl ⟨Nat.le_of_ble_eq_true rfl, rfl⟩, rfl⟩, zw_1761, zw_1763⟩) <|
  z_fc (zo_l (by decide +kernel) rfl rfl (by show ((1834 : Nat) : Int) + (507) = ((2341 : Nat) : Int); decide)) <|
  z_fc (zo_l (by decide +kernel) rfl rfl trivial) <|
  z_fc (zo_r (by decide +kernel) rfl) <|
  z_fc (zo_l (by decide +kernel) rfl rfl trivial) <|
  z_fc (zo_v (by decide +kernel) rfl ⟨rfl, zd_121, zw_726, Nat.le_of_ble_eq_true rfl, ⟨_, Or.inl ⟨Nat.le_of_ble_eq_true rfl, rfl⟩, rfl⟩, zw_725, zw_727⟩) <|
  z_fc (zo_l (by decide +kernel) rfl rfl trivial) <|
  z_fc (zo_v (by decide +kernel) rfl ⟨rfl, zd_276, zw_1766, Nat.le_of_ble_eq_true rfl, ⟨_, Or.inl ⟨Nat.le_of_ble_eq_true rfl, rfl⟩, rfl⟩, zw_1765, zw_1767⟩) <|
  z_fc (zo_l (by decide +kernel) rfl rfl (by show ((1847 : Nat) : Int) + (494) = ((2341 : Nat) : Int); decide)) <|
  z_fc (zo_l (by decide +kernel) rfl rfl trivial) <|
  z_fc (zo_r (by decide +kernel) rfl) <|
  z_fc (zo_l (by decide +kernel) rfl rfl trivial) <|
  z_fc (zo_v (by decide +kernel) rfl ⟨rfl, zd_122, zw_734, Nat.le_of_ble_eq_true rfl, ⟨_, Or.inl ⟨Nat.le_of_ble_eq_true rfl, rfl⟩, rfl⟩, zw_733, zw_735⟩) <|
  z_fc (zo_l (by decide +kernel) rfl rfl trivial) <|
  z_fc (zo_v (by decide +kernel) rfl ⟨rfl, zd_277, zw_1774, Nat.le_of_ble_eq_true rfl, ⟨_, Or.inl ⟨Nat.le_of_ble_eq_true rfl, rfl⟩, rfl⟩, zw_1773, zw_1775⟩) <|
  z_fc (zo_l (by decide +kernel) rfl rfl (by show ((1860 : Nat) : Int) + (481) = ((2341 : Nat) : Int); decide)) <|
  z_fc (zo_l (by decide +kernel) rfl rfl trivial) <|
  z_fc (zo_r (by decide +kernel) rfl) <|
  z_fc (zo_l (by decide +kernel) rfl rfl trivial) <|
  z_fc (zo_l (by decide +kernel) rfl rfl trivial) <|
  z_fc (zo_l (by decide +kernel) rfl rfl trivial) <|
  z_fc (zo_l (by decide +kernel) rfl rfl trivial) <|
  z_fc (zo_l (by decide +kernel) rfl rfl trivial) <|
  h
theorem zk_328_25 (xs : List Int32) {l : List zE} (h : ∀ q ∈ l, z_oke' (za_T xs) za_P za_M ⟨"LyndonBenchLaw", "law", "([I)Z"⟩ code q) : ∀ q ∈ zc_328_25 ++ l, z_oke' (za_T xs) za_P za_M ⟨"LyndonBenchLaw", "law", "([I)Z"⟩ code q :=
  z_fc (zo_h (by decide +kernel) rfl rfl) <|
  z_fc (zo_l (by decide +kernel) rfl rfl trivial) <|
  z_fc (zo_s (by decide +kernel) rfl ⟨zd_323, zw_1124, zw_1125⟩) <|
  z_fc (zo_l (by decide +kernel) rfl rfl trivial) <|
  z_fc (zo_l (by decide +kernel) rfl rfl trivial) <|
  z_fc (zo_l (by decide +kernel) rfl rfl trivial) <|
  z_fc (zo_l (by decide +kernel) rfl rfl trivial) <|
  z_fc (zo_l (by decide +kernel) rfl rfl trivial) <|
  z_fc (zo_l (by decide +kernel) rfl rfl trivial) <|
  z_fc (zo_h (by decide +kernel) rfl rfl) <|
  z_fc (zo_v (by decide +kernel) rfl ⟨rfl, zd_278, zw_1778, Nat.le_of_ble_eq_true rfl, ⟨_, Or.inl ⟨Nat.le_of_ble_eq_true rfl, rfl⟩, rfl⟩, zw_1777, zw_1779⟩) <|
  z_fc (zo_l (by decide +kernel) rfl rfl trivial) <|
  z_fc (zo_l (by decide +kernel) rfl rfl trivial) <|
  z_fc (zo_v (by decide +kernel) rfl ⟨rfl, zd_148, zw_1509, Nat.le_of_ble_eq_true rfl, ⟨_, Or.inl ⟨Nat.le_of_ble_eq_true rfl, rfl⟩, rfl⟩, zw_1508, zw_1510⟩) <|
  z_fc (zo_l (by decide +kernel) rfl rfl trivial) <|
  z_fc (zo_l (by decide +kernel) rfl rfl (by show ((1896 : Nat) : Int) + (5) = ((1901 : Nat) : Int); decide)) <|
  z_fc (zo_l (by decide +kernel) rfl rfl trivial) <|
  z_fc (zo_r (by decide +kernel) rfl) <|
  z_fc (zo_l (by decide +kernel) rfl rfl trivial) <|
  z_fc (zo_l (by decide +kernel) rfl rfl (by show ((1903 : Nat) : Int) + (14) = ((1917 : Nat) : Int); decide)) <|
  z_fc (zo_l (by decide +kernel) rfl rfl trivial) <|
  z_fc (zo_l (by decide +kernel) rfl rfl trivial) <|
  z_fc (zo_h (by decide +kernel) rfl rfl) <|
  z_fc (zo_l (by decide +kernel) rfl rfl trivial) <|
  z_fc (zo_l (by decide +kernel) rfl rfl trivial) <|
  z_fc (zo_l (by decide +kernel) rfl rfl (by show ((1912 : Nat) : Int) + (5) = ((1917 : Nat) : Int); decide)) <|
  z_fc (zo_l (by decide +kernel) rfl rfl trivial) <|
  z_fc (zo_r (by decide +kernel) rfl) <|
  z_fc (zo_l (by decide +kernel) rfl rfl (by show ((1917 : Nat) : Int) + (424) = ((2341 : Nat) : Int); decide)) <|
  z_fc (zo_l (by decide +kernel) rfl rfl trivial) <|
  z_fc (zo_l (by decide +kernel) rfl rfl trivial) <|
  z_fc (zo_l (by decide +kernel) rfl rfl trivial) <|
  z_fc (zo_l (by decide +kernel) rfl rfl trivial) <|
  z_fc (zo_l (by decide +kernel) rfl rfl trivial) <|
  z_fc (zo_h (by decide +kernel) rfl rfl) <|
  z_fc (zo_l (by decide +kernel) rfl rfl trivial) <|
  z_fc (zo_s (by decide +kernel) rfl ⟨zd_324, zw_1136, zw_1137⟩) <|
  z_fc (zo_l (by decide +kernel) rfl rfl trivial) <|
  z_fc (zo_l (by decide +kernel) rfl rfl trivial) <|
  z_fc (zo_l (by decide +kernel) rfl rfl trivial) <|
  h
theorem zk_328_26 (xs : List Int32) {l : List zE} (h : ∀ q ∈ l, z_oke' (za_T xs) za_P za_M ⟨"LyndonBenchLaw", "law", "([I)Z"⟩ code q) : ∀ q ∈ zc_328_26 ++ l, z_oke' (za_T xs) za_P za_M ⟨"LyndonBenchLaw", "law", "([I)Z"⟩ code q :=
  z_fc (zo_l (by decide +kernel) rfl rfl trivial) <|
  z_fc (zo_l (by decide +kernel) rfl rfl trivial) <|
  z_fc (zo_l (by decide +kernel) rfl rfl trivial) <|
  z_fc (zo_h (by decide +kernel) rfl rfl) <|
  z_fc (zo_v (by decide +kernel) rfl ⟨rfl, zd_279, zw_1786, Nat.le_of_ble_eq_true rfl, ⟨_, Or.inl ⟨Nat.le_of_ble_eq_true rfl, rfl⟩, rfl⟩, zw_1785, zw_1787⟩) <|
  z_fc (zo_l (by decide +kernel) rfl rfl trivial) <|
  z_fc (zo_l (by decide +kernel) rfl rfl trivial) <|
  z_fc (zo_v (by decide +kernel) rfl ⟨rfl, zd_148, zw_1509, Nat.le_of_ble_eq_true rfl, ⟨_, Or.inl ⟨Nat.le_of_ble_eq_true rfl, rfl⟩, rfl⟩, zw_1508, zw_1510⟩) <|
  z_fc (zo_l (by decide +kernel) rfl rfl trivial) <|
  z_fc (zo_l (by decide +kernel) rfl rfl (by show ((1951 : Nat) : Int) + (5) = ((1956 : Nat) : Int); decide)) <|
  z_fc (zo_l (by decide +kernel) rfl rfl trivial) <|
  z_fc (zo_r (by decide +kernel) rfl) <|
  z_fc (zo_l (by decide +kernel) rfl rfl trivial) <|
  z_fc (zo_l (by decide +kernel) rfl rfl (by show ((1958 : Nat) : Int) + (14) = ((1972 : Nat) : Int); decide)) <|
  z_fc (zo_l (by decide +kernel) rfl rfl trivial) <|
  z_fc (zo_l (by decide +kernel) rfl rfl trivial) <|
  z_fc (zo_h (by decide +kernel) rfl rfl) <|
  z_fc (zo_l (by decide +kernel) rfl rfl trivial) <|
  z_fc (zo_l (by decide +kernel) rfl rfl trivial) <|
  z_fc (zo_l (by decide +kernel) rfl rfl (by show ((1967 : Nat) : Int) + (5) = ((1972 : Nat) : Int); decide)) <|
  z_fc (zo_l (by decide +kernel) rfl rfl trivial) <|
  z_fc (zo_r (by decide +kernel) rfl) <|
  z_fc (zo_l (by decide +kernel) rfl rfl (by show ((1972 : Nat) : Int) + (369) = ((2341 : Nat) : Int); decide)) <|
  z_fc (zo_l (by decide +kernel) rfl rfl trivial) <|
  z_fc (zo_l (by decide +kernel) rfl rfl trivial) <|
  z_fc (zo_l (by decide +kernel) rfl rfl trivial) <|
  z_fc (zo_l (by decide +kernel) rfl rfl trivial) <|
  z_fc (zo_l (by decide +kernel) rfl rfl trivial) <|
  z_fc (zo_h (by decide +kernel) rfl rfl) <|
  z_fc (zo_l (by decide +kernel) rfl rfl trivial) <|
  z_fc (zo_l (by decide +kernel) rfl rfl trivial) <|
  z_fc (zo_l (by decide +kernel) rfl rfl trivial) <|
  z_fc (zo_l (by decide +kernel) rfl rfl trivial) <|
  z_fc (zo_h (by decide +kernel) rfl rfl) <|
  z_fc (zo_l (by decide +kernel) rfl rfl trivial) <|
  z_fc (zo_s (by decide +kernel) rfl ⟨zd_325, zw_1143, zw_1144⟩) <|
  z_fc (zo_l (by decide +kernel) rfl rfl trivial) <|
  z_fc (zo_l (by decide +kernel) rfl rfl trivial) <|
  z_fc (zo_l (by decide +kernel) rfl rfl trivial) <|
  z_fc (zo_l (by decide +kernel) rfl rfl trivial) <|
  h
theorem zk_328_27 (xs : List Int32) {l : List zE} (h : ∀ q ∈ l, z_oke' (za_T xs) za_P za_M ⟨"LyndonBenchLaw", "law", "([I)Z"⟩ code q) : ∀ q ∈ zc_328_27 ++ l, z_oke' (za_T xs) za_P za_M ⟨"LyndonBenchLaw", "law", "([I)Z"⟩ code q :=
  z_fc (zo_l (by decide +kernel) rfl rfl trivial) <|
  z_fc (zo_l (by decide +kernel) rfl rfl trivial) <|
  z_fc (zo_h (by decide +kernel) rfl rfl) <|
  z_fc (zo_l (by decide +kernel) rfl rfl trivial) <|
  z_fc (zo_l (by decide +kernel) rfl rfl trivial) <|
  z_fc (zo_l (by decide +kernel) rfl rfl trivial) <|
  z_fc (zo_l (by decide +kernel) rfl rfl trivial) <|
  z_fc (zo_h (by decide +kernel) rfl rfl) <|
  z_fc (zo_v (by decide +kernel) rfl ⟨rfl, zd_280, zw_1794, Nat.le_of_ble_eq_true rfl, ⟨_, Or.inl ⟨Nat.le_of_ble_eq_true rfl, rfl⟩, rfl⟩, zw_1793, zw_1795⟩) <|
  z_fc (zo_l (by decide +kernel) rfl rfl trivial) <|
  z_fc (zo_l (by decide +kernel) rfl rfl trivial) <|
  z_fc (zo_v (by decide +kernel) rfl ⟨rfl, zd_148, zw_1509, Nat.le_of_ble_eq_true rfl, ⟨_, Or.inl ⟨Nat.le_of_ble_eq_true rfl, rfl⟩, rfl⟩, zw_1508, zw_1510⟩) <|
  z_fc (zo_l (by decide +kernel) rfl rfl trivial) <|
  z_fc (zo_l (by decide +kernel) rfl rfl (by show ((2018 : Nat) : Int) + (5) = ((2023 : Nat) : Int); decide)) <|
  z_fc (zo_l (by decide +kernel) rfl rfl trivial) <|
  z_fc (zo_r (by decide +kernel) rfl) <|
  z_fc (zo_l (by decide +kernel) rfl rfl trivial) <|
  z_fc (zo_l (by decide +kernel) rfl rfl (by show ((2025 : Nat) : Int) + (15) = ((2040 : Nat) : Int); decide)) <|
  z_fc (zo_l (by decide +kernel) rfl rfl trivial) <|
  z_fc (zo_l (by decide +kernel) rfl rfl trivial) <|
  z_fc (zo_h (by decide +kernel) rfl rfl) <|
  z_fc (zo_l (by decide +kernel) rfl rfl trivial) <|
  z_fc (zo_l (by decide +kernel) rfl rfl trivial) <|
  z_fc (zo_l (by decide +kernel) rfl rfl trivial) <|
  z_fc (zo_l (by decide +kernel) rfl rfl (by show ((2035 : Nat) : Int) + (5) = ((2040 : Nat) : Int); decide)) <|
  z_fc (zo_l (by decide +kernel) rfl rfl trivial) <|
  z_fc (zo_r (by decide +kernel) rfl) <|
  z_fc (zo_l (by decide +kernel) rfl rfl (by show ((2040 : Nat) : Int) + (301) = ((2341 : Nat) : Int); decide)) <|
  z_fc (zo_l (by decide +kernel) rfl rfl trivial) <|
  z_fc (zo_v (by decide +kernel) rfl ⟨rfl, zd_126, zw_738, Nat.le_of_ble_eq_true rfl, ⟨_, Or.inl ⟨Nat.le_of_ble_eq_true rfl, rfl⟩, rfl⟩, zw_737, zw_739⟩) <|
  z_fc (zo_l (by decide +kernel) rfl rfl trivial) <|
  z_fc (zo_v (by decide +kernel) rfl ⟨rfl, zd_281, zw_1798, Nat.le_of_ble_eq_true rfl, ⟨_, Or.inl ⟨Nat.le_of_ble_eq_true rfl, rfl⟩, rfl⟩, zw_1797, zw_1799⟩) <|
  z_fc (zo_l (by decide +kernel) rfl rfl (by show ((2051 : Nat) : Int) + (290) = ((2341 : Nat) : Int); decide)) <|
  z_fc (zo_l (by decide +kernel) rfl rfl trivial) <|
  z_fc (zo_r (by decide +kernel) rfl) <|
  z_fc (zo_l (by decide +kernel) rfl rfl trivial) <|
  z_fc (zo_l (by decide +kernel) rfl rfl trivial) <|
  z_fc (zo_l (by decide +kernel) rfl rfl trivial) <|
  z_fc (zo_l (by decide +kernel) rfl rfl trivial) <|
  z_fc (zo_l (by decide +kernel) rfl rfl trivial) <|
  h
theorem zk_328_28 (xs : List Int32) {l : List zE} (h : ∀ q ∈ l, z_oke' (za_T xs) za_P za_M ⟨"LyndonBenchLaw", "law", "([I)Z"⟩ code q) : ∀ q ∈ zc_328_28 ++ l, z_oke' (za_T xs) za_P za_M ⟨"LyndonBenchLaw", "law", "([I)Z"⟩ code q :=
  z_fc (zo_h (by decide +kernel) rfl rfl) <|
  z_fc (zo_l (by decide +kernel) rfl rfl trivial) <|
  z_fc (zo_s (by decide +kernel) rfl ⟨zd_326, zw_1156, zw_1157⟩) <|
  z_fc (zo_l (by decide +kernel) rfl rfl trivial) <|
  z_fc (zo_l (by decide +kernel) rfl rfl trivial) <|
  z_fc (zo_l (by decide +kernel) rfl rfl trivial) <|
  z_fc (zo_l (by decide +kernel) rfl rfl trivial) <|
  z_fc (zo_l (by decide +kernel) rfl rfl trivial) <|
  z_fc (zo_l (by decide +kernel) rfl rfl trivial) <|
  z_fc (zo_h (by decide +kernel) rfl rfl) <|
  z_fc (zo_v (by decide +kernel) rfl ⟨rfl, zd_282, zw_1802, Nat.le_of_ble_eq_true rfl, ⟨_, Or.inl ⟨Nat.le_of_ble_eq_true rfl, rfl⟩, rfl⟩, zw_1801, zw_1803⟩) <|
  z_fc (zo_l (by decide +kernel) rfl rfl trivial) <|
  z_fc (zo_l (by decide +kernel) rfl rfl trivial) <|
  z_fc (zo_v (by decide +kernel) rfl ⟨rfl, zd_148, zw_1509, Nat.le_of_ble_eq_true rfl, ⟨_, Or.inl ⟨Nat.le_of_ble_eq_true rfl, rfl⟩, rfl⟩, zw_1508, zw_1510⟩) <|
  z_fc (zo_l (by decide +kernel) rfl rfl trivial) <|
  z_fc (zo_l (by decide +kernel) rfl rfl (by show ((2087 : Nat) : Int) + (5) = ((2092 : Nat) : Int); decide)) <|
  z_fc (zo_l (by decide +kernel) rfl rfl trivial) <|
  z_fc (zo_r (by decide +kernel) rfl) <|
  z_fc (zo_l (by decide +kernel) rfl rfl trivial) <|
  z_fc (zo_l (by decide +kernel) rfl rfl (by show ((2094 : Nat) : Int) + (15) = ((2109 : Nat) : Int); decide)) <|
  z_fc (zo_l (by decide +kernel) rfl rfl trivial) <|
  z_fc (zo_l (by decide +kernel) rfl rfl trivial) <|
  z_fc (zo_h (by decide +kernel) rfl rfl) <|
  z_fc (zo_l (by decide +kernel) rfl rfl trivial) <|
  z_fc (zo_l (by decide +kernel) rfl rfl trivial) <|
  z_fc (zo_l (by decide +kernel) rfl rfl trivial) <|
  z_fc (zo_l (by decide +kernel) rfl rfl (by show ((2104 : Nat) : Int) + (5) = ((2109 : Nat) : Int); decide)) <|
  z_fc (zo_l (by decide +kernel) rfl rfl trivial) <|
  z_fc (zo_r (by decide +kernel) rfl) <|
  z_fc (zo_l (by decide +kernel) rfl rfl (by show ((2109 : Nat) : Int) + (232) = ((2341 : Nat) : Int); decide)) <|
  z_fc (zo_l (by decide +kernel) rfl rfl trivial) <|
  z_fc (zo_l (by decide +kernel) rfl rfl trivial) <|
  z_fc (zo_l (by decide +kernel) rfl rfl trivial) <|
  z_fc (zo_l (by decide +kernel) rfl rfl trivial) <|
  z_fc (zo_l (by decide +kernel) rfl rfl trivial) <|
  z_fc (zo_h (by decide +kernel) rfl rfl) <|
  z_fc (zo_l (by decide +kernel) rfl rfl trivial) <|
  z_fc (zo_l (by decide +kernel) rfl rfl trivial) <|
  z_fc (zo_l (by decide +kernel) rfl rfl trivial) <|
  z_fc (zo_l (by decide +kernel) rfl rfl trivial) <|
  h
theorem zk_328_29 (xs : List Int32) {l : List zE} (h : ∀ q ∈ l, z_oke' (za_T xs) za_P za_M ⟨"LyndonBenchLaw", "law", "([I)Z"⟩ code q) : ∀ q ∈ zc_328_29 ++ l, z_oke' (za_T xs) za_P za_M ⟨"LyndonBenchLaw", "law", "([I)Z"⟩ code q :=
  z_fc (zo_h (by decide +kernel) rfl rfl) <|
  z_fc (zo_l (by decide +kernel) rfl rfl trivial) <|
  z_fc (zo_s (by decide +kernel) rfl ⟨zd_327, zw_1163, zw_1164⟩) <|
  z_fc (zo_l (by decide +kernel) rfl rfl trivial) <|
  z_fc (zo_l (by decide +kernel) rfl rfl trivial) <|
  z_fc (zo_l (by decide +kernel) rfl rfl trivial) <|
  z_fc (zo_l (by decide +kernel) rfl rfl trivial) <|
  z_fc (zo_l (by decide +kernel) rfl rfl trivial) <|
  z_fc (zo_l (by decide +kernel) rfl rfl trivial) <|
  z_fc (zo_h (by decide +kernel) rfl rfl) <|
  z_fc (zo_l (by decide +kernel) rfl rfl trivial) <|
  z_fc (zo_l (by decide +kernel) rfl rfl trivial) <|
  z_fc (zo_l (by decide +kernel) rfl rfl trivial) <|
  z_fc (zo_l (by decide +kernel) rfl rfl trivial) <|
  z_fc (zo_h (by decide +kernel) rfl rfl) <|
  z_fc (zo_v (by decide +kernel) rfl ⟨rfl, zd_283, zw_1806, Nat.le_of_ble_eq_true rfl, ⟨_, Or.inl ⟨Nat.le_of_ble_eq_true rfl, rfl⟩, rfl⟩, zw_1805, zw_1807⟩) <|
  z_fc (zo_l (by decide +kernel) rfl rfl trivial) <|
  z_fc (zo_l (by decide +kernel) rfl rfl trivial) <|
  z_fc (zo_v (by decide +kernel) rfl ⟨rfl, zd_148, zw_1509, Nat.le_of_ble_eq_true rfl, ⟨_, Or.inl ⟨Nat.le_of_ble_eq_true rfl, rfl⟩, rfl⟩, zw_1508, zw_1510⟩) <|
  z_fc (zo_l (by decide +kernel) rfl rfl trivial) <|
  z_fc (zo_l (by decide +kernel) rfl rfl (by show ((2155 : Nat) : Int) + (5) = ((2160 : Nat) : Int); decide)) <|
  z_fc (zo_l (by decide +kernel) rfl rfl trivial) <|
  z_fc (zo_r (by decide +kernel) rfl) <|
  z_fc (zo_l (by decide +kernel) rfl rfl trivial) <|
  z_fc (zo_l (by decide +kernel) rfl rfl (by show ((2162 : Nat) : Int) + (15) = ((2177 : Nat) : Int); decide)) <|
  z_fc (zo_l (by decide +kernel) rfl rfl trivial) <|
  z_fc (zo_l (by decide +kernel) rfl rfl trivial) <|
  z_fc (zo_h (by decide +kernel) rfl rfl) <|
  z_fc (zo_l (by decide +kernel) rfl rfl trivial) <|
  z_fc (zo_l (by decide +kernel) rfl rfl trivial) <|
  z_fc (zo_l (by decide +kernel) rfl rfl trivial) <|
  z_fc (zo_l (by decide +kernel) rfl rfl (by show ((2172 : Nat) : Int) + (5) = ((2177 : Nat) : Int); decide)) <|
  z_fc (zo_l (by decide +kernel) rfl rfl trivial) <|
  z_fc (zo_r (by decide +kernel) rfl) <|
  z_fc (zo_l (by decide +kernel) rfl rfl (by show ((2177 : Nat) : Int) + (164) = ((2341 : Nat) : Int); decide)) <|
  z_fc (zo_l (by decide +kernel) rfl rfl trivial) <|
  z_fc (zo_v (by decide +kernel) rfl ⟨rfl, zd_129, zw_742, Nat.le_of_ble_eq_true rfl, ⟨_, Or.inl ⟨Nat.le_of_ble_eq_true rfl, rfl⟩, rfl⟩, zw_741, zw_743⟩) <|
  z_fc (zo_l (by decide +kernel) rfl rfl trivial) <|
  z_fc (zo_v (by decide +kernel) rfl ⟨rfl, zd_284, zw_1810, Nat.le_of_ble_eq_true rfl, ⟨_, Or.inl ⟨Nat.le_of_ble_eq_true rfl, rfl⟩, rfl⟩, zw_1809, zw_1811⟩) <|
  z_fc (zo_l (by decide +kernel) rfl rfl (by show ((2188 : Nat) : Int) + (153) = ((2341 : Nat) : Int); decide)) <|
  h
theorem zk_328_30 (xs : List Int32) {l : List zE} (h : ∀ q ∈ l, z_oke' (za_T xs) za_P za_M ⟨"LyndonBenchLaw", "law", "([I)Z"⟩ code q) : ∀ q ∈ zc_328_30 ++ l, z_oke' (za_T xs) za_P za_M ⟨"LyndonBenchLaw", "law", "([I)Z"⟩ code q :=
  z_fc (zo_l (by decide +kernel) rfl rfl trivial) <|
  z_fc (zo_r (by decide +kernel) rfl) <|
  z_fc (zo_l (by decide +kernel) rfl rfl trivial) <|
  z_fc (zo_v (by decide +kernel) rfl ⟨rfl, zd_130, zw_748, Nat.le_of_ble_eq_true rfl, ⟨_, Or.inl ⟨Nat.le_of_ble_eq_true rfl, rfl⟩, rfl⟩, zw_747, zw_749⟩) <|
  z_fc (zo_l (by decide +kernel) rfl rfl trivial) <|
  z_fc (zo_v (by decide +kernel) rfl ⟨rfl, zd_285, zw_1814, Nat.le_of_ble_eq_true rfl, ⟨_, Or.inl ⟨Nat.le_of_ble_eq_true rfl, rfl⟩, rfl⟩, zw_1813, zw_1815⟩) <|
  z_fc (zo_l (by decide +kernel) rfl rfl (by show ((2201 : Nat) : Int) + (140) = ((2341 : Nat) : Int); decide)) <|
  z_fc (zo_l (by decide +kernel) rfl rfl trivial) <|
  z_fc (zo_r (by decide +kernel) rfl) <|
  z_fc (zo_l (by decide +kernel) rfl rfl trivial) <|
  z_fc (zo_v (by decide +kernel) rfl ⟨rfl, zd_131, zw_753, Nat.le_of_ble_eq_true rfl, ⟨_, Or.inl ⟨Nat.le_of_ble_eq_true rfl, rfl⟩, rfl⟩, zw_752, zw_754⟩) <|
  z_fc (zo_l (by decide +kernel) rfl rfl trivial) <|
  z_fc (zo_l (by decide +kernel) rfl rfl trivial) <|
  z_fc (zo_v (by decide +kernel) rfl ⟨rfl, zd_286, zw_1818, Nat.le_of_ble_eq_true rfl, ⟨_, Or.inl ⟨Nat.le_of_ble_eq_true rfl, rfl⟩, rfl⟩, zw_1817, zw_1819⟩) <|
  z_fc (zo_l (by decide +kernel) rfl rfl trivial) <|
  z_fc (zo_l (by decide +kernel) rfl rfl trivial) <|
  z_fc (zo_l (by decide +kernel) rfl rfl trivial) <|
  z_fc (zo_l (by decide +kernel) rfl rfl trivial) <|
  z_fc (zo_l (by decide +kernel) rfl rfl (by show ((2223 : Nat) : Int) + (21) = ((2244 : Nat) : Int); decide)) <|
  z_fc (zo_l (by decide +kernel) rfl rfl trivial) <|
  z_fc (zo_l (by decide +kernel) rfl rfl trivial) <|
  z_fc (zo_l (by decide +kernel) rfl rfl trivial) <|
  z_fc (zo_l (by decide +kernel) rfl rfl (by show ((2231 : Nat) : Int) + (11) = ((2242 : Nat) : Int); decide)) <|
  z_fc (zo_l (by decide +kernel) rfl rfl trivial) <|
  z_fc (zo_l (by decide +kernel) rfl rfl trivial) <|
  z_fc (zo_l (by decide +kernel) rfl rfl trivial) <|
  z_fc (zo_l (by decide +kernel) rfl rfl (by show ((2239 : Nat) : Int) + (5) = ((2244 : Nat) : Int); decide)) <|
  z_fc (zo_l (by decide +kernel) rfl rfl trivial) <|
  z_fc (zo_r (by decide +kernel) rfl) <|
  z_fc (zo_l (by decide +kernel) rfl rfl (by show ((2244 : Nat) : Int) + (97) = ((2341 : Nat) : Int); decide)) <|
  z_fc (zo_l (by decide +kernel) rfl rfl trivial) <|
  z_fc (zo_v (by decide +kernel) rfl ⟨rfl, zd_132, zw_757, Nat.le_of_ble_eq_true rfl, ⟨_, Or.inl ⟨Nat.le_of_ble_eq_true rfl, rfl⟩, rfl⟩, zw_756, zw_758⟩) <|
  z_fc (zo_l (by decide +kernel) rfl rfl trivial) <|
  z_fc (zo_l (by decide +kernel) rfl rfl trivial) <|
  z_fc (zo_l (by decide +kernel) rfl rfl trivial) <|
  z_fc (zo_v (by decide +kernel) rfl ⟨rfl, zd_287, zw_1822, Nat.le_of_ble_eq_true rfl, ⟨_, Or.inl ⟨Nat.le_of_ble_eq_true rfl, rfl⟩, rfl⟩, zw_1821, zw_1823⟩) <|
  z_fc (zo_l (by decide +kernel) rfl rfl trivial) <|
  z_fc (zo_l (by decide +kernel) rfl rfl trivial) <|
  z_fc (zo_l (by decide +kernel) rfl rfl trivial) <|
  z_fc (zo_l (by decide +kernel) rfl rfl trivial) <|
  h
theorem zk_328_31 (xs : List Int32) {l : List zE} (h : ∀ q ∈ l, z_oke' (za_T xs) za_P za_M ⟨"LyndonBenchLaw", "law", "([I)Z"⟩ code q) : ∀ q ∈ zc_328_31 ++ l, z_oke' (za_T xs) za_P za_M ⟨"LyndonBenchLaw", "law", "([I)Z"⟩ code q :=
  z_fc (zo_l (by decide +kernel) rfl rfl trivial) <|
  z_fc (zo_l (by decide +kernel) rfl rfl (by show ((2266 : Nat) : Int) + (21) = ((2287 : Nat) : Int); decide)) <|
  z_fc (zo_l (by decide +kernel) rfl rfl trivial) <|
  z_fc (zo_l (by decide +kernel) rfl rfl trivial) <|
  z_fc (zo_l (by decide +kernel) rfl rfl trivial) <|
  z_fc (zo_l (by decide +kernel) rfl rfl (by show ((2274 : Nat) : Int) + (11) = ((2285 : Nat) : Int); decide)) <|
  z_fc (zo_l (by decide +kernel) rfl rfl trivial) <|
  z_fc (zo_l (by decide +kernel) rfl rfl trivial) <|
  z_fc (zo_l (by decide +kernel) rfl rfl trivial) <|
  z_fc (zo_l (by decide +kernel) rfl rfl (by show ((2282 : Nat) : Int) + (5) = ((2287 : Nat) : Int); decide)) <|
  z_fc (zo_l (by decide +kernel) rfl rfl trivial) <|
  z_fc (zo_r (by decide +kernel) rfl) <|
  z_fc (zo_l (by decide +kernel) rfl rfl (by show ((2287 : Nat) : Int) + (54) = ((2341 : Nat) : Int); decide)) <|
  z_fc (zo_l (by decide +kernel) rfl rfl trivial) <|
  z_fc (zo_v (by decide +kernel) rfl ⟨rfl, zd_133, zw_771, Nat.le_of_ble_eq_true rfl, ⟨_, Or.inl ⟨Nat.le_of_ble_eq_true rfl, rfl⟩, rfl⟩, zw_770, zw_772⟩) <|
  z_fc (zo_l (by decide +kernel) rfl rfl trivial) <|
  z_fc (zo_v (by decide +kernel) rfl ⟨rfl, zd_288, zw_1827, Nat.le_of_ble_eq_true rfl, ⟨_, Or.inl ⟨Nat.le_of_ble_eq_true rfl, rfl⟩, rfl⟩, zw_1826, zw_1828⟩) <|
  z_fc (zo_l (by decide +kernel) rfl rfl (by show ((2298 : Nat) : Int) + (43) = ((2341 : Nat) : Int); decide)) <|
  z_fc (zo_l (by decide +kernel) rfl rfl trivial) <|
  z_fc (zo_r (by decide +kernel) rfl) <|
  z_fc (zo_l (by decide +kernel) rfl rfl trivial) <|
  z_fc (zo_v (by decide +kernel) rfl ⟨rfl, zd_134, zw_779, Nat.le_of_ble_eq_true rfl, ⟨_, Or.inl ⟨Nat.le_of_ble_eq_true rfl, rfl⟩, rfl⟩, zw_778, zw_780⟩) <|
  z_fc (zo_l (by decide +kernel) rfl rfl trivial) <|
  z_fc (zo_v (by decide +kernel) rfl ⟨rfl, zd_292, zw_1831, Nat.le_of_ble_eq_true rfl, ⟨_, Or.inl ⟨Nat.le_of_ble_eq_true rfl, rfl⟩, rfl⟩, zw_1830, zw_1832⟩) <|
  z_fc (zo_l (by decide +kernel) rfl rfl (by show ((2311 : Nat) : Int) + (30) = ((2341 : Nat) : Int); decide)) <|
  z_fc (zo_l (by decide +kernel) rfl rfl trivial) <|
  z_fc (zo_r (by decide +kernel) rfl) <|
  z_fc (zo_l (by decide +kernel) rfl rfl trivial) <|
  z_fc (zo_l (by decide +kernel) rfl rfl trivial) <|
  z_fc (zo_l (by decide +kernel) rfl rfl trivial) <|
  z_fc (zo_l (by decide +kernel) rfl rfl trivial) <|
  z_fc (zo_l (by decide +kernel) rfl rfl trivial) <|
  z_fc (zo_h (by decide +kernel) rfl rfl) <|
  z_fc (zo_v (by decide +kernel) rfl ⟨rfl, zd_135, zw_793, Nat.le_of_ble_eq_true rfl, ⟨_, Or.inl ⟨Nat.le_of_ble_eq_true rfl, rfl⟩, rfl⟩, zw_792, zw_794⟩) <|
  z_fc (zo_l (by decide +kernel) rfl rfl trivial) <|
  z_fc (zo_l (by decide +kernel) rfl rfl trivial) <|
  z_fc (zo_l (by decide +kernel) rfl rfl trivial) <|
  z_fc (zo_l (by decide +kernel) rfl rfl trivial) <|
  z_fc (zo_l (by decide +kernel) rfl rfl trivial) <|
  z_fc (zo_h (by decide +kernel) rfl rfl) <|
  h
theorem zk_328_32 (xs : List Int32) {l : List zE} (h : ∀ q ∈ l, z_oke' (za_T xs) za_P za_M ⟨"LyndonBenchLaw", "law", "([I)Z"⟩ code q) : ∀ q ∈ zc_328_32 ++ l, z_oke' (za_T xs) za_P za_M ⟨"LyndonBenchLaw", "law", "([I)Z"⟩ code q :=
  z_fc (zo_v (by decide +kernel) rfl ⟨rfl, zd_293, zw_1847, Nat.le_of_ble_eq_true rfl, ⟨_, Or.inl ⟨Nat.le_of_ble_eq_true rfl, rfl⟩, rfl⟩, zw_1846, zw_1848⟩) <|
  z_fc (zo_l (by decide +kernel) rfl rfl (by show ((2336 : Nat) : Int) + (5) = ((2341 : Nat) : Int); decide)) <|
  z_fc (zo_l (by decide +kernel) rfl rfl trivial) <|
  z_fc (zo_r (by decide +kernel) rfl) <|
  z_fc (zo_l (by decide +kernel) rfl rfl trivial) <|
  z_fc (zo_l (by decide +kernel) rfl rfl (by show ((2344 : Nat) : Int) + (-2321) = ((23 : Nat) : Int); decide)) <|
  z_fc (zo_l (by decide +kernel) rfl rfl trivial) <|
  z_fc (zo_r (by decide +kernel) rfl) <|
  h
theorem zk_328 (xs : List Int32) : z_okm (za_T xs) za_P za_M 328 := z_okm_of ⟨"LyndonBenchLaw", "law", "([I)Z"⟩ code zc_328 _ rfl rfl rfl rfl
  (zk_328_0 xs <|
  zk_328_1 xs <|
  zk_328_2 xs <|
  zk_328_3 xs <|
  zk_328_4 xs <|
  zk_328_5 xs <|
  zk_328_6 xs <|
  zk_328_7 xs <|
  zk_328_8 xs <|
  zk_328_9 xs <|
  zk_328_10 xs <|
  zk_328_11 xs <|
  zk_328_12 xs <|
  zk_328_13 xs <|
  zk_328_14 xs <|
  zk_328_15 xs <|
  zk_328_16 xs <|
  zk_328_17 xs <|
  zk_328_18 xs <|
  zk_328_19 xs <|
  zk_328_20 xs <|
  zk_328_21 xs <|
  zk_328_22 xs <|
  zk_328_23 xs <|
  zk_328_24 xs <|
  zk_328_25 xs <|
  zk_328_26 xs <|
  zk_328_27 xs <|
  zk_328_28 xs <|
  zk_328_29 xs <|
  zk_328_30 xs <|
  zk_328_31 xs <|
  zk_328_32 xs <|
  z_fn)
  (z_fn)
