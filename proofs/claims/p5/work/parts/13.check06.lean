/-! The check of the tables, methods 328 to 328. -/
theorem zdd_328_0 : ∀ q ∈ zc_328_0, decode code q.1 = Except.ok (q.2.1, q.2.2.1) := zdd_of (by decide +kernel)
theorem zk_328_0 (xs : List Int32) {l : List zE} (h : ∀ q ∈ l, z_oke' (za_T xs) za_P za_M ⟨"LyndonBenchLaw", "law", "([I)Z"⟩ code q) : ∀ q ∈ zc_328_0 ++ l, z_oke' (za_T xs) za_P za_M ⟨"LyndonBenchLaw", "law", "([I)Z"⟩ code q :=
  zgd_y zdd_328_0 <|
  zgd_e (fun d => zo_h d rfl ⟨rfl, Nat.le_of_ble_eq_true rfl, _, _, rfl, zn_0, zm_0, zw_139, zw_140, zw_118⟩) <|
  zgd_e (fun d => zo_l d rfl rfl trivial) <|
  zgd_e (fun d => zo_n d rfl ⟨rfl, zd_76, rfl, rfl, zw_142, Or.inl zw_141⟩) <|
  zgd_e (fun d => zo_l d rfl rfl trivial) <|
  zgd_e (fun d => zo_h d rfl ⟨rfl, Nat.le_of_ble_eq_true rfl, _, _, rfl, zn_5, zm_5, zw_1170, zw_1171, zw_128⟩) <|
  zgd_e (fun d => zo_l d rfl rfl trivial) <|
  zgd_e (fun d => zo_n d rfl ⟨rfl, zd_147, rfl, rfl, zw_1173, Or.inl zw_1172⟩) <|
  zgd_e (fun d => zo_l d rfl rfl trivial) <|
  zgd_e (fun d => zo_l d rfl rfl trivial) <|
  zgd_e (fun d => zo_h d rfl ⟨rfl, zw_1850⟩) <|
  zgd_e (fun d => zo_l d rfl rfl trivial) <|
  zgd_e (fun d => zo_l d rfl rfl trivial) <|
  zgd_e (fun d => zo_l d rfl rfl trivial) <|
  zgd_e (fun d => zo_l d rfl rfl trivial) <|
  zgd_e (fun d => zo_l d rfl rfl trivial) <|
  zgd_e (fun d => zo_h d rfl rfl) <|
  zgd_e (fun d => zo_l d rfl rfl trivial) <|
  zgd_e (fun d => zo_l d rfl rfl trivial) <|
  zgd_e (fun d => zo_l d rfl rfl (by show ((30 : Nat) : Int) + (1567) = ((1597 : Nat) : Int); decide)) <|
  zgd_e (fun d => zo_l d rfl rfl trivial) <|
  zgd_e (fun d => zo_l d rfl rfl trivial) <|
  zgd_e (fun d => zo_h d rfl rfl) <|
  zgd_e (fun d => zo_l d rfl rfl trivial) <|
  zgd_e (fun d => zo_l d rfl rfl trivial) <|
  zgd_e (fun d => zo_l d rfl trivial trivial) <|
  zgd_e (fun d => zo_l d rfl rfl trivial) <|
  zgd_e (fun d => zo_l d rfl rfl trivial) <|
  zgd_e (fun d => zo_l d rfl rfl trivial) <|
  zgd_e (fun d => zo_l d rfl rfl trivial) <|
  zgd_e (fun d => zo_l d rfl rfl trivial) <|
  zgd_e (fun d => zo_h d rfl rfl) <|
  zgd_e (fun d => zo_l d rfl rfl trivial) <|
  zgd_e (fun d => zo_l d rfl rfl trivial) <|
  zgd_e (fun d => zo_l d rfl rfl trivial) <|
  zgd_e (fun d => zo_l d rfl rfl trivial) <|
  zgd_e (fun d => zo_h d rfl rfl) <|
  zgd_e (fun d => zo_l d rfl rfl trivial) <|
  zgd_e (fun d => zo_l d rfl rfl trivial) <|
  zgd_e (fun d => zo_l d rfl rfl trivial) <|
  zgd_e (fun d => zo_l d rfl rfl trivial) <|
  zgd_m h
theorem zdd_328_1 : ∀ q ∈ zc_328_1, decode code q.1 = Except.ok (q.2.1, q.2.2.1) := zdd_of (by decide +kernel)
theorem zk_328_1 (xs : List Int32) {l : List zE} (h : ∀ q ∈ l, z_oke' (za_T xs) za_P za_M ⟨"LyndonBenchLaw", "law", "([I)Z"⟩ code q) : ∀ q ∈ zc_328_1 ++ l, z_oke' (za_T xs) za_P za_M ⟨"LyndonBenchLaw", "law", "([I)Z"⟩ code q :=
  zgd_y zdd_328_1 <|
  zgd_e (fun d => zo_h d rfl rfl) <|
  zgd_e (fun d => zo_l d rfl rfl trivial) <|
  zgd_e (fun d => zo_l d rfl rfl trivial) <|
  zgd_e (fun d => zo_l d rfl rfl trivial) <|
  zgd_e (fun d => zo_l d rfl rfl trivial) <|
  zgd_e (fun d => zo_h d rfl rfl) <|
  zgd_e (fun d => zo_l d rfl rfl trivial) <|
  zgd_e (fun d => zo_l d rfl rfl trivial) <|
  zgd_e (fun d => zo_l d rfl rfl trivial) <|
  zgd_e (fun d => zo_l d rfl rfl trivial) <|
  zgd_e (fun d => zo_h d rfl rfl) <|
  zgd_e (fun d => zo_v d rfl ⟨rfl, zd_77, zw_364, Nat.le_of_ble_eq_true rfl, ⟨_, Or.inl ⟨Nat.le_of_ble_eq_true rfl, rfl⟩, rfl⟩, zw_363, zw_365⟩) <|
  zgd_e (fun d => zo_l d rfl rfl trivial) <|
  zgd_e (fun d => zo_l d rfl rfl trivial) <|
  zgd_e (fun d => zo_l d rfl rfl trivial) <|
  zgd_e (fun d => zo_l d rfl rfl trivial) <|
  zgd_e (fun d => zo_l d rfl rfl trivial) <|
  zgd_e (fun d => zo_l d rfl rfl trivial) <|
  zgd_e (fun d => zo_h d rfl rfl) <|
  zgd_e (fun d => zo_l d rfl rfl trivial) <|
  zgd_e (fun d => zo_l d rfl rfl trivial) <|
  zgd_e (fun d => zo_l d rfl rfl trivial) <|
  zgd_e (fun d => zo_l d rfl rfl trivial) <|
  zgd_e (fun d => zo_h d rfl rfl) <|
  zgd_e (fun d => zo_l d rfl rfl trivial) <|
  zgd_e (fun d => zo_l d rfl rfl trivial) <|
  zgd_e (fun d => zo_l d rfl rfl trivial) <|
  zgd_e (fun d => zo_l d rfl rfl trivial) <|
  zgd_e (fun d => zo_h d rfl rfl) <|
  zgd_e (fun d => zo_l d rfl rfl trivial) <|
  zgd_e (fun d => zo_l d rfl rfl trivial) <|
  zgd_e (fun d => zo_l d rfl rfl trivial) <|
  zgd_e (fun d => zo_l d rfl rfl trivial) <|
  zgd_e (fun d => zo_h d rfl rfl) <|
  zgd_e (fun d => zo_l d rfl rfl trivial) <|
  zgd_e (fun d => zo_l d rfl rfl trivial) <|
  zgd_e (fun d => zo_l d rfl rfl trivial) <|
  zgd_e (fun d => zo_l d rfl rfl trivial) <|
  zgd_e (fun d => zo_h d rfl rfl) <|
  zgd_e (fun d => zo_v d rfl ⟨rfl, zd_223, zw_1513, Nat.le_of_ble_eq_true rfl, ⟨_, Or.inl ⟨Nat.le_of_ble_eq_true rfl, rfl⟩, rfl⟩, zw_1512, zw_1514⟩) <|
  zgd_m h
theorem zdd_328_2 : ∀ q ∈ zc_328_2, decode code q.1 = Except.ok (q.2.1, q.2.2.1) := zdd_of (by decide +kernel)
theorem zk_328_2 (xs : List Int32) {l : List zE} (h : ∀ q ∈ l, z_oke' (za_T xs) za_P za_M ⟨"LyndonBenchLaw", "law", "([I)Z"⟩ code q) : ∀ q ∈ zc_328_2 ++ l, z_oke' (za_T xs) za_P za_M ⟨"LyndonBenchLaw", "law", "([I)Z"⟩ code q :=
  zgd_y zdd_328_2 <|
  zgd_e (fun d => zo_l d rfl rfl trivial) <|
  zgd_e (fun d => zo_l d rfl rfl (by show ((362 : Nat) : Int) + (1229) = ((1591 : Nat) : Int); decide)) <|
  zgd_e (fun d => zo_l d rfl rfl trivial) <|
  zgd_e (fun d => zo_l d rfl rfl trivial) <|
  zgd_e (fun d => zo_l d rfl rfl trivial) <|
  zgd_e (fun d => zo_l d rfl rfl trivial) <|
  zgd_e (fun d => zo_l d rfl rfl trivial) <|
  zgd_e (fun d => zo_h d rfl rfl) <|
  zgd_e (fun d => zo_l d rfl rfl trivial) <|
  zgd_e (fun d => zo_s d rfl ⟨zd_302, zw_796, zw_797⟩) <|
  zgd_e (fun d => zo_l d rfl rfl trivial) <|
  zgd_e (fun d => zo_l d rfl rfl trivial) <|
  zgd_e (fun d => zo_l d rfl rfl trivial) <|
  zgd_e (fun d => zo_l d rfl rfl trivial) <|
  zgd_e (fun d => zo_l d rfl rfl trivial) <|
  zgd_e (fun d => zo_l d rfl rfl trivial) <|
  zgd_e (fun d => zo_h d rfl rfl) <|
  zgd_e (fun d => zo_v d rfl ⟨rfl, zd_225, zw_1521, Nat.le_of_ble_eq_true rfl, ⟨_, Or.inl ⟨Nat.le_of_ble_eq_true rfl, rfl⟩, rfl⟩, zw_1520, zw_1522⟩) <|
  zgd_e (fun d => zo_l d rfl rfl trivial) <|
  zgd_e (fun d => zo_l d rfl rfl (by show ((390 : Nat) : Int) + (1201) = ((1591 : Nat) : Int); decide)) <|
  zgd_e (fun d => zo_l d rfl rfl trivial) <|
  zgd_e (fun d => zo_v d rfl ⟨rfl, zd_79, zw_372, Nat.le_of_ble_eq_true rfl, ⟨_, Or.inl ⟨Nat.le_of_ble_eq_true rfl, rfl⟩, rfl⟩, zw_371, zw_373⟩) <|
  zgd_e (fun d => zo_l d rfl rfl trivial) <|
  zgd_e (fun d => zo_l d rfl rfl trivial) <|
  zgd_e (fun d => zo_v d rfl ⟨rfl, zd_228, zw_1529, Nat.le_of_ble_eq_true rfl, ⟨_, Or.inl ⟨Nat.le_of_ble_eq_true rfl, rfl⟩, rfl⟩, zw_1528, zw_1530⟩) <|
  zgd_e (fun d => zo_l d rfl rfl trivial) <|
  zgd_e (fun d => zo_l d rfl rfl (by show ((403 : Nat) : Int) + (1188) = ((1591 : Nat) : Int); decide)) <|
  zgd_e (fun d => zo_l d rfl rfl trivial) <|
  zgd_e (fun d => zo_l d rfl rfl trivial) <|
  zgd_e (fun d => zo_l d rfl rfl trivial) <|
  zgd_e (fun d => zo_l d rfl rfl trivial) <|
  zgd_e (fun d => zo_l d rfl rfl trivial) <|
  zgd_e (fun d => zo_h d rfl rfl) <|
  zgd_e (fun d => zo_l d rfl rfl trivial) <|
  zgd_e (fun d => zo_s d rfl ⟨zd_303, zw_873, zw_874⟩) <|
  zgd_e (fun d => zo_l d rfl rfl trivial) <|
  zgd_e (fun d => zo_l d rfl rfl trivial) <|
  zgd_e (fun d => zo_l d rfl rfl trivial) <|
  zgd_e (fun d => zo_l d rfl rfl trivial) <|
  zgd_e (fun d => zo_l d rfl rfl trivial) <|
  zgd_m h
theorem zdd_328_3 : ∀ q ∈ zc_328_3, decode code q.1 = Except.ok (q.2.1, q.2.2.1) := zdd_of (by decide +kernel)
theorem zk_328_3 (xs : List Int32) {l : List zE} (h : ∀ q ∈ l, z_oke' (za_T xs) za_P za_M ⟨"LyndonBenchLaw", "law", "([I)Z"⟩ code q) : ∀ q ∈ zc_328_3 ++ l, z_oke' (za_T xs) za_P za_M ⟨"LyndonBenchLaw", "law", "([I)Z"⟩ code q :=
  zgd_y zdd_328_3 <|
  zgd_e (fun d => zo_l d rfl rfl trivial) <|
  zgd_e (fun d => zo_h d rfl rfl) <|
  zgd_e (fun d => zo_v d rfl ⟨rfl, zd_229, zw_1541, Nat.le_of_ble_eq_true rfl, ⟨_, Or.inl ⟨Nat.le_of_ble_eq_true rfl, rfl⟩, rfl⟩, zw_1540, zw_1542⟩) <|
  zgd_e (fun d => zo_l d rfl rfl trivial) <|
  zgd_e (fun d => zo_l d rfl rfl trivial) <|
  zgd_e (fun d => zo_v d rfl ⟨rfl, zd_148, zw_1509, Nat.le_of_ble_eq_true rfl, ⟨_, Or.inl ⟨Nat.le_of_ble_eq_true rfl, rfl⟩, rfl⟩, zw_1508, zw_1510⟩) <|
  zgd_e (fun d => zo_l d rfl rfl trivial) <|
  zgd_e (fun d => zo_l d rfl rfl (by show ((437 : Nat) : Int) + (5) = ((442 : Nat) : Int); decide)) <|
  zgd_e (fun d => zo_l d rfl rfl trivial) <|
  zgd_e (fun d => zo_r d rfl) <|
  zgd_e (fun d => zo_l d rfl rfl trivial) <|
  zgd_e (fun d => zo_l d rfl rfl (by show ((444 : Nat) : Int) + (15) = ((459 : Nat) : Int); decide)) <|
  zgd_e (fun d => zo_l d rfl rfl trivial) <|
  zgd_e (fun d => zo_l d rfl rfl trivial) <|
  zgd_e (fun d => zo_h d rfl rfl) <|
  zgd_e (fun d => zo_l d rfl rfl trivial) <|
  zgd_e (fun d => zo_l d rfl rfl trivial) <|
  zgd_e (fun d => zo_l d rfl rfl trivial) <|
  zgd_e (fun d => zo_l d rfl rfl (by show ((454 : Nat) : Int) + (5) = ((459 : Nat) : Int); decide)) <|
  zgd_e (fun d => zo_l d rfl rfl trivial) <|
  zgd_e (fun d => zo_r d rfl) <|
  zgd_e (fun d => zo_l d rfl rfl (by show ((459 : Nat) : Int) + (1132) = ((1591 : Nat) : Int); decide)) <|
  zgd_e (fun d => zo_l d rfl rfl trivial) <|
  zgd_e (fun d => zo_l d rfl rfl trivial) <|
  zgd_e (fun d => zo_s d rfl ⟨zd_304, zw_906, zw_907⟩) <|
  zgd_e (fun d => zo_l d rfl rfl trivial) <|
  zgd_e (fun d => zo_l d rfl rfl trivial) <|
  zgd_e (fun d => zo_v d rfl ⟨rfl, zd_230, zw_1554, Nat.le_of_ble_eq_true rfl, ⟨_, Or.inl ⟨Nat.le_of_ble_eq_true rfl, rfl⟩, rfl⟩, zw_1553, zw_1555⟩) <|
  zgd_e (fun d => zo_l d rfl rfl trivial) <|
  zgd_e (fun d => zo_l d rfl rfl (by show ((475 : Nat) : Int) + (1116) = ((1591 : Nat) : Int); decide)) <|
  zgd_e (fun d => zo_l d rfl rfl trivial) <|
  zgd_e (fun d => zo_l d rfl rfl trivial) <|
  zgd_e (fun d => zo_l d rfl rfl trivial) <|
  zgd_e (fun d => zo_l d rfl rfl trivial) <|
  zgd_e (fun d => zo_l d rfl rfl trivial) <|
  zgd_e (fun d => zo_h d rfl rfl) <|
  zgd_e (fun d => zo_l d rfl rfl trivial) <|
  zgd_e (fun d => zo_s d rfl ⟨zd_305, zw_915, zw_916⟩) <|
  zgd_e (fun d => zo_l d rfl rfl trivial) <|
  zgd_e (fun d => zo_l d rfl rfl trivial) <|
  zgd_m h
theorem zdd_328_4 : ∀ q ∈ zc_328_4, decode code q.1 = Except.ok (q.2.1, q.2.2.1) := zdd_of (by decide +kernel)
theorem zk_328_4 (xs : List Int32) {l : List zE} (h : ∀ q ∈ l, z_oke' (za_T xs) za_P za_M ⟨"LyndonBenchLaw", "law", "([I)Z"⟩ code q) : ∀ q ∈ zc_328_4 ++ l, z_oke' (za_T xs) za_P za_M ⟨"LyndonBenchLaw", "law", "([I)Z"⟩ code q :=
  zgd_y zdd_328_4 <|
  zgd_e (fun d => zo_l d rfl rfl trivial) <|
  zgd_e (fun d => zo_l d rfl rfl trivial) <|
  zgd_e (fun d => zo_l d rfl rfl trivial) <|
  zgd_e (fun d => zo_l d rfl rfl trivial) <|
  zgd_e (fun d => zo_h d rfl rfl) <|
  zgd_e (fun d => zo_v d rfl ⟨rfl, zd_231, zw_1558, Nat.le_of_ble_eq_true rfl, ⟨_, Or.inl ⟨Nat.le_of_ble_eq_true rfl, rfl⟩, rfl⟩, zw_1557, zw_1559⟩) <|
  zgd_e (fun d => zo_l d rfl rfl trivial) <|
  zgd_e (fun d => zo_l d rfl rfl (by show ((503 : Nat) : Int) + (1088) = ((1591 : Nat) : Int); decide)) <|
  zgd_e (fun d => zo_l d rfl rfl trivial) <|
  zgd_e (fun d => zo_l d rfl rfl trivial) <|
  zgd_e (fun d => zo_l d rfl rfl trivial) <|
  zgd_e (fun d => zo_l d rfl rfl trivial) <|
  zgd_e (fun d => zo_l d rfl rfl trivial) <|
  zgd_e (fun d => zo_h d rfl rfl) <|
  zgd_e (fun d => zo_l d rfl rfl trivial) <|
  zgd_e (fun d => zo_s d rfl ⟨zd_306, zw_927, zw_928⟩) <|
  zgd_e (fun d => zo_l d rfl rfl trivial) <|
  zgd_e (fun d => zo_l d rfl rfl trivial) <|
  zgd_e (fun d => zo_l d rfl rfl trivial) <|
  zgd_e (fun d => zo_l d rfl rfl trivial) <|
  zgd_e (fun d => zo_l d rfl rfl trivial) <|
  zgd_e (fun d => zo_l d rfl rfl trivial) <|
  zgd_e (fun d => zo_h d rfl rfl) <|
  zgd_e (fun d => zo_v d rfl ⟨rfl, zd_232, zw_1566, Nat.le_of_ble_eq_true rfl, ⟨_, Or.inl ⟨Nat.le_of_ble_eq_true rfl, rfl⟩, rfl⟩, zw_1565, zw_1567⟩) <|
  zgd_e (fun d => zo_l d rfl rfl trivial) <|
  zgd_e (fun d => zo_l d rfl rfl (by show ((531 : Nat) : Int) + (1060) = ((1591 : Nat) : Int); decide)) <|
  zgd_e (fun d => zo_l d rfl rfl trivial) <|
  zgd_e (fun d => zo_l d rfl rfl trivial) <|
  zgd_e (fun d => zo_l d rfl rfl trivial) <|
  zgd_e (fun d => zo_l d rfl rfl trivial) <|
  zgd_e (fun d => zo_l d rfl rfl trivial) <|
  zgd_e (fun d => zo_h d rfl rfl) <|
  zgd_e (fun d => zo_l d rfl rfl trivial) <|
  zgd_e (fun d => zo_l d rfl rfl trivial) <|
  zgd_e (fun d => zo_l d rfl rfl trivial) <|
  zgd_e (fun d => zo_l d rfl rfl trivial) <|
  zgd_e (fun d => zo_h d rfl rfl) <|
  zgd_e (fun d => zo_l d rfl rfl trivial) <|
  zgd_e (fun d => zo_s d rfl ⟨zd_307, zw_939, zw_940⟩) <|
  zgd_e (fun d => zo_l d rfl rfl trivial) <|
  zgd_m h
theorem zdd_328_5 : ∀ q ∈ zc_328_5, decode code q.1 = Except.ok (q.2.1, q.2.2.1) := zdd_of (by decide +kernel)
theorem zk_328_5 (xs : List Int32) {l : List zE} (h : ∀ q ∈ l, z_oke' (za_T xs) za_P za_M ⟨"LyndonBenchLaw", "law", "([I)Z"⟩ code q) : ∀ q ∈ zc_328_5 ++ l, z_oke' (za_T xs) za_P za_M ⟨"LyndonBenchLaw", "law", "([I)Z"⟩ code q :=
  zgd_y zdd_328_5 <|
  zgd_e (fun d => zo_l d rfl rfl trivial) <|
  zgd_e (fun d => zo_l d rfl rfl trivial) <|
  zgd_e (fun d => zo_l d rfl rfl trivial) <|
  zgd_e (fun d => zo_l d rfl rfl trivial) <|
  zgd_e (fun d => zo_l d rfl rfl trivial) <|
  zgd_e (fun d => zo_h d rfl rfl) <|
  zgd_e (fun d => zo_l d rfl rfl trivial) <|
  zgd_e (fun d => zo_l d rfl rfl trivial) <|
  zgd_e (fun d => zo_l d rfl rfl trivial) <|
  zgd_e (fun d => zo_l d rfl rfl trivial) <|
  zgd_e (fun d => zo_h d rfl rfl) <|
  zgd_e (fun d => zo_v d rfl ⟨rfl, zd_233, zw_1570, Nat.le_of_ble_eq_true rfl, ⟨_, Or.inl ⟨Nat.le_of_ble_eq_true rfl, rfl⟩, rfl⟩, zw_1569, zw_1571⟩) <|
  zgd_e (fun d => zo_l d rfl rfl trivial) <|
  zgd_e (fun d => zo_l d rfl rfl (by show ((571 : Nat) : Int) + (1020) = ((1591 : Nat) : Int); decide)) <|
  zgd_e (fun d => zo_l d rfl rfl trivial) <|
  zgd_e (fun d => zo_l d rfl rfl trivial) <|
  zgd_e (fun d => zo_l d rfl rfl trivial) <|
  zgd_e (fun d => zo_l d rfl rfl trivial) <|
  zgd_e (fun d => zo_l d rfl rfl trivial) <|
  zgd_e (fun d => zo_h d rfl rfl) <|
  zgd_e (fun d => zo_l d rfl rfl trivial) <|
  zgd_e (fun d => zo_s d rfl ⟨zd_308, zw_952, zw_953⟩) <|
  zgd_e (fun d => zo_l d rfl rfl trivial) <|
  zgd_e (fun d => zo_l d rfl rfl trivial) <|
  zgd_e (fun d => zo_l d rfl rfl trivial) <|
  zgd_e (fun d => zo_l d rfl rfl trivial) <|
  zgd_e (fun d => zo_l d rfl rfl trivial) <|
  zgd_e (fun d => zo_l d rfl rfl trivial) <|
  zgd_e (fun d => zo_h d rfl rfl) <|
  zgd_e (fun d => zo_v d rfl ⟨rfl, zd_234, zw_1574, Nat.le_of_ble_eq_true rfl, ⟨_, Or.inl ⟨Nat.le_of_ble_eq_true rfl, rfl⟩, rfl⟩, zw_1573, zw_1575⟩) <|
  zgd_e (fun d => zo_l d rfl rfl trivial) <|
  zgd_e (fun d => zo_l d rfl rfl (by show ((599 : Nat) : Int) + (992) = ((1591 : Nat) : Int); decide)) <|
  zgd_e (fun d => zo_l d rfl rfl trivial) <|
  zgd_e (fun d => zo_v d rfl ⟨rfl, zd_86, zw_604, Nat.le_of_ble_eq_true rfl, ⟨_, Or.inl ⟨Nat.le_of_ble_eq_true rfl, rfl⟩, rfl⟩, zw_603, zw_605⟩) <|
  zgd_e (fun d => zo_l d rfl rfl trivial) <|
  zgd_e (fun d => zo_l d rfl rfl trivial) <|
  zgd_e (fun d => zo_v d rfl ⟨rfl, zd_235, zw_1578, Nat.le_of_ble_eq_true rfl, ⟨_, Or.inl ⟨Nat.le_of_ble_eq_true rfl, rfl⟩, rfl⟩, zw_1577, zw_1579⟩) <|
  zgd_e (fun d => zo_l d rfl rfl trivial) <|
  zgd_e (fun d => zo_l d rfl rfl (by show ((612 : Nat) : Int) + (979) = ((1591 : Nat) : Int); decide)) <|
  zgd_e (fun d => zo_l d rfl rfl trivial) <|
  zgd_m h
theorem zdd_328_6 : ∀ q ∈ zc_328_6, decode code q.1 = Except.ok (q.2.1, q.2.2.1) := zdd_of (by decide +kernel)
theorem zk_328_6 (xs : List Int32) {l : List zE} (h : ∀ q ∈ l, z_oke' (za_T xs) za_P za_M ⟨"LyndonBenchLaw", "law", "([I)Z"⟩ code q) : ∀ q ∈ zc_328_6 ++ l, z_oke' (za_T xs) za_P za_M ⟨"LyndonBenchLaw", "law", "([I)Z"⟩ code q :=
  zgd_y zdd_328_6 <|
  zgd_e (fun d => zo_l d rfl rfl trivial) <|
  zgd_e (fun d => zo_s d rfl ⟨zd_309, zw_960, zw_961⟩) <|
  zgd_e (fun d => zo_l d rfl rfl trivial) <|
  zgd_e (fun d => zo_l d rfl rfl trivial) <|
  zgd_e (fun d => zo_v d rfl ⟨rfl, zd_236, zw_1582, Nat.le_of_ble_eq_true rfl, ⟨_, Or.inl ⟨Nat.le_of_ble_eq_true rfl, rfl⟩, rfl⟩, zw_1581, zw_1583⟩) <|
  zgd_e (fun d => zo_l d rfl rfl trivial) <|
  zgd_e (fun d => zo_l d rfl rfl (by show ((628 : Nat) : Int) + (963) = ((1591 : Nat) : Int); decide)) <|
  zgd_e (fun d => zo_l d rfl rfl trivial) <|
  zgd_e (fun d => zo_l d rfl rfl trivial) <|
  zgd_e (fun d => zo_l d rfl rfl trivial) <|
  zgd_e (fun d => zo_l d rfl rfl trivial) <|
  zgd_e (fun d => zo_l d rfl rfl trivial) <|
  zgd_e (fun d => zo_h d rfl rfl) <|
  zgd_e (fun d => zo_l d rfl rfl trivial) <|
  zgd_e (fun d => zo_s d rfl ⟨zd_310, zw_968, zw_969⟩) <|
  zgd_e (fun d => zo_l d rfl rfl trivial) <|
  zgd_e (fun d => zo_l d rfl rfl trivial) <|
  zgd_e (fun d => zo_l d rfl rfl trivial) <|
  zgd_e (fun d => zo_l d rfl rfl trivial) <|
  zgd_e (fun d => zo_l d rfl rfl trivial) <|
  zgd_e (fun d => zo_l d rfl rfl trivial) <|
  zgd_e (fun d => zo_h d rfl rfl) <|
  zgd_e (fun d => zo_v d rfl ⟨rfl, zd_237, zw_1586, Nat.le_of_ble_eq_true rfl, ⟨_, Or.inl ⟨Nat.le_of_ble_eq_true rfl, rfl⟩, rfl⟩, zw_1585, zw_1587⟩) <|
  zgd_e (fun d => zo_l d rfl rfl trivial) <|
  zgd_e (fun d => zo_l d rfl rfl (by show ((656 : Nat) : Int) + (935) = ((1591 : Nat) : Int); decide)) <|
  zgd_e (fun d => zo_l d rfl rfl trivial) <|
  zgd_e (fun d => zo_l d rfl rfl trivial) <|
  zgd_e (fun d => zo_l d rfl rfl trivial) <|
  zgd_e (fun d => zo_l d rfl rfl trivial) <|
  zgd_e (fun d => zo_l d rfl rfl trivial) <|
  zgd_e (fun d => zo_h d rfl rfl) <|
  zgd_e (fun d => zo_l d rfl rfl trivial) <|
  zgd_e (fun d => zo_s d rfl ⟨zd_311, zw_980, zw_981⟩) <|
  zgd_e (fun d => zo_l d rfl rfl trivial) <|
  zgd_e (fun d => zo_l d rfl rfl trivial) <|
  zgd_e (fun d => zo_l d rfl rfl trivial) <|
  zgd_e (fun d => zo_l d rfl rfl trivial) <|
  zgd_e (fun d => zo_l d rfl rfl trivial) <|
  zgd_e (fun d => zo_l d rfl rfl trivial) <|
  zgd_e (fun d => zo_h d rfl rfl) <|
  zgd_m h
theorem zdd_328_7 : ∀ q ∈ zc_328_7, decode code q.1 = Except.ok (q.2.1, q.2.2.1) := zdd_of (by decide +kernel)
theorem zk_328_7 (xs : List Int32) {l : List zE} (h : ∀ q ∈ l, z_oke' (za_T xs) za_P za_M ⟨"LyndonBenchLaw", "law", "([I)Z"⟩ code q) : ∀ q ∈ zc_328_7 ++ l, z_oke' (za_T xs) za_P za_M ⟨"LyndonBenchLaw", "law", "([I)Z"⟩ code q :=
  zgd_y zdd_328_7 <|
  zgd_e (fun d => zo_v d rfl ⟨rfl, zd_238, zw_1590, Nat.le_of_ble_eq_true rfl, ⟨_, Or.inl ⟨Nat.le_of_ble_eq_true rfl, rfl⟩, rfl⟩, zw_1589, zw_1591⟩) <|
  zgd_e (fun d => zo_l d rfl rfl trivial) <|
  zgd_e (fun d => zo_l d rfl rfl (by show ((684 : Nat) : Int) + (907) = ((1591 : Nat) : Int); decide)) <|
  zgd_e (fun d => zo_l d rfl rfl trivial) <|
  zgd_e (fun d => zo_l d rfl rfl trivial) <|
  zgd_e (fun d => zo_s d rfl ⟨zd_312, zw_1011, zw_1012⟩) <|
  zgd_e (fun d => zo_l d rfl rfl trivial) <|
  zgd_e (fun d => zo_l d rfl rfl trivial) <|
  zgd_e (fun d => zo_v d rfl ⟨rfl, zd_239, zw_1594, Nat.le_of_ble_eq_true rfl, ⟨_, Or.inl ⟨Nat.le_of_ble_eq_true rfl, rfl⟩, rfl⟩, zw_1593, zw_1595⟩) <|
  zgd_e (fun d => zo_l d rfl rfl trivial) <|
  zgd_e (fun d => zo_l d rfl rfl (by show ((700 : Nat) : Int) + (891) = ((1591 : Nat) : Int); decide)) <|
  zgd_e (fun d => zo_l d rfl rfl trivial) <|
  zgd_e (fun d => zo_l d rfl rfl trivial) <|
  zgd_e (fun d => zo_l d rfl rfl trivial) <|
  zgd_e (fun d => zo_l d rfl rfl trivial) <|
  zgd_e (fun d => zo_l d rfl rfl trivial) <|
  zgd_e (fun d => zo_h d rfl rfl) <|
  zgd_e (fun d => zo_l d rfl rfl trivial) <|
  zgd_e (fun d => zo_s d rfl ⟨zd_313, zw_1019, zw_1020⟩) <|
  zgd_e (fun d => zo_l d rfl rfl trivial) <|
  zgd_e (fun d => zo_l d rfl rfl trivial) <|
  zgd_e (fun d => zo_l d rfl rfl trivial) <|
  zgd_e (fun d => zo_l d rfl rfl trivial) <|
  zgd_e (fun d => zo_l d rfl rfl trivial) <|
  zgd_e (fun d => zo_l d rfl rfl trivial) <|
  zgd_e (fun d => zo_h d rfl rfl) <|
  zgd_e (fun d => zo_v d rfl ⟨rfl, zd_240, zw_1598, Nat.le_of_ble_eq_true rfl, ⟨_, Or.inl ⟨Nat.le_of_ble_eq_true rfl, rfl⟩, rfl⟩, zw_1597, zw_1599⟩) <|
  zgd_e (fun d => zo_l d rfl rfl trivial) <|
  zgd_e (fun d => zo_l d rfl rfl (by show ((728 : Nat) : Int) + (863) = ((1591 : Nat) : Int); decide)) <|
  zgd_e (fun d => zo_l d rfl rfl trivial) <|
  zgd_e (fun d => zo_l d rfl rfl trivial) <|
  zgd_e (fun d => zo_s d rfl ⟨zd_314, zw_1028, zw_1029⟩) <|
  zgd_e (fun d => zo_l d rfl rfl trivial) <|
  zgd_e (fun d => zo_l d rfl rfl trivial) <|
  zgd_e (fun d => zo_v d rfl ⟨rfl, zd_241, zw_1606, Nat.le_of_ble_eq_true rfl, ⟨_, Or.inl ⟨Nat.le_of_ble_eq_true rfl, rfl⟩, rfl⟩, zw_1605, zw_1607⟩) <|
  zgd_e (fun d => zo_l d rfl rfl trivial) <|
  zgd_e (fun d => zo_l d rfl rfl (by show ((744 : Nat) : Int) + (847) = ((1591 : Nat) : Int); decide)) <|
  zgd_e (fun d => zo_l d rfl rfl trivial) <|
  zgd_e (fun d => zo_v d rfl ⟨rfl, zd_93, zw_613, Nat.le_of_ble_eq_true rfl, ⟨_, Or.inl ⟨Nat.le_of_ble_eq_true rfl, rfl⟩, rfl⟩, zw_612, zw_614⟩) <|
  zgd_e (fun d => zo_l d rfl rfl trivial) <|
  zgd_m h
theorem zdd_328_8 : ∀ q ∈ zc_328_8, decode code q.1 = Except.ok (q.2.1, q.2.2.1) := zdd_of (by decide +kernel)
theorem zk_328_8 (xs : List Int32) {l : List zE} (h : ∀ q ∈ l, z_oke' (za_T xs) za_P za_M ⟨"LyndonBenchLaw", "law", "([I)Z"⟩ code q) : ∀ q ∈ zc_328_8 ++ l, z_oke' (za_T xs) za_P za_M ⟨"LyndonBenchLaw", "law", "([I)Z"⟩ code q :=
  zgd_y zdd_328_8 <|
  zgd_e (fun d => zo_l d rfl rfl trivial) <|
  zgd_e (fun d => zo_v d rfl ⟨rfl, zd_242, zw_1610, Nat.le_of_ble_eq_true rfl, ⟨_, Or.inl ⟨Nat.le_of_ble_eq_true rfl, rfl⟩, rfl⟩, zw_1609, zw_1611⟩) <|
  zgd_e (fun d => zo_l d rfl rfl trivial) <|
  zgd_e (fun d => zo_l d rfl rfl (by show ((757 : Nat) : Int) + (834) = ((1591 : Nat) : Int); decide)) <|
  zgd_e (fun d => zo_l d rfl rfl trivial) <|
  zgd_e (fun d => zo_v d rfl ⟨rfl, zd_94, zw_621, Nat.le_of_ble_eq_true rfl, ⟨_, Or.inl ⟨Nat.le_of_ble_eq_true rfl, rfl⟩, rfl⟩, zw_620, zw_622⟩) <|
  zgd_e (fun d => zo_l d rfl rfl trivial) <|
  zgd_e (fun d => zo_l d rfl rfl trivial) <|
  zgd_e (fun d => zo_v d rfl ⟨rfl, zd_243, zw_1614, Nat.le_of_ble_eq_true rfl, ⟨_, Or.inl ⟨Nat.le_of_ble_eq_true rfl, rfl⟩, rfl⟩, zw_1613, zw_1615⟩) <|
  zgd_e (fun d => zo_l d rfl rfl trivial) <|
  zgd_e (fun d => zo_l d rfl rfl (by show ((770 : Nat) : Int) + (821) = ((1591 : Nat) : Int); decide)) <|
  zgd_e (fun d => zo_l d rfl rfl trivial) <|
  zgd_e (fun d => zo_v d rfl ⟨rfl, zd_95, zw_625, Nat.le_of_ble_eq_true rfl, ⟨_, Or.inl ⟨Nat.le_of_ble_eq_true rfl, rfl⟩, rfl⟩, zw_624, zw_626⟩) <|
  zgd_e (fun d => zo_l d rfl rfl trivial) <|
  zgd_e (fun d => zo_l d rfl rfl trivial) <|
  zgd_e (fun d => zo_v d rfl ⟨rfl, zd_244, zw_1618, Nat.le_of_ble_eq_true rfl, ⟨_, Or.inl ⟨Nat.le_of_ble_eq_true rfl, rfl⟩, rfl⟩, zw_1617, zw_1619⟩) <|
  zgd_e (fun d => zo_l d rfl rfl trivial) <|
  zgd_e (fun d => zo_l d rfl rfl (by show ((783 : Nat) : Int) + (808) = ((1591 : Nat) : Int); decide)) <|
  zgd_e (fun d => zo_l d rfl rfl trivial) <|
  zgd_e (fun d => zo_l d rfl rfl trivial) <|
  zgd_e (fun d => zo_s d rfl ⟨zd_315, zw_1038, zw_1039⟩) <|
  zgd_e (fun d => zo_l d rfl rfl trivial) <|
  zgd_e (fun d => zo_l d rfl rfl trivial) <|
  zgd_e (fun d => zo_v d rfl ⟨rfl, zd_245, zw_1622, Nat.le_of_ble_eq_true rfl, ⟨_, Or.inl ⟨Nat.le_of_ble_eq_true rfl, rfl⟩, rfl⟩, zw_1621, zw_1623⟩) <|
  zgd_e (fun d => zo_l d rfl rfl trivial) <|
  zgd_e (fun d => zo_l d rfl rfl (by show ((799 : Nat) : Int) + (792) = ((1591 : Nat) : Int); decide)) <|
  zgd_e (fun d => zo_l d rfl rfl trivial) <|
  zgd_e (fun d => zo_v d rfl ⟨rfl, zd_97, zw_629, Nat.le_of_ble_eq_true rfl, ⟨_, Or.inl ⟨Nat.le_of_ble_eq_true rfl, rfl⟩, rfl⟩, zw_628, zw_630⟩) <|
  zgd_e (fun d => zo_l d rfl rfl trivial) <|
  zgd_e (fun d => zo_l d rfl rfl trivial) <|
  zgd_e (fun d => zo_v d rfl ⟨rfl, zd_246, zw_1626, Nat.le_of_ble_eq_true rfl, ⟨_, Or.inl ⟨Nat.le_of_ble_eq_true rfl, rfl⟩, rfl⟩, zw_1625, zw_1627⟩) <|
  zgd_e (fun d => zo_l d rfl rfl trivial) <|
  zgd_e (fun d => zo_l d rfl rfl (by show ((812 : Nat) : Int) + (779) = ((1591 : Nat) : Int); decide)) <|
  zgd_e (fun d => zo_l d rfl rfl trivial) <|
  zgd_e (fun d => zo_v d rfl ⟨rfl, zd_98, zw_633, Nat.le_of_ble_eq_true rfl, ⟨_, Or.inl ⟨Nat.le_of_ble_eq_true rfl, rfl⟩, rfl⟩, zw_632, zw_634⟩) <|
  zgd_e (fun d => zo_l d rfl rfl trivial) <|
  zgd_e (fun d => zo_l d rfl rfl trivial) <|
  zgd_e (fun d => zo_v d rfl ⟨rfl, zd_247, zw_1630, Nat.le_of_ble_eq_true rfl, ⟨_, Or.inl ⟨Nat.le_of_ble_eq_true rfl, rfl⟩, rfl⟩, zw_1629, zw_1631⟩) <|
  zgd_e (fun d => zo_l d rfl rfl trivial) <|
  zgd_e (fun d => zo_l d rfl rfl (by show ((825 : Nat) : Int) + (766) = ((1591 : Nat) : Int); decide)) <|
  zgd_m h
theorem zdd_328_9 : ∀ q ∈ zc_328_9, decode code q.1 = Except.ok (q.2.1, q.2.2.1) := zdd_of (by decide +kernel)
theorem zk_328_9 (xs : List Int32) {l : List zE} (h : ∀ q ∈ l, z_oke' (za_T xs) za_P za_M ⟨"LyndonBenchLaw", "law", "([I)Z"⟩ code q) : ∀ q ∈ zc_328_9 ++ l, z_oke' (za_T xs) za_P za_M ⟨"LyndonBenchLaw", "law", "([I)Z"⟩ code q :=
  zgd_y zdd_328_9 <|
  zgd_e (fun d => zo_l d rfl rfl trivial) <|
  zgd_e (fun d => zo_v d rfl ⟨rfl, zd_99, zw_637, Nat.le_of_ble_eq_true rfl, ⟨_, Or.inl ⟨Nat.le_of_ble_eq_true rfl, rfl⟩, rfl⟩, zw_636, zw_638⟩) <|
  zgd_e (fun d => zo_l d rfl rfl trivial) <|
  zgd_e (fun d => zo_l d rfl rfl trivial) <|
  zgd_e (fun d => zo_v d rfl ⟨rfl, zd_249, zw_1634, Nat.le_of_ble_eq_true rfl, ⟨_, Or.inl ⟨Nat.le_of_ble_eq_true rfl, rfl⟩, rfl⟩, zw_1633, zw_1635⟩) <|
  zgd_e (fun d => zo_l d rfl rfl trivial) <|
  zgd_e (fun d => zo_l d rfl rfl (by show ((838 : Nat) : Int) + (753) = ((1591 : Nat) : Int); decide)) <|
  zgd_e (fun d => zo_l d rfl rfl trivial) <|
  zgd_e (fun d => zo_v d rfl ⟨rfl, zd_100, zw_641, Nat.le_of_ble_eq_true rfl, ⟨_, Or.inl ⟨Nat.le_of_ble_eq_true rfl, rfl⟩, rfl⟩, zw_640, zw_642⟩) <|
  zgd_e (fun d => zo_l d rfl rfl trivial) <|
  zgd_e (fun d => zo_l d rfl rfl trivial) <|
  zgd_e (fun d => zo_v d rfl ⟨rfl, zd_250, zw_1642, Nat.le_of_ble_eq_true rfl, ⟨_, Or.inl ⟨Nat.le_of_ble_eq_true rfl, rfl⟩, rfl⟩, zw_1641, zw_1643⟩) <|
  zgd_e (fun d => zo_l d rfl rfl trivial) <|
  zgd_e (fun d => zo_l d rfl rfl (by show ((851 : Nat) : Int) + (740) = ((1591 : Nat) : Int); decide)) <|
  zgd_e (fun d => zo_l d rfl rfl trivial) <|
  zgd_e (fun d => zo_l d rfl rfl trivial) <|
  zgd_e (fun d => zo_l d rfl rfl trivial) <|
  zgd_e (fun d => zo_l d rfl rfl trivial) <|
  zgd_e (fun d => zo_l d rfl rfl trivial) <|
  zgd_e (fun d => zo_h d rfl rfl) <|
  zgd_e (fun d => zo_v d rfl ⟨rfl, zd_101, zw_645, Nat.le_of_ble_eq_true rfl, ⟨_, Or.inl ⟨Nat.le_of_ble_eq_true rfl, rfl⟩, rfl⟩, zw_644, zw_646⟩) <|
  zgd_e (fun d => zo_l d rfl rfl trivial) <|
  zgd_e (fun d => zo_l d rfl rfl trivial) <|
  zgd_e (fun d => zo_l d rfl rfl trivial) <|
  zgd_e (fun d => zo_l d rfl rfl trivial) <|
  zgd_e (fun d => zo_l d rfl rfl trivial) <|
  zgd_e (fun d => zo_l d rfl rfl trivial) <|
  zgd_e (fun d => zo_h d rfl rfl) <|
  zgd_e (fun d => zo_v d rfl ⟨rfl, zd_251, zw_1646, Nat.le_of_ble_eq_true rfl, ⟨_, Or.inl ⟨Nat.le_of_ble_eq_true rfl, rfl⟩, rfl⟩, zw_1645, zw_1647⟩) <|
  zgd_e (fun d => zo_l d rfl rfl trivial) <|
  zgd_e (fun d => zo_l d rfl rfl (by show ((876 : Nat) : Int) + (715) = ((1591 : Nat) : Int); decide)) <|
  zgd_e (fun d => zo_l d rfl rfl trivial) <|
  zgd_e (fun d => zo_l d rfl rfl trivial) <|
  zgd_e (fun d => zo_l d rfl rfl trivial) <|
  zgd_e (fun d => zo_l d rfl rfl trivial) <|
  zgd_e (fun d => zo_l d rfl rfl trivial) <|
  zgd_e (fun d => zo_h d rfl rfl) <|
  zgd_e (fun d => zo_l d rfl rfl trivial) <|
  zgd_e (fun d => zo_l d rfl rfl trivial) <|
  zgd_e (fun d => zo_l d rfl rfl trivial) <|
  zgd_m h
theorem zdd_328_10 : ∀ q ∈ zc_328_10, decode code q.1 = Except.ok (q.2.1, q.2.2.1) := zdd_of (by decide +kernel)
theorem zk_328_10 (xs : List Int32) {l : List zE} (h : ∀ q ∈ l, z_oke' (za_T xs) za_P za_M ⟨"LyndonBenchLaw", "law", "([I)Z"⟩ code q) : ∀ q ∈ zc_328_10 ++ l, z_oke' (za_T xs) za_P za_M ⟨"LyndonBenchLaw", "law", "([I)Z"⟩ code q :=
  zgd_y zdd_328_10 <|
  zgd_e (fun d => zo_l d rfl rfl trivial) <|
  zgd_e (fun d => zo_h d rfl rfl) <|
  zgd_e (fun d => zo_l d rfl rfl trivial) <|
  zgd_e (fun d => zo_l d rfl rfl trivial) <|
  zgd_e (fun d => zo_l d rfl rfl trivial) <|
  zgd_e (fun d => zo_l d rfl rfl trivial) <|
  zgd_e (fun d => zo_h d rfl rfl) <|
  zgd_e (fun d => zo_l d rfl rfl trivial) <|
  zgd_e (fun d => zo_l d rfl rfl trivial) <|
  zgd_e (fun d => zo_l d rfl rfl trivial) <|
  zgd_e (fun d => zo_l d rfl rfl trivial) <|
  zgd_e (fun d => zo_h d rfl rfl) <|
  zgd_e (fun d => zo_l d rfl rfl trivial) <|
  zgd_e (fun d => zo_s d rfl ⟨zd_316, zw_1062, zw_1063⟩) <|
  zgd_e (fun d => zo_l d rfl rfl trivial) <|
  zgd_e (fun d => zo_l d rfl rfl trivial) <|
  zgd_e (fun d => zo_l d rfl rfl trivial) <|
  zgd_e (fun d => zo_l d rfl rfl trivial) <|
  zgd_e (fun d => zo_l d rfl rfl trivial) <|
  zgd_e (fun d => zo_l d rfl rfl trivial) <|
  zgd_e (fun d => zo_h d rfl rfl) <|
  zgd_e (fun d => zo_l d rfl rfl trivial) <|
  zgd_e (fun d => zo_l d rfl rfl trivial) <|
  zgd_e (fun d => zo_l d rfl rfl trivial) <|
  zgd_e (fun d => zo_l d rfl rfl trivial) <|
  zgd_e (fun d => zo_h d rfl rfl) <|
  zgd_e (fun d => zo_l d rfl rfl trivial) <|
  zgd_e (fun d => zo_l d rfl rfl trivial) <|
  zgd_e (fun d => zo_l d rfl rfl trivial) <|
  zgd_e (fun d => zo_l d rfl rfl trivial) <|
  zgd_e (fun d => zo_h d rfl rfl) <|
  zgd_e (fun d => zo_l d rfl rfl trivial) <|
  zgd_e (fun d => zo_l d rfl rfl trivial) <|
  zgd_e (fun d => zo_l d rfl rfl trivial) <|
  zgd_e (fun d => zo_l d rfl rfl trivial) <|
  zgd_e (fun d => zo_h d rfl rfl) <|
  zgd_e (fun d => zo_v d rfl ⟨rfl, zd_253, zw_1650, Nat.le_of_ble_eq_true rfl, ⟨_, Or.inl ⟨Nat.le_of_ble_eq_true rfl, rfl⟩, rfl⟩, zw_1649, zw_1651⟩) <|
  zgd_e (fun d => zo_l d rfl rfl trivial) <|
  zgd_e (fun d => zo_l d rfl rfl (by show ((940 : Nat) : Int) + (651) = ((1591 : Nat) : Int); decide)) <|
  zgd_e (fun d => zo_l d rfl rfl trivial) <|
  zgd_m h
theorem zdd_328_11 : ∀ q ∈ zc_328_11, decode code q.1 = Except.ok (q.2.1, q.2.2.1) := zdd_of (by decide +kernel)
theorem zk_328_11 (xs : List Int32) {l : List zE} (h : ∀ q ∈ l, z_oke' (za_T xs) za_P za_M ⟨"LyndonBenchLaw", "law", "([I)Z"⟩ code q) : ∀ q ∈ zc_328_11 ++ l, z_oke' (za_T xs) za_P za_M ⟨"LyndonBenchLaw", "law", "([I)Z"⟩ code q :=
  zgd_y zdd_328_11 <|
  zgd_e (fun d => zo_v d rfl ⟨rfl, zd_103, zw_650, Nat.le_of_ble_eq_true rfl, ⟨_, Or.inl ⟨Nat.le_of_ble_eq_true rfl, rfl⟩, rfl⟩, zw_649, zw_651⟩) <|
  zgd_e (fun d => zo_l d rfl rfl trivial) <|
  zgd_e (fun d => zo_l d rfl rfl trivial) <|
  zgd_e (fun d => zo_v d rfl ⟨rfl, zd_254, zw_1658, Nat.le_of_ble_eq_true rfl, ⟨_, Or.inl ⟨Nat.le_of_ble_eq_true rfl, rfl⟩, rfl⟩, zw_1657, zw_1659⟩) <|
  zgd_e (fun d => zo_l d rfl rfl trivial) <|
  zgd_e (fun d => zo_l d rfl rfl (by show ((953 : Nat) : Int) + (638) = ((1591 : Nat) : Int); decide)) <|
  zgd_e (fun d => zo_l d rfl rfl trivial) <|
  zgd_e (fun d => zo_l d rfl rfl trivial) <|
  zgd_e (fun d => zo_l d rfl rfl trivial) <|
  zgd_e (fun d => zo_l d rfl rfl trivial) <|
  zgd_e (fun d => zo_l d rfl rfl trivial) <|
  zgd_e (fun d => zo_h d rfl rfl) <|
  zgd_e (fun d => zo_l d rfl rfl trivial) <|
  zgd_e (fun d => zo_s d rfl ⟨zd_317, zw_1069, zw_1070⟩) <|
  zgd_e (fun d => zo_l d rfl rfl trivial) <|
  zgd_e (fun d => zo_l d rfl rfl trivial) <|
  zgd_e (fun d => zo_l d rfl rfl trivial) <|
  zgd_e (fun d => zo_l d rfl rfl trivial) <|
  zgd_e (fun d => zo_l d rfl rfl trivial) <|
  zgd_e (fun d => zo_l d rfl rfl trivial) <|
  zgd_e (fun d => zo_h d rfl rfl) <|
  zgd_e (fun d => zo_v d rfl ⟨rfl, zd_256, zw_1662, Nat.le_of_ble_eq_true rfl, ⟨_, Or.inl ⟨Nat.le_of_ble_eq_true rfl, rfl⟩, rfl⟩, zw_1661, zw_1663⟩) <|
  zgd_e (fun d => zo_l d rfl rfl trivial) <|
  zgd_e (fun d => zo_l d rfl rfl (by show ((981 : Nat) : Int) + (610) = ((1591 : Nat) : Int); decide)) <|
  zgd_e (fun d => zo_l d rfl rfl trivial) <|
  zgd_e (fun d => zo_l d rfl rfl trivial) <|
  zgd_e (fun d => zo_l d rfl rfl trivial) <|
  zgd_e (fun d => zo_l d rfl rfl trivial) <|
  zgd_e (fun d => zo_l d rfl rfl trivial) <|
  zgd_e (fun d => zo_h d rfl rfl) <|
  zgd_e (fun d => zo_l d rfl rfl trivial) <|
  zgd_e (fun d => zo_s d rfl ⟨zd_318, zw_1076, zw_1077⟩) <|
  zgd_e (fun d => zo_l d rfl rfl trivial) <|
  zgd_e (fun d => zo_l d rfl rfl trivial) <|
  zgd_e (fun d => zo_l d rfl rfl trivial) <|
  zgd_e (fun d => zo_l d rfl rfl trivial) <|
  zgd_e (fun d => zo_l d rfl rfl trivial) <|
  zgd_e (fun d => zo_l d rfl rfl trivial) <|
  zgd_e (fun d => zo_h d rfl rfl) <|
  zgd_e (fun d => zo_v d rfl ⟨rfl, zd_257, zw_1670, Nat.le_of_ble_eq_true rfl, ⟨_, Or.inl ⟨Nat.le_of_ble_eq_true rfl, rfl⟩, rfl⟩, zw_1669, zw_1671⟩) <|
  zgd_m h
theorem zdd_328_12 : ∀ q ∈ zc_328_12, decode code q.1 = Except.ok (q.2.1, q.2.2.1) := zdd_of (by decide +kernel)
theorem zk_328_12 (xs : List Int32) {l : List zE} (h : ∀ q ∈ l, z_oke' (za_T xs) za_P za_M ⟨"LyndonBenchLaw", "law", "([I)Z"⟩ code q) : ∀ q ∈ zc_328_12 ++ l, z_oke' (za_T xs) za_P za_M ⟨"LyndonBenchLaw", "law", "([I)Z"⟩ code q :=
  zgd_y zdd_328_12 <|
  zgd_e (fun d => zo_l d rfl rfl trivial) <|
  zgd_e (fun d => zo_l d rfl rfl (by show ((1009 : Nat) : Int) + (582) = ((1591 : Nat) : Int); decide)) <|
  zgd_e (fun d => zo_l d rfl rfl trivial) <|
  zgd_e (fun d => zo_l d rfl rfl trivial) <|
  zgd_e (fun d => zo_l d rfl rfl trivial) <|
  zgd_e (fun d => zo_l d rfl rfl trivial) <|
  zgd_e (fun d => zo_l d rfl rfl trivial) <|
  zgd_e (fun d => zo_h d rfl rfl) <|
  zgd_e (fun d => zo_l d rfl rfl trivial) <|
  zgd_e (fun d => zo_s d rfl ⟨zd_319, zw_1083, zw_1084⟩) <|
  zgd_e (fun d => zo_l d rfl rfl trivial) <|
  zgd_e (fun d => zo_l d rfl rfl trivial) <|
  zgd_e (fun d => zo_l d rfl rfl trivial) <|
  zgd_e (fun d => zo_l d rfl rfl trivial) <|
  zgd_e (fun d => zo_l d rfl rfl trivial) <|
  zgd_e (fun d => zo_l d rfl rfl trivial) <|
  zgd_e (fun d => zo_h d rfl rfl) <|
  zgd_e (fun d => zo_v d rfl ⟨rfl, zd_260, zw_1674, Nat.le_of_ble_eq_true rfl, ⟨_, Or.inl ⟨Nat.le_of_ble_eq_true rfl, rfl⟩, rfl⟩, zw_1673, zw_1675⟩) <|
  zgd_e (fun d => zo_l d rfl rfl trivial) <|
  zgd_e (fun d => zo_l d rfl rfl (by show ((1037 : Nat) : Int) + (554) = ((1591 : Nat) : Int); decide)) <|
  zgd_e (fun d => zo_l d rfl rfl trivial) <|
  zgd_e (fun d => zo_l d rfl rfl trivial) <|
  zgd_e (fun d => zo_l d rfl rfl trivial) <|
  zgd_e (fun d => zo_l d rfl rfl trivial) <|
  zgd_e (fun d => zo_l d rfl rfl trivial) <|
  zgd_e (fun d => zo_h d rfl rfl) <|
  zgd_e (fun d => zo_v d rfl ⟨rfl, zd_107, zw_654, Nat.le_of_ble_eq_true rfl, ⟨_, Or.inl ⟨Nat.le_of_ble_eq_true rfl, rfl⟩, rfl⟩, zw_653, zw_655⟩) <|
  zgd_e (fun d => zo_l d rfl rfl trivial) <|
  zgd_e (fun d => zo_l d rfl rfl trivial) <|
  zgd_e (fun d => zo_l d rfl rfl trivial) <|
  zgd_e (fun d => zo_l d rfl rfl trivial) <|
  zgd_e (fun d => zo_l d rfl rfl trivial) <|
  zgd_e (fun d => zo_l d rfl rfl trivial) <|
  zgd_e (fun d => zo_h d rfl rfl) <|
  zgd_e (fun d => zo_v d rfl ⟨rfl, zd_261, zw_1686, Nat.le_of_ble_eq_true rfl, ⟨_, Or.inl ⟨Nat.le_of_ble_eq_true rfl, rfl⟩, rfl⟩, zw_1685, zw_1687⟩) <|
  zgd_e (fun d => zo_l d rfl rfl trivial) <|
  zgd_e (fun d => zo_l d rfl rfl (by show ((1062 : Nat) : Int) + (529) = ((1591 : Nat) : Int); decide)) <|
  zgd_e (fun d => zo_l d rfl rfl trivial) <|
  zgd_e (fun d => zo_v d rfl ⟨rfl, zd_108, zw_662, Nat.le_of_ble_eq_true rfl, ⟨_, Or.inl ⟨Nat.le_of_ble_eq_true rfl, rfl⟩, rfl⟩, zw_661, zw_663⟩) <|
  zgd_e (fun d => zo_l d rfl rfl trivial) <|
  zgd_m h
theorem zdd_328_13 : ∀ q ∈ zc_328_13, decode code q.1 = Except.ok (q.2.1, q.2.2.1) := zdd_of (by decide +kernel)
theorem zk_328_13 (xs : List Int32) {l : List zE} (h : ∀ q ∈ l, z_oke' (za_T xs) za_P za_M ⟨"LyndonBenchLaw", "law", "([I)Z"⟩ code q) : ∀ q ∈ zc_328_13 ++ l, z_oke' (za_T xs) za_P za_M ⟨"LyndonBenchLaw", "law", "([I)Z"⟩ code q :=
  zgd_y zdd_328_13 <|
  zgd_e (fun d => zo_l d rfl rfl trivial) <|
  zgd_e (fun d => zo_v d rfl ⟨rfl, zd_262, zw_1690, Nat.le_of_ble_eq_true rfl, ⟨_, Or.inl ⟨Nat.le_of_ble_eq_true rfl, rfl⟩, rfl⟩, zw_1689, zw_1691⟩) <|
  zgd_e (fun d => zo_l d rfl rfl trivial) <|
  zgd_e (fun d => zo_l d rfl rfl (by show ((1075 : Nat) : Int) + (516) = ((1591 : Nat) : Int); decide)) <|
  zgd_e (fun d => zo_l d rfl rfl trivial) <|
  zgd_e (fun d => zo_l d rfl rfl trivial) <|
  zgd_e (fun d => zo_l d rfl rfl trivial) <|
  zgd_e (fun d => zo_l d rfl rfl trivial) <|
  zgd_e (fun d => zo_l d rfl rfl trivial) <|
  zgd_e (fun d => zo_h d rfl rfl) <|
  zgd_e (fun d => zo_l d rfl rfl trivial) <|
  zgd_e (fun d => zo_s d rfl ⟨zd_320, zw_1090, zw_1091⟩) <|
  zgd_e (fun d => zo_l d rfl rfl trivial) <|
  zgd_e (fun d => zo_l d rfl rfl trivial) <|
  zgd_e (fun d => zo_l d rfl rfl trivial) <|
  zgd_e (fun d => zo_l d rfl rfl trivial) <|
  zgd_e (fun d => zo_l d rfl rfl trivial) <|
  zgd_e (fun d => zo_l d rfl rfl trivial) <|
  zgd_e (fun d => zo_h d rfl rfl) <|
  zgd_e (fun d => zo_v d rfl ⟨rfl, zd_263, zw_1694, Nat.le_of_ble_eq_true rfl, ⟨_, Or.inl ⟨Nat.le_of_ble_eq_true rfl, rfl⟩, rfl⟩, zw_1693, zw_1695⟩) <|
  zgd_e (fun d => zo_l d rfl rfl trivial) <|
  zgd_e (fun d => zo_l d rfl rfl (by show ((1103 : Nat) : Int) + (488) = ((1591 : Nat) : Int); decide)) <|
  zgd_e (fun d => zo_l d rfl rfl trivial) <|
  zgd_e (fun d => zo_l d rfl rfl trivial) <|
  zgd_e (fun d => zo_l d rfl rfl trivial) <|
  zgd_e (fun d => zo_l d rfl rfl trivial) <|
  zgd_e (fun d => zo_l d rfl rfl trivial) <|
  zgd_e (fun d => zo_h d rfl rfl) <|
  zgd_e (fun d => zo_l d rfl rfl trivial) <|
  zgd_e (fun d => zo_s d rfl ⟨zd_321, zw_1098, zw_1099⟩) <|
  zgd_e (fun d => zo_l d rfl rfl trivial) <|
  zgd_e (fun d => zo_l d rfl rfl trivial) <|
  zgd_e (fun d => zo_l d rfl rfl trivial) <|
  zgd_e (fun d => zo_l d rfl rfl trivial) <|
  zgd_e (fun d => zo_l d rfl rfl trivial) <|
  zgd_e (fun d => zo_l d rfl rfl trivial) <|
  zgd_e (fun d => zo_h d rfl rfl) <|
  zgd_e (fun d => zo_v d rfl ⟨rfl, zd_264, zw_1698, Nat.le_of_ble_eq_true rfl, ⟨_, Or.inl ⟨Nat.le_of_ble_eq_true rfl, rfl⟩, rfl⟩, zw_1697, zw_1699⟩) <|
  zgd_e (fun d => zo_l d rfl rfl trivial) <|
  zgd_e (fun d => zo_l d rfl rfl (by show ((1131 : Nat) : Int) + (460) = ((1591 : Nat) : Int); decide)) <|
  zgd_m h
theorem zdd_328_14 : ∀ q ∈ zc_328_14, decode code q.1 = Except.ok (q.2.1, q.2.2.1) := zdd_of (by decide +kernel)
theorem zk_328_14 (xs : List Int32) {l : List zE} (h : ∀ q ∈ l, z_oke' (za_T xs) za_P za_M ⟨"LyndonBenchLaw", "law", "([I)Z"⟩ code q) : ∀ q ∈ zc_328_14 ++ l, z_oke' (za_T xs) za_P za_M ⟨"LyndonBenchLaw", "law", "([I)Z"⟩ code q :=
  zgd_y zdd_328_14 <|
  zgd_e (fun d => zo_l d rfl rfl trivial) <|
  zgd_e (fun d => zo_l d rfl rfl trivial) <|
  zgd_e (fun d => zo_l d rfl rfl trivial) <|
  zgd_e (fun d => zo_l d rfl rfl trivial) <|
  zgd_e (fun d => zo_l d rfl rfl trivial) <|
  zgd_e (fun d => zo_h d rfl rfl) <|
  zgd_e (fun d => zo_l d rfl rfl trivial) <|
  zgd_e (fun d => zo_s d rfl ⟨zd_322, zw_1105, zw_1106⟩) <|
  zgd_e (fun d => zo_l d rfl rfl trivial) <|
  zgd_e (fun d => zo_l d rfl rfl trivial) <|
  zgd_e (fun d => zo_l d rfl rfl trivial) <|
  zgd_e (fun d => zo_l d rfl rfl trivial) <|
  zgd_e (fun d => zo_l d rfl rfl trivial) <|
  zgd_e (fun d => zo_l d rfl rfl trivial) <|
  zgd_e (fun d => zo_h d rfl rfl) <|
  zgd_e (fun d => zo_v d rfl ⟨rfl, zd_266, zw_1702, Nat.le_of_ble_eq_true rfl, ⟨_, Or.inl ⟨Nat.le_of_ble_eq_true rfl, rfl⟩, rfl⟩, zw_1701, zw_1703⟩) <|
  zgd_e (fun d => zo_l d rfl rfl trivial) <|
  zgd_e (fun d => zo_l d rfl rfl (by show ((1159 : Nat) : Int) + (432) = ((1591 : Nat) : Int); decide)) <|
  zgd_e (fun d => zo_l d rfl rfl trivial) <|
  zgd_e (fun d => zo_v d rfl ⟨rfl, zd_112, zw_670, Nat.le_of_ble_eq_true rfl, ⟨_, Or.inl ⟨Nat.le_of_ble_eq_true rfl, rfl⟩, rfl⟩, zw_669, zw_671⟩) <|
  zgd_e (fun d => zo_l d rfl rfl trivial) <|
  zgd_e (fun d => zo_l d rfl rfl trivial) <|
  zgd_e (fun d => zo_v d rfl ⟨rfl, zd_267, zw_1718, Nat.le_of_ble_eq_true rfl, ⟨_, Or.inl ⟨Nat.le_of_ble_eq_true rfl, rfl⟩, rfl⟩, zw_1717, zw_1719⟩) <|
  zgd_e (fun d => zo_l d rfl rfl trivial) <|
  zgd_e (fun d => zo_l d rfl rfl (by show ((1172 : Nat) : Int) + (419) = ((1591 : Nat) : Int); decide)) <|
  zgd_e (fun d => zo_l d rfl rfl trivial) <|
  zgd_e (fun d => zo_v d rfl ⟨rfl, zd_113, zw_675, Nat.le_of_ble_eq_true rfl, ⟨_, Or.inl ⟨Nat.le_of_ble_eq_true rfl, rfl⟩, rfl⟩, zw_674, zw_676⟩) <|
  zgd_e (fun d => zo_l d rfl rfl trivial) <|
  zgd_e (fun d => zo_l d rfl rfl trivial) <|
  zgd_e (fun d => zo_v d rfl ⟨rfl, zd_268, zw_1722, Nat.le_of_ble_eq_true rfl, ⟨_, Or.inl ⟨Nat.le_of_ble_eq_true rfl, rfl⟩, rfl⟩, zw_1721, zw_1723⟩) <|
  zgd_e (fun d => zo_l d rfl rfl trivial) <|
  zgd_e (fun d => zo_l d rfl rfl (by show ((1185 : Nat) : Int) + (406) = ((1591 : Nat) : Int); decide)) <|
  zgd_e (fun d => zo_l d rfl rfl trivial) <|
  zgd_e (fun d => zo_v d rfl ⟨rfl, zd_114, zw_692, Nat.le_of_ble_eq_true rfl, ⟨_, Or.inl ⟨Nat.le_of_ble_eq_true rfl, rfl⟩, rfl⟩, zw_691, zw_693⟩) <|
  zgd_e (fun d => zo_l d rfl rfl trivial) <|
  zgd_e (fun d => zo_l d rfl rfl trivial) <|
  zgd_e (fun d => zo_v d rfl ⟨rfl, zd_269, zw_1726, Nat.le_of_ble_eq_true rfl, ⟨_, Or.inl ⟨Nat.le_of_ble_eq_true rfl, rfl⟩, rfl⟩, zw_1725, zw_1727⟩) <|
  zgd_e (fun d => zo_l d rfl rfl trivial) <|
  zgd_e (fun d => zo_l d rfl rfl (by show ((1198 : Nat) : Int) + (393) = ((1591 : Nat) : Int); decide)) <|
  zgd_e (fun d => zo_l d rfl rfl trivial) <|
  zgd_m h
theorem zdd_328_15 : ∀ q ∈ zc_328_15, decode code q.1 = Except.ok (q.2.1, q.2.2.1) := zdd_of (by decide +kernel)
theorem zk_328_15 (xs : List Int32) {l : List zE} (h : ∀ q ∈ l, z_oke' (za_T xs) za_P za_M ⟨"LyndonBenchLaw", "law", "([I)Z"⟩ code q) : ∀ q ∈ zc_328_15 ++ l, z_oke' (za_T xs) za_P za_M ⟨"LyndonBenchLaw", "law", "([I)Z"⟩ code q :=
  zgd_y zdd_328_15 <|
  zgd_e (fun d => zo_v d rfl ⟨rfl, zd_115, zw_696, Nat.le_of_ble_eq_true rfl, ⟨_, Or.inl ⟨Nat.le_of_ble_eq_true rfl, rfl⟩, rfl⟩, zw_695, zw_697⟩) <|
  zgd_e (fun d => zo_l d rfl rfl trivial) <|
  zgd_e (fun d => zo_l d rfl rfl trivial) <|
  zgd_e (fun d => zo_v d rfl ⟨rfl, zd_270, zw_1730, Nat.le_of_ble_eq_true rfl, ⟨_, Or.inl ⟨Nat.le_of_ble_eq_true rfl, rfl⟩, rfl⟩, zw_1729, zw_1731⟩) <|
  zgd_e (fun d => zo_l d rfl rfl trivial) <|
  zgd_e (fun d => zo_l d rfl rfl (by show ((1211 : Nat) : Int) + (380) = ((1591 : Nat) : Int); decide)) <|
  zgd_e (fun d => zo_l d rfl rfl trivial) <|
  zgd_e (fun d => zo_v d rfl ⟨rfl, zd_116, zw_704, Nat.le_of_ble_eq_true rfl, ⟨_, Or.inl ⟨Nat.le_of_ble_eq_true rfl, rfl⟩, rfl⟩, zw_703, zw_705⟩) <|
  zgd_e (fun d => zo_l d rfl rfl trivial) <|
  zgd_e (fun d => zo_l d rfl rfl trivial) <|
  zgd_e (fun d => zo_v d rfl ⟨rfl, zd_271, zw_1738, Nat.le_of_ble_eq_true rfl, ⟨_, Or.inl ⟨Nat.le_of_ble_eq_true rfl, rfl⟩, rfl⟩, zw_1737, zw_1739⟩) <|
  zgd_e (fun d => zo_l d rfl rfl trivial) <|
  zgd_e (fun d => zo_l d rfl rfl (by show ((1224 : Nat) : Int) + (367) = ((1591 : Nat) : Int); decide)) <|
  zgd_e (fun d => zo_l d rfl rfl trivial) <|
  zgd_e (fun d => zo_v d rfl ⟨rfl, zd_117, zw_709, Nat.le_of_ble_eq_true rfl, ⟨_, Or.inl ⟨Nat.le_of_ble_eq_true rfl, rfl⟩, rfl⟩, zw_708, zw_710⟩) <|
  zgd_e (fun d => zo_l d rfl rfl trivial) <|
  zgd_e (fun d => zo_l d rfl rfl trivial) <|
  zgd_e (fun d => zo_v d rfl ⟨rfl, zd_272, zw_1742, Nat.le_of_ble_eq_true rfl, ⟨_, Or.inl ⟨Nat.le_of_ble_eq_true rfl, rfl⟩, rfl⟩, zw_1741, zw_1743⟩) <|
  zgd_e (fun d => zo_l d rfl rfl trivial) <|
  zgd_e (fun d => zo_l d rfl rfl (by show ((1237 : Nat) : Int) + (354) = ((1591 : Nat) : Int); decide)) <|
  zgd_e (fun d => zo_l d rfl rfl trivial) <|
  zgd_e (fun d => zo_v d rfl ⟨rfl, zd_118, zw_713, Nat.le_of_ble_eq_true rfl, ⟨_, Or.inl ⟨Nat.le_of_ble_eq_true rfl, rfl⟩, rfl⟩, zw_712, zw_714⟩) <|
  zgd_e (fun d => zo_l d rfl rfl trivial) <|
  zgd_e (fun d => zo_l d rfl rfl trivial) <|
  zgd_e (fun d => zo_v d rfl ⟨rfl, zd_273, zw_1746, Nat.le_of_ble_eq_true rfl, ⟨_, Or.inl ⟨Nat.le_of_ble_eq_true rfl, rfl⟩, rfl⟩, zw_1745, zw_1747⟩) <|
  zgd_e (fun d => zo_l d rfl rfl trivial) <|
  zgd_e (fun d => zo_l d rfl rfl (by show ((1250 : Nat) : Int) + (341) = ((1591 : Nat) : Int); decide)) <|
  zgd_e (fun d => zo_l d rfl rfl trivial) <|
  zgd_e (fun d => zo_v d rfl ⟨rfl, zd_119, zw_717, Nat.le_of_ble_eq_true rfl, ⟨_, Or.inl ⟨Nat.le_of_ble_eq_true rfl, rfl⟩, rfl⟩, zw_716, zw_718⟩) <|
  zgd_e (fun d => zo_l d rfl rfl trivial) <|
  zgd_e (fun d => zo_l d rfl rfl trivial) <|
  zgd_e (fun d => zo_v d rfl ⟨rfl, zd_274, zw_1754, Nat.le_of_ble_eq_true rfl, ⟨_, Or.inl ⟨Nat.le_of_ble_eq_true rfl, rfl⟩, rfl⟩, zw_1753, zw_1755⟩) <|
  zgd_e (fun d => zo_l d rfl rfl trivial) <|
  zgd_e (fun d => zo_l d rfl rfl (by show ((1263 : Nat) : Int) + (328) = ((1591 : Nat) : Int); decide)) <|
  zgd_e (fun d => zo_l d rfl rfl trivial) <|
  zgd_e (fun d => zo_v d rfl ⟨rfl, zd_120, zw_722, Nat.le_of_ble_eq_true rfl, ⟨_, Or.inl ⟨Nat.le_of_ble_eq_true rfl, rfl⟩, rfl⟩, zw_721, zw_723⟩) <|
  zgd_e (fun d => zo_l d rfl rfl trivial) <|
  zgd_e (fun d => zo_l d rfl rfl trivial) <|
  zgd_e (fun d => zo_v d rfl ⟨rfl, zd_275, zw_1762, Nat.le_of_ble_eq_true rfl, ⟨_, Or.inl ⟨Nat.le_of_ble_eq_true rfl, rfl⟩, rfl⟩, zw_1761, zw_1763⟩) <|
  zgd_e (fun d => zo_l d rfl rfl trivial) <|
  zgd_m h
theorem zdd_328_16 : ∀ q ∈ zc_328_16, decode code q.1 = Except.ok (q.2.1, q.2.2.1) := zdd_of (by decide +kernel)
theorem zk_328_16 (xs : List Int32) {l : List zE} (h : ∀ q ∈ l, z_oke' (za_T xs) za_P za_M ⟨"LyndonBenchLaw", "law", "([I)Z"⟩ code q) : ∀ q ∈ zc_328_16 ++ l, z_oke' (za_T xs) za_P za_M ⟨"LyndonBenchLaw", "law", "([I)Z"⟩ code q :=
  zgd_y zdd_328_16 <|
  zgd_e (fun d => zo_l d rfl rfl (by show ((1276 : Nat) : Int) + (315) = ((1591 : Nat) : Int); decide)) <|
  zgd_e (fun d => zo_l d rfl rfl trivial) <|
  zgd_e (fun d => zo_v d rfl ⟨rfl, zd_121, zw_726, Nat.le_of_ble_eq_true rfl, ⟨_, Or.inl ⟨Nat.le_of_ble_eq_true rfl, rfl⟩, rfl⟩, zw_725, zw_727⟩) <|
  zgd_e (fun d => zo_l d rfl rfl trivial) <|
  zgd_e (fun d => zo_l d rfl rfl trivial) <|
  zgd_e (fun d => zo_v d rfl ⟨rfl, zd_276, zw_1766, Nat.le_of_ble_eq_true rfl, ⟨_, Or.inl ⟨Nat.le_of_ble_eq_true rfl, rfl⟩, rfl⟩, zw_1765, zw_1767⟩) <|
  zgd_e (fun d => zo_l d rfl rfl trivial) <|
  zgd_e (fun d => zo_l d rfl rfl (by show ((1289 : Nat) : Int) + (302) = ((1591 : Nat) : Int); decide)) <|
  zgd_e (fun d => zo_l d rfl rfl trivial) <|
  zgd_e (fun d => zo_v d rfl ⟨rfl, zd_122, zw_734, Nat.le_of_ble_eq_true rfl, ⟨_, Or.inl ⟨Nat.le_of_ble_eq_true rfl, rfl⟩, rfl⟩, zw_733, zw_735⟩) <|
  zgd_e (fun d => zo_l d rfl rfl trivial) <|
  zgd_e (fun d => zo_l d rfl rfl trivial) <|
  zgd_e (fun d => zo_v d rfl ⟨rfl, zd_277, zw_1774, Nat.le_of_ble_eq_true rfl, ⟨_, Or.inl ⟨Nat.le_of_ble_eq_true rfl, rfl⟩, rfl⟩, zw_1773, zw_1775⟩) <|
  zgd_e (fun d => zo_l d rfl rfl trivial) <|
  zgd_e (fun d => zo_l d rfl rfl (by show ((1302 : Nat) : Int) + (289) = ((1591 : Nat) : Int); decide)) <|
  zgd_e (fun d => zo_l d rfl rfl trivial) <|
  zgd_e (fun d => zo_l d rfl rfl trivial) <|
  zgd_e (fun d => zo_l d rfl rfl trivial) <|
  zgd_e (fun d => zo_l d rfl rfl trivial) <|
  zgd_e (fun d => zo_l d rfl rfl trivial) <|
  zgd_e (fun d => zo_h d rfl rfl) <|
  zgd_e (fun d => zo_l d rfl rfl trivial) <|
  zgd_e (fun d => zo_s d rfl ⟨zd_323, zw_1124, zw_1125⟩) <|
  zgd_e (fun d => zo_l d rfl rfl trivial) <|
  zgd_e (fun d => zo_l d rfl rfl trivial) <|
  zgd_e (fun d => zo_l d rfl rfl trivial) <|
  zgd_e (fun d => zo_l d rfl rfl trivial) <|
  zgd_e (fun d => zo_l d rfl rfl trivial) <|
  zgd_e (fun d => zo_l d rfl rfl trivial) <|
  zgd_e (fun d => zo_h d rfl rfl) <|
  zgd_e (fun d => zo_v d rfl ⟨rfl, zd_278, zw_1778, Nat.le_of_ble_eq_true rfl, ⟨_, Or.inl ⟨Nat.le_of_ble_eq_true rfl, rfl⟩, rfl⟩, zw_1777, zw_1779⟩) <|
  zgd_e (fun d => zo_l d rfl rfl trivial) <|
  zgd_e (fun d => zo_l d rfl rfl (by show ((1330 : Nat) : Int) + (261) = ((1591 : Nat) : Int); decide)) <|
  zgd_e (fun d => zo_l d rfl rfl trivial) <|
  zgd_e (fun d => zo_l d rfl rfl trivial) <|
  zgd_e (fun d => zo_l d rfl rfl trivial) <|
  zgd_e (fun d => zo_l d rfl rfl trivial) <|
  zgd_e (fun d => zo_l d rfl rfl trivial) <|
  zgd_e (fun d => zo_h d rfl rfl) <|
  zgd_e (fun d => zo_l d rfl rfl trivial) <|
  zgd_m h
theorem zdd_328_17 : ∀ q ∈ zc_328_17, decode code q.1 = Except.ok (q.2.1, q.2.2.1) := zdd_of (by decide +kernel)
theorem zk_328_17 (xs : List Int32) {l : List zE} (h : ∀ q ∈ l, z_oke' (za_T xs) za_P za_M ⟨"LyndonBenchLaw", "law", "([I)Z"⟩ code q) : ∀ q ∈ zc_328_17 ++ l, z_oke' (za_T xs) za_P za_M ⟨"LyndonBenchLaw", "law", "([I)Z"⟩ code q :=
  zgd_y zdd_328_17 <|
  zgd_e (fun d => zo_s d rfl ⟨zd_324, zw_1136, zw_1137⟩) <|
  zgd_e (fun d => zo_l d rfl rfl trivial) <|
  zgd_e (fun d => zo_l d rfl rfl trivial) <|
  zgd_e (fun d => zo_l d rfl rfl trivial) <|
  zgd_e (fun d => zo_l d rfl rfl trivial) <|
  zgd_e (fun d => zo_l d rfl rfl trivial) <|
  zgd_e (fun d => zo_l d rfl rfl trivial) <|
  zgd_e (fun d => zo_h d rfl rfl) <|
  zgd_e (fun d => zo_v d rfl ⟨rfl, zd_279, zw_1786, Nat.le_of_ble_eq_true rfl, ⟨_, Or.inl ⟨Nat.le_of_ble_eq_true rfl, rfl⟩, rfl⟩, zw_1785, zw_1787⟩) <|
  zgd_e (fun d => zo_l d rfl rfl trivial) <|
  zgd_e (fun d => zo_l d rfl rfl (by show ((1358 : Nat) : Int) + (233) = ((1591 : Nat) : Int); decide)) <|
  zgd_e (fun d => zo_l d rfl rfl trivial) <|
  zgd_e (fun d => zo_l d rfl rfl trivial) <|
  zgd_e (fun d => zo_l d rfl rfl trivial) <|
  zgd_e (fun d => zo_l d rfl rfl trivial) <|
  zgd_e (fun d => zo_l d rfl rfl trivial) <|
  zgd_e (fun d => zo_h d rfl rfl) <|
  zgd_e (fun d => zo_l d rfl rfl trivial) <|
  zgd_e (fun d => zo_l d rfl rfl trivial) <|
  zgd_e (fun d => zo_l d rfl rfl trivial) <|
  zgd_e (fun d => zo_l d rfl rfl trivial) <|
  zgd_e (fun d => zo_h d rfl rfl) <|
  zgd_e (fun d => zo_l d rfl rfl trivial) <|
  zgd_e (fun d => zo_s d rfl ⟨zd_325, zw_1143, zw_1144⟩) <|
  zgd_e (fun d => zo_l d rfl rfl trivial) <|
  zgd_e (fun d => zo_l d rfl rfl trivial) <|
  zgd_e (fun d => zo_l d rfl rfl trivial) <|
  zgd_e (fun d => zo_l d rfl rfl trivial) <|
  zgd_e (fun d => zo_l d rfl rfl trivial) <|
  zgd_e (fun d => zo_l d rfl rfl trivial) <|
  zgd_e (fun d => zo_h d rfl rfl) <|
  zgd_e (fun d => zo_l d rfl rfl trivial) <|
  zgd_e (fun d => zo_l d rfl rfl trivial) <|
  zgd_e (fun d => zo_l d rfl rfl trivial) <|
  zgd_e (fun d => zo_l d rfl rfl trivial) <|
  zgd_e (fun d => zo_h d rfl rfl) <|
  zgd_e (fun d => zo_v d rfl ⟨rfl, zd_280, zw_1794, Nat.le_of_ble_eq_true rfl, ⟨_, Or.inl ⟨Nat.le_of_ble_eq_true rfl, rfl⟩, rfl⟩, zw_1793, zw_1795⟩) <|
  zgd_e (fun d => zo_l d rfl rfl trivial) <|
  zgd_e (fun d => zo_l d rfl rfl (by show ((1398 : Nat) : Int) + (193) = ((1591 : Nat) : Int); decide)) <|
  zgd_e (fun d => zo_l d rfl rfl trivial) <|
  zgd_m h
theorem zdd_328_18 : ∀ q ∈ zc_328_18, decode code q.1 = Except.ok (q.2.1, q.2.2.1) := zdd_of (by decide +kernel)
theorem zk_328_18 (xs : List Int32) {l : List zE} (h : ∀ q ∈ l, z_oke' (za_T xs) za_P za_M ⟨"LyndonBenchLaw", "law", "([I)Z"⟩ code q) : ∀ q ∈ zc_328_18 ++ l, z_oke' (za_T xs) za_P za_M ⟨"LyndonBenchLaw", "law", "([I)Z"⟩ code q :=
  zgd_y zdd_328_18 <|
  zgd_e (fun d => zo_v d rfl ⟨rfl, zd_126, zw_738, Nat.le_of_ble_eq_true rfl, ⟨_, Or.inl ⟨Nat.le_of_ble_eq_true rfl, rfl⟩, rfl⟩, zw_737, zw_739⟩) <|
  zgd_e (fun d => zo_l d rfl rfl trivial) <|
  zgd_e (fun d => zo_l d rfl rfl trivial) <|
  zgd_e (fun d => zo_v d rfl ⟨rfl, zd_281, zw_1798, Nat.le_of_ble_eq_true rfl, ⟨_, Or.inl ⟨Nat.le_of_ble_eq_true rfl, rfl⟩, rfl⟩, zw_1797, zw_1799⟩) <|
  zgd_e (fun d => zo_l d rfl rfl trivial) <|
  zgd_e (fun d => zo_l d rfl rfl (by show ((1411 : Nat) : Int) + (180) = ((1591 : Nat) : Int); decide)) <|
  zgd_e (fun d => zo_l d rfl rfl trivial) <|
  zgd_e (fun d => zo_l d rfl rfl trivial) <|
  zgd_e (fun d => zo_l d rfl rfl trivial) <|
  zgd_e (fun d => zo_l d rfl rfl trivial) <|
  zgd_e (fun d => zo_l d rfl rfl trivial) <|
  zgd_e (fun d => zo_h d rfl rfl) <|
  zgd_e (fun d => zo_l d rfl rfl trivial) <|
  zgd_e (fun d => zo_s d rfl ⟨zd_326, zw_1156, zw_1157⟩) <|
  zgd_e (fun d => zo_l d rfl rfl trivial) <|
  zgd_e (fun d => zo_l d rfl rfl trivial) <|
  zgd_e (fun d => zo_l d rfl rfl trivial) <|
  zgd_e (fun d => zo_l d rfl rfl trivial) <|
  zgd_e (fun d => zo_l d rfl rfl trivial) <|
  zgd_e (fun d => zo_l d rfl rfl trivial) <|
  zgd_e (fun d => zo_h d rfl rfl) <|
  zgd_e (fun d => zo_v d rfl ⟨rfl, zd_282, zw_1802, Nat.le_of_ble_eq_true rfl, ⟨_, Or.inl ⟨Nat.le_of_ble_eq_true rfl, rfl⟩, rfl⟩, zw_1801, zw_1803⟩) <|
  zgd_e (fun d => zo_l d rfl rfl trivial) <|
  zgd_e (fun d => zo_l d rfl rfl (by show ((1439 : Nat) : Int) + (152) = ((1591 : Nat) : Int); decide)) <|
  zgd_e (fun d => zo_l d rfl rfl trivial) <|
  zgd_e (fun d => zo_l d rfl rfl trivial) <|
  zgd_e (fun d => zo_l d rfl rfl trivial) <|
  zgd_e (fun d => zo_l d rfl rfl trivial) <|
  zgd_e (fun d => zo_l d rfl rfl trivial) <|
  zgd_e (fun d => zo_h d rfl rfl) <|
  zgd_e (fun d => zo_l d rfl rfl trivial) <|
  zgd_e (fun d => zo_l d rfl rfl trivial) <|
  zgd_e (fun d => zo_l d rfl rfl trivial) <|
  zgd_e (fun d => zo_l d rfl rfl trivial) <|
  zgd_e (fun d => zo_h d rfl rfl) <|
  zgd_e (fun d => zo_l d rfl rfl trivial) <|
  zgd_e (fun d => zo_s d rfl ⟨zd_327, zw_1163, zw_1164⟩) <|
  zgd_e (fun d => zo_l d rfl rfl trivial) <|
  zgd_e (fun d => zo_l d rfl rfl trivial) <|
  zgd_e (fun d => zo_l d rfl rfl trivial) <|
  zgd_m h
theorem zdd_328_19 : ∀ q ∈ zc_328_19, decode code q.1 = Except.ok (q.2.1, q.2.2.1) := zdd_of (by decide +kernel)
theorem zk_328_19 (xs : List Int32) {l : List zE} (h : ∀ q ∈ l, z_oke' (za_T xs) za_P za_M ⟨"LyndonBenchLaw", "law", "([I)Z"⟩ code q) : ∀ q ∈ zc_328_19 ++ l, z_oke' (za_T xs) za_P za_M ⟨"LyndonBenchLaw", "law", "([I)Z"⟩ code q :=
  zgd_y zdd_328_19 <|
  zgd_e (fun d => zo_l d rfl rfl trivial) <|
  zgd_e (fun d => zo_l d rfl rfl trivial) <|
  zgd_e (fun d => zo_l d rfl rfl trivial) <|
  zgd_e (fun d => zo_h d rfl rfl) <|
  zgd_e (fun d => zo_l d rfl rfl trivial) <|
  zgd_e (fun d => zo_l d rfl rfl trivial) <|
  zgd_e (fun d => zo_l d rfl rfl trivial) <|
  zgd_e (fun d => zo_l d rfl rfl trivial) <|
  zgd_e (fun d => zo_h d rfl rfl) <|
  zgd_e (fun d => zo_v d rfl ⟨rfl, zd_283, zw_1806, Nat.le_of_ble_eq_true rfl, ⟨_, Or.inl ⟨Nat.le_of_ble_eq_true rfl, rfl⟩, rfl⟩, zw_1805, zw_1807⟩) <|
  zgd_e (fun d => zo_l d rfl rfl trivial) <|
  zgd_e (fun d => zo_l d rfl rfl (by show ((1479 : Nat) : Int) + (112) = ((1591 : Nat) : Int); decide)) <|
  zgd_e (fun d => zo_l d rfl rfl trivial) <|
  zgd_e (fun d => zo_v d rfl ⟨rfl, zd_129, zw_742, Nat.le_of_ble_eq_true rfl, ⟨_, Or.inl ⟨Nat.le_of_ble_eq_true rfl, rfl⟩, rfl⟩, zw_741, zw_743⟩) <|
  zgd_e (fun d => zo_l d rfl rfl trivial) <|
  zgd_e (fun d => zo_l d rfl rfl trivial) <|
  zgd_e (fun d => zo_v d rfl ⟨rfl, zd_284, zw_1810, Nat.le_of_ble_eq_true rfl, ⟨_, Or.inl ⟨Nat.le_of_ble_eq_true rfl, rfl⟩, rfl⟩, zw_1809, zw_1811⟩) <|
  zgd_e (fun d => zo_l d rfl rfl trivial) <|
  zgd_e (fun d => zo_l d rfl rfl (by show ((1492 : Nat) : Int) + (99) = ((1591 : Nat) : Int); decide)) <|
  zgd_e (fun d => zo_l d rfl rfl trivial) <|
  zgd_e (fun d => zo_v d rfl ⟨rfl, zd_130, zw_748, Nat.le_of_ble_eq_true rfl, ⟨_, Or.inl ⟨Nat.le_of_ble_eq_true rfl, rfl⟩, rfl⟩, zw_747, zw_749⟩) <|
  zgd_e (fun d => zo_l d rfl rfl trivial) <|
  zgd_e (fun d => zo_l d rfl rfl trivial) <|
  zgd_e (fun d => zo_v d rfl ⟨rfl, zd_285, zw_1814, Nat.le_of_ble_eq_true rfl, ⟨_, Or.inl ⟨Nat.le_of_ble_eq_true rfl, rfl⟩, rfl⟩, zw_1813, zw_1815⟩) <|
  zgd_e (fun d => zo_l d rfl rfl trivial) <|
  zgd_e (fun d => zo_l d rfl rfl (by show ((1505 : Nat) : Int) + (86) = ((1591 : Nat) : Int); decide)) <|
  zgd_e (fun d => zo_l d rfl rfl trivial) <|
  zgd_e (fun d => zo_v d rfl ⟨rfl, zd_131, zw_753, Nat.le_of_ble_eq_true rfl, ⟨_, Or.inl ⟨Nat.le_of_ble_eq_true rfl, rfl⟩, rfl⟩, zw_752, zw_754⟩) <|
  zgd_e (fun d => zo_l d rfl rfl trivial) <|
  zgd_e (fun d => zo_l d rfl rfl trivial) <|
  zgd_e (fun d => zo_v d rfl ⟨rfl, zd_286, zw_1818, Nat.le_of_ble_eq_true rfl, ⟨_, Or.inl ⟨Nat.le_of_ble_eq_true rfl, rfl⟩, rfl⟩, zw_1817, zw_1819⟩) <|
  zgd_e (fun d => zo_l d rfl rfl trivial) <|
  zgd_e (fun d => zo_l d rfl rfl (by show ((1520 : Nat) : Int) + (71) = ((1591 : Nat) : Int); decide)) <|
  zgd_e (fun d => zo_l d rfl rfl trivial) <|
  zgd_e (fun d => zo_v d rfl ⟨rfl, zd_132, zw_757, Nat.le_of_ble_eq_true rfl, ⟨_, Or.inl ⟨Nat.le_of_ble_eq_true rfl, rfl⟩, rfl⟩, zw_756, zw_758⟩) <|
  zgd_e (fun d => zo_l d rfl rfl trivial) <|
  zgd_e (fun d => zo_l d rfl rfl trivial) <|
  zgd_e (fun d => zo_l d rfl rfl trivial) <|
  zgd_e (fun d => zo_v d rfl ⟨rfl, zd_287, zw_1822, Nat.le_of_ble_eq_true rfl, ⟨_, Or.inl ⟨Nat.le_of_ble_eq_true rfl, rfl⟩, rfl⟩, zw_1821, zw_1823⟩) <|
  zgd_e (fun d => zo_l d rfl rfl trivial) <|
  zgd_m h
theorem zdd_328_20 : ∀ q ∈ zc_328_20, decode code q.1 = Except.ok (q.2.1, q.2.2.1) := zdd_of (by decide +kernel)
theorem zk_328_20 (xs : List Int32) {l : List zE} (h : ∀ q ∈ l, z_oke' (za_T xs) za_P za_M ⟨"LyndonBenchLaw", "law", "([I)Z"⟩ code q) : ∀ q ∈ zc_328_20 ++ l, z_oke' (za_T xs) za_P za_M ⟨"LyndonBenchLaw", "law", "([I)Z"⟩ code q :=
  zgd_y zdd_328_20 <|
  zgd_e (fun d => zo_l d rfl rfl trivial) <|
  zgd_e (fun d => zo_l d rfl rfl (by show ((1537 : Nat) : Int) + (54) = ((1591 : Nat) : Int); decide)) <|
  zgd_e (fun d => zo_l d rfl rfl trivial) <|
  zgd_e (fun d => zo_v d rfl ⟨rfl, zd_133, zw_771, Nat.le_of_ble_eq_true rfl, ⟨_, Or.inl ⟨Nat.le_of_ble_eq_true rfl, rfl⟩, rfl⟩, zw_770, zw_772⟩) <|
  zgd_e (fun d => zo_l d rfl rfl trivial) <|
  zgd_e (fun d => zo_l d rfl rfl trivial) <|
  zgd_e (fun d => zo_v d rfl ⟨rfl, zd_288, zw_1827, Nat.le_of_ble_eq_true rfl, ⟨_, Or.inl ⟨Nat.le_of_ble_eq_true rfl, rfl⟩, rfl⟩, zw_1826, zw_1828⟩) <|
  zgd_e (fun d => zo_l d rfl rfl trivial) <|
  zgd_e (fun d => zo_l d rfl rfl (by show ((1550 : Nat) : Int) + (41) = ((1591 : Nat) : Int); decide)) <|
  zgd_e (fun d => zo_l d rfl rfl trivial) <|
  zgd_e (fun d => zo_v d rfl ⟨rfl, zd_134, zw_779, Nat.le_of_ble_eq_true rfl, ⟨_, Or.inl ⟨Nat.le_of_ble_eq_true rfl, rfl⟩, rfl⟩, zw_778, zw_780⟩) <|
  zgd_e (fun d => zo_l d rfl rfl trivial) <|
  zgd_e (fun d => zo_l d rfl rfl trivial) <|
  zgd_e (fun d => zo_v d rfl ⟨rfl, zd_292, zw_1831, Nat.le_of_ble_eq_true rfl, ⟨_, Or.inl ⟨Nat.le_of_ble_eq_true rfl, rfl⟩, rfl⟩, zw_1830, zw_1832⟩) <|
  zgd_e (fun d => zo_l d rfl rfl trivial) <|
  zgd_e (fun d => zo_l d rfl rfl (by show ((1563 : Nat) : Int) + (28) = ((1591 : Nat) : Int); decide)) <|
  zgd_e (fun d => zo_l d rfl rfl trivial) <|
  zgd_e (fun d => zo_l d rfl rfl trivial) <|
  zgd_e (fun d => zo_l d rfl rfl trivial) <|
  zgd_e (fun d => zo_l d rfl rfl trivial) <|
  zgd_e (fun d => zo_l d rfl rfl trivial) <|
  zgd_e (fun d => zo_h d rfl rfl) <|
  zgd_e (fun d => zo_v d rfl ⟨rfl, zd_135, zw_793, Nat.le_of_ble_eq_true rfl, ⟨_, Or.inl ⟨Nat.le_of_ble_eq_true rfl, rfl⟩, rfl⟩, zw_792, zw_794⟩) <|
  zgd_e (fun d => zo_l d rfl rfl trivial) <|
  zgd_e (fun d => zo_l d rfl rfl trivial) <|
  zgd_e (fun d => zo_l d rfl rfl trivial) <|
  zgd_e (fun d => zo_l d rfl rfl trivial) <|
  zgd_e (fun d => zo_l d rfl rfl trivial) <|
  zgd_e (fun d => zo_l d rfl rfl trivial) <|
  zgd_e (fun d => zo_h d rfl rfl) <|
  zgd_e (fun d => zo_v d rfl ⟨rfl, zd_293, zw_1847, Nat.le_of_ble_eq_true rfl, ⟨_, Or.inl ⟨Nat.le_of_ble_eq_true rfl, rfl⟩, rfl⟩, zw_1846, zw_1848⟩) <|
  zgd_e (fun d => zo_l d rfl rfl trivial) <|
  zgd_e (fun d => zo_l d rfl rfl (by show ((1588 : Nat) : Int) + (3) = ((1591 : Nat) : Int); decide)) <|
  zgd_e (fun d => zo_l d rfl rfl trivial) <|
  zgd_e (fun d => zo_l d rfl rfl (by show ((1594 : Nat) : Int) + (-1571) = ((23 : Nat) : Int); decide)) <|
  zgd_e (fun d => zo_l d rfl rfl trivial) <|
  zgd_e (fun d => zo_r d rfl) <|
  zgd_m h
theorem zk_328 (xs : List Int32) : z_okm (za_T xs) za_P za_M 328 := z_okm_of ⟨"LyndonBenchLaw", "law", "([I)Z"⟩ code zc_328 _ rfl rfl rfl rfl
  (zk_328_0 xs <|
  zk_328_1 xs <|
  zk_328_2 xs <|
  zk_328_3 xs <|
  zk_328_4 xs <|
  zk_328_5 xs <|
  zk_328_6 xs <|
  zk_328_7 xs <|
  zk_328_8 xs <|
  zk_328_9 xs <|
  zk_328_10 xs <|
  zk_328_11 xs <|
  zk_328_12 xs <|
  zk_328_13 xs <|
  zk_328_14 xs <|
  zk_328_15 xs <|
  zk_328_16 xs <|
  zk_328_17 xs <|
  zk_328_18 xs <|
  zk_328_19 xs <|
  zk_328_20 xs <|
  z_fn)
  (z_fn)
