/-! The check of the tables, methods 229 to 298. -/
theorem zdd_229 : ∀ q ∈ zc_229, decode prog_9_method_83_code q.1 = Except.ok (q.2.1, q.2.2.1) := zdd_of (by decide +kernel)
theorem zk_229 (xs : List Int32) : z_okm (za_T xs) za_P za_M 229 := z_okm_of ⟨"LyndonBenchModel", "setLetters", "(I)I"⟩ prog_9_method_83_code zc_229 _ rfl rfl rfl rfl
  (zgd_x zdd_229 <|
  zgd_d (fun d => zo_l d rfl rfl trivial) <|
  zgd_d (fun d => zo_l d rfl rfl trivial) <|
  zgd_d (fun d => zo_l d rfl rfl trivial) <|
  zgd_d (fun d => zo_s d rfl ⟨zd_149, zw_1215, zw_1216⟩) <|
  zgd_d (fun d => zo_l d rfl rfl (by show ((7 : Nat) : Int) + (7) = ((14 : Nat) : Int); decide)) <|
  zgd_d (fun d => zo_l d rfl rfl trivial) <|
  zgd_d (fun d => zo_l d rfl rfl (by show ((11 : Nat) : Int) + (4) = ((15 : Nat) : Int); decide)) <|
  zgd_d (fun d => zo_l d rfl rfl trivial) <|
  zgd_d (fun d => zo_l d rfl rfl trivial) <|
  zgd_d (fun d => zo_l d rfl rfl trivial) <|
  zgd_d (fun d => zo_l d rfl rfl trivial) <|
  zgd_d (fun d => zo_l d rfl rfl trivial) <|
  zgd_d (fun d => zo_l d rfl rfl (by show ((19 : Nat) : Int) + (15) = ((34 : Nat) : Int); decide)) <|
  zgd_d (fun d => zo_l d rfl rfl trivial) <|
  zgd_d (fun d => zo_l d rfl rfl trivial) <|
  zgd_d (fun d => zo_v d rfl ⟨rfl, zd_195, zw_1546, Nat.le_of_ble_eq_true rfl, ⟨_, Or.inl ⟨Nat.le_of_ble_eq_true rfl, rfl⟩, rfl⟩, zw_1544, zw_96⟩) <|
  zgd_d (fun d => zo_l d rfl rfl (by show ((27 : Nat) : Int) + (7) = ((34 : Nat) : Int); decide)) <|
  zgd_d (fun d => zo_l d rfl rfl trivial) <|
  zgd_d (fun d => zo_l d rfl rfl (by show ((31 : Nat) : Int) + (4) = ((35 : Nat) : Int); decide)) <|
  zgd_d (fun d => zo_l d rfl rfl trivial) <|
  zgd_d (fun d => zo_v d rfl ⟨rfl, zd_151, zw_1551, Nat.le_of_ble_eq_true rfl, ⟨_, Or.inl ⟨Nat.le_of_ble_eq_true rfl, rfl⟩, rfl⟩, zw_1549, zw_97⟩) <|
  zgd_d (fun d => zo_l d rfl rfl (by show ((38 : Nat) : Int) + (5) = ((43 : Nat) : Int); decide)) <|
  zgd_d (fun d => zo_l d rfl rfl trivial) <|
  zgd_d (fun d => zo_r d rfl) <|
  zgd_d (fun d => zo_l d rfl rfl trivial) <|
  zgd_d (fun d => zo_v d rfl ⟨rfl, zd_226, zw_1534, Nat.le_of_ble_eq_true rfl, ⟨_, Or.inl ⟨Nat.le_of_ble_eq_true rfl, rfl⟩, rfl⟩, zw_1532, zw_94⟩) <|
  zgd_d (fun d => zo_l d rfl rfl trivial) <|
  zgd_d (fun d => zo_h d rfl ⟨rfl, Nat.le_of_ble_eq_true rfl, _, _, _, Or.inl ⟨Nat.le_of_ble_eq_true rfl, rfl⟩, Nat.le_of_ble_eq_true rfl, zw_1434⟩) <|
  zgd_d (fun d => zo_l d rfl rfl trivial) <|
  zgd_d (fun d => zo_h d rfl rfl) <|
  zgd_d (fun d => zo_l d rfl rfl trivial) <|
  zgd_d (fun d => zo_l d rfl rfl trivial) <|
  zgd_d (fun d => zo_h d rfl ⟨rfl, Nat.le_of_ble_eq_true rfl, _, _, _, Or.inl ⟨Nat.le_of_ble_eq_true rfl, rfl⟩, Nat.le_of_ble_eq_true rfl, zw_1434⟩) <|
  zgd_d (fun d => zo_l d rfl rfl trivial) <|
  zgd_d (fun d => zo_l d rfl rfl trivial) <|
  zgd_d (fun d => zo_h d rfl rfl) <|
  zgd_d (fun d => zo_l d rfl rfl trivial) <|
  zgd_d (fun d => zo_l d rfl rfl trivial) <|
  zgd_d (fun d => zo_v d rfl ⟨rfl, zd_227, zw_1538, Nat.le_of_ble_eq_true rfl, ⟨_, Or.inl ⟨Nat.le_of_ble_eq_true rfl, rfl⟩, rfl⟩, zw_1536, zw_95⟩) <|
  zgd_d (fun d => zo_r d rfl) <|
  zgd_n)
  (z_fn)
theorem zdd_230_0 : ∀ q ∈ zc_230_0, decode prog_9_method_84_code q.1 = Except.ok (q.2.1, q.2.2.1) := zdd_of (by decide +kernel)
theorem zk_230_0 (xs : List Int32) {l : List zE} (h : ∀ q ∈ l, z_oke' (za_T xs) za_P za_M ⟨"LyndonBenchModel", "readText", "()I"⟩ prog_9_method_84_code q) : ∀ q ∈ zc_230_0 ++ l, z_oke' (za_T xs) za_P za_M ⟨"LyndonBenchModel", "readText", "()I"⟩ prog_9_method_84_code q :=
  zgd_y zdd_230_0 <|
  zgd_e (fun d => zo_l d rfl rfl trivial) <|
  zgd_e (fun d => zo_l d rfl rfl trivial) <|
  zgd_e (fun d => zo_l d rfl rfl trivial) <|
  zgd_e (fun d => zo_l d rfl rfl trivial) <|
  zgd_e (fun d => zo_h d rfl ⟨rfl, Nat.le_of_ble_eq_true rfl, _, _, _, Or.inl ⟨Nat.le_of_ble_eq_true rfl, rfl⟩, Nat.le_of_ble_eq_true rfl, zw_1444⟩) <|
  zgd_e (fun d => zo_l d rfl rfl (by show ((7 : Nat) : Int) + (22) = ((29 : Nat) : Int); decide)) <|
  zgd_e (fun d => zo_l d rfl rfl trivial) <|
  zgd_e (fun d => zo_l d rfl rfl trivial) <|
  zgd_e (fun d => zo_h d rfl ⟨rfl, Nat.le_of_ble_eq_true rfl, _, _, _, Or.inl ⟨Nat.le_of_ble_eq_true rfl, rfl⟩, Nat.le_of_ble_eq_true rfl, zw_1440⟩) <|
  zgd_e (fun d => zo_l d rfl rfl trivial) <|
  zgd_e (fun d => zo_h d rfl rfl) <|
  zgd_e (fun d => zo_v d rfl ⟨rfl, zd_152, zw_1260, Nat.le_of_ble_eq_true rfl, ⟨_, Or.inl ⟨Nat.le_of_ble_eq_true rfl, rfl⟩, rfl⟩, zw_1258, zw_48⟩) <|
  zgd_e (fun d => zo_l d rfl rfl (by show ((20 : Nat) : Int) + (9) = ((29 : Nat) : Int); decide)) <|
  zgd_e (fun d => zo_l d rfl rfl trivial) <|
  zgd_e (fun d => zo_l d rfl rfl (by show ((26 : Nat) : Int) + (-24) = ((2 : Nat) : Int); decide)) <|
  zgd_e (fun d => zo_l d rfl rfl trivial) <|
  zgd_e (fun d => zo_l d rfl rfl trivial) <|
  zgd_e (fun d => zo_l d rfl rfl trivial) <|
  zgd_e (fun d => zo_l d rfl rfl (by show ((33 : Nat) : Int) + (7) = ((40 : Nat) : Int); decide)) <|
  zgd_e (fun d => zo_l d rfl rfl trivial) <|
  zgd_e (fun d => zo_l d rfl rfl (by show ((37 : Nat) : Int) + (4) = ((41 : Nat) : Int); decide)) <|
  zgd_e (fun d => zo_l d rfl rfl trivial) <|
  zgd_e (fun d => zo_v d rfl ⟨rfl, zd_150, zw_1526, Nat.le_of_ble_eq_true rfl, ⟨_, Or.inl ⟨Nat.le_of_ble_eq_true rfl, rfl⟩, rfl⟩, zw_1524, zw_93⟩) <|
  zgd_e (fun d => zo_l d rfl rfl (by show ((44 : Nat) : Int) + (5) = ((49 : Nat) : Int); decide)) <|
  zgd_e (fun d => zo_l d rfl rfl trivial) <|
  zgd_e (fun d => zo_r d rfl) <|
  zgd_e (fun d => zo_l d rfl rfl trivial) <|
  zgd_e (fun d => zo_v d rfl ⟨rfl, zd_226, zw_1534, Nat.le_of_ble_eq_true rfl, ⟨_, Or.inl ⟨Nat.le_of_ble_eq_true rfl, rfl⟩, rfl⟩, zw_1532, zw_94⟩) <|
  zgd_e (fun d => zo_l d rfl rfl trivial) <|
  zgd_e (fun d => zo_l d rfl rfl trivial) <|
  zgd_e (fun d => zo_h d rfl ⟨rfl, Nat.le_of_ble_eq_true rfl, _, _, _, rfl, Nat.le_of_ble_eq_true rfl, zw_1448, Or.inl rfl⟩) <|
  zgd_e (fun d => zo_l d rfl rfl trivial) <|
  zgd_e (fun d => zo_l d rfl rfl trivial) <|
  zgd_e (fun d => zo_l d rfl rfl trivial) <|
  zgd_e (fun d => zo_l d rfl rfl trivial) <|
  zgd_e (fun d => zo_l d rfl rfl (by show ((62 : Nat) : Int) + (22) = ((84 : Nat) : Int); decide)) <|
  zgd_e (fun d => zo_l d rfl rfl trivial) <|
  zgd_e (fun d => zo_l d rfl rfl trivial) <|
  zgd_e (fun d => zo_h d rfl ⟨rfl, Nat.le_of_ble_eq_true rfl, _, _, _, Or.inl ⟨Nat.le_of_ble_eq_true rfl, rfl⟩, Nat.le_of_ble_eq_true rfl, zw_1440⟩) <|
  zgd_e (fun d => zo_l d rfl rfl trivial) <|
  zgd_m h
theorem zdd_230_1 : ∀ q ∈ zc_230_1, decode prog_9_method_84_code q.1 = Except.ok (q.2.1, q.2.2.1) := zdd_of (by decide +kernel)
theorem zk_230_1 (xs : List Int32) {l : List zE} (h : ∀ q ∈ l, z_oke' (za_T xs) za_P za_M ⟨"LyndonBenchModel", "readText", "()I"⟩ prog_9_method_84_code q) : ∀ q ∈ zc_230_1 ++ l, z_oke' (za_T xs) za_P za_M ⟨"LyndonBenchModel", "readText", "()I"⟩ prog_9_method_84_code q :=
  zgd_y zdd_230_1 <|
  zgd_e (fun d => zo_h d rfl rfl) <|
  zgd_e (fun d => zo_l d rfl rfl trivial) <|
  zgd_e (fun d => zo_l d rfl rfl trivial) <|
  zgd_e (fun d => zo_v d rfl ⟨rfl, zd_157, zw_1432, Nat.le_of_ble_eq_true rfl, ⟨_, Or.inl ⟨Nat.le_of_ble_eq_true rfl, rfl⟩, rfl⟩, zw_1430, zw_91⟩) <|
  zgd_e (fun d => zo_l d rfl rfl trivial) <|
  zgd_e (fun d => zo_l d rfl rfl (by show ((81 : Nat) : Int) + (-21) = ((60 : Nat) : Int); decide)) <|
  zgd_e (fun d => zo_l d rfl rfl trivial) <|
  zgd_e (fun d => zo_l d rfl rfl trivial) <|
  zgd_e (fun d => zo_h d rfl ⟨rfl, Nat.le_of_ble_eq_true rfl, _, _, _, rfl, Nat.le_of_ble_eq_true rfl, zw_1444, Or.inl rfl⟩) <|
  zgd_e (fun d => zo_l d rfl rfl trivial) <|
  zgd_e (fun d => zo_l d rfl rfl trivial) <|
  zgd_e (fun d => zo_v d rfl ⟨rfl, zd_176, zw_1268, Nat.le_of_ble_eq_true rfl, ⟨_, Or.inl ⟨Nat.le_of_ble_eq_true rfl, rfl⟩, rfl⟩, zw_1266, zw_50⟩) <|
  zgd_e (fun d => zo_v d rfl ⟨rfl, zd_227, zw_1538, Nat.le_of_ble_eq_true rfl, ⟨_, Or.inl ⟨Nat.le_of_ble_eq_true rfl, rfl⟩, rfl⟩, zw_1536, zw_95⟩) <|
  zgd_e (fun d => zo_r d rfl) <|
  zgd_m h
theorem zk_230 (xs : List Int32) : z_okm (za_T xs) za_P za_M 230 := z_okm_of ⟨"LyndonBenchModel", "readText", "()I"⟩ prog_9_method_84_code zc_230 _ rfl rfl rfl rfl
  (zk_230_0 xs <|
  zk_230_1 xs <|
  z_fn)
  (z_fn)
theorem zdd_231 : ∀ q ∈ zc_231, decode prog_9_method_85_code q.1 = Except.ok (q.2.1, q.2.2.1) := zdd_of (by decide +kernel)
theorem zk_231 (xs : List Int32) : z_okm (za_T xs) za_P za_M 231 := z_okm_of ⟨"LyndonBenchModel", "appendLetter", "(I)I"⟩ prog_9_method_85_code zc_231 _ rfl rfl rfl rfl
  (zgd_x zdd_231 <|
  zgd_d (fun d => zo_l d rfl rfl trivial) <|
  zgd_d (fun d => zo_l d rfl rfl trivial) <|
  zgd_d (fun d => zo_l d rfl rfl trivial) <|
  zgd_d (fun d => zo_v d rfl ⟨rfl, zd_152, zw_1260, Nat.le_of_ble_eq_true rfl, ⟨_, Or.inl ⟨Nat.le_of_ble_eq_true rfl, rfl⟩, rfl⟩, zw_1258, zw_48⟩) <|
  zgd_d (fun d => zo_l d rfl rfl (by show ((6 : Nat) : Int) + (7) = ((13 : Nat) : Int); decide)) <|
  zgd_d (fun d => zo_l d rfl rfl trivial) <|
  zgd_d (fun d => zo_l d rfl rfl (by show ((10 : Nat) : Int) + (4) = ((14 : Nat) : Int); decide)) <|
  zgd_d (fun d => zo_l d rfl rfl trivial) <|
  zgd_d (fun d => zo_l d rfl rfl trivial) <|
  zgd_d (fun d => zo_h d rfl ⟨rfl, Nat.le_of_ble_eq_true rfl, _, _, _, Or.inl ⟨Nat.le_of_ble_eq_true rfl, rfl⟩, Nat.le_of_ble_eq_true rfl, zw_1434⟩) <|
  zgd_d (fun d => zo_l d rfl rfl trivial) <|
  zgd_d (fun d => zo_h d rfl rfl) <|
  zgd_d (fun d => zo_l d rfl rfl trivial) <|
  zgd_d (fun d => zo_l d rfl rfl (by show ((22 : Nat) : Int) + (7) = ((29 : Nat) : Int); decide)) <|
  zgd_d (fun d => zo_l d rfl rfl trivial) <|
  zgd_d (fun d => zo_l d rfl rfl (by show ((26 : Nat) : Int) + (4) = ((30 : Nat) : Int); decide)) <|
  zgd_d (fun d => zo_l d rfl rfl trivial) <|
  zgd_d (fun d => zo_v d rfl ⟨rfl, zd_151, zw_1551, Nat.le_of_ble_eq_true rfl, ⟨_, Or.inl ⟨Nat.le_of_ble_eq_true rfl, rfl⟩, rfl⟩, zw_1549, zw_97⟩) <|
  zgd_d (fun d => zo_l d rfl rfl (by show ((33 : Nat) : Int) + (5) = ((38 : Nat) : Int); decide)) <|
  zgd_d (fun d => zo_l d rfl rfl trivial) <|
  zgd_d (fun d => zo_r d rfl) <|
  zgd_d (fun d => zo_l d rfl rfl trivial) <|
  zgd_d (fun d => zo_v d rfl ⟨rfl, zd_226, zw_1534, Nat.le_of_ble_eq_true rfl, ⟨_, Or.inl ⟨Nat.le_of_ble_eq_true rfl, rfl⟩, rfl⟩, zw_1532, zw_94⟩) <|
  zgd_d (fun d => zo_l d rfl rfl trivial) <|
  zgd_d (fun d => zo_l d rfl rfl trivial) <|
  zgd_d (fun d => zo_l d rfl rfl trivial) <|
  zgd_d (fun d => zo_l d rfl rfl trivial) <|
  zgd_d (fun d => zo_l d rfl rfl trivial) <|
  zgd_d (fun d => zo_v d rfl ⟨rfl, zd_177, zw_1563, Nat.le_of_ble_eq_true rfl, ⟨_, Or.inl ⟨Nat.le_of_ble_eq_true rfl, rfl⟩, rfl⟩, zw_1561, zw_98⟩) <|
  zgd_d (fun d => zo_v d rfl ⟨rfl, zd_227, zw_1538, Nat.le_of_ble_eq_true rfl, ⟨_, Or.inl ⟨Nat.le_of_ble_eq_true rfl, rfl⟩, rfl⟩, zw_1536, zw_95⟩) <|
  zgd_d (fun d => zo_r d rfl) <|
  zgd_n)
  (z_fn)
theorem zdd_232 : ∀ q ∈ zc_232, decode prog_9_method_86_code q.1 = Except.ok (q.2.1, q.2.2.1) := zdd_of (by decide +kernel)
theorem zk_232 (xs : List Int32) : z_okm (za_T xs) za_P za_M 232 := z_okm_of ⟨"LyndonBenchModel", "dropLast", "(I)I"⟩ prog_9_method_86_code zc_232 _ rfl rfl rfl rfl
  (zgd_x zdd_232 <|
  zgd_d (fun d => zo_l d rfl rfl trivial) <|
  zgd_d (fun d => zo_l d rfl rfl trivial) <|
  zgd_d (fun d => zo_l d rfl rfl trivial) <|
  zgd_d (fun d => zo_l d rfl rfl trivial) <|
  zgd_d (fun d => zo_h d rfl ⟨rfl, Nat.le_of_ble_eq_true rfl, _, _, _, Or.inl ⟨Nat.le_of_ble_eq_true rfl, rfl⟩, Nat.le_of_ble_eq_true rfl, zw_1434⟩) <|
  zgd_d (fun d => zo_l d rfl rfl trivial) <|
  zgd_d (fun d => zo_h d rfl rfl) <|
  zgd_d (fun d => zo_s d rfl ⟨zd_149, zw_1215, zw_1216⟩) <|
  zgd_d (fun d => zo_l d rfl rfl (by show ((12 : Nat) : Int) + (7) = ((19 : Nat) : Int); decide)) <|
  zgd_d (fun d => zo_l d rfl rfl trivial) <|
  zgd_d (fun d => zo_l d rfl rfl (by show ((16 : Nat) : Int) + (4) = ((20 : Nat) : Int); decide)) <|
  zgd_d (fun d => zo_l d rfl rfl trivial) <|
  zgd_d (fun d => zo_v d rfl ⟨rfl, zd_150, zw_1526, Nat.le_of_ble_eq_true rfl, ⟨_, Or.inl ⟨Nat.le_of_ble_eq_true rfl, rfl⟩, rfl⟩, zw_1524, zw_93⟩) <|
  zgd_d (fun d => zo_l d rfl rfl (by show ((23 : Nat) : Int) + (5) = ((28 : Nat) : Int); decide)) <|
  zgd_d (fun d => zo_l d rfl rfl trivial) <|
  zgd_d (fun d => zo_r d rfl) <|
  zgd_d (fun d => zo_l d rfl rfl trivial) <|
  zgd_d (fun d => zo_v d rfl ⟨rfl, zd_226, zw_1534, Nat.le_of_ble_eq_true rfl, ⟨_, Or.inl ⟨Nat.le_of_ble_eq_true rfl, rfl⟩, rfl⟩, zw_1532, zw_94⟩) <|
  zgd_d (fun d => zo_l d rfl rfl trivial) <|
  zgd_d (fun d => zo_l d rfl rfl trivial) <|
  zgd_d (fun d => zo_l d rfl rfl trivial) <|
  zgd_d (fun d => zo_v d rfl ⟨rfl, zd_178, zw_1284, Nat.le_of_ble_eq_true rfl, ⟨_, Or.inl ⟨Nat.le_of_ble_eq_true rfl, rfl⟩, rfl⟩, zw_1282, zw_54⟩) <|
  zgd_d (fun d => zo_v d rfl ⟨rfl, zd_227, zw_1538, Nat.le_of_ble_eq_true rfl, ⟨_, Or.inl ⟨Nat.le_of_ble_eq_true rfl, rfl⟩, rfl⟩, zw_1536, zw_95⟩) <|
  zgd_d (fun d => zo_r d rfl) <|
  zgd_n)
  (z_fn)
theorem zdd_233 : ∀ q ∈ zc_233, decode prog_9_method_87_code q.1 = Except.ok (q.2.1, q.2.2.1) := zdd_of (by decide +kernel)
theorem zk_233 (xs : List Int32) : z_okm (za_T xs) za_P za_M 233 := z_okm_of ⟨"LyndonBenchModel", "cutPart", "(II)I"⟩ prog_9_method_87_code zc_233 _ rfl rfl rfl rfl
  (zgd_x zdd_233 <|
  zgd_d (fun d => zo_l d rfl rfl trivial) <|
  zgd_d (fun d => zo_l d rfl rfl trivial) <|
  zgd_d (fun d => zo_l d rfl rfl (by show ((2 : Nat) : Int) + (18) = ((20 : Nat) : Int); decide)) <|
  zgd_d (fun d => zo_l d rfl rfl trivial) <|
  zgd_d (fun d => zo_l d rfl rfl trivial) <|
  zgd_d (fun d => zo_l d rfl rfl (by show ((7 : Nat) : Int) + (13) = ((20 : Nat) : Int); decide)) <|
  zgd_d (fun d => zo_l d rfl rfl trivial) <|
  zgd_d (fun d => zo_l d rfl rfl trivial) <|
  zgd_d (fun d => zo_h d rfl ⟨rfl, Nat.le_of_ble_eq_true rfl, _, _, _, Or.inl ⟨Nat.le_of_ble_eq_true rfl, rfl⟩, Nat.le_of_ble_eq_true rfl, zw_1434⟩) <|
  zgd_d (fun d => zo_l d rfl rfl trivial) <|
  zgd_d (fun d => zo_h d rfl rfl) <|
  zgd_d (fun d => zo_l d rfl rfl (by show ((17 : Nat) : Int) + (7) = ((24 : Nat) : Int); decide)) <|
  zgd_d (fun d => zo_l d rfl rfl trivial) <|
  zgd_d (fun d => zo_l d rfl rfl (by show ((21 : Nat) : Int) + (4) = ((25 : Nat) : Int); decide)) <|
  zgd_d (fun d => zo_l d rfl rfl trivial) <|
  zgd_d (fun d => zo_v d rfl ⟨rfl, zd_150, zw_1526, Nat.le_of_ble_eq_true rfl, ⟨_, Or.inl ⟨Nat.le_of_ble_eq_true rfl, rfl⟩, rfl⟩, zw_1524, zw_93⟩) <|
  zgd_d (fun d => zo_l d rfl rfl (by show ((28 : Nat) : Int) + (5) = ((33 : Nat) : Int); decide)) <|
  zgd_d (fun d => zo_l d rfl rfl trivial) <|
  zgd_d (fun d => zo_r d rfl) <|
  zgd_d (fun d => zo_l d rfl rfl trivial) <|
  zgd_d (fun d => zo_v d rfl ⟨rfl, zd_226, zw_1534, Nat.le_of_ble_eq_true rfl, ⟨_, Or.inl ⟨Nat.le_of_ble_eq_true rfl, rfl⟩, rfl⟩, zw_1532, zw_94⟩) <|
  zgd_d (fun d => zo_l d rfl rfl trivial) <|
  zgd_d (fun d => zo_l d rfl rfl trivial) <|
  zgd_d (fun d => zo_l d rfl rfl trivial) <|
  zgd_d (fun d => zo_l d rfl rfl trivial) <|
  zgd_d (fun d => zo_v d rfl ⟨rfl, zd_179, zw_1304, Nat.le_of_ble_eq_true rfl, ⟨_, Or.inl ⟨Nat.le_of_ble_eq_true rfl, rfl⟩, rfl⟩, zw_1302, zw_59⟩) <|
  zgd_d (fun d => zo_v d rfl ⟨rfl, zd_227, zw_1538, Nat.le_of_ble_eq_true rfl, ⟨_, Or.inl ⟨Nat.le_of_ble_eq_true rfl, rfl⟩, rfl⟩, zw_1536, zw_95⟩) <|
  zgd_d (fun d => zo_r d rfl) <|
  zgd_n)
  (z_fn)
theorem zdd_234 : ∀ q ∈ zc_234, decode prog_9_method_88_code q.1 = Except.ok (q.2.1, q.2.2.1) := zdd_of (by decide +kernel)
theorem zk_234 (xs : List Int32) : z_okm (za_T xs) za_P za_M 234 := z_okm_of ⟨"LyndonBenchModel", "rotate", "(I)I"⟩ prog_9_method_88_code zc_234 _ rfl rfl rfl rfl
  (zgd_x zdd_234 <|
  zgd_d (fun d => zo_l d rfl rfl trivial) <|
  zgd_d (fun d => zo_l d rfl rfl trivial) <|
  zgd_d (fun d => zo_l d rfl rfl trivial) <|
  zgd_d (fun d => zo_l d rfl rfl trivial) <|
  zgd_d (fun d => zo_h d rfl ⟨rfl, Nat.le_of_ble_eq_true rfl, _, _, _, Or.inl ⟨Nat.le_of_ble_eq_true rfl, rfl⟩, Nat.le_of_ble_eq_true rfl, zw_1434⟩) <|
  zgd_d (fun d => zo_l d rfl rfl trivial) <|
  zgd_d (fun d => zo_h d rfl rfl) <|
  zgd_d (fun d => zo_s d rfl ⟨zd_149, zw_1215, zw_1216⟩) <|
  zgd_d (fun d => zo_l d rfl rfl (by show ((12 : Nat) : Int) + (7) = ((19 : Nat) : Int); decide)) <|
  zgd_d (fun d => zo_l d rfl rfl trivial) <|
  zgd_d (fun d => zo_l d rfl rfl (by show ((16 : Nat) : Int) + (4) = ((20 : Nat) : Int); decide)) <|
  zgd_d (fun d => zo_l d rfl rfl trivial) <|
  zgd_d (fun d => zo_v d rfl ⟨rfl, zd_150, zw_1526, Nat.le_of_ble_eq_true rfl, ⟨_, Or.inl ⟨Nat.le_of_ble_eq_true rfl, rfl⟩, rfl⟩, zw_1524, zw_93⟩) <|
  zgd_d (fun d => zo_l d rfl rfl (by show ((23 : Nat) : Int) + (5) = ((28 : Nat) : Int); decide)) <|
  zgd_d (fun d => zo_l d rfl rfl trivial) <|
  zgd_d (fun d => zo_r d rfl) <|
  zgd_d (fun d => zo_l d rfl rfl trivial) <|
  zgd_d (fun d => zo_v d rfl ⟨rfl, zd_226, zw_1534, Nat.le_of_ble_eq_true rfl, ⟨_, Or.inl ⟨Nat.le_of_ble_eq_true rfl, rfl⟩, rfl⟩, zw_1532, zw_94⟩) <|
  zgd_d (fun d => zo_l d rfl rfl trivial) <|
  zgd_d (fun d => zo_l d rfl rfl trivial) <|
  zgd_d (fun d => zo_l d rfl rfl trivial) <|
  zgd_d (fun d => zo_v d rfl ⟨rfl, zd_180, zw_1312, Nat.le_of_ble_eq_true rfl, ⟨_, Or.inl ⟨Nat.le_of_ble_eq_true rfl, rfl⟩, rfl⟩, zw_1310, zw_61⟩) <|
  zgd_d (fun d => zo_v d rfl ⟨rfl, zd_227, zw_1538, Nat.le_of_ble_eq_true rfl, ⟨_, Or.inl ⟨Nat.le_of_ble_eq_true rfl, rfl⟩, rfl⟩, zw_1536, zw_95⟩) <|
  zgd_d (fun d => zo_r d rfl) <|
  zgd_n)
  (z_fn)
theorem zdd_235 : ∀ q ∈ zc_235, decode prog_9_method_89_code q.1 = Except.ok (q.2.1, q.2.2.1) := zdd_of (by decide +kernel)
theorem zk_235 (xs : List Int32) : z_okm (za_T xs) za_P za_M 235 := z_okm_of ⟨"LyndonBenchModel", "reverse", "()I"⟩ prog_9_method_89_code zc_235 _ rfl rfl rfl rfl
  (zgd_x zdd_235 <|
  zgd_d (fun d => zo_l d rfl rfl trivial) <|
  zgd_d (fun d => zo_l d rfl rfl trivial) <|
  zgd_d (fun d => zo_h d rfl ⟨rfl, Nat.le_of_ble_eq_true rfl, _, _, _, rfl, Nat.le_of_ble_eq_true rfl, zw_1451, Or.inl rfl⟩) <|
  zgd_d (fun d => zo_l d rfl rfl trivial) <|
  zgd_d (fun d => zo_v d rfl ⟨rfl, zd_226, zw_1534, Nat.le_of_ble_eq_true rfl, ⟨_, Or.inl ⟨Nat.le_of_ble_eq_true rfl, rfl⟩, rfl⟩, zw_1532, zw_94⟩) <|
  zgd_d (fun d => zo_l d rfl rfl trivial) <|
  zgd_d (fun d => zo_l d rfl rfl trivial) <|
  zgd_d (fun d => zo_v d rfl ⟨rfl, zd_181, zw_1324, Nat.le_of_ble_eq_true rfl, ⟨_, Or.inl ⟨Nat.le_of_ble_eq_true rfl, rfl⟩, rfl⟩, zw_1322, zw_64⟩) <|
  zgd_d (fun d => zo_v d rfl ⟨rfl, zd_227, zw_1538, Nat.le_of_ble_eq_true rfl, ⟨_, Or.inl ⟨Nat.le_of_ble_eq_true rfl, rfl⟩, rfl⟩, zw_1536, zw_95⟩) <|
  zgd_d (fun d => zo_r d rfl) <|
  zgd_n)
  (z_fn)
theorem zdd_236 : ∀ q ∈ zc_236, decode prog_9_method_90_code q.1 = Except.ok (q.2.1, q.2.2.1) := zdd_of (by decide +kernel)
theorem zk_236 (xs : List Int32) : z_okm (za_T xs) za_P za_M 236 := z_okm_of ⟨"LyndonBenchModel", "rotateToLeast", "()I"⟩ prog_9_method_90_code zc_236 _ rfl rfl rfl rfl
  (zgd_x zdd_236 <|
  zgd_d (fun d => zo_l d rfl rfl trivial) <|
  zgd_d (fun d => zo_l d rfl rfl trivial) <|
  zgd_d (fun d => zo_h d rfl ⟨rfl, Nat.le_of_ble_eq_true rfl, _, _, _, Or.inl ⟨Nat.le_of_ble_eq_true rfl, rfl⟩, Nat.le_of_ble_eq_true rfl, zw_1434⟩) <|
  zgd_d (fun d => zo_l d rfl rfl trivial) <|
  zgd_d (fun d => zo_h d rfl rfl) <|
  zgd_d (fun d => zo_l d rfl rfl (by show ((7 : Nat) : Int) + (7) = ((14 : Nat) : Int); decide)) <|
  zgd_d (fun d => zo_l d rfl rfl trivial) <|
  zgd_d (fun d => zo_l d rfl rfl (by show ((11 : Nat) : Int) + (4) = ((15 : Nat) : Int); decide)) <|
  zgd_d (fun d => zo_l d rfl rfl trivial) <|
  zgd_d (fun d => zo_v d rfl ⟨rfl, zd_150, zw_1526, Nat.le_of_ble_eq_true rfl, ⟨_, Or.inl ⟨Nat.le_of_ble_eq_true rfl, rfl⟩, rfl⟩, zw_1524, zw_93⟩) <|
  zgd_d (fun d => zo_l d rfl rfl (by show ((18 : Nat) : Int) + (5) = ((23 : Nat) : Int); decide)) <|
  zgd_d (fun d => zo_l d rfl rfl trivial) <|
  zgd_d (fun d => zo_r d rfl) <|
  zgd_d (fun d => zo_l d rfl rfl trivial) <|
  zgd_d (fun d => zo_v d rfl ⟨rfl, zd_226, zw_1534, Nat.le_of_ble_eq_true rfl, ⟨_, Or.inl ⟨Nat.le_of_ble_eq_true rfl, rfl⟩, rfl⟩, zw_1532, zw_94⟩) <|
  zgd_d (fun d => zo_l d rfl rfl trivial) <|
  zgd_d (fun d => zo_l d rfl rfl trivial) <|
  zgd_d (fun d => zo_v d rfl ⟨rfl, zd_182, zw_1332, Nat.le_of_ble_eq_true rfl, ⟨_, Or.inl ⟨Nat.le_of_ble_eq_true rfl, rfl⟩, rfl⟩, zw_1330, zw_66⟩) <|
  zgd_d (fun d => zo_v d rfl ⟨rfl, zd_227, zw_1538, Nat.le_of_ble_eq_true rfl, ⟨_, Or.inl ⟨Nat.le_of_ble_eq_true rfl, rfl⟩, rfl⟩, zw_1536, zw_95⟩) <|
  zgd_d (fun d => zo_r d rfl) <|
  zgd_n)
  (z_fn)
theorem zdd_237 : ∀ q ∈ zc_237, decode prog_9_method_91_code q.1 = Except.ok (q.2.1, q.2.2.1) := zdd_of (by decide +kernel)
theorem zk_237 (xs : List Int32) : z_okm (za_T xs) za_P za_M 237 := z_okm_of ⟨"LyndonBenchModel", "nextLyndon", "(I)I"⟩ prog_9_method_91_code zc_237 _ rfl rfl rfl rfl
  (zgd_x zdd_237 <|
  zgd_d (fun d => zo_l d rfl rfl trivial) <|
  zgd_d (fun d => zo_l d rfl rfl trivial) <|
  zgd_d (fun d => zo_l d rfl rfl trivial) <|
  zgd_d (fun d => zo_s d rfl ⟨zd_149, zw_1215, zw_1216⟩) <|
  zgd_d (fun d => zo_l d rfl rfl (by show ((7 : Nat) : Int) + (7) = ((14 : Nat) : Int); decide)) <|
  zgd_d (fun d => zo_l d rfl rfl trivial) <|
  zgd_d (fun d => zo_l d rfl rfl (by show ((11 : Nat) : Int) + (4) = ((15 : Nat) : Int); decide)) <|
  zgd_d (fun d => zo_l d rfl rfl trivial) <|
  zgd_d (fun d => zo_l d rfl rfl trivial) <|
  zgd_d (fun d => zo_l d rfl rfl trivial) <|
  zgd_d (fun d => zo_l d rfl rfl trivial) <|
  zgd_d (fun d => zo_l d rfl rfl trivial) <|
  zgd_d (fun d => zo_l d rfl rfl (by show ((19 : Nat) : Int) + (15) = ((34 : Nat) : Int); decide)) <|
  zgd_d (fun d => zo_l d rfl rfl trivial) <|
  zgd_d (fun d => zo_l d rfl rfl trivial) <|
  zgd_d (fun d => zo_v d rfl ⟨rfl, zd_184, zw_1348, Nat.le_of_ble_eq_true rfl, ⟨_, Or.inl ⟨Nat.le_of_ble_eq_true rfl, rfl⟩, rfl⟩, zw_1346, zw_70⟩) <|
  zgd_d (fun d => zo_l d rfl rfl (by show ((27 : Nat) : Int) + (7) = ((34 : Nat) : Int); decide)) <|
  zgd_d (fun d => zo_l d rfl rfl trivial) <|
  zgd_d (fun d => zo_l d rfl rfl (by show ((31 : Nat) : Int) + (4) = ((35 : Nat) : Int); decide)) <|
  zgd_d (fun d => zo_l d rfl rfl trivial) <|
  zgd_d (fun d => zo_v d rfl ⟨rfl, zd_151, zw_1551, Nat.le_of_ble_eq_true rfl, ⟨_, Or.inl ⟨Nat.le_of_ble_eq_true rfl, rfl⟩, rfl⟩, zw_1549, zw_97⟩) <|
  zgd_d (fun d => zo_l d rfl rfl (by show ((38 : Nat) : Int) + (5) = ((43 : Nat) : Int); decide)) <|
  zgd_d (fun d => zo_l d rfl rfl trivial) <|
  zgd_d (fun d => zo_r d rfl) <|
  zgd_d (fun d => zo_l d rfl rfl trivial) <|
  zgd_d (fun d => zo_v d rfl ⟨rfl, zd_226, zw_1534, Nat.le_of_ble_eq_true rfl, ⟨_, Or.inl ⟨Nat.le_of_ble_eq_true rfl, rfl⟩, rfl⟩, zw_1532, zw_94⟩) <|
  zgd_d (fun d => zo_l d rfl rfl trivial) <|
  zgd_d (fun d => zo_l d rfl rfl trivial) <|
  zgd_d (fun d => zo_l d rfl rfl trivial) <|
  zgd_d (fun d => zo_v d rfl ⟨rfl, zd_185, zw_1372, Nat.le_of_ble_eq_true rfl, ⟨_, Or.inl ⟨Nat.le_of_ble_eq_true rfl, rfl⟩, rfl⟩, zw_1370, zw_76⟩) <|
  zgd_d (fun d => zo_v d rfl ⟨rfl, zd_227, zw_1538, Nat.le_of_ble_eq_true rfl, ⟨_, Or.inl ⟨Nat.le_of_ble_eq_true rfl, rfl⟩, rfl⟩, zw_1536, zw_95⟩) <|
  zgd_d (fun d => zo_r d rfl) <|
  zgd_n)
  (z_fn)
theorem zdd_238 : ∀ q ∈ zc_238, decode prog_9_method_92_code q.1 = Except.ok (q.2.1, q.2.2.1) := zdd_of (by decide +kernel)
theorem zk_238 (xs : List Int32) : z_okm (za_T xs) za_P za_M 238 := z_okm_of ⟨"LyndonBenchModel", "keepFactor", "(I)I"⟩ prog_9_method_92_code zc_238 _ rfl rfl rfl rfl
  (zgd_x zdd_238 <|
  zgd_d (fun d => zo_l d rfl rfl trivial) <|
  zgd_d (fun d => zo_l d rfl rfl trivial) <|
  zgd_d (fun d => zo_l d rfl rfl trivial) <|
  zgd_d (fun d => zo_v d rfl ⟨rfl, zd_161, zw_1288, Nat.le_of_ble_eq_true rfl, ⟨_, Or.inl ⟨Nat.le_of_ble_eq_true rfl, rfl⟩, rfl⟩, zw_1286, zw_55⟩) <|
  zgd_d (fun d => zo_l d rfl rfl trivial) <|
  zgd_d (fun d => zo_l d rfl rfl trivial) <|
  zgd_d (fun d => zo_s d rfl ⟨zd_149, zw_1215, zw_1216⟩) <|
  zgd_d (fun d => zo_l d rfl rfl trivial) <|
  zgd_d (fun d => zo_l d rfl rfl trivial) <|
  zgd_d (fun d => zo_l d rfl rfl trivial) <|
  zgd_d (fun d => zo_l d rfl rfl (by show ((14 : Nat) : Int) + (7) = ((21 : Nat) : Int); decide)) <|
  zgd_d (fun d => zo_l d rfl rfl trivial) <|
  zgd_d (fun d => zo_l d rfl rfl (by show ((18 : Nat) : Int) + (4) = ((22 : Nat) : Int); decide)) <|
  zgd_d (fun d => zo_l d rfl rfl trivial) <|
  zgd_d (fun d => zo_l d rfl rfl trivial) <|
  zgd_d (fun d => zo_l d rfl rfl (by show ((23 : Nat) : Int) + (15) = ((38 : Nat) : Int); decide)) <|
  zgd_d (fun d => zo_l d rfl rfl trivial) <|
  zgd_d (fun d => zo_l d rfl rfl trivial) <|
  zgd_d (fun d => zo_v d rfl ⟨rfl, zd_187, zw_1388, Nat.le_of_ble_eq_true rfl, ⟨_, Or.inl ⟨Nat.le_of_ble_eq_true rfl, rfl⟩, rfl⟩, zw_1386, zw_80⟩) <|
  zgd_d (fun d => zo_l d rfl rfl (by show ((31 : Nat) : Int) + (7) = ((38 : Nat) : Int); decide)) <|
  zgd_d (fun d => zo_l d rfl rfl trivial) <|
  zgd_d (fun d => zo_l d rfl rfl (by show ((35 : Nat) : Int) + (4) = ((39 : Nat) : Int); decide)) <|
  zgd_d (fun d => zo_l d rfl rfl trivial) <|
  zgd_d (fun d => zo_v d rfl ⟨rfl, zd_151, zw_1551, Nat.le_of_ble_eq_true rfl, ⟨_, Or.inl ⟨Nat.le_of_ble_eq_true rfl, rfl⟩, rfl⟩, zw_1549, zw_97⟩) <|
  zgd_d (fun d => zo_l d rfl rfl (by show ((42 : Nat) : Int) + (5) = ((47 : Nat) : Int); decide)) <|
  zgd_d (fun d => zo_l d rfl rfl trivial) <|
  zgd_d (fun d => zo_r d rfl) <|
  zgd_d (fun d => zo_l d rfl rfl trivial) <|
  zgd_d (fun d => zo_v d rfl ⟨rfl, zd_226, zw_1534, Nat.le_of_ble_eq_true rfl, ⟨_, Or.inl ⟨Nat.le_of_ble_eq_true rfl, rfl⟩, rfl⟩, zw_1532, zw_94⟩) <|
  zgd_d (fun d => zo_l d rfl rfl trivial) <|
  zgd_d (fun d => zo_l d rfl rfl trivial) <|
  zgd_d (fun d => zo_l d rfl rfl trivial) <|
  zgd_d (fun d => zo_v d rfl ⟨rfl, zd_189, zw_1392, Nat.le_of_ble_eq_true rfl, ⟨_, Or.inl ⟨Nat.le_of_ble_eq_true rfl, rfl⟩, rfl⟩, zw_1390, zw_81⟩) <|
  zgd_d (fun d => zo_v d rfl ⟨rfl, zd_227, zw_1538, Nat.le_of_ble_eq_true rfl, ⟨_, Or.inl ⟨Nat.le_of_ble_eq_true rfl, rfl⟩, rfl⟩, zw_1536, zw_95⟩) <|
  zgd_d (fun d => zo_r d rfl) <|
  zgd_n)
  (z_fn)
theorem zdd_239 : ∀ q ∈ zc_239, decode prog_9_method_93_code q.1 = Except.ok (q.2.1, q.2.2.1) := zdd_of (by decide +kernel)
theorem zk_239 (xs : List Int32) : z_okm (za_T xs) za_P za_M 239 := z_okm_of ⟨"LyndonBenchModel", "keepText", "()I"⟩ prog_9_method_93_code zc_239 _ rfl rfl rfl rfl
  (zgd_x zdd_239 <|
  zgd_d (fun d => zo_l d rfl rfl trivial) <|
  zgd_d (fun d => zo_l d rfl rfl trivial) <|
  zgd_d (fun d => zo_v d rfl ⟨rfl, zd_188, zw_1380, Nat.le_of_ble_eq_true rfl, ⟨_, Or.inl ⟨Nat.le_of_ble_eq_true rfl, rfl⟩, rfl⟩, zw_1378, zw_78⟩) <|
  zgd_d (fun d => zo_l d rfl rfl (by show ((5 : Nat) : Int) + (7) = ((12 : Nat) : Int); decide)) <|
  zgd_d (fun d => zo_l d rfl rfl trivial) <|
  zgd_d (fun d => zo_l d rfl rfl (by show ((9 : Nat) : Int) + (4) = ((13 : Nat) : Int); decide)) <|
  zgd_d (fun d => zo_l d rfl rfl trivial) <|
  zgd_d (fun d => zo_v d rfl ⟨rfl, zd_150, zw_1526, Nat.le_of_ble_eq_true rfl, ⟨_, Or.inl ⟨Nat.le_of_ble_eq_true rfl, rfl⟩, rfl⟩, zw_1524, zw_93⟩) <|
  zgd_d (fun d => zo_l d rfl rfl (by show ((16 : Nat) : Int) + (5) = ((21 : Nat) : Int); decide)) <|
  zgd_d (fun d => zo_l d rfl rfl trivial) <|
  zgd_d (fun d => zo_r d rfl) <|
  zgd_d (fun d => zo_l d rfl rfl trivial) <|
  zgd_d (fun d => zo_v d rfl ⟨rfl, zd_226, zw_1534, Nat.le_of_ble_eq_true rfl, ⟨_, Or.inl ⟨Nat.le_of_ble_eq_true rfl, rfl⟩, rfl⟩, zw_1532, zw_94⟩) <|
  zgd_d (fun d => zo_l d rfl rfl trivial) <|
  zgd_d (fun d => zo_l d rfl rfl trivial) <|
  zgd_d (fun d => zo_l d rfl rfl trivial) <|
  zgd_d (fun d => zo_l d rfl rfl trivial) <|
  zgd_d (fun d => zo_h d rfl ⟨rfl, Nat.le_of_ble_eq_true rfl, _, _, _, Or.inl ⟨Nat.le_of_ble_eq_true rfl, rfl⟩, Nat.le_of_ble_eq_true rfl, zw_1434⟩) <|
  zgd_d (fun d => zo_l d rfl rfl trivial) <|
  zgd_d (fun d => zo_h d rfl rfl) <|
  zgd_d (fun d => zo_v d rfl ⟨rfl, zd_186, zw_1384, Nat.le_of_ble_eq_true rfl, ⟨_, Or.inl ⟨Nat.le_of_ble_eq_true rfl, rfl⟩, rfl⟩, zw_1382, zw_79⟩) <|
  zgd_d (fun d => zo_v d rfl ⟨rfl, zd_227, zw_1538, Nat.le_of_ble_eq_true rfl, ⟨_, Or.inl ⟨Nat.le_of_ble_eq_true rfl, rfl⟩, rfl⟩, zw_1536, zw_95⟩) <|
  zgd_d (fun d => zo_r d rfl) <|
  zgd_n)
  (z_fn)
theorem zdd_240 : ∀ q ∈ zc_240, decode prog_9_method_94_code q.1 = Except.ok (q.2.1, q.2.2.1) := zdd_of (by decide +kernel)
theorem zk_240 (xs : List Int32) : z_okm (za_T xs) za_P za_M 240 := z_okm_of ⟨"LyndonBenchModel", "removeKept", "(I)I"⟩ prog_9_method_94_code zc_240 _ rfl rfl rfl rfl
  (zgd_x zdd_240 <|
  zgd_d (fun d => zo_l d rfl rfl trivial) <|
  zgd_d (fun d => zo_l d rfl rfl trivial) <|
  zgd_d (fun d => zo_l d rfl rfl trivial) <|
  zgd_d (fun d => zo_v d rfl ⟨rfl, zd_153, zw_1603, Nat.le_of_ble_eq_true rfl, ⟨_, Or.inl ⟨Nat.le_of_ble_eq_true rfl, rfl⟩, rfl⟩, zw_1601, zw_99⟩) <|
  zgd_d (fun d => zo_l d rfl rfl (by show ((6 : Nat) : Int) + (7) = ((13 : Nat) : Int); decide)) <|
  zgd_d (fun d => zo_l d rfl rfl trivial) <|
  zgd_d (fun d => zo_l d rfl rfl (by show ((10 : Nat) : Int) + (4) = ((14 : Nat) : Int); decide)) <|
  zgd_d (fun d => zo_l d rfl rfl trivial) <|
  zgd_d (fun d => zo_v d rfl ⟨rfl, zd_150, zw_1526, Nat.le_of_ble_eq_true rfl, ⟨_, Or.inl ⟨Nat.le_of_ble_eq_true rfl, rfl⟩, rfl⟩, zw_1524, zw_93⟩) <|
  zgd_d (fun d => zo_l d rfl rfl (by show ((17 : Nat) : Int) + (5) = ((22 : Nat) : Int); decide)) <|
  zgd_d (fun d => zo_l d rfl rfl trivial) <|
  zgd_d (fun d => zo_r d rfl) <|
  zgd_d (fun d => zo_l d rfl rfl trivial) <|
  zgd_d (fun d => zo_v d rfl ⟨rfl, zd_226, zw_1534, Nat.le_of_ble_eq_true rfl, ⟨_, Or.inl ⟨Nat.le_of_ble_eq_true rfl, rfl⟩, rfl⟩, zw_1532, zw_94⟩) <|
  zgd_d (fun d => zo_l d rfl rfl trivial) <|
  zgd_d (fun d => zo_l d rfl rfl trivial) <|
  zgd_d (fun d => zo_l d rfl rfl trivial) <|
  zgd_d (fun d => zo_v d rfl ⟨rfl, zd_190, zw_1400, Nat.le_of_ble_eq_true rfl, ⟨_, Or.inl ⟨Nat.le_of_ble_eq_true rfl, rfl⟩, rfl⟩, zw_1398, zw_83⟩) <|
  zgd_d (fun d => zo_v d rfl ⟨rfl, zd_227, zw_1538, Nat.le_of_ble_eq_true rfl, ⟨_, Or.inl ⟨Nat.le_of_ble_eq_true rfl, rfl⟩, rfl⟩, zw_1536, zw_95⟩) <|
  zgd_d (fun d => zo_r d rfl) <|
  zgd_n)
  (z_fn)
theorem zdd_241 : ∀ q ∈ zc_241, decode prog_9_method_95_code q.1 = Except.ok (q.2.1, q.2.2.1) := zdd_of (by decide +kernel)
theorem zk_241 (xs : List Int32) : z_okm (za_T xs) za_P za_M 241 := z_okm_of ⟨"LyndonBenchModel", "joinKept", "()I"⟩ prog_9_method_95_code zc_241 _ rfl rfl rfl rfl
  (zgd_x zdd_241 <|
  zgd_d (fun d => zo_l d rfl rfl trivial) <|
  zgd_d (fun d => zo_l d rfl rfl trivial) <|
  zgd_d (fun d => zo_v d rfl ⟨rfl, zd_192, zw_1408, Nat.le_of_ble_eq_true rfl, ⟨_, Or.inl ⟨Nat.le_of_ble_eq_true rfl, rfl⟩, rfl⟩, zw_1406, zw_85⟩) <|
  zgd_d (fun d => zo_l d rfl rfl (by show ((5 : Nat) : Int) + (7) = ((12 : Nat) : Int); decide)) <|
  zgd_d (fun d => zo_l d rfl rfl trivial) <|
  zgd_d (fun d => zo_l d rfl rfl (by show ((9 : Nat) : Int) + (4) = ((13 : Nat) : Int); decide)) <|
  zgd_d (fun d => zo_l d rfl rfl trivial) <|
  zgd_d (fun d => zo_v d rfl ⟨rfl, zd_150, zw_1526, Nat.le_of_ble_eq_true rfl, ⟨_, Or.inl ⟨Nat.le_of_ble_eq_true rfl, rfl⟩, rfl⟩, zw_1524, zw_93⟩) <|
  zgd_d (fun d => zo_l d rfl rfl (by show ((16 : Nat) : Int) + (5) = ((21 : Nat) : Int); decide)) <|
  zgd_d (fun d => zo_l d rfl rfl trivial) <|
  zgd_d (fun d => zo_r d rfl) <|
  zgd_d (fun d => zo_l d rfl rfl trivial) <|
  zgd_d (fun d => zo_v d rfl ⟨rfl, zd_226, zw_1534, Nat.le_of_ble_eq_true rfl, ⟨_, Or.inl ⟨Nat.le_of_ble_eq_true rfl, rfl⟩, rfl⟩, zw_1532, zw_94⟩) <|
  zgd_d (fun d => zo_l d rfl rfl trivial) <|
  zgd_d (fun d => zo_l d rfl rfl trivial) <|
  zgd_d (fun d => zo_v d rfl ⟨rfl, zd_194, zw_1416, Nat.le_of_ble_eq_true rfl, ⟨_, Or.inl ⟨Nat.le_of_ble_eq_true rfl, rfl⟩, rfl⟩, zw_1414, zw_87⟩) <|
  zgd_d (fun d => zo_v d rfl ⟨rfl, zd_227, zw_1538, Nat.le_of_ble_eq_true rfl, ⟨_, Or.inl ⟨Nat.le_of_ble_eq_true rfl, rfl⟩, rfl⟩, zw_1536, zw_95⟩) <|
  zgd_d (fun d => zo_r d rfl) <|
  zgd_n)
  (z_fn)
theorem zdd_242 : ∀ q ∈ zc_242, decode prog_9_method_96_code q.1 = Except.ok (q.2.1, q.2.2.1) := zdd_of (by decide +kernel)
theorem zk_242 (xs : List Int32) : z_okm (za_T xs) za_P za_M 242 := z_okm_of ⟨"LyndonBenchModel", "undo", "()I"⟩ prog_9_method_96_code zc_242 _ rfl rfl rfl rfl
  (zgd_x zdd_242 <|
  zgd_d (fun d => zo_l d rfl rfl trivial) <|
  zgd_d (fun d => zo_l d rfl rfl trivial) <|
  zgd_d (fun d => zo_h d rfl ⟨rfl, Nat.le_of_ble_eq_true rfl, _, _, _, rfl, Nat.le_of_ble_eq_true rfl, zw_1451, Or.inl rfl⟩) <|
  zgd_d (fun d => zo_l d rfl rfl trivial) <|
  zgd_d (fun d => zo_h d rfl ⟨rfl, Nat.le_of_ble_eq_true rfl, _, _, _, Or.inl ⟨Nat.le_of_ble_eq_true rfl, rfl⟩, Nat.le_of_ble_eq_true rfl, zw_1438⟩) <|
  zgd_d (fun d => zo_l d rfl rfl (by show ((9 : Nat) : Int) + (5) = ((14 : Nat) : Int); decide)) <|
  zgd_d (fun d => zo_l d rfl rfl trivial) <|
  zgd_d (fun d => zo_r d rfl) <|
  zgd_d (fun d => zo_l d rfl rfl trivial) <|
  zgd_d (fun d => zo_l d rfl rfl trivial) <|
  zgd_d (fun d => zo_h d rfl ⟨rfl, Nat.le_of_ble_eq_true rfl, _, _, _, Or.inl ⟨Nat.le_of_ble_eq_true rfl, rfl⟩, Nat.le_of_ble_eq_true rfl, zw_1438⟩) <|
  zgd_d (fun d => zo_l d rfl rfl trivial) <|
  zgd_d (fun d => zo_l d rfl rfl trivial) <|
  zgd_d (fun d => zo_h d rfl ⟨rfl, Nat.le_of_ble_eq_true rfl, _, _, _, rfl, Nat.le_of_ble_eq_true rfl, zw_1438, Or.inl rfl⟩) <|
  zgd_d (fun d => zo_l d rfl rfl trivial) <|
  zgd_d (fun d => zo_l d rfl rfl trivial) <|
  zgd_d (fun d => zo_l d rfl rfl trivial) <|
  zgd_d (fun d => zo_l d rfl rfl trivial) <|
  zgd_d (fun d => zo_l d rfl rfl (by show ((30 : Nat) : Int) + (30) = ((60 : Nat) : Int); decide)) <|
  zgd_d (fun d => zo_l d rfl rfl trivial) <|
  zgd_d (fun d => zo_h d rfl ⟨rfl, Nat.le_of_ble_eq_true rfl, _, _, _, Or.inl ⟨Nat.le_of_ble_eq_true rfl, rfl⟩, Nat.le_of_ble_eq_true rfl, zw_1434⟩) <|
  zgd_d (fun d => zo_l d rfl rfl trivial) <|
  zgd_d (fun d => zo_l d rfl rfl trivial) <|
  zgd_d (fun d => zo_h d rfl ⟨rfl, Nat.le_of_ble_eq_true rfl, _, _, _, Or.inl ⟨Nat.le_of_ble_eq_true rfl, rfl⟩, Nat.le_of_ble_eq_true rfl, zw_1436⟩) <|
  zgd_d (fun d => zo_l d rfl rfl trivial) <|
  zgd_d (fun d => zo_l d rfl rfl trivial) <|
  zgd_d (fun d => zo_h d rfl ⟨rfl, Nat.le_of_ble_eq_true rfl, _, _, _, Or.inl ⟨Nat.le_of_ble_eq_true rfl, rfl⟩, Nat.le_of_ble_eq_true rfl, zw_1438⟩) <|
  zgd_d (fun d => zo_l d rfl rfl trivial) <|
  zgd_d (fun d => zo_l d rfl rfl trivial) <|
  zgd_d (fun d => zo_l d rfl rfl trivial) <|
  zgd_d (fun d => zo_h d rfl rfl) <|
  zgd_d (fun d => zo_h d rfl rfl) <|
  zgd_d (fun d => zo_l d rfl rfl trivial) <|
  zgd_d (fun d => zo_l d rfl rfl (by show ((57 : Nat) : Int) + (-31) = ((26 : Nat) : Int); decide)) <|
  zgd_d (fun d => zo_l d rfl rfl trivial) <|
  zgd_d (fun d => zo_h d rfl ⟨rfl, Nat.le_of_ble_eq_true rfl, _, _, _, Or.inl ⟨Nat.le_of_ble_eq_true rfl, rfl⟩, Nat.le_of_ble_eq_true rfl, zw_1438⟩) <|
  zgd_d (fun d => zo_r d rfl) <|
  zgd_n)
  (z_fn)
theorem zdd_243 : ∀ q ∈ zc_243, decode prog_9_method_97_code q.1 = Except.ok (q.2.1, q.2.2.1) := zdd_of (by decide +kernel)
theorem zk_243 (xs : List Int32) : z_okm (za_T xs) za_P za_M 243 := z_okm_of ⟨"LyndonBenchModel", "undoCount", "()I"⟩ prog_9_method_97_code zc_243 _ rfl rfl rfl rfl
  (zgd_x zdd_243 <|
  zgd_d (fun d => zo_l d rfl rfl trivial) <|
  zgd_d (fun d => zo_l d rfl rfl trivial) <|
  zgd_d (fun d => zo_h d rfl ⟨rfl, Nat.le_of_ble_eq_true rfl, _, _, _, rfl, Nat.le_of_ble_eq_true rfl, zw_1451, Or.inl rfl⟩) <|
  zgd_d (fun d => zo_l d rfl rfl trivial) <|
  zgd_d (fun d => zo_h d rfl ⟨rfl, Nat.le_of_ble_eq_true rfl, _, _, _, Or.inl ⟨Nat.le_of_ble_eq_true rfl, rfl⟩, Nat.le_of_ble_eq_true rfl, zw_1438⟩) <|
  zgd_d (fun d => zo_r d rfl) <|
  zgd_n)
  (z_fn)
theorem zdd_244 : ∀ q ∈ zc_244, decode prog_9_method_98_code q.1 = Except.ok (q.2.1, q.2.2.1) := zdd_of (by decide +kernel)
theorem zk_244 (xs : List Int32) : z_okm (za_T xs) za_P za_M 244 := z_okm_of ⟨"LyndonBenchModel", "saveSnapshot", "()I"⟩ prog_9_method_98_code zc_244 _ rfl rfl rfl rfl
  (zgd_x zdd_244 <|
  zgd_d (fun d => zo_l d rfl rfl trivial) <|
  zgd_d (fun d => zo_l d rfl rfl trivial) <|
  zgd_d (fun d => zo_h d rfl ⟨rfl, Nat.le_of_ble_eq_true rfl, _, _, _, rfl, Nat.le_of_ble_eq_true rfl, zw_1451, Or.inl rfl⟩) <|
  zgd_d (fun d => zo_l d rfl rfl trivial) <|
  zgd_d (fun d => zo_l d rfl rfl trivial) <|
  zgd_d (fun d => zo_h d rfl ⟨rfl, Nat.le_of_ble_eq_true rfl, _, _, _, rfl, Nat.le_of_ble_eq_true rfl, zw_1439, Or.inl rfl⟩) <|
  zgd_d (fun d => zo_l d rfl rfl trivial) <|
  zgd_d (fun d => zo_l d rfl rfl trivial) <|
  zgd_d (fun d => zo_l d rfl rfl trivial) <|
  zgd_d (fun d => zo_l d rfl rfl trivial) <|
  zgd_d (fun d => zo_l d rfl rfl (by show ((16 : Nat) : Int) + (21) = ((37 : Nat) : Int); decide)) <|
  zgd_d (fun d => zo_l d rfl rfl trivial) <|
  zgd_d (fun d => zo_h d rfl ⟨rfl, Nat.le_of_ble_eq_true rfl, _, _, _, Or.inl ⟨Nat.le_of_ble_eq_true rfl, rfl⟩, Nat.le_of_ble_eq_true rfl, zw_1437⟩) <|
  zgd_d (fun d => zo_l d rfl rfl trivial) <|
  zgd_d (fun d => zo_l d rfl rfl trivial) <|
  zgd_d (fun d => zo_h d rfl ⟨rfl, Nat.le_of_ble_eq_true rfl, _, _, _, Or.inl ⟨Nat.le_of_ble_eq_true rfl, rfl⟩, Nat.le_of_ble_eq_true rfl, zw_1434⟩) <|
  zgd_d (fun d => zo_l d rfl rfl trivial) <|
  zgd_d (fun d => zo_h d rfl rfl) <|
  zgd_d (fun d => zo_h d rfl rfl) <|
  zgd_d (fun d => zo_l d rfl rfl trivial) <|
  zgd_d (fun d => zo_l d rfl rfl (by show ((34 : Nat) : Int) + (-22) = ((12 : Nat) : Int); decide)) <|
  zgd_d (fun d => zo_l d rfl rfl trivial) <|
  zgd_d (fun d => zo_h d rfl ⟨rfl, Nat.le_of_ble_eq_true rfl, _, _, _, Or.inl ⟨Nat.le_of_ble_eq_true rfl, rfl⟩, Nat.le_of_ble_eq_true rfl, zw_1434⟩) <|
  zgd_d (fun d => zo_l d rfl rfl trivial) <|
  zgd_d (fun d => zo_h d rfl rfl) <|
  zgd_d (fun d => zo_r d rfl) <|
  zgd_n)
  (z_fn)
theorem zdd_245 : ∀ q ∈ zc_245, decode prog_9_method_99_code q.1 = Except.ok (q.2.1, q.2.2.1) := zdd_of (by decide +kernel)
theorem zk_245 (xs : List Int32) : z_okm (za_T xs) za_P za_M 245 := z_okm_of ⟨"LyndonBenchModel", "restoreSnapshot", "()I"⟩ prog_9_method_99_code zc_245 _ rfl rfl rfl rfl
  (zgd_x zdd_245 <|
  zgd_d (fun d => zo_l d rfl rfl trivial) <|
  zgd_d (fun d => zo_l d rfl rfl trivial) <|
  zgd_d (fun d => zo_h d rfl ⟨rfl, Nat.le_of_ble_eq_true rfl, _, _, _, Or.inl ⟨Nat.le_of_ble_eq_true rfl, rfl⟩, Nat.le_of_ble_eq_true rfl, zw_1439⟩) <|
  zgd_d (fun d => zo_l d rfl rfl (by show ((5 : Nat) : Int) + (7) = ((12 : Nat) : Int); decide)) <|
  zgd_d (fun d => zo_l d rfl rfl trivial) <|
  zgd_d (fun d => zo_l d rfl rfl (by show ((9 : Nat) : Int) + (4) = ((13 : Nat) : Int); decide)) <|
  zgd_d (fun d => zo_l d rfl rfl trivial) <|
  zgd_d (fun d => zo_v d rfl ⟨rfl, zd_150, zw_1526, Nat.le_of_ble_eq_true rfl, ⟨_, Or.inl ⟨Nat.le_of_ble_eq_true rfl, rfl⟩, rfl⟩, zw_1524, zw_93⟩) <|
  zgd_d (fun d => zo_l d rfl rfl (by show ((16 : Nat) : Int) + (5) = ((21 : Nat) : Int); decide)) <|
  zgd_d (fun d => zo_l d rfl rfl trivial) <|
  zgd_d (fun d => zo_r d rfl) <|
  zgd_d (fun d => zo_l d rfl rfl trivial) <|
  zgd_d (fun d => zo_l d rfl rfl trivial) <|
  zgd_d (fun d => zo_l d rfl rfl trivial) <|
  zgd_d (fun d => zo_l d rfl rfl trivial) <|
  zgd_d (fun d => zo_l d rfl rfl (by show ((27 : Nat) : Int) + (21) = ((48 : Nat) : Int); decide)) <|
  zgd_d (fun d => zo_l d rfl rfl trivial) <|
  zgd_d (fun d => zo_h d rfl ⟨rfl, Nat.le_of_ble_eq_true rfl, _, _, _, Or.inl ⟨Nat.le_of_ble_eq_true rfl, rfl⟩, Nat.le_of_ble_eq_true rfl, zw_1434⟩) <|
  zgd_d (fun d => zo_l d rfl rfl trivial) <|
  zgd_d (fun d => zo_l d rfl rfl trivial) <|
  zgd_d (fun d => zo_h d rfl ⟨rfl, Nat.le_of_ble_eq_true rfl, _, _, _, Or.inl ⟨Nat.le_of_ble_eq_true rfl, rfl⟩, Nat.le_of_ble_eq_true rfl, zw_1437⟩) <|
  zgd_d (fun d => zo_l d rfl rfl trivial) <|
  zgd_d (fun d => zo_h d rfl rfl) <|
  zgd_d (fun d => zo_h d rfl rfl) <|
  zgd_d (fun d => zo_l d rfl rfl trivial) <|
  zgd_d (fun d => zo_l d rfl rfl (by show ((45 : Nat) : Int) + (-22) = ((23 : Nat) : Int); decide)) <|
  zgd_d (fun d => zo_l d rfl rfl trivial) <|
  zgd_d (fun d => zo_l d rfl rfl trivial) <|
  zgd_d (fun d => zo_h d rfl ⟨rfl, Nat.le_of_ble_eq_true rfl, _, _, _, rfl, Nat.le_of_ble_eq_true rfl, zw_1438, Or.inl rfl⟩) <|
  zgd_d (fun d => zo_l d rfl rfl trivial) <|
  zgd_d (fun d => zo_h d rfl ⟨rfl, Nat.le_of_ble_eq_true rfl, _, _, _, Or.inl ⟨Nat.le_of_ble_eq_true rfl, rfl⟩, Nat.le_of_ble_eq_true rfl, zw_1434⟩) <|
  zgd_d (fun d => zo_l d rfl rfl trivial) <|
  zgd_d (fun d => zo_h d rfl rfl) <|
  zgd_d (fun d => zo_r d rfl) <|
  zgd_n)
  (z_fn)
theorem zdd_246 : ∀ q ∈ zc_246, decode prog_9_method_100_code q.1 = Except.ok (q.2.1, q.2.2.1) := zdd_of (by decide +kernel)
theorem zk_246 (xs : List Int32) : z_okm (za_T xs) za_P za_M 246 := z_okm_of ⟨"LyndonBenchModel", "scriptErrorKind", "()I"⟩ prog_9_method_100_code zc_246 _ rfl rfl rfl rfl
  (zgd_x zdd_246 <|
  zgd_d (fun d => zo_l d rfl rfl trivial) <|
  zgd_d (fun d => zo_l d rfl rfl trivial) <|
  zgd_d (fun d => zo_h d rfl ⟨rfl, Nat.le_of_ble_eq_true rfl, _, _, _, rfl, Nat.le_of_ble_eq_true rfl, zw_1451, Or.inl rfl⟩) <|
  zgd_d (fun d => zo_l d rfl rfl trivial) <|
  zgd_d (fun d => zo_h d rfl ⟨rfl, Nat.le_of_ble_eq_true rfl, _, _, _, Or.inl ⟨Nat.le_of_ble_eq_true rfl, rfl⟩, Nat.le_of_ble_eq_true rfl, zw_1446⟩) <|
  zgd_d (fun d => zo_r d rfl) <|
  zgd_n)
  (z_fn)
theorem zdd_247 : ∀ q ∈ zc_247, decode prog_9_method_101_code q.1 = Except.ok (q.2.1, q.2.2.1) := zdd_of (by decide +kernel)
theorem zk_247 (xs : List Int32) : z_okm (za_T xs) za_P za_M 247 := z_okm_of ⟨"LyndonBenchModel", "scriptErrorOffset", "()I"⟩ prog_9_method_101_code zc_247 _ rfl rfl rfl rfl
  (zgd_x zdd_247 <|
  zgd_d (fun d => zo_l d rfl rfl trivial) <|
  zgd_d (fun d => zo_l d rfl rfl trivial) <|
  zgd_d (fun d => zo_h d rfl ⟨rfl, Nat.le_of_ble_eq_true rfl, _, _, _, rfl, Nat.le_of_ble_eq_true rfl, zw_1451, Or.inl rfl⟩) <|
  zgd_d (fun d => zo_l d rfl rfl trivial) <|
  zgd_d (fun d => zo_h d rfl ⟨rfl, Nat.le_of_ble_eq_true rfl, _, _, _, Or.inl ⟨Nat.le_of_ble_eq_true rfl, rfl⟩, Nat.le_of_ble_eq_true rfl, zw_1447⟩) <|
  zgd_d (fun d => zo_r d rfl) <|
  zgd_n)
  (z_fn)
theorem zdd_248 : ∀ q ∈ zc_248, decode prog_9_method_102_code q.1 = Except.ok (q.2.1, q.2.2.1) := zdd_of (by decide +kernel)
theorem zk_248 (xs : List Int32) : z_okm (za_T xs) za_P za_M 248 := z_okm_of ⟨"LyndonBenchModel", "told", "(I)I"⟩ prog_9_method_102_code zc_248 _ rfl rfl rfl rfl
  (zgd_x zdd_248 <|
  zgd_d (fun d => zo_l d rfl rfl trivial) <|
  zgd_d (fun d => zo_l d rfl rfl trivial) <|
  zgd_d (fun d => zo_h d rfl ⟨rfl, Nat.le_of_ble_eq_true rfl, _, _, _, rfl, Nat.le_of_ble_eq_true rfl, zw_1451, Or.inl rfl⟩) <|
  zgd_d (fun d => zo_l d rfl rfl trivial) <|
  zgd_d (fun d => zo_h d rfl ⟨rfl, Nat.le_of_ble_eq_true rfl, _, _, _, Or.inl ⟨Nat.le_of_ble_eq_true rfl, rfl⟩, Nat.le_of_ble_eq_true rfl, zw_1434⟩) <|
  zgd_d (fun d => zo_l d rfl rfl trivial) <|
  zgd_d (fun d => zo_h d rfl rfl) <|
  zgd_d (fun d => zo_r d rfl) <|
  zgd_n)
  (z_fn)
theorem zdd_249 : ∀ q ∈ zc_249, decode prog_9_method_103_code q.1 = Except.ok (q.2.1, q.2.2.1) := zdd_of (by decide +kernel)
theorem zk_249 (xs : List Int32) : z_okm (za_T xs) za_P za_M 249 := z_okm_of ⟨"LyndonBenchModel", "letters", "()I"⟩ prog_9_method_103_code zc_249 _ rfl rfl rfl rfl
  (zgd_x zdd_249 <|
  zgd_d (fun d => zo_l d rfl rfl trivial) <|
  zgd_d (fun d => zo_l d rfl rfl trivial) <|
  zgd_d (fun d => zo_v d rfl ⟨rfl, zd_248, zw_1639, Nat.le_of_ble_eq_true rfl, ⟨_, Or.inl ⟨Nat.le_of_ble_eq_true rfl, rfl⟩, rfl⟩, zw_1637, zw_100⟩) <|
  zgd_d (fun d => zo_r d rfl) <|
  zgd_n)
  (z_fn)
theorem zdd_250 : ∀ q ∈ zc_250, decode prog_9_method_104_code q.1 = Except.ok (q.2.1, q.2.2.1) := zdd_of (by decide +kernel)
theorem zk_250 (xs : List Int32) : z_okm (za_T xs) za_P za_M 250 := z_okm_of ⟨"LyndonBenchModel", "length", "()I"⟩ prog_9_method_104_code zc_250 _ rfl rfl rfl rfl
  (zgd_x zdd_250 <|
  zgd_d (fun d => zo_l d rfl rfl trivial) <|
  zgd_d (fun d => zo_l d rfl rfl trivial) <|
  zgd_d (fun d => zo_v d rfl ⟨rfl, zd_248, zw_1639, Nat.le_of_ble_eq_true rfl, ⟨_, Or.inl ⟨Nat.le_of_ble_eq_true rfl, rfl⟩, rfl⟩, zw_1637, zw_100⟩) <|
  zgd_d (fun d => zo_r d rfl) <|
  zgd_n)
  (z_fn)
theorem zdd_251 : ∀ q ∈ zc_251, decode prog_9_method_105_code q.1 = Except.ok (q.2.1, q.2.2.1) := zdd_of (by decide +kernel)
theorem zk_251 (xs : List Int32) : z_okm (za_T xs) za_P za_M 251 := z_okm_of ⟨"LyndonBenchModel", "letterAt", "(I)I"⟩ prog_9_method_105_code zc_251 _ rfl rfl rfl rfl
  (zgd_x zdd_251 <|
  zgd_d (fun d => zo_l d rfl rfl trivial) <|
  zgd_d (fun d => zo_l d rfl rfl trivial) <|
  zgd_d (fun d => zo_h d rfl ⟨rfl, Nat.le_of_ble_eq_true rfl, _, _, _, rfl, Nat.le_of_ble_eq_true rfl, zw_1451, Or.inl rfl⟩) <|
  zgd_d (fun d => zo_l d rfl rfl trivial) <|
  zgd_d (fun d => zo_l d rfl rfl trivial) <|
  zgd_d (fun d => zo_l d rfl rfl trivial) <|
  zgd_d (fun d => zo_h d rfl ⟨rfl, Nat.le_of_ble_eq_true rfl, _, _, _, Or.inl ⟨Nat.le_of_ble_eq_true rfl, rfl⟩, Nat.le_of_ble_eq_true rfl, zw_1434⟩) <|
  zgd_d (fun d => zo_l d rfl rfl trivial) <|
  zgd_d (fun d => zo_h d rfl rfl) <|
  zgd_d (fun d => zo_l d rfl rfl trivial) <|
  zgd_d (fun d => zo_l d rfl rfl trivial) <|
  zgd_d (fun d => zo_s d rfl ⟨zd_149, zw_1215, zw_1216⟩) <|
  zgd_d (fun d => zo_l d rfl rfl (by show ((18 : Nat) : Int) + (17) = ((35 : Nat) : Int); decide)) <|
  zgd_d (fun d => zo_l d rfl rfl trivial) <|
  zgd_d (fun d => zo_l d rfl rfl trivial) <|
  zgd_d (fun d => zo_h d rfl ⟨rfl, Nat.le_of_ble_eq_true rfl, _, _, _, Or.inl ⟨Nat.le_of_ble_eq_true rfl, rfl⟩, Nat.le_of_ble_eq_true rfl, zw_1434⟩) <|
  zgd_d (fun d => zo_l d rfl rfl trivial) <|
  zgd_d (fun d => zo_l d rfl rfl trivial) <|
  zgd_d (fun d => zo_l d rfl rfl trivial) <|
  zgd_d (fun d => zo_h d rfl rfl) <|
  zgd_d (fun d => zo_l d rfl rfl trivial) <|
  zgd_d (fun d => zo_l d rfl rfl (by show ((32 : Nat) : Int) + (4) = ((36 : Nat) : Int); decide)) <|
  zgd_d (fun d => zo_l d rfl rfl trivial) <|
  zgd_d (fun d => zo_r d rfl) <|
  zgd_n)
  (z_fn)
theorem zdd_252 : ∀ q ∈ zc_252, decode prog_9_method_106_code q.1 = Except.ok (q.2.1, q.2.2.1) := zdd_of (by decide +kernel)
theorem zk_252 (xs : List Int32) : z_okm (za_T xs) za_P za_M 252 := z_okm_of ⟨"LyndonBenchModel", "isPart", "(II)Z"⟩ prog_9_method_106_code zc_252 _ rfl rfl rfl rfl
  (zgd_x zdd_252 <|
  zgd_d (fun d => zo_l d rfl rfl trivial) <|
  zgd_d (fun d => zo_l d rfl rfl (by show ((1 : Nat) : Int) + (22) = ((23 : Nat) : Int); decide)) <|
  zgd_d (fun d => zo_l d rfl rfl trivial) <|
  zgd_d (fun d => zo_l d rfl rfl trivial) <|
  zgd_d (fun d => zo_l d rfl rfl (by show ((6 : Nat) : Int) + (17) = ((23 : Nat) : Int); decide)) <|
  zgd_d (fun d => zo_l d rfl rfl trivial) <|
  zgd_d (fun d => zo_l d rfl rfl trivial) <|
  zgd_d (fun d => zo_h d rfl ⟨rfl, Nat.le_of_ble_eq_true rfl, _, _, _, Or.inl ⟨Nat.le_of_ble_eq_true rfl, rfl⟩, Nat.le_of_ble_eq_true rfl, zw_1434⟩) <|
  zgd_d (fun d => zo_l d rfl rfl trivial) <|
  zgd_d (fun d => zo_h d rfl rfl) <|
  zgd_d (fun d => zo_l d rfl rfl (by show ((16 : Nat) : Int) + (7) = ((23 : Nat) : Int); decide)) <|
  zgd_d (fun d => zo_l d rfl rfl trivial) <|
  zgd_d (fun d => zo_l d rfl rfl (by show ((20 : Nat) : Int) + (4) = ((24 : Nat) : Int); decide)) <|
  zgd_d (fun d => zo_l d rfl rfl trivial) <|
  zgd_d (fun d => zo_r d rfl) <|
  zgd_n)
  (z_fn)
theorem zdd_253_0 : ∀ q ∈ zc_253_0, decode prog_9_method_107_code q.1 = Except.ok (q.2.1, q.2.2.1) := zdd_of (by decide +kernel)
theorem zk_253_0 (xs : List Int32) {l : List zE} (h : ∀ q ∈ l, z_oke' (za_T xs) za_P za_M ⟨"LyndonBenchModel", "compareParts", "(IIII)I"⟩ prog_9_method_107_code q) : ∀ q ∈ zc_253_0 ++ l, z_oke' (za_T xs) za_P za_M ⟨"LyndonBenchModel", "compareParts", "(IIII)I"⟩ prog_9_method_107_code q :=
  zgd_y zdd_253_0 <|
  zgd_e (fun d => zo_l d rfl rfl trivial) <|
  zgd_e (fun d => zo_l d rfl rfl trivial) <|
  zgd_e (fun d => zo_l d rfl rfl trivial) <|
  zgd_e (fun d => zo_l d rfl rfl trivial) <|
  zgd_e (fun d => zo_v d rfl ⟨rfl, zd_252, zw_1655, Nat.le_of_ble_eq_true rfl, ⟨_, Or.inl ⟨Nat.le_of_ble_eq_true rfl, rfl⟩, rfl⟩, zw_1653, zw_101⟩) <|
  zgd_e (fun d => zo_l d rfl rfl (by show ((7 : Nat) : Int) + (13) = ((20 : Nat) : Int); decide)) <|
  zgd_e (fun d => zo_l d rfl rfl trivial) <|
  zgd_e (fun d => zo_l d rfl rfl trivial) <|
  zgd_e (fun d => zo_l d rfl rfl trivial) <|
  zgd_e (fun d => zo_v d rfl ⟨rfl, zd_252, zw_1655, Nat.le_of_ble_eq_true rfl, ⟨_, Or.inl ⟨Nat.le_of_ble_eq_true rfl, rfl⟩, rfl⟩, zw_1653, zw_101⟩) <|
  zgd_e (fun d => zo_l d rfl rfl (by show ((17 : Nat) : Int) + (7) = ((24 : Nat) : Int); decide)) <|
  zgd_e (fun d => zo_l d rfl rfl trivial) <|
  zgd_e (fun d => zo_l d rfl rfl (by show ((21 : Nat) : Int) + (4) = ((25 : Nat) : Int); decide)) <|
  zgd_e (fun d => zo_l d rfl rfl trivial) <|
  zgd_e (fun d => zo_v d rfl ⟨rfl, zd_150, zw_1526, Nat.le_of_ble_eq_true rfl, ⟨_, Or.inl ⟨Nat.le_of_ble_eq_true rfl, rfl⟩, rfl⟩, zw_1524, zw_93⟩) <|
  zgd_e (fun d => zo_l d rfl rfl (by show ((28 : Nat) : Int) + (5) = ((33 : Nat) : Int); decide)) <|
  zgd_e (fun d => zo_l d rfl rfl trivial) <|
  zgd_e (fun d => zo_r d rfl) <|
  zgd_e (fun d => zo_l d rfl rfl trivial) <|
  zgd_e (fun d => zo_l d rfl rfl trivial) <|
  zgd_e (fun d => zo_l d rfl rfl trivial) <|
  zgd_e (fun d => zo_l d rfl rfl trivial) <|
  zgd_e (fun d => zo_l d rfl rfl trivial) <|
  zgd_e (fun d => zo_l d rfl rfl trivial) <|
  zgd_e (fun d => zo_l d rfl rfl trivial) <|
  zgd_e (fun d => zo_l d rfl rfl trivial) <|
  zgd_e (fun d => zo_l d rfl rfl trivial) <|
  zgd_e (fun d => zo_l d rfl rfl trivial) <|
  zgd_e (fun d => zo_l d rfl rfl trivial) <|
  zgd_e (fun d => zo_l d rfl rfl trivial) <|
  zgd_e (fun d => zo_l d rfl rfl trivial) <|
  zgd_e (fun d => zo_v d rfl ⟨rfl, zd_154, zw_1428, Nat.le_of_ble_eq_true rfl, ⟨_, Or.inl ⟨Nat.le_of_ble_eq_true rfl, rfl⟩, rfl⟩, zw_1426, zw_90⟩) <|
  zgd_e (fun d => zo_l d rfl rfl trivial) <|
  zgd_e (fun d => zo_l d rfl rfl trivial) <|
  zgd_e (fun d => zo_l d rfl rfl (by show ((54 : Nat) : Int) + (7) = ((61 : Nat) : Int); decide)) <|
  zgd_e (fun d => zo_l d rfl rfl trivial) <|
  zgd_e (fun d => zo_l d rfl rfl (by show ((58 : Nat) : Int) + (13) = ((71 : Nat) : Int); decide)) <|
  zgd_e (fun d => zo_l d rfl rfl trivial) <|
  zgd_e (fun d => zo_l d rfl rfl (by show ((63 : Nat) : Int) + (7) = ((70 : Nat) : Int); decide)) <|
  zgd_e (fun d => zo_l d rfl rfl trivial) <|
  zgd_m h
theorem zdd_253_1 : ∀ q ∈ zc_253_1, decode prog_9_method_107_code q.1 = Except.ok (q.2.1, q.2.2.1) := zdd_of (by decide +kernel)
theorem zk_253_1 (xs : List Int32) {l : List zE} (h : ∀ q ∈ l, z_oke' (za_T xs) za_P za_M ⟨"LyndonBenchModel", "compareParts", "(IIII)I"⟩ prog_9_method_107_code q) : ∀ q ∈ zc_253_1 ++ l, z_oke' (za_T xs) za_P za_M ⟨"LyndonBenchModel", "compareParts", "(IIII)I"⟩ prog_9_method_107_code q :=
  zgd_y zdd_253_1 <|
  zgd_e (fun d => zo_l d rfl rfl (by show ((67 : Nat) : Int) + (4) = ((71 : Nat) : Int); decide)) <|
  zgd_e (fun d => zo_l d rfl rfl trivial) <|
  zgd_e (fun d => zo_r d rfl) <|
  zgd_m h
theorem zk_253 (xs : List Int32) : z_okm (za_T xs) za_P za_M 253 := z_okm_of ⟨"LyndonBenchModel", "compareParts", "(IIII)I"⟩ prog_9_method_107_code zc_253 _ rfl rfl rfl rfl
  (zk_253_0 xs <|
  zk_253_1 xs <|
  z_fn)
  (z_fn)
theorem zdd_254 : ∀ q ∈ zc_254, decode prog_9_method_108_code q.1 = Except.ok (q.2.1, q.2.2.1) := zdd_of (by decide +kernel)
theorem zk_254 (xs : List Int32) : z_okm (za_T xs) za_P za_M 254 := z_okm_of ⟨"LyndonBenchModel", "factorCount", "()I"⟩ prog_9_method_108_code zc_254 _ rfl rfl rfl rfl
  (zgd_x zdd_254 <|
  zgd_d (fun d => zo_l d rfl rfl trivial) <|
  zgd_d (fun d => zo_l d rfl rfl trivial) <|
  zgd_d (fun d => zo_h d rfl ⟨rfl, Nat.le_of_ble_eq_true rfl, _, _, _, rfl, Nat.le_of_ble_eq_true rfl, zw_1451, Or.inl rfl⟩) <|
  zgd_d (fun d => zo_l d rfl rfl trivial) <|
  zgd_d (fun d => zo_v d rfl ⟨rfl, zd_161, zw_1288, Nat.le_of_ble_eq_true rfl, ⟨_, Or.inl ⟨Nat.le_of_ble_eq_true rfl, rfl⟩, rfl⟩, zw_1286, zw_55⟩) <|
  zgd_d (fun d => zo_r d rfl) <|
  zgd_n)
  (z_fn)
theorem zdd_255 : ∀ q ∈ zc_255, decode prog_9_method_109_code q.1 = Except.ok (q.2.1, q.2.2.1) := zdd_of (by decide +kernel)
theorem zk_255 (xs : List Int32) : z_okm (za_T xs) za_P za_M 255 := z_okm_of ⟨"LyndonBenchModel", "throwsFactor", "(I)Z"⟩ prog_9_method_109_code zc_255 _ rfl rfl rfl rfl
  (zgd_x zdd_255 <|
  zgd_d (fun d => zo_l d rfl rfl trivial) <|
  zgd_d (fun d => zo_l d rfl rfl trivial) <|
  zgd_d (fun d => zo_l d rfl rfl trivial) <|
  zgd_d (fun d => zo_l d rfl rfl trivial) <|
  zgd_d (fun d => zo_v d rfl ⟨rfl, zd_161, zw_1288, Nat.le_of_ble_eq_true rfl, ⟨_, Or.inl ⟨Nat.le_of_ble_eq_true rfl, rfl⟩, rfl⟩, zw_1286, zw_55⟩) <|
  zgd_d (fun d => zo_l d rfl rfl trivial) <|
  zgd_d (fun d => zo_l d rfl rfl trivial) <|
  zgd_d (fun d => zo_s d rfl ⟨zd_149, zw_1215, zw_1216⟩) <|
  zgd_d (fun d => zo_l d rfl rfl (by show ((12 : Nat) : Int) + (7) = ((19 : Nat) : Int); decide)) <|
  zgd_d (fun d => zo_l d rfl rfl trivial) <|
  zgd_d (fun d => zo_l d rfl rfl (by show ((16 : Nat) : Int) + (4) = ((20 : Nat) : Int); decide)) <|
  zgd_d (fun d => zo_l d rfl rfl trivial) <|
  zgd_d (fun d => zo_v d rfl ⟨rfl, zd_150, zw_1526, Nat.le_of_ble_eq_true rfl, ⟨_, Or.inl ⟨Nat.le_of_ble_eq_true rfl, rfl⟩, rfl⟩, zw_1524, zw_93⟩) <|
  zgd_d (fun d => zo_r d rfl) <|
  zgd_n)
  (z_fn)
theorem zdd_256 : ∀ q ∈ zc_256, decode prog_9_method_110_code q.1 = Except.ok (q.2.1, q.2.2.1) := zdd_of (by decide +kernel)
theorem zk_256 (xs : List Int32) : z_okm (za_T xs) za_P za_M 256 := z_okm_of ⟨"LyndonBenchModel", "factorStart", "(I)I"⟩ prog_9_method_110_code zc_256 _ rfl rfl rfl rfl
  (zgd_x zdd_256 <|
  zgd_d (fun d => zo_l d rfl rfl trivial) <|
  zgd_d (fun d => zo_l d rfl rfl trivial) <|
  zgd_d (fun d => zo_v d rfl ⟨rfl, zd_255, zw_1667, Nat.le_of_ble_eq_true rfl, ⟨_, Or.inl ⟨Nat.le_of_ble_eq_true rfl, rfl⟩, rfl⟩, zw_1665, zw_102⟩) <|
  zgd_d (fun d => zo_l d rfl rfl (by show ((5 : Nat) : Int) + (7) = ((12 : Nat) : Int); decide)) <|
  zgd_d (fun d => zo_l d rfl rfl trivial) <|
  zgd_d (fun d => zo_l d rfl rfl (by show ((9 : Nat) : Int) + (9) = ((18 : Nat) : Int); decide)) <|
  zgd_d (fun d => zo_l d rfl rfl trivial) <|
  zgd_d (fun d => zo_h d rfl ⟨rfl, Nat.le_of_ble_eq_true rfl, _, _, _, Or.inl ⟨Nat.le_of_ble_eq_true rfl, rfl⟩, Nat.le_of_ble_eq_true rfl, zw_1443⟩) <|
  zgd_d (fun d => zo_l d rfl rfl trivial) <|
  zgd_d (fun d => zo_h d rfl rfl) <|
  zgd_d (fun d => zo_r d rfl) <|
  zgd_n)
  (z_fn)
theorem zdd_257 : ∀ q ∈ zc_257, decode prog_9_method_111_code q.1 = Except.ok (q.2.1, q.2.2.1) := zdd_of (by decide +kernel)
theorem zk_257 (xs : List Int32) : z_okm (za_T xs) za_P za_M 257 := z_okm_of ⟨"LyndonBenchModel", "factorLength", "(I)I"⟩ prog_9_method_111_code zc_257 _ rfl rfl rfl rfl
  (zgd_x zdd_257 <|
  zgd_d (fun d => zo_l d rfl rfl trivial) <|
  zgd_d (fun d => zo_l d rfl rfl trivial) <|
  zgd_d (fun d => zo_v d rfl ⟨rfl, zd_255, zw_1667, Nat.le_of_ble_eq_true rfl, ⟨_, Or.inl ⟨Nat.le_of_ble_eq_true rfl, rfl⟩, rfl⟩, zw_1665, zw_102⟩) <|
  zgd_d (fun d => zo_l d rfl rfl (by show ((5 : Nat) : Int) + (7) = ((12 : Nat) : Int); decide)) <|
  zgd_d (fun d => zo_l d rfl rfl trivial) <|
  zgd_d (fun d => zo_l d rfl rfl (by show ((9 : Nat) : Int) + (18) = ((27 : Nat) : Int); decide)) <|
  zgd_d (fun d => zo_l d rfl rfl trivial) <|
  zgd_d (fun d => zo_h d rfl ⟨rfl, Nat.le_of_ble_eq_true rfl, _, _, _, Or.inl ⟨Nat.le_of_ble_eq_true rfl, rfl⟩, Nat.le_of_ble_eq_true rfl, zw_1443⟩) <|
  zgd_d (fun d => zo_l d rfl rfl trivial) <|
  zgd_d (fun d => zo_l d rfl rfl trivial) <|
  zgd_d (fun d => zo_l d rfl rfl trivial) <|
  zgd_d (fun d => zo_h d rfl rfl) <|
  zgd_d (fun d => zo_l d rfl rfl trivial) <|
  zgd_d (fun d => zo_h d rfl ⟨rfl, Nat.le_of_ble_eq_true rfl, _, _, _, Or.inl ⟨Nat.le_of_ble_eq_true rfl, rfl⟩, Nat.le_of_ble_eq_true rfl, zw_1443⟩) <|
  zgd_d (fun d => zo_l d rfl rfl trivial) <|
  zgd_d (fun d => zo_h d rfl rfl) <|
  zgd_d (fun d => zo_l d rfl rfl trivial) <|
  zgd_d (fun d => zo_r d rfl) <|
  zgd_n)
  (z_fn)
theorem zdd_258_0 : ∀ q ∈ zc_258_0, decode prog_9_method_112_code q.1 = Except.ok (q.2.1, q.2.2.1) := zdd_of (by decide +kernel)
theorem zk_258_0 (xs : List Int32) {l : List zE} (h : ∀ q ∈ l, z_oke' (za_T xs) za_P za_M ⟨"LyndonBenchModel", "areAlike", "(II)Z"⟩ prog_9_method_112_code q) : ∀ q ∈ zc_258_0 ++ l, z_oke' (za_T xs) za_P za_M ⟨"LyndonBenchModel", "areAlike", "(II)Z"⟩ prog_9_method_112_code q :=
  zgd_y zdd_258_0 <|
  zgd_e (fun d => zo_l d rfl rfl trivial) <|
  zgd_e (fun d => zo_l d rfl rfl trivial) <|
  zgd_e (fun d => zo_l d rfl rfl trivial) <|
  zgd_e (fun d => zo_h d rfl ⟨rfl, Nat.le_of_ble_eq_true rfl, _, _, _, Or.inl ⟨Nat.le_of_ble_eq_true rfl, rfl⟩, Nat.le_of_ble_eq_true rfl, zw_1443⟩) <|
  zgd_e (fun d => zo_l d rfl rfl trivial) <|
  zgd_e (fun d => zo_h d rfl rfl) <|
  zgd_e (fun d => zo_l d rfl rfl trivial) <|
  zgd_e (fun d => zo_l d rfl rfl trivial) <|
  zgd_e (fun d => zo_h d rfl ⟨rfl, Nat.le_of_ble_eq_true rfl, _, _, _, Or.inl ⟨Nat.le_of_ble_eq_true rfl, rfl⟩, Nat.le_of_ble_eq_true rfl, zw_1443⟩) <|
  zgd_e (fun d => zo_l d rfl rfl trivial) <|
  zgd_e (fun d => zo_l d rfl rfl trivial) <|
  zgd_e (fun d => zo_l d rfl rfl trivial) <|
  zgd_e (fun d => zo_h d rfl rfl) <|
  zgd_e (fun d => zo_l d rfl rfl trivial) <|
  zgd_e (fun d => zo_h d rfl ⟨rfl, Nat.le_of_ble_eq_true rfl, _, _, _, Or.inl ⟨Nat.le_of_ble_eq_true rfl, rfl⟩, Nat.le_of_ble_eq_true rfl, zw_1443⟩) <|
  zgd_e (fun d => zo_l d rfl rfl trivial) <|
  zgd_e (fun d => zo_h d rfl rfl) <|
  zgd_e (fun d => zo_l d rfl rfl trivial) <|
  zgd_e (fun d => zo_l d rfl rfl trivial) <|
  zgd_e (fun d => zo_l d rfl rfl trivial) <|
  zgd_e (fun d => zo_h d rfl ⟨rfl, Nat.le_of_ble_eq_true rfl, _, _, _, Or.inl ⟨Nat.le_of_ble_eq_true rfl, rfl⟩, Nat.le_of_ble_eq_true rfl, zw_1443⟩) <|
  zgd_e (fun d => zo_l d rfl rfl trivial) <|
  zgd_e (fun d => zo_h d rfl rfl) <|
  zgd_e (fun d => zo_l d rfl rfl trivial) <|
  zgd_e (fun d => zo_l d rfl rfl trivial) <|
  zgd_e (fun d => zo_h d rfl ⟨rfl, Nat.le_of_ble_eq_true rfl, _, _, _, Or.inl ⟨Nat.le_of_ble_eq_true rfl, rfl⟩, Nat.le_of_ble_eq_true rfl, zw_1443⟩) <|
  zgd_e (fun d => zo_l d rfl rfl trivial) <|
  zgd_e (fun d => zo_l d rfl rfl trivial) <|
  zgd_e (fun d => zo_l d rfl rfl trivial) <|
  zgd_e (fun d => zo_h d rfl rfl) <|
  zgd_e (fun d => zo_l d rfl rfl trivial) <|
  zgd_e (fun d => zo_h d rfl ⟨rfl, Nat.le_of_ble_eq_true rfl, _, _, _, Or.inl ⟨Nat.le_of_ble_eq_true rfl, rfl⟩, Nat.le_of_ble_eq_true rfl, zw_1443⟩) <|
  zgd_e (fun d => zo_l d rfl rfl trivial) <|
  zgd_e (fun d => zo_h d rfl rfl) <|
  zgd_e (fun d => zo_l d rfl rfl trivial) <|
  zgd_e (fun d => zo_v d rfl ⟨rfl, zd_154, zw_1428, Nat.le_of_ble_eq_true rfl, ⟨_, Or.inl ⟨Nat.le_of_ble_eq_true rfl, rfl⟩, rfl⟩, zw_1426, zw_90⟩) <|
  zgd_e (fun d => zo_l d rfl rfl (by show ((50 : Nat) : Int) + (7) = ((57 : Nat) : Int); decide)) <|
  zgd_e (fun d => zo_l d rfl rfl trivial) <|
  zgd_e (fun d => zo_l d rfl rfl (by show ((54 : Nat) : Int) + (4) = ((58 : Nat) : Int); decide)) <|
  zgd_e (fun d => zo_l d rfl rfl trivial) <|
  zgd_m h
theorem zdd_258_1 : ∀ q ∈ zc_258_1, decode prog_9_method_112_code q.1 = Except.ok (q.2.1, q.2.2.1) := zdd_of (by decide +kernel)
theorem zk_258_1 (xs : List Int32) {l : List zE} (h : ∀ q ∈ l, z_oke' (za_T xs) za_P za_M ⟨"LyndonBenchModel", "areAlike", "(II)Z"⟩ prog_9_method_112_code q) : ∀ q ∈ zc_258_1 ++ l, z_oke' (za_T xs) za_P za_M ⟨"LyndonBenchModel", "areAlike", "(II)Z"⟩ prog_9_method_112_code q :=
  zgd_y zdd_258_1 <|
  zgd_e (fun d => zo_r d rfl) <|
  zgd_m h
theorem zk_258 (xs : List Int32) : z_okm (za_T xs) za_P za_M 258 := z_okm_of ⟨"LyndonBenchModel", "areAlike", "(II)Z"⟩ prog_9_method_112_code zc_258 _ rfl rfl rfl rfl
  (zk_258_0 xs <|
  zk_258_1 xs <|
  z_fn)
  (z_fn)
theorem zdd_259 : ∀ q ∈ zc_259, decode prog_9_method_113_code q.1 = Except.ok (q.2.1, q.2.2.1) := zdd_of (by decide +kernel)
theorem zk_259 (xs : List Int32) : z_okm (za_T xs) za_P za_M 259 := z_okm_of ⟨"LyndonBenchModel", "powerOf", "(II)I"⟩ prog_9_method_113_code zc_259 _ rfl rfl rfl rfl
  (zgd_x zdd_259 <|
  zgd_d (fun d => zo_l d rfl rfl trivial) <|
  zgd_d (fun d => zo_l d rfl rfl trivial) <|
  zgd_d (fun d => zo_l d rfl rfl trivial) <|
  zgd_d (fun d => zo_l d rfl rfl trivial) <|
  zgd_d (fun d => zo_l d rfl rfl trivial) <|
  zgd_d (fun d => zo_l d rfl rfl trivial) <|
  zgd_d (fun d => zo_l d rfl rfl (by show ((8 : Nat) : Int) + (27) = ((35 : Nat) : Int); decide)) <|
  zgd_d (fun d => zo_l d rfl rfl trivial) <|
  zgd_d (fun d => zo_l d rfl rfl trivial) <|
  zgd_d (fun d => zo_l d rfl rfl trivial) <|
  zgd_d (fun d => zo_l d rfl rfl trivial) <|
  zgd_d (fun d => zo_v d rfl ⟨rfl, zd_258, zw_1683, Nat.le_of_ble_eq_true rfl, ⟨_, Or.inl ⟨Nat.le_of_ble_eq_true rfl, rfl⟩, rfl⟩, zw_1681, zw_104⟩) <|
  zgd_d (fun d => zo_l d rfl rfl (by show ((19 : Nat) : Int) + (7) = ((26 : Nat) : Int); decide)) <|
  zgd_d (fun d => zo_l d rfl rfl trivial) <|
  zgd_d (fun d => zo_l d rfl rfl (by show ((23 : Nat) : Int) + (4) = ((27 : Nat) : Int); decide)) <|
  zgd_d (fun d => zo_l d rfl rfl trivial) <|
  zgd_d (fun d => zo_l d rfl rfl trivial) <|
  zgd_d (fun d => zo_l d rfl rfl trivial) <|
  zgd_d (fun d => zo_l d rfl rfl trivial) <|
  zgd_d (fun d => zo_l d rfl rfl (by show ((32 : Nat) : Int) + (-27) = ((5 : Nat) : Int); decide)) <|
  zgd_d (fun d => zo_l d rfl rfl trivial) <|
  zgd_d (fun d => zo_r d rfl) <|
  zgd_n)
  (z_fn)
theorem zdd_260 : ∀ q ∈ zc_260, decode prog_9_method_114_code q.1 = Except.ok (q.2.1, q.2.2.1) := zdd_of (by decide +kernel)
theorem zk_260 (xs : List Int32) : z_okm (za_T xs) za_P za_M 260 := z_okm_of ⟨"LyndonBenchModel", "factorPower", "(I)I"⟩ prog_9_method_114_code zc_260 _ rfl rfl rfl rfl
  (zgd_x zdd_260 <|
  zgd_d (fun d => zo_l d rfl rfl trivial) <|
  zgd_d (fun d => zo_v d rfl ⟨rfl, zd_161, zw_1288, Nat.le_of_ble_eq_true rfl, ⟨_, Or.inl ⟨Nat.le_of_ble_eq_true rfl, rfl⟩, rfl⟩, zw_1286, zw_55⟩) <|
  zgd_d (fun d => zo_l d rfl rfl trivial) <|
  zgd_d (fun d => zo_l d rfl rfl trivial) <|
  zgd_d (fun d => zo_l d rfl rfl trivial) <|
  zgd_d (fun d => zo_l d rfl rfl trivial) <|
  zgd_d (fun d => zo_l d rfl rfl trivial) <|
  zgd_d (fun d => zo_l d rfl rfl trivial) <|
  zgd_d (fun d => zo_l d rfl rfl trivial) <|
  zgd_d (fun d => zo_s d rfl ⟨zd_149, zw_1215, zw_1216⟩) <|
  zgd_d (fun d => zo_l d rfl rfl (by show ((14 : Nat) : Int) + (7) = ((21 : Nat) : Int); decide)) <|
  zgd_d (fun d => zo_l d rfl rfl trivial) <|
  zgd_d (fun d => zo_l d rfl rfl (by show ((18 : Nat) : Int) + (4) = ((22 : Nat) : Int); decide)) <|
  zgd_d (fun d => zo_l d rfl rfl trivial) <|
  zgd_d (fun d => zo_v d rfl ⟨rfl, zd_150, zw_1526, Nat.le_of_ble_eq_true rfl, ⟨_, Or.inl ⟨Nat.le_of_ble_eq_true rfl, rfl⟩, rfl⟩, zw_1524, zw_93⟩) <|
  zgd_d (fun d => zo_l d rfl rfl (by show ((25 : Nat) : Int) + (7) = ((32 : Nat) : Int); decide)) <|
  zgd_d (fun d => zo_l d rfl rfl trivial) <|
  zgd_d (fun d => zo_l d rfl rfl (by show ((29 : Nat) : Int) + (9) = ((38 : Nat) : Int); decide)) <|
  zgd_d (fun d => zo_l d rfl rfl trivial) <|
  zgd_d (fun d => zo_l d rfl rfl trivial) <|
  zgd_d (fun d => zo_l d rfl rfl trivial) <|
  zgd_d (fun d => zo_v d rfl ⟨rfl, zd_259, zw_1679, Nat.le_of_ble_eq_true rfl, ⟨_, Or.inl ⟨Nat.le_of_ble_eq_true rfl, rfl⟩, rfl⟩, zw_1677, zw_103⟩) <|
  zgd_d (fun d => zo_r d rfl) <|
  zgd_n)
  (z_fn)
theorem zdd_261 : ∀ q ∈ zc_261, decode prog_9_method_115_code q.1 = Except.ok (q.2.1, q.2.2.1) := zdd_of (by decide +kernel)
theorem zk_261 (xs : List Int32) : z_okm (za_T xs) za_P za_M 261 := z_okm_of ⟨"LyndonBenchModel", "factorOf", "(I)I"⟩ prog_9_method_115_code zc_261 _ rfl rfl rfl rfl
  (zgd_x zdd_261 <|
  zgd_d (fun d => zo_l d rfl rfl trivial) <|
  zgd_d (fun d => zo_l d rfl rfl trivial) <|
  zgd_d (fun d => zo_h d rfl ⟨rfl, Nat.le_of_ble_eq_true rfl, _, _, _, rfl, Nat.le_of_ble_eq_true rfl, zw_1451, Or.inl rfl⟩) <|
  zgd_d (fun d => zo_l d rfl rfl trivial) <|
  zgd_d (fun d => zo_v d rfl ⟨rfl, zd_161, zw_1288, Nat.le_of_ble_eq_true rfl, ⟨_, Or.inl ⟨Nat.le_of_ble_eq_true rfl, rfl⟩, rfl⟩, zw_1286, zw_55⟩) <|
  zgd_d (fun d => zo_l d rfl rfl trivial) <|
  zgd_d (fun d => zo_l d rfl rfl trivial) <|
  zgd_d (fun d => zo_l d rfl rfl trivial) <|
  zgd_d (fun d => zo_l d rfl rfl trivial) <|
  zgd_d (fun d => zo_l d rfl rfl trivial) <|
  zgd_d (fun d => zo_l d rfl rfl (by show ((14 : Nat) : Int) + (34) = ((48 : Nat) : Int); decide)) <|
  zgd_d (fun d => zo_l d rfl rfl trivial) <|
  zgd_d (fun d => zo_l d rfl rfl trivial) <|
  zgd_d (fun d => zo_h d rfl ⟨rfl, Nat.le_of_ble_eq_true rfl, _, _, _, Or.inl ⟨Nat.le_of_ble_eq_true rfl, rfl⟩, Nat.le_of_ble_eq_true rfl, zw_1443⟩) <|
  zgd_d (fun d => zo_l d rfl rfl trivial) <|
  zgd_d (fun d => zo_h d rfl rfl) <|
  zgd_d (fun d => zo_l d rfl rfl trivial) <|
  zgd_d (fun d => zo_h d rfl ⟨rfl, Nat.le_of_ble_eq_true rfl, _, _, _, Or.inl ⟨Nat.le_of_ble_eq_true rfl, rfl⟩, Nat.le_of_ble_eq_true rfl, zw_1443⟩) <|
  zgd_d (fun d => zo_l d rfl rfl trivial) <|
  zgd_d (fun d => zo_l d rfl rfl trivial) <|
  zgd_d (fun d => zo_l d rfl rfl trivial) <|
  zgd_d (fun d => zo_h d rfl rfl) <|
  zgd_d (fun d => zo_l d rfl rfl trivial) <|
  zgd_d (fun d => zo_l d rfl rfl trivial) <|
  zgd_d (fun d => zo_s d rfl ⟨zd_149, zw_1215, zw_1216⟩) <|
  zgd_d (fun d => zo_l d rfl rfl (by show ((37 : Nat) : Int) + (5) = ((42 : Nat) : Int); decide)) <|
  zgd_d (fun d => zo_l d rfl rfl trivial) <|
  zgd_d (fun d => zo_r d rfl) <|
  zgd_d (fun d => zo_l d rfl rfl trivial) <|
  zgd_d (fun d => zo_l d rfl rfl (by show ((45 : Nat) : Int) + (-33) = ((12 : Nat) : Int); decide)) <|
  zgd_d (fun d => zo_l d rfl rfl trivial) <|
  zgd_d (fun d => zo_r d rfl) <|
  zgd_n)
  (z_fn)
theorem zdd_262_0 : ∀ q ∈ zc_262_0, decode prog_9_method_116_code q.1 = Except.ok (q.2.1, q.2.2.1) := zdd_of (by decide +kernel)
theorem zk_262_0 (xs : List Int32) {l : List zE} (h : ∀ q ∈ l, z_oke' (za_T xs) za_P za_M ⟨"LyndonBenchModel", "longestFactor", "()I"⟩ prog_9_method_116_code q) : ∀ q ∈ zc_262_0 ++ l, z_oke' (za_T xs) za_P za_M ⟨"LyndonBenchModel", "longestFactor", "()I"⟩ prog_9_method_116_code q :=
  zgd_y zdd_262_0 <|
  zgd_e (fun d => zo_l d rfl rfl trivial) <|
  zgd_e (fun d => zo_l d rfl rfl trivial) <|
  zgd_e (fun d => zo_h d rfl ⟨rfl, Nat.le_of_ble_eq_true rfl, _, _, _, rfl, Nat.le_of_ble_eq_true rfl, zw_1451, Or.inl rfl⟩) <|
  zgd_e (fun d => zo_l d rfl rfl trivial) <|
  zgd_e (fun d => zo_v d rfl ⟨rfl, zd_161, zw_1288, Nat.le_of_ble_eq_true rfl, ⟨_, Or.inl ⟨Nat.le_of_ble_eq_true rfl, rfl⟩, rfl⟩, zw_1286, zw_55⟩) <|
  zgd_e (fun d => zo_l d rfl rfl trivial) <|
  zgd_e (fun d => zo_l d rfl rfl trivial) <|
  zgd_e (fun d => zo_l d rfl rfl trivial) <|
  zgd_e (fun d => zo_l d rfl rfl trivial) <|
  zgd_e (fun d => zo_l d rfl rfl trivial) <|
  zgd_e (fun d => zo_l d rfl rfl trivial) <|
  zgd_e (fun d => zo_l d rfl rfl trivial) <|
  zgd_e (fun d => zo_l d rfl rfl (by show ((16 : Nat) : Int) + (49) = ((65 : Nat) : Int); decide)) <|
  zgd_e (fun d => zo_l d rfl rfl trivial) <|
  zgd_e (fun d => zo_l d rfl rfl trivial) <|
  zgd_e (fun d => zo_l d rfl rfl (by show ((21 : Nat) : Int) + (36) = ((57 : Nat) : Int); decide)) <|
  zgd_e (fun d => zo_l d rfl rfl trivial) <|
  zgd_e (fun d => zo_h d rfl ⟨rfl, Nat.le_of_ble_eq_true rfl, _, _, _, Or.inl ⟨Nat.le_of_ble_eq_true rfl, rfl⟩, Nat.le_of_ble_eq_true rfl, zw_1443⟩) <|
  zgd_e (fun d => zo_l d rfl rfl trivial) <|
  zgd_e (fun d => zo_l d rfl rfl trivial) <|
  zgd_e (fun d => zo_l d rfl rfl trivial) <|
  zgd_e (fun d => zo_h d rfl rfl) <|
  zgd_e (fun d => zo_l d rfl rfl trivial) <|
  zgd_e (fun d => zo_h d rfl ⟨rfl, Nat.le_of_ble_eq_true rfl, _, _, _, Or.inl ⟨Nat.le_of_ble_eq_true rfl, rfl⟩, Nat.le_of_ble_eq_true rfl, zw_1443⟩) <|
  zgd_e (fun d => zo_l d rfl rfl trivial) <|
  zgd_e (fun d => zo_h d rfl rfl) <|
  zgd_e (fun d => zo_l d rfl rfl trivial) <|
  zgd_e (fun d => zo_l d rfl rfl trivial) <|
  zgd_e (fun d => zo_h d rfl ⟨rfl, Nat.le_of_ble_eq_true rfl, _, _, _, Or.inl ⟨Nat.le_of_ble_eq_true rfl, rfl⟩, Nat.le_of_ble_eq_true rfl, zw_1443⟩) <|
  zgd_e (fun d => zo_l d rfl rfl trivial) <|
  zgd_e (fun d => zo_l d rfl rfl trivial) <|
  zgd_e (fun d => zo_l d rfl rfl trivial) <|
  zgd_e (fun d => zo_h d rfl rfl) <|
  zgd_e (fun d => zo_l d rfl rfl trivial) <|
  zgd_e (fun d => zo_h d rfl ⟨rfl, Nat.le_of_ble_eq_true rfl, _, _, _, Or.inl ⟨Nat.le_of_ble_eq_true rfl, rfl⟩, Nat.le_of_ble_eq_true rfl, zw_1443⟩) <|
  zgd_e (fun d => zo_l d rfl rfl trivial) <|
  zgd_e (fun d => zo_h d rfl rfl) <|
  zgd_e (fun d => zo_l d rfl rfl trivial) <|
  zgd_e (fun d => zo_l d rfl rfl (by show ((54 : Nat) : Int) + (5) = ((59 : Nat) : Int); decide)) <|
  zgd_e (fun d => zo_l d rfl rfl trivial) <|
  zgd_m h
theorem zdd_262_1 : ∀ q ∈ zc_262_1, decode prog_9_method_116_code q.1 = Except.ok (q.2.1, q.2.2.1) := zdd_of (by decide +kernel)
theorem zk_262_1 (xs : List Int32) {l : List zE} (h : ∀ q ∈ l, z_oke' (za_T xs) za_P za_M ⟨"LyndonBenchModel", "longestFactor", "()I"⟩ prog_9_method_116_code q) : ∀ q ∈ zc_262_1 ++ l, z_oke' (za_T xs) za_P za_M ⟨"LyndonBenchModel", "longestFactor", "()I"⟩ prog_9_method_116_code q :=
  zgd_y zdd_262_1 <|
  zgd_e (fun d => zo_l d rfl rfl trivial) <|
  zgd_e (fun d => zo_l d rfl rfl trivial) <|
  zgd_e (fun d => zo_l d rfl rfl (by show ((62 : Nat) : Int) + (-48) = ((14 : Nat) : Int); decide)) <|
  zgd_e (fun d => zo_l d rfl rfl trivial) <|
  zgd_e (fun d => zo_r d rfl) <|
  zgd_m h
theorem zk_262 (xs : List Int32) : z_okm (za_T xs) za_P za_M 262 := z_okm_of ⟨"LyndonBenchModel", "longestFactor", "()I"⟩ prog_9_method_116_code zc_262 _ rfl rfl rfl rfl
  (zk_262_0 xs <|
  zk_262_1 xs <|
  z_fn)
  (z_fn)
theorem zdd_263 : ∀ q ∈ zc_263, decode prog_9_method_117_code q.1 = Except.ok (q.2.1, q.2.2.1) := zdd_of (by decide +kernel)
theorem zk_263 (xs : List Int32) : z_okm (za_T xs) za_P za_M 263 := z_okm_of ⟨"LyndonBenchModel", "factorsIfAppended", "(I)I"⟩ prog_9_method_117_code zc_263 _ rfl rfl rfl rfl
  (zgd_x zdd_263 <|
  zgd_d (fun d => zo_l d rfl rfl trivial) <|
  zgd_d (fun d => zo_l d rfl rfl trivial) <|
  zgd_d (fun d => zo_l d rfl rfl trivial) <|
  zgd_d (fun d => zo_v d rfl ⟨rfl, zd_152, zw_1260, Nat.le_of_ble_eq_true rfl, ⟨_, Or.inl ⟨Nat.le_of_ble_eq_true rfl, rfl⟩, rfl⟩, zw_1258, zw_48⟩) <|
  zgd_d (fun d => zo_l d rfl rfl (by show ((6 : Nat) : Int) + (7) = ((13 : Nat) : Int); decide)) <|
  zgd_d (fun d => zo_l d rfl rfl trivial) <|
  zgd_d (fun d => zo_l d rfl rfl (by show ((10 : Nat) : Int) + (4) = ((14 : Nat) : Int); decide)) <|
  zgd_d (fun d => zo_l d rfl rfl trivial) <|
  zgd_d (fun d => zo_v d rfl ⟨rfl, zd_150, zw_1526, Nat.le_of_ble_eq_true rfl, ⟨_, Or.inl ⟨Nat.le_of_ble_eq_true rfl, rfl⟩, rfl⟩, zw_1524, zw_93⟩) <|
  zgd_d (fun d => zo_l d rfl rfl (by show ((17 : Nat) : Int) + (5) = ((22 : Nat) : Int); decide)) <|
  zgd_d (fun d => zo_l d rfl rfl trivial) <|
  zgd_d (fun d => zo_r d rfl) <|
  zgd_d (fun d => zo_l d rfl rfl trivial) <|
  zgd_d (fun d => zo_v d rfl ⟨rfl, zd_156, zw_1276, Nat.le_of_ble_eq_true rfl, ⟨_, Or.inl ⟨Nat.le_of_ble_eq_true rfl, rfl⟩, rfl⟩, zw_1274, zw_52⟩) <|
  zgd_d (fun d => zo_l d rfl rfl trivial) <|
  zgd_d (fun d => zo_l d rfl rfl trivial) <|
  zgd_d (fun d => zo_l d rfl rfl trivial) <|
  zgd_d (fun d => zo_l d rfl rfl trivial) <|
  zgd_d (fun d => zo_v d rfl ⟨rfl, zd_157, zw_1432, Nat.le_of_ble_eq_true rfl, ⟨_, Or.inl ⟨Nat.le_of_ble_eq_true rfl, rfl⟩, rfl⟩, zw_1430, zw_91⟩) <|
  zgd_d (fun d => zo_l d rfl rfl trivial) <|
  zgd_d (fun d => zo_v d rfl ⟨rfl, zd_160, zw_1292, Nat.le_of_ble_eq_true rfl, ⟨_, Or.inl ⟨Nat.le_of_ble_eq_true rfl, rfl⟩, rfl⟩, zw_1290, zw_56⟩) <|
  zgd_d (fun d => zo_r d rfl) <|
  zgd_n)
  (z_fn)
theorem zdd_264 : ∀ q ∈ zc_264, decode prog_9_method_118_code q.1 = Except.ok (q.2.1, q.2.2.1) := zdd_of (by decide +kernel)
theorem zk_264 (xs : List Int32) : z_okm (za_T xs) za_P za_M 264 := z_okm_of ⟨"LyndonBenchModel", "factorsIfRotated", "(I)I"⟩ prog_9_method_118_code zc_264 _ rfl rfl rfl rfl
  (zgd_x zdd_264 <|
  zgd_d (fun d => zo_l d rfl rfl trivial) <|
  zgd_d (fun d => zo_l d rfl rfl trivial) <|
  zgd_d (fun d => zo_l d rfl rfl trivial) <|
  zgd_d (fun d => zo_l d rfl rfl trivial) <|
  zgd_d (fun d => zo_h d rfl ⟨rfl, Nat.le_of_ble_eq_true rfl, _, _, _, Or.inl ⟨Nat.le_of_ble_eq_true rfl, rfl⟩, Nat.le_of_ble_eq_true rfl, zw_1434⟩) <|
  zgd_d (fun d => zo_l d rfl rfl trivial) <|
  zgd_d (fun d => zo_h d rfl rfl) <|
  zgd_d (fun d => zo_s d rfl ⟨zd_149, zw_1215, zw_1216⟩) <|
  zgd_d (fun d => zo_l d rfl rfl (by show ((12 : Nat) : Int) + (7) = ((19 : Nat) : Int); decide)) <|
  zgd_d (fun d => zo_l d rfl rfl trivial) <|
  zgd_d (fun d => zo_l d rfl rfl (by show ((16 : Nat) : Int) + (4) = ((20 : Nat) : Int); decide)) <|
  zgd_d (fun d => zo_l d rfl rfl trivial) <|
  zgd_d (fun d => zo_v d rfl ⟨rfl, zd_150, zw_1526, Nat.le_of_ble_eq_true rfl, ⟨_, Or.inl ⟨Nat.le_of_ble_eq_true rfl, rfl⟩, rfl⟩, zw_1524, zw_93⟩) <|
  zgd_d (fun d => zo_l d rfl rfl (by show ((23 : Nat) : Int) + (12) = ((35 : Nat) : Int); decide)) <|
  zgd_d (fun d => zo_l d rfl rfl trivial) <|
  zgd_d (fun d => zo_h d rfl ⟨rfl, Nat.le_of_ble_eq_true rfl, _, _, _, Or.inl ⟨Nat.le_of_ble_eq_true rfl, rfl⟩, Nat.le_of_ble_eq_true rfl, zw_1434⟩) <|
  zgd_d (fun d => zo_l d rfl rfl trivial) <|
  zgd_d (fun d => zo_h d rfl rfl) <|
  zgd_d (fun d => zo_l d rfl rfl (by show ((32 : Nat) : Int) + (5) = ((37 : Nat) : Int); decide)) <|
  zgd_d (fun d => zo_l d rfl rfl trivial) <|
  zgd_d (fun d => zo_r d rfl) <|
  zgd_d (fun d => zo_l d rfl rfl trivial) <|
  zgd_d (fun d => zo_l d rfl rfl trivial) <|
  zgd_d (fun d => zo_v d rfl ⟨rfl, zd_158, zw_1316, Nat.le_of_ble_eq_true rfl, ⟨_, Or.inl ⟨Nat.le_of_ble_eq_true rfl, rfl⟩, rfl⟩, zw_1314, zw_62⟩) <|
  zgd_d (fun d => zo_l d rfl rfl trivial) <|
  zgd_d (fun d => zo_v d rfl ⟨rfl, zd_160, zw_1292, Nat.le_of_ble_eq_true rfl, ⟨_, Or.inl ⟨Nat.le_of_ble_eq_true rfl, rfl⟩, rfl⟩, zw_1290, zw_56⟩) <|
  zgd_d (fun d => zo_r d rfl) <|
  zgd_n)
  (z_fn)
theorem zdd_265 : ∀ q ∈ zc_265, decode prog_9_method_119_code q.1 = Except.ok (q.2.1, q.2.2.1) := zdd_of (by decide +kernel)
theorem zk_265 (xs : List Int32) : z_okm (za_T xs) za_P za_M 265 := z_okm_of ⟨"LyndonBenchModel", "numberOf", "(II)I"⟩ prog_9_method_119_code zc_265 _ rfl rfl rfl rfl
  (zgd_x zdd_265 <|
  zgd_d (fun d => zo_l d rfl rfl trivial) <|
  zgd_d (fun d => zo_l d rfl rfl trivial) <|
  zgd_d (fun d => zo_l d rfl rfl trivial) <|
  zgd_d (fun d => zo_l d rfl rfl trivial) <|
  zgd_d (fun d => zo_l d rfl rfl trivial) <|
  zgd_d (fun d => zo_l d rfl rfl trivial) <|
  zgd_d (fun d => zo_l d rfl rfl trivial) <|
  zgd_d (fun d => zo_l d rfl rfl trivial) <|
  zgd_d (fun d => zo_l d rfl rfl (by show ((10 : Nat) : Int) + (28) = ((38 : Nat) : Int); decide)) <|
  zgd_d (fun d => zo_l d rfl rfl trivial) <|
  zgd_d (fun d => zo_h d rfl ⟨rfl, Nat.le_of_ble_eq_true rfl, _, _, _, Or.inl ⟨Nat.le_of_ble_eq_true rfl, rfl⟩, Nat.le_of_ble_eq_true rfl, zw_1434⟩) <|
  zgd_d (fun d => zo_l d rfl rfl trivial) <|
  zgd_d (fun d => zo_h d rfl rfl) <|
  zgd_d (fun d => zo_l d rfl rfl trivial) <|
  zgd_d (fun d => zo_l d rfl rfl trivial) <|
  zgd_d (fun d => zo_l d rfl rfl trivial) <|
  zgd_d (fun d => zo_h d rfl ⟨rfl, Nat.le_of_ble_eq_true rfl, _, _, _, Or.inl ⟨Nat.le_of_ble_eq_true rfl, rfl⟩, Nat.le_of_ble_eq_true rfl, zw_1434⟩) <|
  zgd_d (fun d => zo_l d rfl rfl trivial) <|
  zgd_d (fun d => zo_l d rfl rfl trivial) <|
  zgd_d (fun d => zo_l d rfl rfl trivial) <|
  zgd_d (fun d => zo_h d rfl rfl) <|
  zgd_d (fun d => zo_l d rfl rfl trivial) <|
  zgd_d (fun d => zo_l d rfl rfl trivial) <|
  zgd_d (fun d => zo_l d rfl rfl trivial) <|
  zgd_d (fun d => zo_l d rfl rfl (by show ((35 : Nat) : Int) + (-30) = ((5 : Nat) : Int); decide)) <|
  zgd_d (fun d => zo_l d rfl rfl trivial) <|
  zgd_d (fun d => zo_r d rfl) <|
  zgd_n)
  (z_fn)
theorem zdd_266_0 : ∀ q ∈ zc_266_0, decode prog_9_method_120_code q.1 = Except.ok (q.2.1, q.2.2.1) := zdd_of (by decide +kernel)
theorem zk_266_0 (xs : List Int32) {l : List zE} (h : ∀ q ∈ l, z_oke' (za_T xs) za_P za_M ⟨"LyndonBenchModel", "rankOf", "(I)I"⟩ prog_9_method_120_code q) : ∀ q ∈ zc_266_0 ++ l, z_oke' (za_T xs) za_P za_M ⟨"LyndonBenchModel", "rankOf", "(I)I"⟩ prog_9_method_120_code q :=
  zgd_y zdd_266_0 <|
  zgd_e (fun d => zo_l d rfl rfl trivial) <|
  zgd_e (fun d => zo_l d rfl rfl trivial) <|
  zgd_e (fun d => zo_v d rfl ⟨rfl, zd_255, zw_1667, Nat.le_of_ble_eq_true rfl, ⟨_, Or.inl ⟨Nat.le_of_ble_eq_true rfl, rfl⟩, rfl⟩, zw_1665, zw_102⟩) <|
  zgd_e (fun d => zo_l d rfl rfl (by show ((5 : Nat) : Int) + (5) = ((10 : Nat) : Int); decide)) <|
  zgd_e (fun d => zo_l d rfl rfl trivial) <|
  zgd_e (fun d => zo_r d rfl) <|
  zgd_e (fun d => zo_l d rfl rfl trivial) <|
  zgd_e (fun d => zo_h d rfl ⟨rfl, Nat.le_of_ble_eq_true rfl, _, _, _, Or.inl ⟨Nat.le_of_ble_eq_true rfl, rfl⟩, Nat.le_of_ble_eq_true rfl, zw_1443⟩) <|
  zgd_e (fun d => zo_l d rfl rfl trivial) <|
  zgd_e (fun d => zo_l d rfl rfl trivial) <|
  zgd_e (fun d => zo_l d rfl rfl trivial) <|
  zgd_e (fun d => zo_h d rfl rfl) <|
  zgd_e (fun d => zo_l d rfl rfl trivial) <|
  zgd_e (fun d => zo_h d rfl ⟨rfl, Nat.le_of_ble_eq_true rfl, _, _, _, Or.inl ⟨Nat.le_of_ble_eq_true rfl, rfl⟩, Nat.le_of_ble_eq_true rfl, zw_1443⟩) <|
  zgd_e (fun d => zo_l d rfl rfl trivial) <|
  zgd_e (fun d => zo_h d rfl rfl) <|
  zgd_e (fun d => zo_l d rfl rfl trivial) <|
  zgd_e (fun d => zo_l d rfl rfl trivial) <|
  zgd_e (fun d => zo_l d rfl rfl trivial) <|
  zgd_e (fun d => zo_l d rfl rfl trivial) <|
  zgd_e (fun d => zo_v d rfl ⟨rfl, zd_171, zw_1707, Nat.le_of_ble_eq_true rfl, ⟨_, Or.inl ⟨Nat.le_of_ble_eq_true rfl, rfl⟩, rfl⟩, zw_1705, zw_105⟩) <|
  zgd_e (fun d => zo_l d rfl rfl trivial) <|
  zgd_e (fun d => zo_l d rfl rfl (by show ((34 : Nat) : Int) + (5) = ((39 : Nat) : Int); decide)) <|
  zgd_e (fun d => zo_l d rfl rfl trivial) <|
  zgd_e (fun d => zo_r d rfl) <|
  zgd_e (fun d => zo_l d rfl rfl trivial) <|
  zgd_e (fun d => zo_l d rfl rfl trivial) <|
  zgd_e (fun d => zo_h d rfl ⟨rfl, Nat.le_of_ble_eq_true rfl, _, _, _, Or.inl ⟨Nat.le_of_ble_eq_true rfl, rfl⟩, Nat.le_of_ble_eq_true rfl, zw_1443⟩) <|
  zgd_e (fun d => zo_l d rfl rfl trivial) <|
  zgd_e (fun d => zo_h d rfl rfl) <|
  zgd_e (fun d => zo_l d rfl rfl trivial) <|
  zgd_e (fun d => zo_v d rfl ⟨rfl, zd_265, zw_1711, Nat.le_of_ble_eq_true rfl, ⟨_, Or.inl ⟨Nat.le_of_ble_eq_true rfl, rfl⟩, rfl⟩, zw_1709, zw_106⟩) <|
  zgd_e (fun d => zo_l d rfl rfl trivial) <|
  zgd_e (fun d => zo_l d rfl rfl trivial) <|
  zgd_e (fun d => zo_l d rfl rfl trivial) <|
  zgd_e (fun d => zo_l d rfl rfl trivial) <|
  zgd_e (fun d => zo_l d rfl rfl trivial) <|
  zgd_e (fun d => zo_l d rfl rfl trivial) <|
  zgd_e (fun d => zo_l d rfl rfl trivial) <|
  zgd_e (fun d => zo_l d rfl rfl (by show ((60 : Nat) : Int) + (40) = ((100 : Nat) : Int); decide)) <|
  zgd_m h
theorem zdd_266_1 : ∀ q ∈ zc_266_1, decode prog_9_method_120_code q.1 = Except.ok (q.2.1, q.2.2.1) := zdd_of (by decide +kernel)
theorem zk_266_1 (xs : List Int32) {l : List zE} (h : ∀ q ∈ l, z_oke' (za_T xs) za_P za_M ⟨"LyndonBenchModel", "rankOf", "(I)I"⟩ prog_9_method_120_code q) : ∀ q ∈ zc_266_1 ++ l, z_oke' (za_T xs) za_P za_M ⟨"LyndonBenchModel", "rankOf", "(I)I"⟩ prog_9_method_120_code q :=
  zgd_y zdd_266_1 <|
  zgd_e (fun d => zo_l d rfl rfl trivial) <|
  zgd_e (fun d => zo_l d rfl rfl trivial) <|
  zgd_e (fun d => zo_l d rfl rfl trivial) <|
  zgd_e (fun d => zo_v d rfl ⟨rfl, zd_172, zw_1715, Nat.le_of_ble_eq_true rfl, ⟨_, Or.inl ⟨Nat.le_of_ble_eq_true rfl, rfl⟩, rfl⟩, zw_1713, zw_107⟩) <|
  zgd_e (fun d => zo_l d rfl rfl trivial) <|
  zgd_e (fun d => zo_l d rfl rfl trivial) <|
  zgd_e (fun d => zo_v d rfl ⟨rfl, zd_163, zw_1356, Nat.le_of_ble_eq_true rfl, ⟨_, Or.inl ⟨Nat.le_of_ble_eq_true rfl, rfl⟩, rfl⟩, zw_1354, zw_72⟩) <|
  zgd_e (fun d => zo_l d rfl rfl (by show ((76 : Nat) : Int) + (14) = ((90 : Nat) : Int); decide)) <|
  zgd_e (fun d => zo_l d rfl rfl trivial) <|
  zgd_e (fun d => zo_v d rfl ⟨rfl, zd_164, zw_1364, Nat.le_of_ble_eq_true rfl, ⟨_, Or.inl ⟨Nat.le_of_ble_eq_true rfl, rfl⟩, rfl⟩, zw_1362, zw_74⟩) <|
  zgd_e (fun d => zo_l d rfl rfl (by show ((83 : Nat) : Int) + (7) = ((90 : Nat) : Int); decide)) <|
  zgd_e (fun d => zo_l d rfl rfl trivial) <|
  zgd_e (fun d => zo_l d rfl rfl (by show ((87 : Nat) : Int) + (4) = ((91 : Nat) : Int); decide)) <|
  zgd_e (fun d => zo_l d rfl rfl trivial) <|
  zgd_e (fun d => zo_l d rfl rfl trivial) <|
  zgd_e (fun d => zo_l d rfl rfl trivial) <|
  zgd_e (fun d => zo_l d rfl rfl trivial) <|
  zgd_e (fun d => zo_l d rfl rfl (by show ((97 : Nat) : Int) + (-40) = ((57 : Nat) : Int); decide)) <|
  zgd_e (fun d => zo_l d rfl rfl trivial) <|
  zgd_e (fun d => zo_r d rfl) <|
  zgd_m h
theorem zk_266 (xs : List Int32) : z_okm (za_T xs) za_P za_M 266 := z_okm_of ⟨"LyndonBenchModel", "rankOf", "(I)I"⟩ prog_9_method_120_code zc_266 _ rfl rfl rfl rfl
  (zk_266_0 xs <|
  zk_266_1 xs <|
  z_fn)
  (z_fn)
theorem zdd_267 : ∀ q ∈ zc_267, decode prog_9_method_121_code q.1 = Except.ok (q.2.1, q.2.2.1) := zdd_of (by decide +kernel)
theorem zk_267 (xs : List Int32) : z_okm (za_T xs) za_P za_M 267 := z_okm_of ⟨"LyndonBenchModel", "isLyndon", "()Z"⟩ prog_9_method_121_code zc_267 _ rfl rfl rfl rfl
  (zgd_x zdd_267 <|
  zgd_d (fun d => zo_l d rfl rfl trivial) <|
  zgd_d (fun d => zo_l d rfl rfl trivial) <|
  zgd_d (fun d => zo_h d rfl ⟨rfl, Nat.le_of_ble_eq_true rfl, _, _, _, rfl, Nat.le_of_ble_eq_true rfl, zw_1451, Or.inl rfl⟩) <|
  zgd_d (fun d => zo_l d rfl rfl trivial) <|
  zgd_d (fun d => zo_v d rfl ⟨rfl, zd_166, zw_1352, Nat.le_of_ble_eq_true rfl, ⟨_, Or.inl ⟨Nat.le_of_ble_eq_true rfl, rfl⟩, rfl⟩, zw_1350, zw_71⟩) <|
  zgd_d (fun d => zo_l d rfl rfl (by show ((9 : Nat) : Int) + (7) = ((16 : Nat) : Int); decide)) <|
  zgd_d (fun d => zo_l d rfl rfl trivial) <|
  zgd_d (fun d => zo_l d rfl rfl (by show ((13 : Nat) : Int) + (4) = ((17 : Nat) : Int); decide)) <|
  zgd_d (fun d => zo_l d rfl rfl trivial) <|
  zgd_d (fun d => zo_r d rfl) <|
  zgd_n)
  (z_fn)
theorem zdd_268 : ∀ q ∈ zc_268, decode prog_9_method_122_code q.1 = Except.ok (q.2.1, q.2.2.1) := zdd_of (by decide +kernel)
theorem zk_268 (xs : List Int32) : z_okm (za_T xs) za_P za_M 268 := z_okm_of ⟨"LyndonBenchModel", "whyNotLyndon", "()I"⟩ prog_9_method_122_code zc_268 _ rfl rfl rfl rfl
  (zgd_x zdd_268 <|
  zgd_d (fun d => zo_l d rfl rfl trivial) <|
  zgd_d (fun d => zo_l d rfl rfl trivial) <|
  zgd_d (fun d => zo_h d rfl ⟨rfl, Nat.le_of_ble_eq_true rfl, _, _, _, rfl, Nat.le_of_ble_eq_true rfl, zw_1451, Or.inl rfl⟩) <|
  zgd_d (fun d => zo_l d rfl rfl trivial) <|
  zgd_d (fun d => zo_v d rfl ⟨rfl, zd_166, zw_1352, Nat.le_of_ble_eq_true rfl, ⟨_, Or.inl ⟨Nat.le_of_ble_eq_true rfl, rfl⟩, rfl⟩, zw_1350, zw_71⟩) <|
  zgd_d (fun d => zo_r d rfl) <|
  zgd_n)
  (z_fn)
theorem zdd_269 : ∀ q ∈ zc_269, decode prog_9_method_123_code q.1 = Except.ok (q.2.1, q.2.2.1) := zdd_of (by decide +kernel)
theorem zk_269 (xs : List Int32) : z_okm (za_T xs) za_P za_M 269 := z_okm_of ⟨"LyndonBenchModel", "isNecklace", "()Z"⟩ prog_9_method_123_code zc_269 _ rfl rfl rfl rfl
  (zgd_x zdd_269 <|
  zgd_d (fun d => zo_l d rfl rfl trivial) <|
  zgd_d (fun d => zo_l d rfl rfl trivial) <|
  zgd_d (fun d => zo_h d rfl ⟨rfl, Nat.le_of_ble_eq_true rfl, _, _, _, rfl, Nat.le_of_ble_eq_true rfl, zw_1451, Or.inl rfl⟩) <|
  zgd_d (fun d => zo_l d rfl rfl trivial) <|
  zgd_d (fun d => zo_v d rfl ⟨rfl, zd_156, zw_1276, Nat.le_of_ble_eq_true rfl, ⟨_, Or.inl ⟨Nat.le_of_ble_eq_true rfl, rfl⟩, rfl⟩, zw_1274, zw_52⟩) <|
  zgd_d (fun d => zo_l d rfl rfl trivial) <|
  zgd_d (fun d => zo_v d rfl ⟨rfl, zd_164, zw_1364, Nat.le_of_ble_eq_true rfl, ⟨_, Or.inl ⟨Nat.le_of_ble_eq_true rfl, rfl⟩, rfl⟩, zw_1362, zw_74⟩) <|
  zgd_d (fun d => zo_r d rfl) <|
  zgd_n)
  (z_fn)
theorem zdd_270 : ∀ q ∈ zc_270, decode prog_9_method_124_code q.1 = Except.ok (q.2.1, q.2.2.1) := zdd_of (by decide +kernel)
theorem zk_270 (xs : List Int32) : z_okm (za_T xs) za_P za_M 270 := z_okm_of ⟨"LyndonBenchModel", "isPrenecklace", "()Z"⟩ prog_9_method_124_code zc_270 _ rfl rfl rfl rfl
  (zgd_x zdd_270 <|
  zgd_d (fun d => zo_l d rfl rfl trivial) <|
  zgd_d (fun d => zo_l d rfl rfl trivial) <|
  zgd_d (fun d => zo_h d rfl ⟨rfl, Nat.le_of_ble_eq_true rfl, _, _, _, rfl, Nat.le_of_ble_eq_true rfl, zw_1451, Or.inl rfl⟩) <|
  zgd_d (fun d => zo_l d rfl rfl trivial) <|
  zgd_d (fun d => zo_v d rfl ⟨rfl, zd_156, zw_1276, Nat.le_of_ble_eq_true rfl, ⟨_, Or.inl ⟨Nat.le_of_ble_eq_true rfl, rfl⟩, rfl⟩, zw_1274, zw_52⟩) <|
  zgd_d (fun d => zo_l d rfl rfl trivial) <|
  zgd_d (fun d => zo_v d rfl ⟨rfl, zd_165, zw_1735, Nat.le_of_ble_eq_true rfl, ⟨_, Or.inl ⟨Nat.le_of_ble_eq_true rfl, rfl⟩, rfl⟩, zw_1733, zw_108⟩) <|
  zgd_d (fun d => zo_r d rfl) <|
  zgd_n)
  (z_fn)
theorem zdd_271 : ∀ q ∈ zc_271, decode prog_9_method_125_code q.1 = Except.ok (q.2.1, q.2.2.1) := zdd_of (by decide +kernel)
theorem zk_271 (xs : List Int32) : z_okm (za_T xs) za_P za_M 271 := z_okm_of ⟨"LyndonBenchModel", "keepingLetter", "()I"⟩ prog_9_method_125_code zc_271 _ rfl rfl rfl rfl
  (zgd_x zdd_271 <|
  zgd_d (fun d => zo_l d rfl rfl trivial) <|
  zgd_d (fun d => zo_l d rfl rfl trivial) <|
  zgd_d (fun d => zo_h d rfl ⟨rfl, Nat.le_of_ble_eq_true rfl, _, _, _, rfl, Nat.le_of_ble_eq_true rfl, zw_1451, Or.inl rfl⟩) <|
  zgd_d (fun d => zo_l d rfl rfl trivial) <|
  zgd_d (fun d => zo_v d rfl ⟨rfl, zd_156, zw_1276, Nat.le_of_ble_eq_true rfl, ⟨_, Or.inl ⟨Nat.le_of_ble_eq_true rfl, rfl⟩, rfl⟩, zw_1274, zw_52⟩) <|
  zgd_d (fun d => zo_l d rfl rfl trivial) <|
  zgd_d (fun d => zo_v d rfl ⟨rfl, zd_165, zw_1735, Nat.le_of_ble_eq_true rfl, ⟨_, Or.inl ⟨Nat.le_of_ble_eq_true rfl, rfl⟩, rfl⟩, zw_1733, zw_108⟩) <|
  zgd_d (fun d => zo_l d rfl rfl (by show ((13 : Nat) : Int) + (5) = ((18 : Nat) : Int); decide)) <|
  zgd_d (fun d => zo_l d rfl rfl trivial) <|
  zgd_d (fun d => zo_r d rfl) <|
  zgd_d (fun d => zo_l d rfl rfl trivial) <|
  zgd_d (fun d => zo_l d rfl rfl trivial) <|
  zgd_d (fun d => zo_l d rfl rfl trivial) <|
  zgd_d (fun d => zo_l d rfl rfl trivial) <|
  zgd_d (fun d => zo_h d rfl ⟨rfl, Nat.le_of_ble_eq_true rfl, _, _, _, Or.inl ⟨Nat.le_of_ble_eq_true rfl, rfl⟩, Nat.le_of_ble_eq_true rfl, zw_1434⟩) <|
  zgd_d (fun d => zo_l d rfl rfl trivial) <|
  zgd_d (fun d => zo_h d rfl rfl) <|
  zgd_d (fun d => zo_l d rfl rfl (by show ((27 : Nat) : Int) + (30) = ((57 : Nat) : Int); decide)) <|
  zgd_d (fun d => zo_l d rfl rfl trivial) <|
  zgd_d (fun d => zo_v d rfl ⟨rfl, zd_156, zw_1276, Nat.le_of_ble_eq_true rfl, ⟨_, Or.inl ⟨Nat.le_of_ble_eq_true rfl, rfl⟩, rfl⟩, zw_1274, zw_52⟩) <|
  zgd_d (fun d => zo_l d rfl rfl trivial) <|
  zgd_d (fun d => zo_l d rfl rfl trivial) <|
  zgd_d (fun d => zo_v d rfl ⟨rfl, zd_157, zw_1432, Nat.le_of_ble_eq_true rfl, ⟨_, Or.inl ⟨Nat.le_of_ble_eq_true rfl, rfl⟩, rfl⟩, zw_1430, zw_91⟩) <|
  zgd_d (fun d => zo_l d rfl rfl trivial) <|
  zgd_d (fun d => zo_v d rfl ⟨rfl, zd_165, zw_1735, Nat.le_of_ble_eq_true rfl, ⟨_, Or.inl ⟨Nat.le_of_ble_eq_true rfl, rfl⟩, rfl⟩, zw_1733, zw_108⟩) <|
  zgd_d (fun d => zo_l d rfl rfl (by show ((43 : Nat) : Int) + (8) = ((51 : Nat) : Int); decide)) <|
  zgd_d (fun d => zo_l d rfl rfl trivial) <|
  zgd_d (fun d => zo_l d rfl rfl trivial) <|
  zgd_d (fun d => zo_l d rfl rfl trivial) <|
  zgd_d (fun d => zo_r d rfl) <|
  zgd_d (fun d => zo_l d rfl rfl trivial) <|
  zgd_d (fun d => zo_l d rfl rfl (by show ((54 : Nat) : Int) + (-34) = ((20 : Nat) : Int); decide)) <|
  zgd_d (fun d => zo_l d rfl rfl trivial) <|
  zgd_d (fun d => zo_r d rfl) <|
  zgd_n)
  (z_fn)
theorem zdd_272 : ∀ q ∈ zc_272, decode prog_9_method_126_code q.1 = Except.ok (q.2.1, q.2.2.1) := zdd_of (by decide +kernel)
theorem zk_272 (xs : List Int32) : z_okm (za_T xs) za_P za_M 272 := z_okm_of ⟨"LyndonBenchModel", "leastRotation", "()I"⟩ prog_9_method_126_code zc_272 _ rfl rfl rfl rfl
  (zgd_x zdd_272 <|
  zgd_d (fun d => zo_l d rfl rfl trivial) <|
  zgd_d (fun d => zo_l d rfl rfl trivial) <|
  zgd_d (fun d => zo_h d rfl ⟨rfl, Nat.le_of_ble_eq_true rfl, _, _, _, rfl, Nat.le_of_ble_eq_true rfl, zw_1451, Or.inl rfl⟩) <|
  zgd_d (fun d => zo_l d rfl rfl trivial) <|
  zgd_d (fun d => zo_v d rfl ⟨rfl, zd_169, zw_1336, Nat.le_of_ble_eq_true rfl, ⟨_, Or.inl ⟨Nat.le_of_ble_eq_true rfl, rfl⟩, rfl⟩, zw_1334, zw_67⟩) <|
  zgd_d (fun d => zo_r d rfl) <|
  zgd_n)
  (z_fn)
theorem zdd_273 : ∀ q ∈ zc_273, decode prog_9_method_127_code q.1 = Except.ok (q.2.1, q.2.2.1) := zdd_of (by decide +kernel)
theorem zk_273 (xs : List Int32) : z_okm (za_T xs) za_P za_M 273 := z_okm_of ⟨"LyndonBenchModel", "rotationCount", "()I"⟩ prog_9_method_127_code zc_273 _ rfl rfl rfl rfl
  (zgd_x zdd_273 <|
  zgd_d (fun d => zo_l d rfl rfl trivial) <|
  zgd_d (fun d => zo_l d rfl rfl trivial) <|
  zgd_d (fun d => zo_h d rfl ⟨rfl, Nat.le_of_ble_eq_true rfl, _, _, _, rfl, Nat.le_of_ble_eq_true rfl, zw_1451, Or.inl rfl⟩) <|
  zgd_d (fun d => zo_l d rfl rfl trivial) <|
  zgd_d (fun d => zo_v d rfl ⟨rfl, zd_156, zw_1276, Nat.le_of_ble_eq_true rfl, ⟨_, Or.inl ⟨Nat.le_of_ble_eq_true rfl, rfl⟩, rfl⟩, zw_1274, zw_52⟩) <|
  zgd_d (fun d => zo_l d rfl rfl trivial) <|
  zgd_d (fun d => zo_v d rfl ⟨rfl, zd_173, zw_1751, Nat.le_of_ble_eq_true rfl, ⟨_, Or.inl ⟨Nat.le_of_ble_eq_true rfl, rfl⟩, rfl⟩, zw_1749, zw_109⟩) <|
  zgd_d (fun d => zo_r d rfl) <|
  zgd_n)
  (z_fn)
theorem zdd_274 : ∀ q ∈ zc_274, decode prog_9_method_128_code q.1 = Except.ok (q.2.1, q.2.2.1) := zdd_of (by decide +kernel)
theorem zk_274 (xs : List Int32) : z_okm (za_T xs) za_P za_M 274 := z_okm_of ⟨"LyndonBenchModel", "smallestPeriod", "()I"⟩ prog_9_method_128_code zc_274 _ rfl rfl rfl rfl
  (zgd_x zdd_274 <|
  zgd_d (fun d => zo_l d rfl rfl trivial) <|
  zgd_d (fun d => zo_l d rfl rfl trivial) <|
  zgd_d (fun d => zo_h d rfl ⟨rfl, Nat.le_of_ble_eq_true rfl, _, _, _, rfl, Nat.le_of_ble_eq_true rfl, zw_1451, Or.inl rfl⟩) <|
  zgd_d (fun d => zo_l d rfl rfl trivial) <|
  zgd_d (fun d => zo_v d rfl ⟨rfl, zd_167, zw_1759, Nat.le_of_ble_eq_true rfl, ⟨_, Or.inl ⟨Nat.le_of_ble_eq_true rfl, rfl⟩, rfl⟩, zw_1757, zw_110⟩) <|
  zgd_d (fun d => zo_r d rfl) <|
  zgd_n)
  (z_fn)
theorem zdd_275 : ∀ q ∈ zc_275, decode prog_9_method_129_code q.1 = Except.ok (q.2.1, q.2.2.1) := zdd_of (by decide +kernel)
theorem zk_275 (xs : List Int32) : z_okm (za_T xs) za_P za_M 275 := z_okm_of ⟨"LyndonBenchModel", "longestBorder", "()I"⟩ prog_9_method_129_code zc_275 _ rfl rfl rfl rfl
  (zgd_x zdd_275 <|
  zgd_d (fun d => zo_l d rfl rfl trivial) <|
  zgd_d (fun d => zo_l d rfl rfl trivial) <|
  zgd_d (fun d => zo_h d rfl ⟨rfl, Nat.le_of_ble_eq_true rfl, _, _, _, rfl, Nat.le_of_ble_eq_true rfl, zw_1451, Or.inl rfl⟩) <|
  zgd_d (fun d => zo_l d rfl rfl trivial) <|
  zgd_d (fun d => zo_h d rfl ⟨rfl, Nat.le_of_ble_eq_true rfl, _, _, _, Or.inl ⟨Nat.le_of_ble_eq_true rfl, rfl⟩, Nat.le_of_ble_eq_true rfl, zw_1434⟩) <|
  zgd_d (fun d => zo_l d rfl rfl trivial) <|
  zgd_d (fun d => zo_h d rfl rfl) <|
  zgd_d (fun d => zo_l d rfl rfl trivial) <|
  zgd_d (fun d => zo_v d rfl ⟨rfl, zd_167, zw_1759, Nat.le_of_ble_eq_true rfl, ⟨_, Or.inl ⟨Nat.le_of_ble_eq_true rfl, rfl⟩, rfl⟩, zw_1757, zw_110⟩) <|
  zgd_d (fun d => zo_l d rfl rfl trivial) <|
  zgd_d (fun d => zo_r d rfl) <|
  zgd_n)
  (z_fn)
theorem zdd_276 : ∀ q ∈ zc_276, decode prog_9_method_130_code q.1 = Except.ok (q.2.1, q.2.2.1) := zdd_of (by decide +kernel)
theorem zk_276 (xs : List Int32) : z_okm (za_T xs) za_P za_M 276 := z_okm_of ⟨"LyndonBenchModel", "leastSuffix", "()I"⟩ prog_9_method_130_code zc_276 _ rfl rfl rfl rfl
  (zgd_x zdd_276 <|
  zgd_d (fun d => zo_l d rfl rfl trivial) <|
  zgd_d (fun d => zo_l d rfl rfl trivial) <|
  zgd_d (fun d => zo_h d rfl ⟨rfl, Nat.le_of_ble_eq_true rfl, _, _, _, rfl, Nat.le_of_ble_eq_true rfl, zw_1451, Or.inl rfl⟩) <|
  zgd_d (fun d => zo_l d rfl rfl trivial) <|
  zgd_d (fun d => zo_l d rfl rfl trivial) <|
  zgd_d (fun d => zo_v d rfl ⟨rfl, zd_170, zw_1771, Nat.le_of_ble_eq_true rfl, ⟨_, Or.inl ⟨Nat.le_of_ble_eq_true rfl, rfl⟩, rfl⟩, zw_1769, zw_111⟩) <|
  zgd_d (fun d => zo_r d rfl) <|
  zgd_n)
  (z_fn)
theorem zdd_277 : ∀ q ∈ zc_277, decode prog_9_method_131_code q.1 = Except.ok (q.2.1, q.2.2.1) := zdd_of (by decide +kernel)
theorem zk_277 (xs : List Int32) : z_okm (za_T xs) za_P za_M 277 := z_okm_of ⟨"LyndonBenchModel", "greatestSuffix", "()I"⟩ prog_9_method_131_code zc_277 _ rfl rfl rfl rfl
  (zgd_x zdd_277 <|
  zgd_d (fun d => zo_l d rfl rfl trivial) <|
  zgd_d (fun d => zo_l d rfl rfl trivial) <|
  zgd_d (fun d => zo_h d rfl ⟨rfl, Nat.le_of_ble_eq_true rfl, _, _, _, rfl, Nat.le_of_ble_eq_true rfl, zw_1451, Or.inl rfl⟩) <|
  zgd_d (fun d => zo_l d rfl rfl trivial) <|
  zgd_d (fun d => zo_l d rfl rfl trivial) <|
  zgd_d (fun d => zo_v d rfl ⟨rfl, zd_170, zw_1771, Nat.le_of_ble_eq_true rfl, ⟨_, Or.inl ⟨Nat.le_of_ble_eq_true rfl, rfl⟩, rfl⟩, zw_1769, zw_111⟩) <|
  zgd_d (fun d => zo_r d rfl) <|
  zgd_n)
  (z_fn)
theorem zdd_278 : ∀ q ∈ zc_278, decode prog_9_method_132_code q.1 = Except.ok (q.2.1, q.2.2.1) := zdd_of (by decide +kernel)
theorem zk_278 (xs : List Int32) : z_okm (za_T xs) za_P za_M 278 := z_okm_of ⟨"LyndonBenchModel", "lyndonWords", "(I)J"⟩ prog_9_method_132_code zc_278 _ rfl rfl rfl rfl
  (zgd_x zdd_278 <|
  zgd_d (fun d => zo_l d rfl rfl trivial) <|
  zgd_d (fun d => zo_l d rfl rfl trivial) <|
  zgd_d (fun d => zo_l d rfl rfl trivial) <|
  zgd_d (fun d => zo_l d rfl rfl trivial) <|
  zgd_d (fun d => zo_s d rfl ⟨zd_149, zw_1215, zw_1216⟩) <|
  zgd_d (fun d => zo_l d rfl rfl (by show ((8 : Nat) : Int) + (7) = ((15 : Nat) : Int); decide)) <|
  zgd_d (fun d => zo_l d rfl rfl trivial) <|
  zgd_d (fun d => zo_l d rfl rfl (by show ((12 : Nat) : Int) + (4) = ((16 : Nat) : Int); decide)) <|
  zgd_d (fun d => zo_l d rfl rfl trivial) <|
  zgd_d (fun d => zo_v d rfl ⟨rfl, zd_150, zw_1526, Nat.le_of_ble_eq_true rfl, ⟨_, Or.inl ⟨Nat.le_of_ble_eq_true rfl, rfl⟩, rfl⟩, zw_1524, zw_93⟩) <|
  zgd_d (fun d => zo_l d rfl rfl (by show ((19 : Nat) : Int) + (7) = ((26 : Nat) : Int); decide)) <|
  zgd_d (fun d => zo_l d rfl rfl trivial) <|
  zgd_d (fun d => zo_l d rfl rfl (by show ((23 : Nat) : Int) + (11) = ((34 : Nat) : Int); decide)) <|
  zgd_d (fun d => zo_l d rfl rfl trivial) <|
  zgd_d (fun d => zo_l d rfl rfl trivial) <|
  zgd_d (fun d => zo_v d rfl ⟨rfl, zd_174, zw_1783, Nat.le_of_ble_eq_true rfl, ⟨_, Or.inl ⟨Nat.le_of_ble_eq_true rfl, rfl⟩, rfl⟩, zw_1781, zw_112⟩) <|
  zgd_d (fun d => zo_l d rfl rfl trivial) <|
  zgd_d (fun d => zo_l d rfl rfl trivial) <|
  zgd_d (fun d => zo_l d rfl rfl trivial) <|
  zgd_d (fun d => zo_r d rfl) <|
  zgd_n)
  (z_fn)
theorem zdd_279 : ∀ q ∈ zc_279, decode prog_9_method_133_code q.1 = Except.ok (q.2.1, q.2.2.1) := zdd_of (by decide +kernel)
theorem zk_279 (xs : List Int32) : z_okm (za_T xs) za_P za_M 279 := z_okm_of ⟨"LyndonBenchModel", "necklaces", "(I)J"⟩ prog_9_method_133_code zc_279 _ rfl rfl rfl rfl
  (zgd_x zdd_279 <|
  zgd_d (fun d => zo_l d rfl rfl trivial) <|
  zgd_d (fun d => zo_l d rfl rfl trivial) <|
  zgd_d (fun d => zo_l d rfl rfl trivial) <|
  zgd_d (fun d => zo_l d rfl rfl trivial) <|
  zgd_d (fun d => zo_s d rfl ⟨zd_149, zw_1215, zw_1216⟩) <|
  zgd_d (fun d => zo_l d rfl rfl (by show ((8 : Nat) : Int) + (7) = ((15 : Nat) : Int); decide)) <|
  zgd_d (fun d => zo_l d rfl rfl trivial) <|
  zgd_d (fun d => zo_l d rfl rfl (by show ((12 : Nat) : Int) + (4) = ((16 : Nat) : Int); decide)) <|
  zgd_d (fun d => zo_l d rfl rfl trivial) <|
  zgd_d (fun d => zo_v d rfl ⟨rfl, zd_150, zw_1526, Nat.le_of_ble_eq_true rfl, ⟨_, Or.inl ⟨Nat.le_of_ble_eq_true rfl, rfl⟩, rfl⟩, zw_1524, zw_93⟩) <|
  zgd_d (fun d => zo_l d rfl rfl (by show ((19 : Nat) : Int) + (7) = ((26 : Nat) : Int); decide)) <|
  zgd_d (fun d => zo_l d rfl rfl trivial) <|
  zgd_d (fun d => zo_l d rfl rfl (by show ((23 : Nat) : Int) + (8) = ((31 : Nat) : Int); decide)) <|
  zgd_d (fun d => zo_l d rfl rfl trivial) <|
  zgd_d (fun d => zo_l d rfl rfl trivial) <|
  zgd_d (fun d => zo_v d rfl ⟨rfl, zd_175, zw_1791, Nat.le_of_ble_eq_true rfl, ⟨_, Or.inl ⟨Nat.le_of_ble_eq_true rfl, rfl⟩, rfl⟩, zw_1789, zw_113⟩) <|
  zgd_d (fun d => zo_r d rfl) <|
  zgd_n)
  (z_fn)
theorem zdd_280_0 : ∀ q ∈ zc_280_0, decode prog_9_method_134_code q.1 = Except.ok (q.2.1, q.2.2.1) := zdd_of (by decide +kernel)
theorem zk_280_0 (xs : List Int32) {l : List zE} (h : ∀ q ∈ l, z_oke' (za_T xs) za_P za_M ⟨"LyndonBenchModel", "bruijnLetter", "(II)I"⟩ prog_9_method_134_code q) : ∀ q ∈ zc_280_0 ++ l, z_oke' (za_T xs) za_P za_M ⟨"LyndonBenchModel", "bruijnLetter", "(II)I"⟩ prog_9_method_134_code q :=
  zgd_y zdd_280_0 <|
  zgd_e (fun d => zo_l d rfl rfl trivial) <|
  zgd_e (fun d => zo_l d rfl rfl trivial) <|
  zgd_e (fun d => zo_l d rfl rfl trivial) <|
  zgd_e (fun d => zo_s d rfl ⟨zd_149, zw_1215, zw_1216⟩) <|
  zgd_e (fun d => zo_l d rfl rfl (by show ((7 : Nat) : Int) + (14) = ((21 : Nat) : Int); decide)) <|
  zgd_e (fun d => zo_l d rfl rfl trivial) <|
  zgd_e (fun d => zo_l d rfl rfl trivial) <|
  zgd_e (fun d => zo_v d rfl ⟨rfl, zd_171, zw_1707, Nat.le_of_ble_eq_true rfl, ⟨_, Or.inl ⟨Nat.le_of_ble_eq_true rfl, rfl⟩, rfl⟩, zw_1705, zw_105⟩) <|
  zgd_e (fun d => zo_l d rfl rfl trivial) <|
  zgd_e (fun d => zo_l d rfl rfl (by show ((18 : Nat) : Int) + (7) = ((25 : Nat) : Int); decide)) <|
  zgd_e (fun d => zo_l d rfl rfl trivial) <|
  zgd_e (fun d => zo_l d rfl rfl (by show ((22 : Nat) : Int) + (4) = ((26 : Nat) : Int); decide)) <|
  zgd_e (fun d => zo_l d rfl rfl trivial) <|
  zgd_e (fun d => zo_l d rfl rfl trivial) <|
  zgd_e (fun d => zo_l d rfl rfl trivial) <|
  zgd_e (fun d => zo_l d rfl rfl trivial) <|
  zgd_e (fun d => zo_l d rfl rfl trivial) <|
  zgd_e (fun d => zo_l d rfl rfl (by show ((30 : Nat) : Int) + (22) = ((52 : Nat) : Int); decide)) <|
  zgd_e (fun d => zo_l d rfl rfl trivial) <|
  zgd_e (fun d => zo_l d rfl rfl trivial) <|
  zgd_e (fun d => zo_l d rfl rfl trivial) <|
  zgd_e (fun d => zo_l d rfl rfl trivial) <|
  zgd_e (fun d => zo_v d rfl ⟨rfl, zd_171, zw_1707, Nat.le_of_ble_eq_true rfl, ⟨_, Or.inl ⟨Nat.le_of_ble_eq_true rfl, rfl⟩, rfl⟩, zw_1705, zw_105⟩) <|
  zgd_e (fun d => zo_l d rfl rfl trivial) <|
  zgd_e (fun d => zo_l d rfl rfl trivial) <|
  zgd_e (fun d => zo_s d rfl ⟨zd_149, zw_1215, zw_1216⟩) <|
  zgd_e (fun d => zo_l d rfl rfl (by show ((45 : Nat) : Int) + (7) = ((52 : Nat) : Int); decide)) <|
  zgd_e (fun d => zo_l d rfl rfl trivial) <|
  zgd_e (fun d => zo_l d rfl rfl (by show ((49 : Nat) : Int) + (4) = ((53 : Nat) : Int); decide)) <|
  zgd_e (fun d => zo_l d rfl rfl trivial) <|
  zgd_e (fun d => zo_v d rfl ⟨rfl, zd_151, zw_1551, Nat.le_of_ble_eq_true rfl, ⟨_, Or.inl ⟨Nat.le_of_ble_eq_true rfl, rfl⟩, rfl⟩, zw_1549, zw_97⟩) <|
  zgd_e (fun d => zo_l d rfl rfl (by show ((56 : Nat) : Int) + (5) = ((61 : Nat) : Int); decide)) <|
  zgd_e (fun d => zo_l d rfl rfl trivial) <|
  zgd_e (fun d => zo_r d rfl) <|
  zgd_e (fun d => zo_l d rfl rfl trivial) <|
  zgd_e (fun d => zo_l d rfl rfl trivial) <|
  zgd_e (fun d => zo_l d rfl rfl trivial) <|
  zgd_e (fun d => zo_l d rfl rfl trivial) <|
  zgd_e (fun d => zo_l d rfl rfl trivial) <|
  zgd_e (fun d => zo_l d rfl rfl trivial) <|
  zgd_m h
theorem zdd_280_1 : ∀ q ∈ zc_280_1, decode prog_9_method_134_code q.1 = Except.ok (q.2.1, q.2.2.1) := zdd_of (by decide +kernel)
theorem zk_280_1 (xs : List Int32) {l : List zE} (h : ∀ q ∈ l, z_oke' (za_T xs) za_P za_M ⟨"LyndonBenchModel", "bruijnLetter", "(II)I"⟩ prog_9_method_134_code q) : ∀ q ∈ zc_280_1 ++ l, z_oke' (za_T xs) za_P za_M ⟨"LyndonBenchModel", "bruijnLetter", "(II)I"⟩ prog_9_method_134_code q :=
  zgd_y zdd_280_1 <|
  zgd_e (fun d => zo_l d rfl rfl trivial) <|
  zgd_e (fun d => zo_v d rfl ⟨rfl, zd_171, zw_1707, Nat.le_of_ble_eq_true rfl, ⟨_, Or.inl ⟨Nat.le_of_ble_eq_true rfl, rfl⟩, rfl⟩, zw_1705, zw_105⟩) <|
  zgd_e (fun d => zo_l d rfl rfl (by show ((74 : Nat) : Int) + (58) = ((132 : Nat) : Int); decide)) <|
  zgd_e (fun d => zo_l d rfl rfl trivial) <|
  zgd_e (fun d => zo_l d rfl rfl trivial) <|
  zgd_e (fun d => zo_l d rfl rfl trivial) <|
  zgd_e (fun d => zo_v d rfl ⟨rfl, zd_172, zw_1715, Nat.le_of_ble_eq_true rfl, ⟨_, Or.inl ⟨Nat.le_of_ble_eq_true rfl, rfl⟩, rfl⟩, zw_1713, zw_107⟩) <|
  zgd_e (fun d => zo_l d rfl rfl trivial) <|
  zgd_e (fun d => zo_v d rfl ⟨rfl, zd_164, zw_1364, Nat.le_of_ble_eq_true rfl, ⟨_, Or.inl ⟨Nat.le_of_ble_eq_true rfl, rfl⟩, rfl⟩, zw_1362, zw_74⟩) <|
  zgd_e (fun d => zo_l d rfl rfl (by show ((88 : Nat) : Int) + (10) = ((98 : Nat) : Int); decide)) <|
  zgd_e (fun d => zo_l d rfl rfl trivial) <|
  zgd_e (fun d => zo_v d rfl ⟨rfl, zd_173, zw_1751, Nat.le_of_ble_eq_true rfl, ⟨_, Or.inl ⟨Nat.le_of_ble_eq_true rfl, rfl⟩, rfl⟩, zw_1749, zw_109⟩) <|
  zgd_e (fun d => zo_l d rfl rfl (by show ((95 : Nat) : Int) + (4) = ((99 : Nat) : Int); decide)) <|
  zgd_e (fun d => zo_l d rfl rfl trivial) <|
  zgd_e (fun d => zo_l d rfl rfl trivial) <|
  zgd_e (fun d => zo_l d rfl rfl trivial) <|
  zgd_e (fun d => zo_l d rfl rfl trivial) <|
  zgd_e (fun d => zo_l d rfl rfl (by show ((105 : Nat) : Int) + (14) = ((119 : Nat) : Int); decide)) <|
  zgd_e (fun d => zo_l d rfl rfl trivial) <|
  zgd_e (fun d => zo_l d rfl rfl trivial) <|
  zgd_e (fun d => zo_h d rfl ⟨rfl, Nat.le_of_ble_eq_true rfl, _, _, _, Or.inl ⟨Nat.le_of_ble_eq_true rfl, rfl⟩, Nat.le_of_ble_eq_true rfl, zw_1442⟩) <|
  zgd_e (fun d => zo_l d rfl rfl trivial) <|
  zgd_e (fun d => zo_h d rfl rfl) <|
  zgd_e (fun d => zo_l d rfl rfl trivial) <|
  zgd_e (fun d => zo_r d rfl) <|
  zgd_e (fun d => zo_l d rfl rfl trivial) <|
  zgd_e (fun d => zo_l d rfl rfl trivial) <|
  zgd_e (fun d => zo_l d rfl rfl trivial) <|
  zgd_e (fun d => zo_l d rfl rfl trivial) <|
  zgd_e (fun d => zo_l d rfl rfl trivial) <|
  zgd_e (fun d => zo_l d rfl rfl (by show ((129 : Nat) : Int) + (-62) = ((67 : Nat) : Int); decide)) <|
  zgd_e (fun d => zo_l d rfl rfl trivial) <|
  zgd_e (fun d => zo_r d rfl) <|
  zgd_m h
theorem zk_280 (xs : List Int32) : z_okm (za_T xs) za_P za_M 280 := z_okm_of ⟨"LyndonBenchModel", "bruijnLetter", "(II)I"⟩ prog_9_method_134_code zc_280 _ rfl rfl rfl rfl
  (zk_280_0 xs <|
  zk_280_1 xs <|
  z_fn)
  (z_fn)
theorem zdd_281 : ∀ q ∈ zc_281, decode prog_9_method_135_code q.1 = Except.ok (q.2.1, q.2.2.1) := zdd_of (by decide +kernel)
theorem zk_281 (xs : List Int32) : z_okm (za_T xs) za_P za_M 281 := z_okm_of ⟨"LyndonBenchModel", "keptCount", "()I"⟩ prog_9_method_135_code zc_281 _ rfl rfl rfl rfl
  (zgd_x zdd_281 <|
  zgd_d (fun d => zo_l d rfl rfl trivial) <|
  zgd_d (fun d => zo_l d rfl rfl trivial) <|
  zgd_d (fun d => zo_v d rfl ⟨rfl, zd_248, zw_1639, Nat.le_of_ble_eq_true rfl, ⟨_, Or.inl ⟨Nat.le_of_ble_eq_true rfl, rfl⟩, rfl⟩, zw_1637, zw_100⟩) <|
  zgd_d (fun d => zo_r d rfl) <|
  zgd_n)
  (z_fn)
theorem zdd_282 : ∀ q ∈ zc_282, decode prog_9_method_136_code q.1 = Except.ok (q.2.1, q.2.2.1) := zdd_of (by decide +kernel)
theorem zk_282 (xs : List Int32) : z_okm (za_T xs) za_P za_M 282 := z_okm_of ⟨"LyndonBenchModel", "keptLength", "(I)I"⟩ prog_9_method_136_code zc_282 _ rfl rfl rfl rfl
  (zgd_x zdd_282 <|
  zgd_d (fun d => zo_l d rfl rfl trivial) <|
  zgd_d (fun d => zo_l d rfl rfl trivial) <|
  zgd_d (fun d => zo_l d rfl rfl trivial) <|
  zgd_d (fun d => zo_v d rfl ⟨rfl, zd_153, zw_1603, Nat.le_of_ble_eq_true rfl, ⟨_, Or.inl ⟨Nat.le_of_ble_eq_true rfl, rfl⟩, rfl⟩, zw_1601, zw_99⟩) <|
  zgd_d (fun d => zo_l d rfl rfl (by show ((6 : Nat) : Int) + (7) = ((13 : Nat) : Int); decide)) <|
  zgd_d (fun d => zo_l d rfl rfl trivial) <|
  zgd_d (fun d => zo_l d rfl rfl (by show ((10 : Nat) : Int) + (4) = ((14 : Nat) : Int); decide)) <|
  zgd_d (fun d => zo_l d rfl rfl trivial) <|
  zgd_d (fun d => zo_v d rfl ⟨rfl, zd_150, zw_1526, Nat.le_of_ble_eq_true rfl, ⟨_, Or.inl ⟨Nat.le_of_ble_eq_true rfl, rfl⟩, rfl⟩, zw_1524, zw_93⟩) <|
  zgd_d (fun d => zo_l d rfl rfl (by show ((17 : Nat) : Int) + (7) = ((24 : Nat) : Int); decide)) <|
  zgd_d (fun d => zo_l d rfl rfl trivial) <|
  zgd_d (fun d => zo_l d rfl rfl (by show ((21 : Nat) : Int) + (12) = ((33 : Nat) : Int); decide)) <|
  zgd_d (fun d => zo_l d rfl rfl trivial) <|
  zgd_d (fun d => zo_h d rfl ⟨rfl, Nat.le_of_ble_eq_true rfl, _, _, _, Or.inl ⟨Nat.le_of_ble_eq_true rfl, rfl⟩, Nat.le_of_ble_eq_true rfl, zw_1434⟩) <|
  zgd_d (fun d => zo_l d rfl rfl trivial) <|
  zgd_d (fun d => zo_l d rfl rfl trivial) <|
  zgd_d (fun d => zo_l d rfl rfl trivial) <|
  zgd_d (fun d => zo_h d rfl rfl) <|
  zgd_d (fun d => zo_r d rfl) <|
  zgd_n)
  (z_fn)
theorem zdd_283 : ∀ q ∈ zc_283, decode prog_9_method_137_code q.1 = Except.ok (q.2.1, q.2.2.1) := zdd_of (by decide +kernel)
theorem zk_283 (xs : List Int32) : z_okm (za_T xs) za_P za_M 283 := z_okm_of ⟨"LyndonBenchModel", "keptLetter", "(II)I"⟩ prog_9_method_137_code zc_283 _ rfl rfl rfl rfl
  (zgd_x zdd_283 <|
  zgd_d (fun d => zo_l d rfl rfl trivial) <|
  zgd_d (fun d => zo_l d rfl rfl trivial) <|
  zgd_d (fun d => zo_l d rfl rfl trivial) <|
  zgd_d (fun d => zo_v d rfl ⟨rfl, zd_153, zw_1603, Nat.le_of_ble_eq_true rfl, ⟨_, Or.inl ⟨Nat.le_of_ble_eq_true rfl, rfl⟩, rfl⟩, zw_1601, zw_99⟩) <|
  zgd_d (fun d => zo_l d rfl rfl (by show ((6 : Nat) : Int) + (7) = ((13 : Nat) : Int); decide)) <|
  zgd_d (fun d => zo_l d rfl rfl trivial) <|
  zgd_d (fun d => zo_l d rfl rfl (by show ((10 : Nat) : Int) + (4) = ((14 : Nat) : Int); decide)) <|
  zgd_d (fun d => zo_l d rfl rfl trivial) <|
  zgd_d (fun d => zo_v d rfl ⟨rfl, zd_150, zw_1526, Nat.le_of_ble_eq_true rfl, ⟨_, Or.inl ⟨Nat.le_of_ble_eq_true rfl, rfl⟩, rfl⟩, zw_1524, zw_93⟩) <|
  zgd_d (fun d => zo_l d rfl rfl (by show ((17 : Nat) : Int) + (5) = ((22 : Nat) : Int); decide)) <|
  zgd_d (fun d => zo_l d rfl rfl trivial) <|
  zgd_d (fun d => zo_r d rfl) <|
  zgd_d (fun d => zo_l d rfl rfl trivial) <|
  zgd_d (fun d => zo_l d rfl rfl trivial) <|
  zgd_d (fun d => zo_l d rfl rfl trivial) <|
  zgd_d (fun d => zo_h d rfl ⟨rfl, Nat.le_of_ble_eq_true rfl, _, _, _, Or.inl ⟨Nat.le_of_ble_eq_true rfl, rfl⟩, Nat.le_of_ble_eq_true rfl, zw_1434⟩) <|
  zgd_d (fun d => zo_l d rfl rfl trivial) <|
  zgd_d (fun d => zo_l d rfl rfl trivial) <|
  zgd_d (fun d => zo_l d rfl rfl trivial) <|
  zgd_d (fun d => zo_h d rfl rfl) <|
  zgd_d (fun d => zo_l d rfl rfl trivial) <|
  zgd_d (fun d => zo_l d rfl rfl trivial) <|
  zgd_d (fun d => zo_s d rfl ⟨zd_149, zw_1215, zw_1216⟩) <|
  zgd_d (fun d => zo_l d rfl rfl (by show ((38 : Nat) : Int) + (24) = ((62 : Nat) : Int); decide)) <|
  zgd_d (fun d => zo_l d rfl rfl trivial) <|
  zgd_d (fun d => zo_l d rfl rfl trivial) <|
  zgd_d (fun d => zo_h d rfl ⟨rfl, Nat.le_of_ble_eq_true rfl, _, _, _, Or.inl ⟨Nat.le_of_ble_eq_true rfl, rfl⟩, Nat.le_of_ble_eq_true rfl, zw_1434⟩) <|
  zgd_d (fun d => zo_l d rfl rfl trivial) <|
  zgd_d (fun d => zo_l d rfl rfl trivial) <|
  zgd_d (fun d => zo_l d rfl rfl trivial) <|
  zgd_d (fun d => zo_l d rfl rfl trivial) <|
  zgd_d (fun d => zo_l d rfl rfl trivial) <|
  zgd_d (fun d => zo_l d rfl rfl trivial) <|
  zgd_d (fun d => zo_l d rfl rfl trivial) <|
  zgd_d (fun d => zo_h d rfl rfl) <|
  zgd_d (fun d => zo_l d rfl rfl trivial) <|
  zgd_d (fun d => zo_l d rfl rfl (by show ((59 : Nat) : Int) + (4) = ((63 : Nat) : Int); decide)) <|
  zgd_d (fun d => zo_l d rfl rfl trivial) <|
  zgd_d (fun d => zo_r d rfl) <|
  zgd_n)
  (z_fn)
theorem zdd_284 : ∀ q ∈ zc_284, decode prog_9_method_138_code q.1 = Except.ok (q.2.1, q.2.2.1) := zdd_of (by decide +kernel)
theorem zk_284 (xs : List Int32) : z_okm (za_T xs) za_P za_M 284 := z_okm_of ⟨"LyndonBenchModel", "isShelfFalling", "()Z"⟩ prog_9_method_138_code zc_284 _ rfl rfl rfl rfl
  (zgd_x zdd_284 <|
  zgd_d (fun d => zo_l d rfl rfl trivial) <|
  zgd_d (fun d => zo_l d rfl rfl trivial) <|
  zgd_d (fun d => zo_h d rfl ⟨rfl, Nat.le_of_ble_eq_true rfl, _, _, _, rfl, Nat.le_of_ble_eq_true rfl, zw_1451, Or.inl rfl⟩) <|
  zgd_d (fun d => zo_l d rfl rfl trivial) <|
  zgd_d (fun d => zo_l d rfl rfl trivial) <|
  zgd_d (fun d => zo_l d rfl rfl trivial) <|
  zgd_d (fun d => zo_l d rfl rfl trivial) <|
  zgd_d (fun d => zo_h d rfl ⟨rfl, Nat.le_of_ble_eq_true rfl, _, _, _, Or.inl ⟨Nat.le_of_ble_eq_true rfl, rfl⟩, Nat.le_of_ble_eq_true rfl, zw_1434⟩) <|
  zgd_d (fun d => zo_l d rfl rfl trivial) <|
  zgd_d (fun d => zo_h d rfl rfl) <|
  zgd_d (fun d => zo_l d rfl rfl (by show ((14 : Nat) : Int) + (22) = ((36 : Nat) : Int); decide)) <|
  zgd_d (fun d => zo_l d rfl rfl trivial) <|
  zgd_d (fun d => zo_l d rfl rfl trivial) <|
  zgd_d (fun d => zo_l d rfl rfl trivial) <|
  zgd_d (fun d => zo_l d rfl rfl trivial) <|
  zgd_d (fun d => zo_l d rfl rfl trivial) <|
  zgd_d (fun d => zo_v d rfl ⟨rfl, zd_155, zw_1424, Nat.le_of_ble_eq_true rfl, ⟨_, Or.inl ⟨Nat.le_of_ble_eq_true rfl, rfl⟩, rfl⟩, zw_1422, zw_89⟩) <|
  zgd_d (fun d => zo_l d rfl rfl (by show ((25 : Nat) : Int) + (5) = ((30 : Nat) : Int); decide)) <|
  zgd_d (fun d => zo_l d rfl rfl trivial) <|
  zgd_d (fun d => zo_r d rfl) <|
  zgd_d (fun d => zo_l d rfl rfl trivial) <|
  zgd_d (fun d => zo_l d rfl rfl (by show ((33 : Nat) : Int) + (-26) = ((7 : Nat) : Int); decide)) <|
  zgd_d (fun d => zo_l d rfl rfl trivial) <|
  zgd_d (fun d => zo_r d rfl) <|
  zgd_n)
  (z_fn)
theorem zdd_285 : ∀ q ∈ zc_285, decode prog_9_method_139_code q.1 = Except.ok (q.2.1, q.2.2.1) := zdd_of (by decide +kernel)
theorem zk_285 (xs : List Int32) : z_okm (za_T xs) za_P za_M 285 := z_okm_of ⟨"LyndonBenchModel", "greatestKept", "()I"⟩ prog_9_method_139_code zc_285 _ rfl rfl rfl rfl
  (zgd_x zdd_285 <|
  zgd_d (fun d => zo_l d rfl rfl trivial) <|
  zgd_d (fun d => zo_l d rfl rfl trivial) <|
  zgd_d (fun d => zo_h d rfl ⟨rfl, Nat.le_of_ble_eq_true rfl, _, _, _, rfl, Nat.le_of_ble_eq_true rfl, zw_1451, Or.inl rfl⟩) <|
  zgd_d (fun d => zo_l d rfl rfl trivial) <|
  zgd_d (fun d => zo_l d rfl rfl trivial) <|
  zgd_d (fun d => zo_v d rfl ⟨rfl, zd_193, zw_1420, Nat.le_of_ble_eq_true rfl, ⟨_, Or.inl ⟨Nat.le_of_ble_eq_true rfl, rfl⟩, rfl⟩, zw_1418, zw_88⟩) <|
  zgd_d (fun d => zo_r d rfl) <|
  zgd_n)
  (z_fn)
theorem zdd_286 : ∀ q ∈ zc_286, decode prog_9_method_140_code q.1 = Except.ok (q.2.1, q.2.2.1) := zdd_of (by decide +kernel)
theorem zk_286 (xs : List Int32) : z_okm (za_T xs) za_P za_M 286 := z_okm_of ⟨"LyndonBenchModel", "meanFactor", "()D"⟩ prog_9_method_140_code zc_286 _ rfl rfl rfl rfl
  (zgd_x zdd_286 <|
  zgd_d (fun d => zo_l d rfl rfl trivial) <|
  zgd_d (fun d => zo_l d rfl rfl trivial) <|
  zgd_d (fun d => zo_h d rfl ⟨rfl, Nat.le_of_ble_eq_true rfl, _, _, _, rfl, Nat.le_of_ble_eq_true rfl, zw_1451, Or.inl rfl⟩) <|
  zgd_d (fun d => zo_l d rfl rfl trivial) <|
  zgd_d (fun d => zo_v d rfl ⟨rfl, zd_161, zw_1288, Nat.le_of_ble_eq_true rfl, ⟨_, Or.inl ⟨Nat.le_of_ble_eq_true rfl, rfl⟩, rfl⟩, zw_1286, zw_55⟩) <|
  zgd_d (fun d => zo_l d rfl rfl trivial) <|
  zgd_d (fun d => zo_l d rfl rfl trivial) <|
  zgd_d (fun d => zo_l d rfl rfl (by show ((11 : Nat) : Int) + (7) = ((18 : Nat) : Int); decide)) <|
  zgd_d (fun d => zo_l d rfl rfl trivial) <|
  zgd_d (fun d => zo_l d rfl rfl (by show ((15 : Nat) : Int) + (13) = ((28 : Nat) : Int); decide)) <|
  zgd_d (fun d => zo_l d rfl rfl trivial) <|
  zgd_d (fun d => zo_h d rfl ⟨rfl, Nat.le_of_ble_eq_true rfl, _, _, _, Or.inl ⟨Nat.le_of_ble_eq_true rfl, rfl⟩, Nat.le_of_ble_eq_true rfl, zw_1434⟩) <|
  zgd_d (fun d => zo_l d rfl rfl trivial) <|
  zgd_d (fun d => zo_h d rfl rfl) <|
  zgd_d (fun d => zo_l d rfl rfl trivial) <|
  zgd_d (fun d => zo_l d rfl rfl trivial) <|
  zgd_d (fun d => zo_l d rfl rfl trivial) <|
  zgd_d (fun d => zo_l d rfl rfl trivial) <|
  zgd_d (fun d => zo_r d rfl) <|
  zgd_n)
  (z_fn)
theorem zdd_287 : ∀ q ∈ zc_287, decode prog_9_method_141_code q.1 = Except.ok (q.2.1, q.2.2.1) := zdd_of (by decide +kernel)
theorem zk_287 (xs : List Int32) : z_okm (za_T xs) za_P za_M 287 := z_okm_of ⟨"LyndonBenchModel", "lyndonShare", "()F"⟩ prog_9_method_141_code zc_287 _ rfl rfl rfl rfl
  (zgd_x zdd_287 <|
  zgd_d (fun d => zo_l d rfl rfl trivial) <|
  zgd_d (fun d => zo_l d rfl rfl trivial) <|
  zgd_d (fun d => zo_h d rfl ⟨rfl, Nat.le_of_ble_eq_true rfl, _, _, _, rfl, Nat.le_of_ble_eq_true rfl, zw_1451, Or.inl rfl⟩) <|
  zgd_d (fun d => zo_l d rfl rfl trivial) <|
  zgd_d (fun d => zo_l d rfl rfl trivial) <|
  zgd_d (fun d => zo_v d rfl ⟨rfl, zd_174, zw_1783, Nat.le_of_ble_eq_true rfl, ⟨_, Or.inl ⟨Nat.le_of_ble_eq_true rfl, rfl⟩, rfl⟩, zw_1781, zw_112⟩) <|
  zgd_d (fun d => zo_h d rfl ⟨rfl, _, rfl, zw_1825⟩) <|
  zgd_d (fun d => zo_l d rfl rfl trivial) <|
  zgd_d (fun d => zo_l d rfl rfl trivial) <|
  zgd_d (fun d => zo_l d rfl rfl trivial) <|
  zgd_d (fun d => zo_l d rfl rfl trivial) <|
  zgd_d (fun d => zo_v d rfl ⟨rfl, zd_175, zw_1791, Nat.le_of_ble_eq_true rfl, ⟨_, Or.inl ⟨Nat.le_of_ble_eq_true rfl, rfl⟩, rfl⟩, zw_1789, zw_113⟩) <|
  zgd_d (fun d => zo_l d rfl rfl trivial) <|
  zgd_d (fun d => zo_l d rfl rfl trivial) <|
  zgd_d (fun d => zo_r d rfl) <|
  zgd_n)
  (z_fn)
theorem zdd_288_0 : ∀ q ∈ zc_288_0, decode prog_9_method_142_code q.1 = Except.ok (q.2.1, q.2.2.1) := zdd_of (by decide +kernel)
theorem zk_288_0 (xs : List Int32) {l : List zE} (h : ∀ q ∈ l, z_oke' (za_T xs) za_P za_M ⟨"LyndonBenchModel", "violations", "()I"⟩ prog_9_method_142_code q) : ∀ q ∈ zc_288_0 ++ l, z_oke' (za_T xs) za_P za_M ⟨"LyndonBenchModel", "violations", "()I"⟩ prog_9_method_142_code q :=
  zgd_y zdd_288_0 <|
  zgd_e (fun d => zo_l d rfl rfl trivial) <|
  zgd_e (fun d => zo_l d rfl rfl trivial) <|
  zgd_e (fun d => zo_h d rfl ⟨rfl, Nat.le_of_ble_eq_true rfl, _, _, _, rfl, Nat.le_of_ble_eq_true rfl, zw_1451, Or.inl rfl⟩) <|
  zgd_e (fun d => zo_l d rfl rfl trivial) <|
  zgd_e (fun d => zo_v d rfl ⟨rfl, zd_161, zw_1288, Nat.le_of_ble_eq_true rfl, ⟨_, Or.inl ⟨Nat.le_of_ble_eq_true rfl, rfl⟩, rfl⟩, zw_1286, zw_55⟩) <|
  zgd_e (fun d => zo_l d rfl rfl trivial) <|
  zgd_e (fun d => zo_l d rfl rfl trivial) <|
  zgd_e (fun d => zo_l d rfl rfl (by show ((11 : Nat) : Int) + (23) = ((34 : Nat) : Int); decide)) <|
  zgd_e (fun d => zo_l d rfl rfl trivial) <|
  zgd_e (fun d => zo_h d rfl ⟨rfl, Nat.le_of_ble_eq_true rfl, _, _, _, Or.inl ⟨Nat.le_of_ble_eq_true rfl, rfl⟩, Nat.le_of_ble_eq_true rfl, zw_1443⟩) <|
  zgd_e (fun d => zo_l d rfl rfl trivial) <|
  zgd_e (fun d => zo_l d rfl rfl trivial) <|
  zgd_e (fun d => zo_l d rfl rfl trivial) <|
  zgd_e (fun d => zo_h d rfl rfl) <|
  zgd_e (fun d => zo_l d rfl rfl trivial) <|
  zgd_e (fun d => zo_l d rfl rfl trivial) <|
  zgd_e (fun d => zo_v d rfl ⟨rfl, zd_170, zw_1771, Nat.le_of_ble_eq_true rfl, ⟨_, Or.inl ⟨Nat.le_of_ble_eq_true rfl, rfl⟩, rfl⟩, zw_1769, zw_111⟩) <|
  zgd_e (fun d => zo_l d rfl rfl (by show ((27 : Nat) : Int) + (7) = ((34 : Nat) : Int); decide)) <|
  zgd_e (fun d => zo_l d rfl rfl trivial) <|
  zgd_e (fun d => zo_l d rfl rfl (by show ((31 : Nat) : Int) + (4) = ((35 : Nat) : Int); decide)) <|
  zgd_e (fun d => zo_l d rfl rfl trivial) <|
  zgd_e (fun d => zo_l d rfl rfl trivial) <|
  zgd_e (fun d => zo_l d rfl rfl trivial) <|
  zgd_e (fun d => zo_l d rfl rfl trivial) <|
  zgd_e (fun d => zo_l d rfl rfl trivial) <|
  zgd_e (fun d => zo_l d rfl rfl trivial) <|
  zgd_e (fun d => zo_l d rfl rfl (by show ((40 : Nat) : Int) + (76) = ((116 : Nat) : Int); decide)) <|
  zgd_e (fun d => zo_l d rfl rfl trivial) <|
  zgd_e (fun d => zo_h d rfl ⟨rfl, Nat.le_of_ble_eq_true rfl, _, _, _, Or.inl ⟨Nat.le_of_ble_eq_true rfl, rfl⟩, Nat.le_of_ble_eq_true rfl, zw_1443⟩) <|
  zgd_e (fun d => zo_l d rfl rfl trivial) <|
  zgd_e (fun d => zo_l d rfl rfl trivial) <|
  zgd_e (fun d => zo_l d rfl rfl trivial) <|
  zgd_e (fun d => zo_h d rfl rfl) <|
  zgd_e (fun d => zo_l d rfl rfl trivial) <|
  zgd_e (fun d => zo_h d rfl ⟨rfl, Nat.le_of_ble_eq_true rfl, _, _, _, Or.inl ⟨Nat.le_of_ble_eq_true rfl, rfl⟩, Nat.le_of_ble_eq_true rfl, zw_1443⟩) <|
  zgd_e (fun d => zo_l d rfl rfl trivial) <|
  zgd_e (fun d => zo_h d rfl rfl) <|
  zgd_e (fun d => zo_l d rfl rfl trivial) <|
  zgd_e (fun d => zo_l d rfl rfl trivial) <|
  zgd_e (fun d => zo_l d rfl rfl trivial) <|
  zgd_m h
theorem zdd_288_1 : ∀ q ∈ zc_288_1, decode prog_9_method_142_code q.1 = Except.ok (q.2.1, q.2.2.1) := zdd_of (by decide +kernel)
theorem zk_288_1 (xs : List Int32) {l : List zE} (h : ∀ q ∈ l, z_oke' (za_T xs) za_P za_M ⟨"LyndonBenchModel", "violations", "()I"⟩ prog_9_method_142_code q) : ∀ q ∈ zc_288_1 ++ l, z_oke' (za_T xs) za_P za_M ⟨"LyndonBenchModel", "violations", "()I"⟩ prog_9_method_142_code q :=
  zgd_y zdd_288_1 <|
  zgd_e (fun d => zo_l d rfl rfl trivial) <|
  zgd_e (fun d => zo_l d rfl rfl trivial) <|
  zgd_e (fun d => zo_l d rfl rfl trivial) <|
  zgd_e (fun d => zo_h d rfl ⟨rfl, Nat.le_of_ble_eq_true rfl, _, _, _, Or.inl ⟨Nat.le_of_ble_eq_true rfl, rfl⟩, Nat.le_of_ble_eq_true rfl, zw_1443⟩) <|
  zgd_e (fun d => zo_l d rfl rfl trivial) <|
  zgd_e (fun d => zo_h d rfl rfl) <|
  zgd_e (fun d => zo_l d rfl rfl trivial) <|
  zgd_e (fun d => zo_l d rfl rfl trivial) <|
  zgd_e (fun d => zo_l d rfl rfl trivial) <|
  zgd_e (fun d => zo_l d rfl rfl trivial) <|
  zgd_e (fun d => zo_h d rfl ⟨rfl, Nat.le_of_ble_eq_true rfl, _, _, _, Or.inl ⟨Nat.le_of_ble_eq_true rfl, rfl⟩, Nat.le_of_ble_eq_true rfl, zw_1443⟩) <|
  zgd_e (fun d => zo_l d rfl rfl trivial) <|
  zgd_e (fun d => zo_l d rfl rfl trivial) <|
  zgd_e (fun d => zo_l d rfl rfl trivial) <|
  zgd_e (fun d => zo_h d rfl rfl) <|
  zgd_e (fun d => zo_l d rfl rfl trivial) <|
  zgd_e (fun d => zo_l d rfl rfl trivial) <|
  zgd_e (fun d => zo_h d rfl ⟨rfl, Nat.le_of_ble_eq_true rfl, _, _, _, Or.inl ⟨Nat.le_of_ble_eq_true rfl, rfl⟩, Nat.le_of_ble_eq_true rfl, zw_1443⟩) <|
  zgd_e (fun d => zo_l d rfl rfl trivial) <|
  zgd_e (fun d => zo_h d rfl rfl) <|
  zgd_e (fun d => zo_l d rfl rfl trivial) <|
  zgd_e (fun d => zo_h d rfl ⟨rfl, Nat.le_of_ble_eq_true rfl, _, _, _, Or.inl ⟨Nat.le_of_ble_eq_true rfl, rfl⟩, Nat.le_of_ble_eq_true rfl, zw_1443⟩) <|
  zgd_e (fun d => zo_l d rfl rfl trivial) <|
  zgd_e (fun d => zo_l d rfl rfl trivial) <|
  zgd_e (fun d => zo_l d rfl rfl trivial) <|
  zgd_e (fun d => zo_h d rfl rfl) <|
  zgd_e (fun d => zo_l d rfl rfl trivial) <|
  zgd_e (fun d => zo_v d rfl ⟨rfl, zd_154, zw_1428, Nat.le_of_ble_eq_true rfl, ⟨_, Or.inl ⟨Nat.le_of_ble_eq_true rfl, rfl⟩, rfl⟩, zw_1426, zw_90⟩) <|
  zgd_e (fun d => zo_l d rfl rfl (by show ((100 : Nat) : Int) + (7) = ((107 : Nat) : Int); decide)) <|
  zgd_e (fun d => zo_l d rfl rfl trivial) <|
  zgd_e (fun d => zo_l d rfl rfl (by show ((104 : Nat) : Int) + (4) = ((108 : Nat) : Int); decide)) <|
  zgd_e (fun d => zo_l d rfl rfl trivial) <|
  zgd_e (fun d => zo_l d rfl rfl trivial) <|
  zgd_e (fun d => zo_l d rfl rfl trivial) <|
  zgd_e (fun d => zo_l d rfl rfl trivial) <|
  zgd_e (fun d => zo_l d rfl rfl (by show ((113 : Nat) : Int) + (-75) = ((38 : Nat) : Int); decide)) <|
  zgd_e (fun d => zo_l d rfl rfl trivial) <|
  zgd_e (fun d => zo_r d rfl) <|
  zgd_m h
theorem zk_288 (xs : List Int32) : z_okm (za_T xs) za_P za_M 288 := z_okm_of ⟨"LyndonBenchModel", "violations", "()I"⟩ prog_9_method_142_code zc_288 _ rfl rfl rfl rfl
  (zk_288_0 xs <|
  zk_288_1 xs <|
  z_fn)
  (z_fn)
theorem zdd_289 : ∀ q ∈ zc_289, decode prog_9_method_143_code q.1 = Except.ok (q.2.1, q.2.2.1) := zdd_of (by decide +kernel)
theorem zk_289 (xs : List Int32) : z_okm (za_T xs) za_P za_M 289 := z_okm_of ⟨"LyndonBenchModel", "write", "(I)V"⟩ prog_9_method_143_code zc_289 _ rfl rfl rfl rfl
  (zgd_x zdd_289 <|
  zgd_d (fun d => zo_l d rfl rfl trivial) <|
  zgd_d (fun d => zo_h d rfl ⟨rfl, Nat.le_of_ble_eq_true rfl, _, _, _, Or.inl ⟨Nat.le_of_ble_eq_true rfl, rfl⟩, Nat.le_of_ble_eq_true rfl, zw_1449⟩) <|
  zgd_d (fun d => zo_l d rfl rfl trivial) <|
  zgd_d (fun d => zo_h d rfl ⟨rfl, Nat.le_of_ble_eq_true rfl, _, _, _, Or.inl ⟨Nat.le_of_ble_eq_true rfl, rfl⟩, Nat.le_of_ble_eq_true rfl, zw_1450⟩) <|
  zgd_d (fun d => zo_l d rfl rfl trivial) <|
  zgd_d (fun d => zo_l d rfl rfl trivial) <|
  zgd_d (fun d => zo_h d rfl rfl) <|
  zgd_d (fun d => zo_l d rfl rfl trivial) <|
  zgd_d (fun d => zo_l d rfl rfl trivial) <|
  zgd_d (fun d => zo_h d rfl ⟨rfl, Nat.le_of_ble_eq_true rfl, _, _, _, Or.inl ⟨Nat.le_of_ble_eq_true rfl, rfl⟩, Nat.le_of_ble_eq_true rfl, zw_1450⟩) <|
  zgd_d (fun d => zo_l d rfl rfl trivial) <|
  zgd_d (fun d => zo_l d rfl rfl trivial) <|
  zgd_d (fun d => zo_h d rfl ⟨rfl, Nat.le_of_ble_eq_true rfl, _, _, _, rfl, Nat.le_of_ble_eq_true rfl, zw_1450, Or.inl rfl⟩) <|
  zgd_d (fun d => zo_e d) <|
  zgd_n)
  (z_fn)
theorem zdd_290 : ∀ q ∈ zc_290, decode prog_9_method_144_code q.1 = Except.ok (q.2.1, q.2.2.1) := zdd_of (by decide +kernel)
theorem zk_290 (xs : List Int32) : z_okm (za_T xs) za_P za_M 290 := z_okm_of ⟨"LyndonBenchModel", "writeNumber", "(I)V"⟩ prog_9_method_144_code zc_290 _ rfl rfl rfl rfl
  (zgd_x zdd_290 <|
  zgd_d (fun d => zo_l d rfl rfl trivial) <|
  zgd_d (fun d => zo_l d rfl rfl trivial) <|
  zgd_d (fun d => zo_l d rfl rfl (by show ((3 : Nat) : Int) + (11) = ((14 : Nat) : Int); decide)) <|
  zgd_d (fun d => zo_l d rfl rfl trivial) <|
  zgd_d (fun d => zo_l d rfl rfl trivial) <|
  zgd_d (fun d => zo_l d rfl rfl trivial) <|
  zgd_d (fun d => zo_l d rfl rfl trivial) <|
  zgd_d (fun d => zo_v d rfl ⟨rfl, zd_290, zw_1844, Nat.le_of_ble_eq_true rfl, ⟨_, Or.inl ⟨Nat.le_of_ble_eq_true rfl, rfl⟩, rfl⟩, zw_1842, zw_116⟩) <|
  zgd_d (fun d => zo_l d rfl rfl trivial) <|
  zgd_d (fun d => zo_l d rfl rfl trivial) <|
  zgd_d (fun d => zo_l d rfl rfl trivial) <|
  zgd_d (fun d => zo_l d rfl rfl trivial) <|
  zgd_d (fun d => zo_l d rfl rfl trivial) <|
  zgd_d (fun d => zo_l d rfl rfl trivial) <|
  zgd_d (fun d => zo_v d rfl ⟨rfl, zd_289, zw_1840, Nat.le_of_ble_eq_true rfl, ⟨_, Or.inl ⟨Nat.le_of_ble_eq_true rfl, rfl⟩, rfl⟩, zw_1838, zw_115⟩) <|
  zgd_d (fun d => zo_e d) <|
  zgd_n)
  (z_fn)
theorem zdd_291 : ∀ q ∈ zc_291, decode prog_9_method_145_code q.1 = Except.ok (q.2.1, q.2.2.1) := zdd_of (by decide +kernel)
theorem zk_291 (xs : List Int32) : z_okm (za_T xs) za_P za_M 291 := z_okm_of ⟨"LyndonBenchModel", "writeFactor", "(II)V"⟩ prog_9_method_145_code zc_291 _ rfl rfl rfl rfl
  (zgd_x zdd_291 <|
  zgd_d (fun d => zo_l d rfl rfl trivial) <|
  zgd_d (fun d => zo_l d rfl rfl (by show ((1 : Nat) : Int) + (9) = ((10 : Nat) : Int); decide)) <|
  zgd_d (fun d => zo_l d rfl rfl trivial) <|
  zgd_d (fun d => zo_l d rfl rfl trivial) <|
  zgd_d (fun d => zo_v d rfl ⟨rfl, zd_289, zw_1840, Nat.le_of_ble_eq_true rfl, ⟨_, Or.inl ⟨Nat.le_of_ble_eq_true rfl, rfl⟩, rfl⟩, zw_1838, zw_115⟩) <|
  zgd_d (fun d => zo_l d rfl rfl trivial) <|
  zgd_d (fun d => zo_h d rfl ⟨rfl, Nat.le_of_ble_eq_true rfl, _, _, _, Or.inl ⟨Nat.le_of_ble_eq_true rfl, rfl⟩, Nat.le_of_ble_eq_true rfl, zw_1443⟩) <|
  zgd_d (fun d => zo_l d rfl rfl trivial) <|
  zgd_d (fun d => zo_h d rfl rfl) <|
  zgd_d (fun d => zo_l d rfl rfl trivial) <|
  zgd_d (fun d => zo_l d rfl rfl trivial) <|
  zgd_d (fun d => zo_l d rfl rfl trivial) <|
  zgd_d (fun d => zo_h d rfl ⟨rfl, Nat.le_of_ble_eq_true rfl, _, _, _, Or.inl ⟨Nat.le_of_ble_eq_true rfl, rfl⟩, Nat.le_of_ble_eq_true rfl, zw_1443⟩) <|
  zgd_d (fun d => zo_l d rfl rfl trivial) <|
  zgd_d (fun d => zo_l d rfl rfl trivial) <|
  zgd_d (fun d => zo_l d rfl rfl trivial) <|
  zgd_d (fun d => zo_h d rfl rfl) <|
  zgd_d (fun d => zo_l d rfl rfl (by show ((26 : Nat) : Int) + (24) = ((50 : Nat) : Int); decide)) <|
  zgd_d (fun d => zo_l d rfl rfl trivial) <|
  zgd_d (fun d => zo_l d rfl rfl trivial) <|
  zgd_d (fun d => zo_l d rfl rfl trivial) <|
  zgd_d (fun d => zo_h d rfl ⟨rfl, Nat.le_of_ble_eq_true rfl, _, _, _, Or.inl ⟨Nat.le_of_ble_eq_true rfl, rfl⟩, Nat.le_of_ble_eq_true rfl, zw_1434⟩) <|
  zgd_d (fun d => zo_l d rfl rfl trivial) <|
  zgd_d (fun d => zo_l d rfl rfl trivial) <|
  zgd_d (fun d => zo_l d rfl rfl trivial) <|
  zgd_d (fun d => zo_h d rfl rfl) <|
  zgd_d (fun d => zo_l d rfl rfl trivial) <|
  zgd_d (fun d => zo_v d rfl ⟨rfl, zd_289, zw_1840, Nat.le_of_ble_eq_true rfl, ⟨_, Or.inl ⟨Nat.le_of_ble_eq_true rfl, rfl⟩, rfl⟩, zw_1838, zw_115⟩) <|
  zgd_d (fun d => zo_l d rfl rfl trivial) <|
  zgd_d (fun d => zo_l d rfl rfl (by show ((47 : Nat) : Int) + (-30) = ((17 : Nat) : Int); decide)) <|
  zgd_d (fun d => zo_l d rfl rfl trivial) <|
  zgd_d (fun d => zo_l d rfl rfl trivial) <|
  zgd_d (fun d => zo_l d rfl rfl (by show ((52 : Nat) : Int) + (14) = ((66 : Nat) : Int); decide)) <|
  zgd_d (fun d => zo_l d rfl rfl trivial) <|
  zgd_d (fun d => zo_l d rfl rfl trivial) <|
  zgd_d (fun d => zo_v d rfl ⟨rfl, zd_289, zw_1840, Nat.le_of_ble_eq_true rfl, ⟨_, Or.inl ⟨Nat.le_of_ble_eq_true rfl, rfl⟩, rfl⟩, zw_1838, zw_115⟩) <|
  zgd_d (fun d => zo_l d rfl rfl trivial) <|
  zgd_d (fun d => zo_l d rfl rfl trivial) <|
  zgd_d (fun d => zo_v d rfl ⟨rfl, zd_290, zw_1844, Nat.le_of_ble_eq_true rfl, ⟨_, Or.inl ⟨Nat.le_of_ble_eq_true rfl, rfl⟩, rfl⟩, zw_1842, zw_116⟩) <|
  zgd_d (fun d => zo_e d) <|
  zgd_n)
  (z_fn)
theorem zdd_292 : ∀ q ∈ zc_292, decode prog_9_method_146_code q.1 = Except.ok (q.2.1, q.2.2.1) := zdd_of (by decide +kernel)
theorem zk_292 (xs : List Int32) : z_okm (za_T xs) za_P za_M 292 := z_okm_of ⟨"LyndonBenchModel", "writeFactors", "()I"⟩ prog_9_method_146_code zc_292 _ rfl rfl rfl rfl
  (zgd_x zdd_292 <|
  zgd_d (fun d => zo_l d rfl rfl trivial) <|
  zgd_d (fun d => zo_l d rfl rfl trivial) <|
  zgd_d (fun d => zo_h d rfl ⟨rfl, Nat.le_of_ble_eq_true rfl, _, _, _, rfl, Nat.le_of_ble_eq_true rfl, zw_1451, Or.inl rfl⟩) <|
  zgd_d (fun d => zo_l d rfl rfl trivial) <|
  zgd_d (fun d => zo_l d rfl rfl trivial) <|
  zgd_d (fun d => zo_h d rfl ⟨rfl, Nat.le_of_ble_eq_true rfl, _, _, _, rfl, Nat.le_of_ble_eq_true rfl, zw_1450, Or.inl rfl⟩) <|
  zgd_d (fun d => zo_l d rfl rfl trivial) <|
  zgd_d (fun d => zo_v d rfl ⟨rfl, zd_161, zw_1288, Nat.le_of_ble_eq_true rfl, ⟨_, Or.inl ⟨Nat.le_of_ble_eq_true rfl, rfl⟩, rfl⟩, zw_1286, zw_55⟩) <|
  zgd_d (fun d => zo_l d rfl rfl trivial) <|
  zgd_d (fun d => zo_l d rfl rfl trivial) <|
  zgd_d (fun d => zo_l d rfl rfl trivial) <|
  zgd_d (fun d => zo_l d rfl rfl trivial) <|
  zgd_d (fun d => zo_l d rfl rfl trivial) <|
  zgd_d (fun d => zo_l d rfl rfl (by show ((19 : Nat) : Int) + (35) = ((54 : Nat) : Int); decide)) <|
  zgd_d (fun d => zo_l d rfl rfl trivial) <|
  zgd_d (fun d => zo_l d rfl rfl (by show ((23 : Nat) : Int) + (14) = ((37 : Nat) : Int); decide)) <|
  zgd_d (fun d => zo_l d rfl rfl trivial) <|
  zgd_d (fun d => zo_l d rfl rfl trivial) <|
  zgd_d (fun d => zo_l d rfl rfl trivial) <|
  zgd_d (fun d => zo_l d rfl rfl trivial) <|
  zgd_d (fun d => zo_l d rfl rfl trivial) <|
  zgd_d (fun d => zo_v d rfl ⟨rfl, zd_258, zw_1683, Nat.le_of_ble_eq_true rfl, ⟨_, Or.inl ⟨Nat.le_of_ble_eq_true rfl, rfl⟩, rfl⟩, zw_1681, zw_104⟩) <|
  zgd_d (fun d => zo_l d rfl rfl (by show ((34 : Nat) : Int) + (14) = ((48 : Nat) : Int); decide)) <|
  zgd_d (fun d => zo_l d rfl rfl trivial) <|
  zgd_d (fun d => zo_l d rfl rfl trivial) <|
  zgd_d (fun d => zo_l d rfl rfl trivial) <|
  zgd_d (fun d => zo_l d rfl rfl trivial) <|
  zgd_d (fun d => zo_l d rfl rfl trivial) <|
  zgd_d (fun d => zo_v d rfl ⟨rfl, zd_259, zw_1679, Nat.le_of_ble_eq_true rfl, ⟨_, Or.inl ⟨Nat.le_of_ble_eq_true rfl, rfl⟩, rfl⟩, zw_1677, zw_103⟩) <|
  zgd_d (fun d => zo_v d rfl ⟨rfl, zd_291, zw_1836, Nat.le_of_ble_eq_true rfl, ⟨_, Or.inl ⟨Nat.le_of_ble_eq_true rfl, rfl⟩, rfl⟩, zw_1834, zw_114⟩) <|
  zgd_d (fun d => zo_l d rfl rfl trivial) <|
  zgd_d (fun d => zo_l d rfl rfl (by show ((51 : Nat) : Int) + (-34) = ((17 : Nat) : Int); decide)) <|
  zgd_d (fun d => zo_l d rfl rfl trivial) <|
  zgd_d (fun d => zo_h d rfl ⟨rfl, Nat.le_of_ble_eq_true rfl, _, _, _, Or.inl ⟨Nat.le_of_ble_eq_true rfl, rfl⟩, Nat.le_of_ble_eq_true rfl, zw_1450⟩) <|
  zgd_d (fun d => zo_r d rfl) <|
  zgd_n)
  (z_fn)
theorem zdd_293 : ∀ q ∈ zc_293, decode prog_9_method_147_code q.1 = Except.ok (q.2.1, q.2.2.1) := zdd_of (by decide +kernel)
theorem zk_293 (xs : List Int32) : z_okm (za_T xs) za_P za_M 293 := z_okm_of ⟨"LyndonBenchModel", "reportByte", "(I)I"⟩ prog_9_method_147_code zc_293 _ rfl rfl rfl rfl
  (zgd_x zdd_293 <|
  zgd_d (fun d => zo_l d rfl rfl trivial) <|
  zgd_d (fun d => zo_l d rfl rfl trivial) <|
  zgd_d (fun d => zo_h d rfl ⟨rfl, Nat.le_of_ble_eq_true rfl, _, _, _, rfl, Nat.le_of_ble_eq_true rfl, zw_1451, Or.inl rfl⟩) <|
  zgd_d (fun d => zo_l d rfl rfl trivial) <|
  zgd_d (fun d => zo_l d rfl rfl trivial) <|
  zgd_d (fun d => zo_l d rfl rfl trivial) <|
  zgd_d (fun d => zo_h d rfl ⟨rfl, Nat.le_of_ble_eq_true rfl, _, _, _, Or.inl ⟨Nat.le_of_ble_eq_true rfl, rfl⟩, Nat.le_of_ble_eq_true rfl, zw_1450⟩) <|
  zgd_d (fun d => zo_l d rfl rfl trivial) <|
  zgd_d (fun d => zo_l d rfl rfl trivial) <|
  zgd_d (fun d => zo_s d rfl ⟨zd_149, zw_1215, zw_1216⟩) <|
  zgd_d (fun d => zo_l d rfl rfl (by show ((16 : Nat) : Int) + (12) = ((28 : Nat) : Int); decide)) <|
  zgd_d (fun d => zo_l d rfl rfl trivial) <|
  zgd_d (fun d => zo_h d rfl ⟨rfl, Nat.le_of_ble_eq_true rfl, _, _, _, Or.inl ⟨Nat.le_of_ble_eq_true rfl, rfl⟩, Nat.le_of_ble_eq_true rfl, zw_1449⟩) <|
  zgd_d (fun d => zo_l d rfl rfl trivial) <|
  zgd_d (fun d => zo_h d rfl rfl) <|
  zgd_d (fun d => zo_l d rfl rfl (by show ((25 : Nat) : Int) + (4) = ((29 : Nat) : Int); decide)) <|
  zgd_d (fun d => zo_l d rfl rfl trivial) <|
  zgd_d (fun d => zo_r d rfl) <|
  zgd_n)
  (z_fn)
theorem zdd_294 : ∀ q ∈ zc_294, decode prog_13_method_2_code q.1 = Except.ok (q.2.1, q.2.2.1) := zdd_of (by decide +kernel)
theorem zk_294 (xs : List Int32) : z_okm (za_T xs) za_P za_M 294 := z_okm_of ⟨"java/lang/Enum", "ordinal", "()I"⟩ prog_13_method_2_code zc_294 _ rfl rfl rfl rfl
  (zgd_x zdd_294 <|
  zgd_d (fun d => zo_l d rfl rfl trivial) <|
  zgd_d (fun d => zo_h d rfl ⟨rfl, Nat.le_of_ble_eq_true rfl, _, _, _, Or.inr ⟨Nat.le_of_ble_eq_true rfl, rfl⟩, Nat.le_of_ble_eq_true rfl, zw_1868⟩) <|
  zgd_d (fun d => zo_r d rfl) <|
  zgd_n)
  (z_fn)
theorem zdd_295 : ∀ q ∈ zc_295, decode prog_20_method_54_code q.1 = Except.ok (q.2.1, q.2.2.1) := zdd_of (by decide +kernel)
theorem zk_295 (xs : List Int32) : z_okm (za_T xs) za_P za_M 295 := z_okm_of ⟨"java/lang/String", "length", "()I"⟩ prog_20_method_54_code zc_295 _ rfl rfl rfl rfl
  (zgd_x zdd_295 <|
  zgd_d (fun d => zo_l d rfl rfl trivial) <|
  zgd_d (fun d => zo_h d rfl ⟨rfl, Nat.le_of_ble_eq_true rfl, _, _, _, Or.inr ⟨Nat.le_of_ble_eq_true rfl, rfl⟩, Nat.le_of_ble_eq_true rfl, zw_1865⟩) <|
  zgd_d (fun d => zo_h d rfl rfl) <|
  zgd_d (fun d => zo_l d rfl rfl trivial) <|
  zgd_d (fun d => zo_v d rfl ⟨rfl, zd_297, zw_281, Nat.le_of_ble_eq_true rfl, ⟨_, Or.inr ⟨Nat.le_of_ble_eq_true rfl, rfl⟩, rfl⟩, zw_280, zw_282⟩) <|
  zgd_d (fun d => zo_l d rfl rfl trivial) <|
  zgd_d (fun d => zo_r d rfl) <|
  zgd_n)
  (z_fn)
theorem zdd_296 : ∀ q ∈ zc_296, decode prog_20_method_56_code q.1 = Except.ok (q.2.1, q.2.2.1) := zdd_of (by decide +kernel)
theorem zk_296 (xs : List Int32) : z_okm (za_T xs) za_P za_M 296 := z_okm_of ⟨"java/lang/String", "charAt", "(I)C"⟩ prog_20_method_56_code zc_296 _ rfl rfl rfl rfl
  (zgd_x zdd_296 <|
  zgd_d (fun d => zo_l d rfl rfl trivial) <|
  zgd_d (fun d => zo_v d rfl ⟨rfl, zd_298, zw_291, Nat.le_of_ble_eq_true rfl, ⟨_, Or.inr ⟨Nat.le_of_ble_eq_true rfl, rfl⟩, rfl⟩, zw_290, zw_292⟩) <|
  zgd_d (fun d => zo_l d rfl rfl (by show ((4 : Nat) : Int) + (12) = ((16 : Nat) : Int); decide)) <|
  zgd_d (fun d => zo_l d rfl rfl trivial) <|
  zgd_d (fun d => zo_h d rfl ⟨rfl, Nat.le_of_ble_eq_true rfl, _, _, _, Or.inr ⟨Nat.le_of_ble_eq_true rfl, rfl⟩, Nat.le_of_ble_eq_true rfl, zw_1865⟩) <|
  zgd_d (fun d => zo_l d rfl rfl trivial) <|
  zgd_d (fun d => zo_s d rfl ⟨zd_300, zw_294, zw_295⟩) <|
  zgd_d (fun d => zo_r d rfl) <|
  zgd_d (fun d => zo_l d rfl rfl trivial) <|
  zgd_d (fun d => zo_h d rfl ⟨rfl, Nat.le_of_ble_eq_true rfl, _, _, _, Or.inr ⟨Nat.le_of_ble_eq_true rfl, rfl⟩, Nat.le_of_ble_eq_true rfl, zw_1865⟩) <|
  zgd_d (fun d => zo_l d rfl rfl trivial) <|
  zgd_d (fun d => zo_r d rfl) <|
  zgd_n)
  (z_fn)
theorem zdd_297 : ∀ q ∈ zc_297, decode prog_20_method_152_code q.1 = Except.ok (q.2.1, q.2.2.1) := zdd_of (by decide +kernel)
theorem zk_297 (xs : List Int32) : z_okm (za_T xs) za_P za_M 297 := z_okm_of ⟨"java/lang/String", "coder", "()B"⟩ prog_20_method_152_code zc_297 _ rfl rfl rfl rfl
  (zgd_x zdd_297 <|
  zgd_d (fun d => zo_h d rfl ⟨rfl, _, rfl, zw_284⟩) <|
  zgd_d (fun d => zo_l d rfl rfl (by show ((3 : Nat) : Int) + (10) = ((13 : Nat) : Int); decide)) <|
  zgd_d (fun d => zo_l d rfl rfl trivial) <|
  zgd_d (fun d => zo_h d rfl ⟨rfl, Nat.le_of_ble_eq_true rfl, _, _, _, Or.inr ⟨Nat.le_of_ble_eq_true rfl, rfl⟩, Nat.le_of_ble_eq_true rfl, zw_1866⟩) <|
  zgd_d (fun d => zo_l d rfl rfl (by show ((10 : Nat) : Int) + (4) = ((14 : Nat) : Int); decide)) <|
  zgd_d (fun d => zo_l d rfl rfl trivial) <|
  zgd_d (fun d => zo_r d rfl) <|
  zgd_n)
  (z_fn)
theorem zdd_298 : ∀ q ∈ zc_298, decode prog_20_method_154_code q.1 = Except.ok (q.2.1, q.2.2.1) := zdd_of (by decide +kernel)
theorem zk_298 (xs : List Int32) : z_okm (za_T xs) za_P za_M 298 := z_okm_of ⟨"java/lang/String", "isLatin1", "()Z"⟩ prog_20_method_154_code zc_298 _ rfl rfl rfl rfl
  (zgd_x zdd_298 <|
  zgd_d (fun d => zo_h d rfl ⟨rfl, _, rfl, zw_284⟩) <|
  zgd_d (fun d => zo_l d rfl rfl (by show ((3 : Nat) : Int) + (14) = ((17 : Nat) : Int); decide)) <|
  zgd_d (fun d => zo_l d rfl rfl trivial) <|
  zgd_d (fun d => zo_h d rfl ⟨rfl, Nat.le_of_ble_eq_true rfl, _, _, _, Or.inr ⟨Nat.le_of_ble_eq_true rfl, rfl⟩, Nat.le_of_ble_eq_true rfl, zw_1866⟩) <|
  zgd_d (fun d => zo_l d rfl rfl (by show ((10 : Nat) : Int) + (7) = ((17 : Nat) : Int); decide)) <|
  zgd_d (fun d => zo_l d rfl rfl trivial) <|
  zgd_d (fun d => zo_l d rfl rfl (by show ((14 : Nat) : Int) + (4) = ((18 : Nat) : Int); decide)) <|
  zgd_d (fun d => zo_l d rfl rfl trivial) <|
  zgd_d (fun d => zo_r d rfl) <|
  zgd_n)
  (z_fn)
