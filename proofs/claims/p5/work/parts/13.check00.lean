/-! One kernel run a method. -/
theorem zdd_of {cc : ByteArray} {l : List zE} (h : (l.all fun q => decide (decode cc q.1 = Except.ok (q.2.1, q.2.2.1))) = true) : ∀ q ∈ l, decode cc q.1 = Except.ok (q.2.1, q.2.2.1) := fun q hq => of_decide_eq_true (List.all_eq_true.mp h q hq)
theorem zgd_x {D Q : zE → Prop} {l : List zE} (d : ∀ q ∈ l, D q) (f : (∀ q ∈ l, D q) → ∀ q ∈ l, Q q) : ∀ q ∈ l, Q q := f d
theorem zgd_d {D Q : zE → Prop} {a : zE} {l : List zE} (h : D a → Q a) (t : (∀ q ∈ l, D q) → ∀ q ∈ l, Q q) : (∀ q ∈ a :: l, D q) → ∀ q ∈ a :: l, Q q := fun d => z_fc (h (d a List.mem_cons_self)) (t fun q hq => d q (List.mem_cons_of_mem a hq))
theorem zgd_n {D Q : zE → Prop} : (∀ q ∈ ([] : List zE), D q) → ∀ q ∈ ([] : List zE), Q q := fun _ => z_fn
theorem zgd_y {D Q : zE → Prop} {l1 l : List zE} (d : ∀ q ∈ l1, D q) (f : (∀ q ∈ l1, D q) → ∀ q ∈ l1 ++ l, Q q) : ∀ q ∈ l1 ++ l, Q q := f d
theorem zgd_e {D Q : zE → Prop} {a : zE} {l1 l : List zE} (h : D a → Q a) (t : (∀ q ∈ l1, D q) → ∀ q ∈ l1 ++ l, Q q) : (∀ q ∈ a :: l1, D q) → ∀ q ∈ (a :: l1) ++ l, Q q := fun d => z_fc (h (d a List.mem_cons_self)) (t fun q hq => d q (List.mem_cons_of_mem a hq))
theorem zgd_m {D Q : zE → Prop} {l : List zE} (h : ∀ q ∈ l, Q q) : (∀ q ∈ ([] : List zE), D q) → ∀ q ∈ ([] : List zE) ++ l, Q q := fun _ => h
/-! The check of the tables, methods 0 to 49. -/
theorem zdd_0 : ∀ q ∈ zc_0, decode prog_3_method_4_code q.1 = Except.ok (q.2.1, q.2.2.1) := zdd_of (by decide +kernel)
theorem zk_0 (xs : List Int32) : z_okm (za_T xs) za_P za_M 0 := z_okm_of ⟨"LyndonBench$Command", "find", "(LLyndonBench$Word;II)LLyndonBench$Command;"⟩ prog_3_method_4_code zc_0 _ rfl rfl rfl rfl
  (zgd_x zdd_0 <|
  zgd_d (fun d => zo_h d rfl ⟨rfl, _, rfl, zw_425⟩) <|
  zgd_d (fun d => zo_l d rfl rfl trivial) <|
  zgd_d (fun d => zo_l d rfl rfl trivial) <|
  zgd_d (fun d => zo_h d rfl rfl) <|
  zgd_d (fun d => zo_l d rfl rfl trivial) <|
  zgd_d (fun d => zo_l d rfl rfl trivial) <|
  zgd_d (fun d => zo_l d rfl rfl trivial) <|
  zgd_d (fun d => zo_l d rfl rfl trivial) <|
  zgd_d (fun d => zo_l d rfl rfl trivial) <|
  zgd_d (fun d => zo_l d rfl rfl (by show ((15 : Nat) : Int) + (37) = ((52 : Nat) : Int); decide)) <|
  zgd_d (fun d => zo_l d rfl rfl trivial) <|
  zgd_d (fun d => zo_l d rfl rfl trivial) <|
  zgd_d (fun d => zo_h d rfl rfl) <|
  zgd_d (fun d => zo_l d rfl rfl trivial) <|
  zgd_d (fun d => zo_l d rfl rfl trivial) <|
  zgd_d (fun d => zo_h d rfl ⟨rfl, by show ((26 : Nat) : Int) + (20) = ((46 : Nat) : Int); decide⟩) <|
  zgd_d (fun d => zo_l d rfl rfl trivial) <|
  zgd_d (fun d => zo_l d rfl rfl trivial) <|
  zgd_d (fun d => zo_l d rfl rfl trivial) <|
  zgd_d (fun d => zo_l d rfl rfl trivial) <|
  zgd_d (fun d => zo_h d rfl ⟨rfl, Nat.le_of_ble_eq_true rfl, _, _, _, Or.inr ⟨Nat.le_of_ble_eq_true rfl, rfl⟩, Nat.le_of_ble_eq_true rfl, zw_1867⟩) <|
  zgd_d (fun d => zo_v d rfl ⟨rfl, zd_57, zw_397, Nat.le_of_ble_eq_true rfl, ⟨_, Or.inl ⟨Nat.le_of_ble_eq_true rfl, rfl⟩, rfl⟩, zw_427, zw_398⟩) <|
  zgd_d (fun d => zo_l d rfl rfl (by show ((40 : Nat) : Int) + (6) = ((46 : Nat) : Int); decide)) <|
  zgd_d (fun d => zo_l d rfl rfl trivial) <|
  zgd_d (fun d => zo_r d rfl) <|
  zgd_d (fun d => zo_l d rfl rfl trivial) <|
  zgd_d (fun d => zo_l d rfl rfl (by show ((49 : Nat) : Int) + (-38) = ((11 : Nat) : Int); decide)) <|
  zgd_d (fun d => zo_l d rfl rfl trivial) <|
  zgd_d (fun d => zo_r d rfl) <|
  zgd_n)
  (z_fn)
theorem zdd_1 : ∀ q ∈ zc_1, decode prog_4_method_1_code q.1 = Except.ok (q.2.1, q.2.2.1) := zdd_of (by decide +kernel)
theorem zk_1 (xs : List Int32) : z_okm (za_T xs) za_P za_M 1 := z_okm_of ⟨"LyndonBench$History", "<init>", "()V"⟩ prog_4_method_1_code zc_1 _ rfl rfl rfl rfl
  (zgd_x zdd_1 <|
  zgd_d (fun d => zo_l d rfl rfl trivial) <|
  zgd_d (fun d => zo_h d rfl ⟨rfl, zw_197, zw_145, zw_146⟩) <|
  zgd_d (fun d => zo_l d rfl rfl trivial) <|
  zgd_d (fun d => zo_l d rfl rfl trivial) <|
  zgd_d (fun d => zo_h d rfl ⟨rfl, ⟨Nat.le_of_ble_eq_true rfl, Nat.le_of_ble_eq_true rfl⟩, _, rfl, zw_198, by decide +kernel⟩) <|
  zgd_d (fun d => zo_h d rfl ⟨rfl, Nat.le_of_ble_eq_true rfl, _, _, _, rfl, Nat.le_of_ble_eq_true rfl, zw_201, Or.inr ⟨rfl, rfl, rfl⟩⟩) <|
  zgd_d (fun d => zo_l d rfl rfl trivial) <|
  zgd_d (fun d => zo_l d rfl rfl trivial) <|
  zgd_d (fun d => zo_h d rfl ⟨rfl, Nat.le_of_ble_eq_true rfl, _, _, _, rfl, Nat.le_of_ble_eq_true rfl, zw_202, Or.inl rfl⟩) <|
  zgd_d (fun d => zo_l d rfl rfl trivial) <|
  zgd_d (fun d => zo_l d rfl rfl trivial) <|
  zgd_d (fun d => zo_l d rfl rfl trivial) <|
  zgd_d (fun d => zo_l d rfl rfl trivial) <|
  zgd_d (fun d => zo_h d rfl ⟨rfl, Nat.le_of_ble_eq_true rfl, _, _, _, Or.inl ⟨Nat.le_of_ble_eq_true rfl, rfl⟩, Nat.le_of_ble_eq_true rfl, zw_201⟩) <|
  zgd_d (fun d => zo_h d rfl rfl) <|
  zgd_d (fun d => zo_l d rfl rfl (by show ((26 : Nat) : Int) + (22) = ((48 : Nat) : Int); decide)) <|
  zgd_d (fun d => zo_l d rfl rfl trivial) <|
  zgd_d (fun d => zo_h d rfl ⟨rfl, Nat.le_of_ble_eq_true rfl, _, _, _, Or.inl ⟨Nat.le_of_ble_eq_true rfl, rfl⟩, Nat.le_of_ble_eq_true rfl, zw_201⟩) <|
  zgd_d (fun d => zo_l d rfl rfl trivial) <|
  zgd_d (fun d => zo_h d rfl ⟨rfl, Nat.le_of_ble_eq_true rfl, _, _, rfl, zn_3, zm_3, zw_198, zw_148, zw_119⟩) <|
  zgd_d (fun d => zo_l d rfl rfl trivial) <|
  zgd_d (fun d => zo_n d rfl ⟨rfl, zd_28, rfl, rfl, zw_150, Or.inl zw_200⟩) <|
  zgd_d (fun d => zo_h d rfl rfl) <|
  zgd_d (fun d => zo_l d rfl rfl trivial) <|
  zgd_d (fun d => zo_l d rfl rfl (by show ((45 : Nat) : Int) + (-25) = ((20 : Nat) : Int); decide)) <|
  zgd_d (fun d => zo_e d) <|
  zgd_n)
  (z_fn)
theorem zdd_2 : ∀ q ∈ zc_2, decode prog_4_method_2_code q.1 = Except.ok (q.2.1, q.2.2.1) := zdd_of (by decide +kernel)
theorem zk_2 (xs : List Int32) : z_okm (za_T xs) za_P za_M 2 := z_okm_of ⟨"LyndonBench$History", "remember", "(LLyndonBench$State;)V"⟩ prog_4_method_2_code zc_2 _ rfl rfl rfl rfl
  (zgd_x zdd_2 <|
  zgd_d (fun d => zo_l d rfl rfl trivial) <|
  zgd_d (fun d => zo_h d rfl ⟨rfl, Nat.le_of_ble_eq_true rfl, _, _, _, Or.inl ⟨Nat.le_of_ble_eq_true rfl, rfl⟩, Nat.le_of_ble_eq_true rfl, zw_202⟩) <|
  zgd_d (fun d => zo_l d rfl rfl trivial) <|
  zgd_d (fun d => zo_h d rfl ⟨rfl, Nat.le_of_ble_eq_true rfl, _, _, _, Or.inl ⟨Nat.le_of_ble_eq_true rfl, rfl⟩, Nat.le_of_ble_eq_true rfl, zw_201⟩) <|
  zgd_d (fun d => zo_h d rfl rfl) <|
  zgd_d (fun d => zo_l d rfl rfl (by show ((9 : Nat) : Int) + (7) = ((16 : Nat) : Int); decide)) <|
  zgd_d (fun d => zo_l d rfl rfl trivial) <|
  zgd_d (fun d => zo_v d rfl ⟨rfl, zd_3, zw_595, Nat.le_of_ble_eq_true rfl, ⟨_, Or.inl ⟨Nat.le_of_ble_eq_true rfl, rfl⟩, rfl⟩, zw_593, zw_22⟩) <|
  zgd_d (fun d => zo_l d rfl rfl trivial) <|
  zgd_d (fun d => zo_h d rfl ⟨rfl, Nat.le_of_ble_eq_true rfl, _, _, _, Or.inl ⟨Nat.le_of_ble_eq_true rfl, rfl⟩, Nat.le_of_ble_eq_true rfl, zw_202⟩) <|
  zgd_d (fun d => zo_l d rfl rfl (by show ((20 : Nat) : Int) + (50) = ((70 : Nat) : Int); decide)) <|
  zgd_d (fun d => zo_l d rfl rfl trivial) <|
  zgd_d (fun d => zo_h d rfl ⟨rfl, Nat.le_of_ble_eq_true rfl, _, _, _, Or.inl ⟨Nat.le_of_ble_eq_true rfl, rfl⟩, Nat.le_of_ble_eq_true rfl, zw_202⟩) <|
  zgd_d (fun d => zo_l d rfl rfl trivial) <|
  zgd_d (fun d => zo_h d rfl ⟨rfl, Nat.le_of_ble_eq_true rfl, _, _, _, Or.inl ⟨Nat.le_of_ble_eq_true rfl, rfl⟩, Nat.le_of_ble_eq_true rfl, zw_201⟩) <|
  zgd_d (fun d => zo_h d rfl rfl) <|
  zgd_d (fun d => zo_l d rfl rfl (by show ((32 : Nat) : Int) + (38) = ((70 : Nat) : Int); decide)) <|
  zgd_d (fun d => zo_l d rfl rfl trivial) <|
  zgd_d (fun d => zo_h d rfl ⟨rfl, Nat.le_of_ble_eq_true rfl, _, _, _, Or.inl ⟨Nat.le_of_ble_eq_true rfl, rfl⟩, Nat.le_of_ble_eq_true rfl, zw_201⟩) <|
  zgd_d (fun d => zo_l d rfl rfl trivial) <|
  zgd_d (fun d => zo_h d rfl ⟨rfl, Nat.le_of_ble_eq_true rfl, _, _, _, Or.inl ⟨Nat.le_of_ble_eq_true rfl, rfl⟩, Nat.le_of_ble_eq_true rfl, zw_202⟩) <|
  zgd_d (fun d => zo_h d rfl rfl) <|
  zgd_d (fun d => zo_h d rfl ⟨rfl, by show ((44 : Nat) : Int) + (26) = ((70 : Nat) : Int); decide⟩) <|
  zgd_d (fun d => zo_l d rfl rfl trivial) <|
  zgd_d (fun d => zo_h d rfl ⟨rfl, Nat.le_of_ble_eq_true rfl, _, _, _, Or.inl ⟨Nat.le_of_ble_eq_true rfl, rfl⟩, Nat.le_of_ble_eq_true rfl, zw_201⟩) <|
  zgd_d (fun d => zo_l d rfl rfl trivial) <|
  zgd_d (fun d => zo_h d rfl ⟨rfl, Nat.le_of_ble_eq_true rfl, _, _, _, Or.inl ⟨Nat.le_of_ble_eq_true rfl, rfl⟩, Nat.le_of_ble_eq_true rfl, zw_202⟩) <|
  zgd_d (fun d => zo_h d rfl rfl) <|
  zgd_d (fun d => zo_l d rfl rfl trivial) <|
  zgd_d (fun d => zo_v d rfl ⟨rfl, zd_30, zw_598, Nat.le_of_ble_eq_true rfl, ⟨_, Or.inl ⟨Nat.le_of_ble_eq_true rfl, rfl⟩, rfl⟩, zw_597, zw_599⟩) <|
  zgd_d (fun d => zo_l d rfl rfl trivial) <|
  zgd_d (fun d => zo_l d rfl rfl trivial) <|
  zgd_d (fun d => zo_h d rfl ⟨rfl, Nat.le_of_ble_eq_true rfl, _, _, _, Or.inl ⟨Nat.le_of_ble_eq_true rfl, rfl⟩, Nat.le_of_ble_eq_true rfl, zw_202⟩) <|
  zgd_d (fun d => zo_l d rfl rfl trivial) <|
  zgd_d (fun d => zo_l d rfl rfl trivial) <|
  zgd_d (fun d => zo_h d rfl ⟨rfl, Nat.le_of_ble_eq_true rfl, _, _, _, rfl, Nat.le_of_ble_eq_true rfl, zw_202, Or.inl rfl⟩) <|
  zgd_d (fun d => zo_e d) <|
  zgd_n)
  (z_fn)
theorem zdd_3_0 : ∀ q ∈ zc_3_0, decode prog_4_method_3_code q.1 = Except.ok (q.2.1, q.2.2.1) := zdd_of (by decide +kernel)
theorem zk_3_0 (xs : List Int32) {l : List zE} (h : ∀ q ∈ l, z_oke' (za_T xs) za_P za_M ⟨"LyndonBench$History", "forgetOldest", "()V"⟩ prog_4_method_3_code q) : ∀ q ∈ zc_3_0 ++ l, z_oke' (za_T xs) za_P za_M ⟨"LyndonBench$History", "forgetOldest", "()V"⟩ prog_4_method_3_code q :=
  zgd_y zdd_3_0 <|
  zgd_e (fun d => zo_l d rfl rfl trivial) <|
  zgd_e (fun d => zo_h d rfl ⟨rfl, Nat.le_of_ble_eq_true rfl, _, _, _, Or.inl ⟨Nat.le_of_ble_eq_true rfl, rfl⟩, Nat.le_of_ble_eq_true rfl, zw_201⟩) <|
  zgd_e (fun d => zo_h d rfl rfl) <|
  zgd_e (fun d => zo_l d rfl rfl (by show ((5 : Nat) : Int) + (4) = ((9 : Nat) : Int); decide)) <|
  zgd_e (fun d => zo_e d) <|
  zgd_e (fun d => zo_l d rfl rfl trivial) <|
  zgd_e (fun d => zo_h d rfl ⟨rfl, Nat.le_of_ble_eq_true rfl, _, _, _, Or.inl ⟨Nat.le_of_ble_eq_true rfl, rfl⟩, Nat.le_of_ble_eq_true rfl, zw_201⟩) <|
  zgd_e (fun d => zo_l d rfl rfl trivial) <|
  zgd_e (fun d => zo_h d rfl rfl) <|
  zgd_e (fun d => zo_l d rfl rfl trivial) <|
  zgd_e (fun d => zo_l d rfl rfl trivial) <|
  zgd_e (fun d => zo_l d rfl rfl trivial) <|
  zgd_e (fun d => zo_l d rfl rfl trivial) <|
  zgd_e (fun d => zo_l d rfl rfl trivial) <|
  zgd_e (fun d => zo_h d rfl ⟨rfl, Nat.le_of_ble_eq_true rfl, _, _, _, Or.inl ⟨Nat.le_of_ble_eq_true rfl, rfl⟩, Nat.le_of_ble_eq_true rfl, zw_201⟩) <|
  zgd_e (fun d => zo_h d rfl rfl) <|
  zgd_e (fun d => zo_l d rfl rfl (by show ((24 : Nat) : Int) + (23) = ((47 : Nat) : Int); decide)) <|
  zgd_e (fun d => zo_l d rfl rfl trivial) <|
  zgd_e (fun d => zo_h d rfl ⟨rfl, Nat.le_of_ble_eq_true rfl, _, _, _, Or.inl ⟨Nat.le_of_ble_eq_true rfl, rfl⟩, Nat.le_of_ble_eq_true rfl, zw_201⟩) <|
  zgd_e (fun d => zo_l d rfl rfl trivial) <|
  zgd_e (fun d => zo_l d rfl rfl trivial) <|
  zgd_e (fun d => zo_l d rfl rfl trivial) <|
  zgd_e (fun d => zo_l d rfl rfl trivial) <|
  zgd_e (fun d => zo_h d rfl ⟨rfl, Nat.le_of_ble_eq_true rfl, _, _, _, Or.inl ⟨Nat.le_of_ble_eq_true rfl, rfl⟩, Nat.le_of_ble_eq_true rfl, zw_201⟩) <|
  zgd_e (fun d => zo_l d rfl rfl trivial) <|
  zgd_e (fun d => zo_h d rfl rfl) <|
  zgd_e (fun d => zo_h d rfl rfl) <|
  zgd_e (fun d => zo_l d rfl rfl trivial) <|
  zgd_e (fun d => zo_l d rfl rfl (by show ((44 : Nat) : Int) + (-26) = ((18 : Nat) : Int); decide)) <|
  zgd_e (fun d => zo_l d rfl rfl trivial) <|
  zgd_e (fun d => zo_h d rfl ⟨rfl, Nat.le_of_ble_eq_true rfl, _, _, _, Or.inl ⟨Nat.le_of_ble_eq_true rfl, rfl⟩, Nat.le_of_ble_eq_true rfl, zw_201⟩) <|
  zgd_e (fun d => zo_l d rfl rfl trivial) <|
  zgd_e (fun d => zo_h d rfl ⟨rfl, Nat.le_of_ble_eq_true rfl, _, _, _, Or.inl ⟨Nat.le_of_ble_eq_true rfl, rfl⟩, Nat.le_of_ble_eq_true rfl, zw_201⟩) <|
  zgd_e (fun d => zo_h d rfl rfl) <|
  zgd_e (fun d => zo_l d rfl rfl trivial) <|
  zgd_e (fun d => zo_l d rfl rfl trivial) <|
  zgd_e (fun d => zo_l d rfl rfl trivial) <|
  zgd_e (fun d => zo_h d rfl rfl) <|
  zgd_e (fun d => zo_l d rfl rfl trivial) <|
  zgd_e (fun d => zo_l d rfl rfl trivial) <|
  zgd_m h
theorem zdd_3_1 : ∀ q ∈ zc_3_1, decode prog_4_method_3_code q.1 = Except.ok (q.2.1, q.2.2.1) := zdd_of (by decide +kernel)
theorem zk_3_1 (xs : List Int32) {l : List zE} (h : ∀ q ∈ l, z_oke' (za_T xs) za_P za_M ⟨"LyndonBench$History", "forgetOldest", "()V"⟩ prog_4_method_3_code q) : ∀ q ∈ zc_3_1 ++ l, z_oke' (za_T xs) za_P za_M ⟨"LyndonBench$History", "forgetOldest", "()V"⟩ prog_4_method_3_code q :=
  zgd_y zdd_3_1 <|
  zgd_e (fun d => zo_h d rfl ⟨rfl, Nat.le_of_ble_eq_true rfl, _, _, _, Or.inl ⟨Nat.le_of_ble_eq_true rfl, rfl⟩, Nat.le_of_ble_eq_true rfl, zw_201⟩) <|
  zgd_e (fun d => zo_h d rfl rfl) <|
  zgd_e (fun d => zo_l d rfl rfl trivial) <|
  zgd_e (fun d => zo_l d rfl rfl trivial) <|
  zgd_e (fun d => zo_h d rfl ⟨rfl, Nat.le_of_ble_eq_true rfl, _, _, _, rfl, Nat.le_of_ble_eq_true rfl, zw_202, Or.inl rfl⟩) <|
  zgd_e (fun d => zo_e d) <|
  zgd_m h
theorem zk_3 (xs : List Int32) : z_okm (za_T xs) za_P za_M 3 := z_okm_of ⟨"LyndonBench$History", "forgetOldest", "()V"⟩ prog_4_method_3_code zc_3 _ rfl rfl rfl rfl
  (zk_3_0 xs <|
  zk_3_1 xs <|
  z_fn)
  (z_fn)
theorem zdd_4 : ∀ q ∈ zc_4, decode prog_4_method_4_code q.1 = Except.ok (q.2.1, q.2.2.1) := zdd_of (by decide +kernel)
theorem zk_4 (xs : List Int32) : z_okm (za_T xs) za_P za_M 4 := z_okm_of ⟨"LyndonBench$History", "bringBack", "(LLyndonBench$State;)Z"⟩ prog_4_method_4_code zc_4 _ rfl rfl rfl rfl
  (zgd_x zdd_4 <|
  zgd_d (fun d => zo_l d rfl rfl trivial) <|
  zgd_d (fun d => zo_h d rfl ⟨rfl, Nat.le_of_ble_eq_true rfl, _, _, _, Or.inl ⟨Nat.le_of_ble_eq_true rfl, rfl⟩, Nat.le_of_ble_eq_true rfl, zw_202⟩) <|
  zgd_d (fun d => zo_l d rfl rfl trivial) <|
  zgd_d (fun d => zo_l d rfl rfl (by show ((5 : Nat) : Int) + (29) = ((34 : Nat) : Int); decide)) <|
  zgd_d (fun d => zo_l d rfl rfl trivial) <|
  zgd_d (fun d => zo_h d rfl ⟨rfl, Nat.le_of_ble_eq_true rfl, _, _, _, Or.inl ⟨Nat.le_of_ble_eq_true rfl, rfl⟩, Nat.le_of_ble_eq_true rfl, zw_202⟩) <|
  zgd_d (fun d => zo_l d rfl rfl trivial) <|
  zgd_d (fun d => zo_h d rfl ⟨rfl, Nat.le_of_ble_eq_true rfl, _, _, _, Or.inl ⟨Nat.le_of_ble_eq_true rfl, rfl⟩, Nat.le_of_ble_eq_true rfl, zw_201⟩) <|
  zgd_d (fun d => zo_h d rfl rfl) <|
  zgd_d (fun d => zo_l d rfl rfl (by show ((17 : Nat) : Int) + (17) = ((34 : Nat) : Int); decide)) <|
  zgd_d (fun d => zo_l d rfl rfl trivial) <|
  zgd_d (fun d => zo_h d rfl ⟨rfl, Nat.le_of_ble_eq_true rfl, _, _, _, Or.inl ⟨Nat.le_of_ble_eq_true rfl, rfl⟩, Nat.le_of_ble_eq_true rfl, zw_201⟩) <|
  zgd_d (fun d => zo_l d rfl rfl trivial) <|
  zgd_d (fun d => zo_h d rfl ⟨rfl, Nat.le_of_ble_eq_true rfl, _, _, _, Or.inl ⟨Nat.le_of_ble_eq_true rfl, rfl⟩, Nat.le_of_ble_eq_true rfl, zw_202⟩) <|
  zgd_d (fun d => zo_l d rfl rfl trivial) <|
  zgd_d (fun d => zo_l d rfl rfl trivial) <|
  zgd_d (fun d => zo_h d rfl rfl) <|
  zgd_d (fun d => zo_h d rfl ⟨rfl, by show ((31 : Nat) : Int) + (5) = ((36 : Nat) : Int); decide⟩) <|
  zgd_d (fun d => zo_l d rfl rfl trivial) <|
  zgd_d (fun d => zo_r d rfl) <|
  zgd_d (fun d => zo_l d rfl rfl trivial) <|
  zgd_d (fun d => zo_l d rfl rfl trivial) <|
  zgd_d (fun d => zo_h d rfl ⟨rfl, Nat.le_of_ble_eq_true rfl, _, _, _, Or.inl ⟨Nat.le_of_ble_eq_true rfl, rfl⟩, Nat.le_of_ble_eq_true rfl, zw_202⟩) <|
  zgd_d (fun d => zo_l d rfl rfl trivial) <|
  zgd_d (fun d => zo_l d rfl rfl trivial) <|
  zgd_d (fun d => zo_h d rfl ⟨rfl, Nat.le_of_ble_eq_true rfl, _, _, _, rfl, Nat.le_of_ble_eq_true rfl, zw_202, Or.inl rfl⟩) <|
  zgd_d (fun d => zo_l d rfl rfl trivial) <|
  zgd_d (fun d => zo_l d rfl rfl trivial) <|
  zgd_d (fun d => zo_h d rfl ⟨rfl, Nat.le_of_ble_eq_true rfl, _, _, _, Or.inl ⟨Nat.le_of_ble_eq_true rfl, rfl⟩, Nat.le_of_ble_eq_true rfl, zw_201⟩) <|
  zgd_d (fun d => zo_l d rfl rfl trivial) <|
  zgd_d (fun d => zo_h d rfl ⟨rfl, Nat.le_of_ble_eq_true rfl, _, _, _, Or.inl ⟨Nat.le_of_ble_eq_true rfl, rfl⟩, Nat.le_of_ble_eq_true rfl, zw_202⟩) <|
  zgd_d (fun d => zo_h d rfl rfl) <|
  zgd_d (fun d => zo_v d rfl ⟨rfl, zd_30, zw_598, Nat.le_of_ble_eq_true rfl, ⟨_, Or.inl ⟨Nat.le_of_ble_eq_true rfl, rfl⟩, rfl⟩, zw_597, zw_599⟩) <|
  zgd_d (fun d => zo_l d rfl rfl trivial) <|
  zgd_d (fun d => zo_r d rfl) <|
  zgd_n)
  (z_fn)
theorem zdd_5_0 : ∀ q ∈ zc_5_0, decode prog_5_method_1_code q.1 = Except.ok (q.2.1, q.2.2.1) := zdd_of (by decide +kernel)
theorem zk_5_0 (xs : List Int32) {l : List zE} (h : ∀ q ∈ l, z_oke' (za_T xs) za_P za_M ⟨"LyndonBench$Script", "<init>", "()V"⟩ prog_5_method_1_code q) : ∀ q ∈ zc_5_0 ++ l, z_oke' (za_T xs) za_P za_M ⟨"LyndonBench$Script", "<init>", "()V"⟩ prog_5_method_1_code q :=
  zgd_y zdd_5_0 <|
  zgd_e (fun d => zo_l d rfl rfl trivial) <|
  zgd_e (fun d => zo_h d rfl ⟨rfl, zw_214, zw_145, zw_146⟩) <|
  zgd_e (fun d => zo_l d rfl rfl trivial) <|
  zgd_e (fun d => zo_h d rfl ⟨rfl, Nat.le_of_ble_eq_true rfl, _, _, rfl, zn_4, zm_4, zw_215, zw_154, zw_120⟩) <|
  zgd_e (fun d => zo_l d rfl rfl trivial) <|
  zgd_e (fun d => zo_l d rfl rfl trivial) <|
  zgd_e (fun d => zo_n d rfl ⟨rfl, zd_42, rfl, rfl, zw_156, Or.inl zw_216⟩) <|
  zgd_e (fun d => zo_h d rfl ⟨rfl, Nat.le_of_ble_eq_true rfl, _, _, _, rfl, Nat.le_of_ble_eq_true rfl, zw_219, Or.inr ⟨rfl, rfl, rfl⟩⟩) <|
  zgd_e (fun d => zo_l d rfl rfl trivial) <|
  zgd_e (fun d => zo_h d rfl ⟨rfl, Nat.le_of_ble_eq_true rfl, _, _, rfl, zn_3, zm_3, zw_217, zw_148, zw_119⟩) <|
  zgd_e (fun d => zo_l d rfl rfl trivial) <|
  zgd_e (fun d => zo_n d rfl ⟨rfl, zd_28, rfl, rfl, zw_150, Or.inl zw_218⟩) <|
  zgd_e (fun d => zo_h d rfl ⟨rfl, Nat.le_of_ble_eq_true rfl, _, _, _, rfl, Nat.le_of_ble_eq_true rfl, zw_221, Or.inr ⟨rfl, rfl, rfl⟩⟩) <|
  zgd_e (fun d => zo_l d rfl rfl trivial) <|
  zgd_e (fun d => zo_l d rfl rfl trivial) <|
  zgd_e (fun d => zo_h d rfl ⟨rfl, Nat.le_of_ble_eq_true rfl, _, _, _, rfl, Nat.le_of_ble_eq_true rfl, zw_223, Or.inl rfl⟩) <|
  zgd_e (fun d => zo_l d rfl rfl trivial) <|
  zgd_e (fun d => zo_l d rfl rfl trivial) <|
  zgd_e (fun d => zo_h d rfl ⟨rfl, Nat.le_of_ble_eq_true rfl, _, _, _, rfl, Nat.le_of_ble_eq_true rfl, zw_225, Or.inl rfl⟩) <|
  zgd_e (fun d => zo_l d rfl rfl trivial) <|
  zgd_e (fun d => zo_l d rfl rfl trivial) <|
  zgd_e (fun d => zo_h d rfl ⟨rfl, Nat.le_of_ble_eq_true rfl, _, _, _, rfl, Nat.le_of_ble_eq_true rfl, zw_227, Or.inl rfl⟩) <|
  zgd_e (fun d => zo_l d rfl rfl trivial) <|
  zgd_e (fun d => zo_l d rfl rfl trivial) <|
  zgd_e (fun d => zo_h d rfl ⟨rfl, Nat.le_of_ble_eq_true rfl, _, _, _, rfl, Nat.le_of_ble_eq_true rfl, zw_228, Or.inl rfl⟩) <|
  zgd_e (fun d => zo_l d rfl rfl trivial) <|
  zgd_e (fun d => zo_l d rfl rfl trivial) <|
  zgd_e (fun d => zo_h d rfl ⟨rfl, Nat.le_of_ble_eq_true rfl, _, _, _, rfl, Nat.le_of_ble_eq_true rfl, zw_229, Or.inl rfl⟩) <|
  zgd_e (fun d => zo_l d rfl rfl trivial) <|
  zgd_e (fun d => zo_l d rfl rfl trivial) <|
  zgd_e (fun d => zo_h d rfl ⟨rfl, Nat.le_of_ble_eq_true rfl, _, _, _, rfl, Nat.le_of_ble_eq_true rfl, zw_230, Or.inl rfl⟩) <|
  zgd_e (fun d => zo_l d rfl rfl trivial) <|
  zgd_e (fun d => zo_l d rfl rfl trivial) <|
  zgd_e (fun d => zo_h d rfl ⟨rfl, Nat.le_of_ble_eq_true rfl, _, _, _, rfl, Nat.le_of_ble_eq_true rfl, zw_231, Or.inl rfl⟩) <|
  zgd_e (fun d => zo_l d rfl rfl trivial) <|
  zgd_e (fun d => zo_l d rfl rfl trivial) <|
  zgd_e (fun d => zo_h d rfl ⟨rfl, Nat.le_of_ble_eq_true rfl, _, _, _, rfl, Nat.le_of_ble_eq_true rfl, zw_232, Or.inl rfl⟩) <|
  zgd_e (fun d => zo_l d rfl rfl trivial) <|
  zgd_e (fun d => zo_l d rfl rfl trivial) <|
  zgd_e (fun d => zo_h d rfl ⟨rfl, zw_260⟩) <|
  zgd_m h
theorem zdd_5_1 : ∀ q ∈ zc_5_1, decode prog_5_method_1_code q.1 = Except.ok (q.2.1, q.2.2.1) := zdd_of (by decide +kernel)
theorem zk_5_1 (xs : List Int32) {l : List zE} (h : ∀ q ∈ l, z_oke' (za_T xs) za_P za_M ⟨"LyndonBench$Script", "<init>", "()V"⟩ prog_5_method_1_code q) : ∀ q ∈ zc_5_1 ++ l, z_oke' (za_T xs) za_P za_M ⟨"LyndonBench$Script", "<init>", "()V"⟩ prog_5_method_1_code q :=
  zgd_y zdd_5_1 <|
  zgd_e (fun d => zo_h d rfl ⟨rfl, Nat.le_of_ble_eq_true rfl, _, _, _, rfl, Nat.le_of_ble_eq_true rfl, zw_233, Or.inr ⟨rfl, rfl, rfl⟩⟩) <|
  zgd_e (fun d => zo_l d rfl rfl trivial) <|
  zgd_e (fun d => zo_l d rfl rfl trivial) <|
  zgd_e (fun d => zo_h d rfl ⟨rfl, zw_260⟩) <|
  zgd_e (fun d => zo_h d rfl ⟨rfl, Nat.le_of_ble_eq_true rfl, _, _, _, rfl, Nat.le_of_ble_eq_true rfl, zw_234, Or.inr ⟨rfl, rfl, rfl⟩⟩) <|
  zgd_e (fun d => zo_e d) <|
  zgd_m h
theorem zk_5 (xs : List Int32) : z_okm (za_T xs) za_P za_M 5 := z_okm_of ⟨"LyndonBench$Script", "<init>", "()V"⟩ prog_5_method_1_code zc_5 _ rfl rfl rfl rfl
  (zk_5_0 xs <|
  zk_5_1 xs <|
  z_fn)
  (z_fn)
theorem zdd_6_0 : ∀ q ∈ zc_6_0, decode prog_5_method_2_code q.1 = Except.ok (q.2.1, q.2.2.1) := zdd_of (by decide +kernel)
theorem zk_6_0 (xs : List Int32) {l : List zE} (h : ∀ q ∈ l, z_oke' (za_T xs) za_P za_M ⟨"LyndonBench$Script", "run", "()Z"⟩ prog_5_method_2_code q) : ∀ q ∈ zc_6_0 ++ l, z_oke' (za_T xs) za_P za_M ⟨"LyndonBench$Script", "run", "()Z"⟩ prog_5_method_2_code q :=
  zgd_y zdd_6_0 <|
  zgd_e (fun d => zo_l d rfl rfl trivial) <|
  zgd_e (fun d => zo_v d rfl ⟨rfl, zd_7, zw_381, Nat.le_of_ble_eq_true rfl, ⟨_, Or.inl ⟨Nat.le_of_ble_eq_true rfl, rfl⟩, rfl⟩, zw_379, zw_0⟩) <|
  zgd_e (fun d => zo_l d rfl rfl (by show ((4 : Nat) : Int) + (5) = ((9 : Nat) : Int); decide)) <|
  zgd_e (fun d => zo_l d rfl rfl trivial) <|
  zgd_e (fun d => zo_r d rfl) <|
  zgd_e (fun d => zo_l d rfl rfl trivial) <|
  zgd_e (fun d => zo_l d rfl rfl trivial) <|
  zgd_e (fun d => zo_l d rfl rfl trivial) <|
  zgd_e (fun d => zo_h d rfl ⟨rfl, Or.inl ⟨rfl, _, rfl, zw_413⟩⟩) <|
  zgd_e (fun d => zo_l d rfl rfl (by show ((14 : Nat) : Int) + (62) = ((76 : Nat) : Int); decide)) <|
  zgd_e (fun d => zo_l d rfl rfl trivial) <|
  zgd_e (fun d => zo_v d rfl ⟨rfl, zd_25, zw_385, Nat.le_of_ble_eq_true rfl, ⟨_, Or.inl ⟨Nat.le_of_ble_eq_true rfl, rfl⟩, rfl⟩, zw_383, zw_1⟩) <|
  zgd_e (fun d => zo_l d rfl rfl trivial) <|
  zgd_e (fun d => zo_h d rfl ⟨rfl, Nat.le_of_ble_eq_true rfl, _, _, _, Or.inl ⟨Nat.le_of_ble_eq_true rfl, rfl⟩, Nat.le_of_ble_eq_true rfl, zw_227⟩) <|
  zgd_e (fun d => zo_l d rfl rfl (by show ((25 : Nat) : Int) + (12) = ((37 : Nat) : Int); decide)) <|
  zgd_e (fun d => zo_l d rfl rfl trivial) <|
  zgd_e (fun d => zo_h d rfl ⟨rfl, Nat.le_of_ble_eq_true rfl, _, _, _, Or.inl ⟨Nat.le_of_ble_eq_true rfl, rfl⟩, Nat.le_of_ble_eq_true rfl, zw_232⟩) <|
  zgd_e (fun d => zo_l d rfl rfl (by show ((32 : Nat) : Int) + (5) = ((37 : Nat) : Int); decide)) <|
  zgd_e (fun d => zo_l d rfl rfl trivial) <|
  zgd_e (fun d => zo_r d rfl) <|
  zgd_e (fun d => zo_l d rfl rfl trivial) <|
  zgd_e (fun d => zo_h d rfl ⟨rfl, Nat.le_of_ble_eq_true rfl, _, _, _, Or.inl ⟨Nat.le_of_ble_eq_true rfl, rfl⟩, Nat.le_of_ble_eq_true rfl, zw_227⟩) <|
  zgd_e (fun d => zo_l d rfl rfl trivial) <|
  zgd_e (fun d => zo_l d rfl rfl (by show ((42 : Nat) : Int) + (17) = ((59 : Nat) : Int); decide)) <|
  zgd_e (fun d => zo_l d rfl rfl trivial) <|
  zgd_e (fun d => zo_h d rfl ⟨rfl, Nat.le_of_ble_eq_true rfl, _, _, _, Or.inl ⟨Nat.le_of_ble_eq_true rfl, rfl⟩, Nat.le_of_ble_eq_true rfl, zw_232⟩) <|
  zgd_e (fun d => zo_l d rfl rfl (by show ((49 : Nat) : Int) + (10) = ((59 : Nat) : Int); decide)) <|
  zgd_e (fun d => zo_l d rfl rfl trivial) <|
  zgd_e (fun d => zo_v d rfl ⟨rfl, zd_10, zw_416, Nat.le_of_ble_eq_true rfl, ⟨_, Or.inl ⟨Nat.le_of_ble_eq_true rfl, rfl⟩, rfl⟩, zw_414, zw_6⟩) <|
  zgd_e (fun d => zo_l d rfl rfl (by show ((56 : Nat) : Int) + (7) = ((63 : Nat) : Int); decide)) <|
  zgd_e (fun d => zo_l d rfl rfl trivial) <|
  zgd_e (fun d => zo_v d rfl ⟨rfl, zd_8, zw_420, Nat.le_of_ble_eq_true rfl, ⟨_, Or.inl ⟨Nat.le_of_ble_eq_true rfl, rfl⟩, rfl⟩, zw_418, zw_7⟩) <|
  zgd_e (fun d => zo_l d rfl rfl trivial) <|
  zgd_e (fun d => zo_l d rfl rfl trivial) <|
  zgd_e (fun d => zo_l d rfl rfl (by show ((65 : Nat) : Int) + (5) = ((70 : Nat) : Int); decide)) <|
  zgd_e (fun d => zo_l d rfl rfl trivial) <|
  zgd_e (fun d => zo_r d rfl) <|
  zgd_e (fun d => zo_l d rfl rfl trivial) <|
  zgd_e (fun d => zo_l d rfl rfl (by show ((73 : Nat) : Int) + (-62) = ((11 : Nat) : Int); decide)) <|
  zgd_e (fun d => zo_l d rfl rfl trivial) <|
  zgd_m h
theorem zdd_6_1 : ∀ q ∈ zc_6_1, decode prog_5_method_2_code q.1 = Except.ok (q.2.1, q.2.2.1) := zdd_of (by decide +kernel)
theorem zk_6_1 (xs : List Int32) {l : List zE} (h : ∀ q ∈ l, z_oke' (za_T xs) za_P za_M ⟨"LyndonBench$Script", "run", "()Z"⟩ prog_5_method_2_code q) : ∀ q ∈ zc_6_1 ++ l, z_oke' (za_T xs) za_P za_M ⟨"LyndonBench$Script", "run", "()Z"⟩ prog_5_method_2_code q :=
  zgd_y zdd_6_1 <|
  zgd_e (fun d => zo_l d rfl rfl trivial) <|
  zgd_e (fun d => zo_v d rfl ⟨rfl, zd_24, zw_402, Nat.le_of_ble_eq_true rfl, ⟨_, Or.inl ⟨Nat.le_of_ble_eq_true rfl, rfl⟩, rfl⟩, zw_400, zw_3⟩) <|
  zgd_e (fun d => zo_r d rfl) <|
  zgd_m h
theorem zk_6 (xs : List Int32) : z_okm (za_T xs) za_P za_M 6 := z_okm_of ⟨"LyndonBench$Script", "run", "()Z"⟩ prog_5_method_2_code zc_6 _ rfl rfl rfl rfl
  (zk_6_0 xs <|
  zk_6_1 xs <|
  z_fn)
  (z_fn)
theorem zdd_7_0 : ∀ q ∈ zc_7_0, decode prog_5_method_3_code q.1 = Except.ok (q.2.1, q.2.2.1) := zdd_of (by decide +kernel)
theorem zk_7_0 (xs : List Int32) {l : List zE} (h : ∀ q ∈ l, z_oke' (za_T xs) za_P za_M ⟨"LyndonBench$Script", "runHead", "()Z"⟩ prog_5_method_3_code q) : ∀ q ∈ zc_7_0 ++ l, z_oke' (za_T xs) za_P za_M ⟨"LyndonBench$Script", "runHead", "()Z"⟩ prog_5_method_3_code q :=
  zgd_y zdd_7_0 <|
  zgd_e (fun d => zo_l d rfl rfl trivial) <|
  zgd_e (fun d => zo_l d rfl rfl trivial) <|
  zgd_e (fun d => zo_h d rfl ⟨rfl, Nat.le_of_ble_eq_true rfl, _, _, _, rfl, Nat.le_of_ble_eq_true rfl, zw_223, Or.inl rfl⟩) <|
  zgd_e (fun d => zo_l d rfl rfl trivial) <|
  zgd_e (fun d => zo_l d rfl rfl trivial) <|
  zgd_e (fun d => zo_h d rfl ⟨rfl, Nat.le_of_ble_eq_true rfl, _, _, _, rfl, Nat.le_of_ble_eq_true rfl, zw_225, Or.inl rfl⟩) <|
  zgd_e (fun d => zo_l d rfl rfl trivial) <|
  zgd_e (fun d => zo_l d rfl rfl trivial) <|
  zgd_e (fun d => zo_h d rfl ⟨rfl, Nat.le_of_ble_eq_true rfl, _, _, _, rfl, Nat.le_of_ble_eq_true rfl, zw_229, Or.inl rfl⟩) <|
  zgd_e (fun d => zo_l d rfl rfl trivial) <|
  zgd_e (fun d => zo_l d rfl rfl trivial) <|
  zgd_e (fun d => zo_h d rfl ⟨rfl, Nat.le_of_ble_eq_true rfl, _, _, _, rfl, Nat.le_of_ble_eq_true rfl, zw_231, Or.inl rfl⟩) <|
  zgd_e (fun d => zo_l d rfl rfl trivial) <|
  zgd_e (fun d => zo_l d rfl rfl trivial) <|
  zgd_e (fun d => zo_h d rfl ⟨rfl, Nat.le_of_ble_eq_true rfl, _, _, _, rfl, Nat.le_of_ble_eq_true rfl, zw_232, Or.inl rfl⟩) <|
  zgd_e (fun d => zo_l d rfl rfl trivial) <|
  zgd_e (fun d => zo_v d rfl ⟨rfl, zd_25, zw_385, Nat.le_of_ble_eq_true rfl, ⟨_, Or.inl ⟨Nat.le_of_ble_eq_true rfl, rfl⟩, rfl⟩, zw_383, zw_1⟩) <|
  zgd_e (fun d => zo_l d rfl rfl trivial) <|
  zgd_e (fun d => zo_h d rfl ⟨rfl, Nat.le_of_ble_eq_true rfl, _, _, _, Or.inl ⟨Nat.le_of_ble_eq_true rfl, rfl⟩, Nat.le_of_ble_eq_true rfl, zw_227⟩) <|
  zgd_e (fun d => zo_l d rfl rfl trivial) <|
  zgd_e (fun d => zo_l d rfl rfl (by show ((34 : Nat) : Int) + (23) = ((57 : Nat) : Int); decide)) <|
  zgd_e (fun d => zo_l d rfl rfl trivial) <|
  zgd_e (fun d => zo_h d rfl ⟨rfl, Nat.le_of_ble_eq_true rfl, _, _, _, Or.inl ⟨Nat.le_of_ble_eq_true rfl, rfl⟩, Nat.le_of_ble_eq_true rfl, zw_219⟩) <|
  zgd_e (fun d => zo_l d rfl rfl trivial) <|
  zgd_e (fun d => zo_h d rfl ⟨rfl, Nat.le_of_ble_eq_true rfl, _, _, _, Or.inl ⟨Nat.le_of_ble_eq_true rfl, rfl⟩, Nat.le_of_ble_eq_true rfl, zw_228⟩) <|
  zgd_e (fun d => zo_l d rfl rfl trivial) <|
  zgd_e (fun d => zo_h d rfl ⟨rfl, Nat.le_of_ble_eq_true rfl, _, _, _, Or.inl ⟨Nat.le_of_ble_eq_true rfl, rfl⟩, Nat.le_of_ble_eq_true rfl, zw_229⟩) <|
  zgd_e (fun d => zo_h d rfl ⟨rfl, Or.inr ⟨rfl, _, rfl, rfl, rfl⟩⟩) <|
  zgd_e (fun d => zo_v d rfl ⟨rfl, zd_57, zw_397, Nat.le_of_ble_eq_true rfl, ⟨_, Or.inl ⟨Nat.le_of_ble_eq_true rfl, rfl⟩, rfl⟩, zw_396, zw_398⟩) <|
  zgd_e (fun d => zo_l d rfl rfl (by show ((54 : Nat) : Int) + (9) = ((63 : Nat) : Int); decide)) <|
  zgd_e (fun d => zo_l d rfl rfl trivial) <|
  zgd_e (fun d => zo_l d rfl rfl trivial) <|
  zgd_e (fun d => zo_v d rfl ⟨rfl, zd_24, zw_402, Nat.le_of_ble_eq_true rfl, ⟨_, Or.inl ⟨Nat.le_of_ble_eq_true rfl, rfl⟩, rfl⟩, zw_400, zw_3⟩) <|
  zgd_e (fun d => zo_r d rfl) <|
  zgd_e (fun d => zo_l d rfl rfl trivial) <|
  zgd_e (fun d => zo_l d rfl rfl trivial) <|
  zgd_e (fun d => zo_l d rfl rfl trivial) <|
  zgd_e (fun d => zo_v d rfl ⟨rfl, zd_22, zw_406, Nat.le_of_ble_eq_true rfl, ⟨_, Or.inl ⟨Nat.le_of_ble_eq_true rfl, rfl⟩, rfl⟩, zw_404, zw_4⟩) <|
  zgd_e (fun d => zo_l d rfl rfl (by show ((70 : Nat) : Int) + (11) = ((81 : Nat) : Int); decide)) <|
  zgd_e (fun d => zo_l d rfl rfl trivial) <|
  zgd_m h
theorem zdd_7_1 : ∀ q ∈ zc_7_1, decode prog_5_method_3_code q.1 = Except.ok (q.2.1, q.2.2.1) := zdd_of (by decide +kernel)
theorem zk_7_1 (xs : List Int32) {l : List zE} (h : ∀ q ∈ l, z_oke' (za_T xs) za_P za_M ⟨"LyndonBench$Script", "runHead", "()Z"⟩ prog_5_method_3_code q) : ∀ q ∈ zc_7_1 ++ l, z_oke' (za_T xs) za_P za_M ⟨"LyndonBench$Script", "runHead", "()Z"⟩ prog_5_method_3_code q :=
  zgd_y zdd_7_1 <|
  zgd_e (fun d => zo_l d rfl rfl trivial) <|
  zgd_e (fun d => zo_v d rfl ⟨rfl, zd_21, zw_410, Nat.le_of_ble_eq_true rfl, ⟨_, Or.inl ⟨Nat.le_of_ble_eq_true rfl, rfl⟩, rfl⟩, zw_408, zw_5⟩) <|
  zgd_e (fun d => zo_l d rfl rfl (by show ((78 : Nat) : Int) + (5) = ((83 : Nat) : Int); decide)) <|
  zgd_e (fun d => zo_l d rfl rfl trivial) <|
  zgd_e (fun d => zo_r d rfl) <|
  zgd_e (fun d => zo_l d rfl rfl trivial) <|
  zgd_e (fun d => zo_h d rfl ⟨rfl, Nat.le_of_ble_eq_true rfl, _, _, _, Or.inl ⟨Nat.le_of_ble_eq_true rfl, rfl⟩, Nat.le_of_ble_eq_true rfl, zw_221⟩) <|
  zgd_e (fun d => zo_l d rfl rfl trivial) <|
  zgd_e (fun d => zo_h d rfl ⟨rfl, Nat.le_of_ble_eq_true rfl, _, _, _, Or.inl ⟨Nat.le_of_ble_eq_true rfl, rfl⟩, Nat.le_of_ble_eq_true rfl, zw_230⟩) <|
  zgd_e (fun d => zo_v d rfl ⟨rfl, zd_29, zw_264, Nat.le_of_ble_eq_true rfl, ⟨_, Or.inl ⟨Nat.le_of_ble_eq_true rfl, rfl⟩, rfl⟩, zw_412, zw_265⟩) <|
  zgd_e (fun d => zo_l d rfl rfl trivial) <|
  zgd_e (fun d => zo_r d rfl) <|
  zgd_m h
theorem zk_7 (xs : List Int32) : z_okm (za_T xs) za_P za_M 7 := z_okm_of ⟨"LyndonBench$Script", "runHead", "()Z"⟩ prog_5_method_3_code zc_7 _ rfl rfl rfl rfl
  (zk_7_0 xs <|
  zk_7_1 xs <|
  z_fn)
  (z_fn)
theorem zdd_8_0 : ∀ q ∈ zc_8_0, decode prog_5_method_4_code q.1 = Except.ok (q.2.1, q.2.2.1) := zdd_of (by decide +kernel)
theorem zk_8_0 (xs : List Int32) {l : List zE} (h : ∀ q ∈ l, z_oke' (za_T xs) za_P za_M ⟨"LyndonBench$Script", "runCommand", "()Z"⟩ prog_5_method_4_code q) : ∀ q ∈ zc_8_0 ++ l, z_oke' (za_T xs) za_P za_M ⟨"LyndonBench$Script", "runCommand", "()Z"⟩ prog_5_method_4_code q :=
  zgd_y zdd_8_0 <|
  zgd_e (fun d => zo_l d rfl rfl trivial) <|
  zgd_e (fun d => zo_h d rfl ⟨rfl, Nat.le_of_ble_eq_true rfl, _, _, _, Or.inl ⟨Nat.le_of_ble_eq_true rfl, rfl⟩, Nat.le_of_ble_eq_true rfl, zw_227⟩) <|
  zgd_e (fun d => zo_l d rfl rfl trivial) <|
  zgd_e (fun d => zo_l d rfl rfl (by show ((5 : Nat) : Int) + (21) = ((26 : Nat) : Int); decide)) <|
  zgd_e (fun d => zo_l d rfl rfl trivial) <|
  zgd_e (fun d => zo_h d rfl ⟨rfl, Nat.le_of_ble_eq_true rfl, _, _, _, Or.inl ⟨Nat.le_of_ble_eq_true rfl, rfl⟩, Nat.le_of_ble_eq_true rfl, zw_219⟩) <|
  zgd_e (fun d => zo_l d rfl rfl trivial) <|
  zgd_e (fun d => zo_h d rfl ⟨rfl, Nat.le_of_ble_eq_true rfl, _, _, _, Or.inl ⟨Nat.le_of_ble_eq_true rfl, rfl⟩, Nat.le_of_ble_eq_true rfl, zw_228⟩) <|
  zgd_e (fun d => zo_l d rfl rfl trivial) <|
  zgd_e (fun d => zo_h d rfl ⟨rfl, Nat.le_of_ble_eq_true rfl, _, _, _, Or.inl ⟨Nat.le_of_ble_eq_true rfl, rfl⟩, Nat.le_of_ble_eq_true rfl, zw_229⟩) <|
  zgd_e (fun d => zo_s d rfl ⟨zd_0, zw_422, zw_423⟩) <|
  zgd_e (fun d => zo_l d rfl rfl (by show ((23 : Nat) : Int) + (4) = ((27 : Nat) : Int); decide)) <|
  zgd_e (fun d => zo_l d rfl rfl trivial) <|
  zgd_e (fun d => zo_l d rfl rfl trivial) <|
  zgd_e (fun d => zo_l d rfl rfl trivial) <|
  zgd_e (fun d => zo_h d rfl ⟨rfl, by show ((29 : Nat) : Int) + (9) = ((38 : Nat) : Int); decide⟩) <|
  zgd_e (fun d => zo_l d rfl rfl trivial) <|
  zgd_e (fun d => zo_l d rfl rfl trivial) <|
  zgd_e (fun d => zo_v d rfl ⟨rfl, zd_24, zw_402, Nat.le_of_ble_eq_true rfl, ⟨_, Or.inl ⟨Nat.le_of_ble_eq_true rfl, rfl⟩, rfl⟩, zw_400, zw_3⟩) <|
  zgd_e (fun d => zo_r d rfl) <|
  zgd_e (fun d => zo_l d rfl rfl trivial) <|
  zgd_e (fun d => zo_h d rfl ⟨rfl, _, rfl, zw_428⟩) <|
  zgd_e (fun d => zo_h d rfl ⟨rfl, by show ((42 : Nat) : Int) + (8) = ((50 : Nat) : Int); decide⟩) <|
  zgd_e (fun d => zo_l d rfl rfl trivial) <|
  zgd_e (fun d => zo_v d rfl ⟨rfl, zd_9, zw_432, Nat.le_of_ble_eq_true rfl, ⟨_, Or.inl ⟨Nat.le_of_ble_eq_true rfl, rfl⟩, rfl⟩, zw_430, zw_8⟩) <|
  zgd_e (fun d => zo_r d rfl) <|
  zgd_e (fun d => zo_l d rfl rfl trivial) <|
  zgd_e (fun d => zo_h d rfl ⟨rfl, Nat.le_of_ble_eq_true rfl, _, _, _, Or.inl ⟨Nat.le_of_ble_eq_true rfl, rfl⟩, Nat.le_of_ble_eq_true rfl, zw_231⟩) <|
  zgd_e (fun d => zo_l d rfl rfl trivial) <|
  zgd_e (fun d => zo_l d rfl rfl (by show ((57 : Nat) : Int) + (9) = ((66 : Nat) : Int); decide)) <|
  zgd_e (fun d => zo_l d rfl rfl trivial) <|
  zgd_e (fun d => zo_l d rfl rfl trivial) <|
  zgd_e (fun d => zo_v d rfl ⟨rfl, zd_24, zw_402, Nat.le_of_ble_eq_true rfl, ⟨_, Or.inl ⟨Nat.le_of_ble_eq_true rfl, rfl⟩, rfl⟩, zw_400, zw_3⟩) <|
  zgd_e (fun d => zo_r d rfl) <|
  zgd_e (fun d => zo_l d rfl rfl trivial) <|
  zgd_e (fun d => zo_l d rfl rfl trivial) <|
  zgd_e (fun d => zo_h d rfl ⟨rfl, Nat.le_of_ble_eq_true rfl, _, _, _, Or.inl ⟨Nat.le_of_ble_eq_true rfl, rfl⟩, Nat.le_of_ble_eq_true rfl, zw_231⟩) <|
  zgd_e (fun d => zo_l d rfl rfl trivial) <|
  zgd_e (fun d => zo_l d rfl rfl trivial) <|
  zgd_e (fun d => zo_h d rfl ⟨rfl, Nat.le_of_ble_eq_true rfl, _, _, _, rfl, Nat.le_of_ble_eq_true rfl, zw_231, Or.inl rfl⟩) <|
  zgd_m h
theorem zdd_8_1 : ∀ q ∈ zc_8_1, decode prog_5_method_4_code q.1 = Except.ok (q.2.1, q.2.2.1) := zdd_of (by decide +kernel)
theorem zk_8_1 (xs : List Int32) {l : List zE} (h : ∀ q ∈ l, z_oke' (za_T xs) za_P za_M ⟨"LyndonBench$Script", "runCommand", "()Z"⟩ prog_5_method_4_code q) : ∀ q ∈ zc_8_1 ++ l, z_oke' (za_T xs) za_P za_M ⟨"LyndonBench$Script", "runCommand", "()Z"⟩ prog_5_method_4_code q :=
  zgd_y zdd_8_1 <|
  zgd_e (fun d => zo_h d rfl ⟨rfl, _, rfl, zw_434⟩) <|
  zgd_e (fun d => zo_l d rfl rfl trivial) <|
  zgd_e (fun d => zo_n d rfl ⟨rfl, zd_294, zw_440, Nat.le_of_ble_eq_true rfl, _, Or.inr ⟨Nat.le_of_ble_eq_true rfl, rfl⟩, ⟨"LyndonBench$Command", "ordinal", "()I"⟩, rfl, zw_436, zw_437, zw_439⟩) <|
  zgd_e (fun d => zo_h d rfl rfl) <|
  zgd_e (fun d => zo_l d rfl trivial trivial) <|
  zgd_e (fun d => zo_l d rfl rfl trivial) <|
  zgd_e (fun d => zo_l d rfl rfl trivial) <|
  zgd_e (fun d => zo_v d rfl ⟨rfl, zd_11, zw_444, Nat.le_of_ble_eq_true rfl, ⟨_, Or.inl ⟨Nat.le_of_ble_eq_true rfl, rfl⟩, rfl⟩, zw_442, zw_9⟩) <|
  zgd_e (fun d => zo_r d rfl) <|
  zgd_e (fun d => zo_l d rfl rfl trivial) <|
  zgd_e (fun d => zo_l d rfl rfl trivial) <|
  zgd_e (fun d => zo_v d rfl ⟨rfl, zd_11, zw_444, Nat.le_of_ble_eq_true rfl, ⟨_, Or.inl ⟨Nat.le_of_ble_eq_true rfl, rfl⟩, rfl⟩, zw_442, zw_9⟩) <|
  zgd_e (fun d => zo_r d rfl) <|
  zgd_e (fun d => zo_l d rfl rfl trivial) <|
  zgd_e (fun d => zo_v d rfl ⟨rfl, zd_12, zw_461, Nat.le_of_ble_eq_true rfl, ⟨_, Or.inl ⟨Nat.le_of_ble_eq_true rfl, rfl⟩, rfl⟩, zw_459, zw_11⟩) <|
  zgd_e (fun d => zo_r d rfl) <|
  zgd_e (fun d => zo_l d rfl rfl trivial) <|
  zgd_e (fun d => zo_v d rfl ⟨rfl, zd_13, zw_465, Nat.le_of_ble_eq_true rfl, ⟨_, Or.inl ⟨Nat.le_of_ble_eq_true rfl, rfl⟩, rfl⟩, zw_463, zw_12⟩) <|
  zgd_e (fun d => zo_r d rfl) <|
  zgd_e (fun d => zo_l d rfl rfl trivial) <|
  zgd_e (fun d => zo_v d rfl ⟨rfl, zd_14, zw_478, Nat.le_of_ble_eq_true rfl, ⟨_, Or.inl ⟨Nat.le_of_ble_eq_true rfl, rfl⟩, rfl⟩, zw_476, zw_14⟩) <|
  zgd_e (fun d => zo_r d rfl) <|
  zgd_e (fun d => zo_l d rfl rfl trivial) <|
  zgd_e (fun d => zo_v d rfl ⟨rfl, zd_15, zw_490, Nat.le_of_ble_eq_true rfl, ⟨_, Or.inl ⟨Nat.le_of_ble_eq_true rfl, rfl⟩, rfl⟩, zw_488, zw_15⟩) <|
  zgd_e (fun d => zo_r d rfl) <|
  zgd_e (fun d => zo_l d rfl rfl trivial) <|
  zgd_e (fun d => zo_v d rfl ⟨rfl, zd_16, zw_495, Nat.le_of_ble_eq_true rfl, ⟨_, Or.inl ⟨Nat.le_of_ble_eq_true rfl, rfl⟩, rfl⟩, zw_493, zw_16⟩) <|
  zgd_e (fun d => zo_r d rfl) <|
  zgd_e (fun d => zo_l d rfl rfl trivial) <|
  zgd_e (fun d => zo_v d rfl ⟨rfl, zd_17, zw_507, Nat.le_of_ble_eq_true rfl, ⟨_, Or.inl ⟨Nat.le_of_ble_eq_true rfl, rfl⟩, rfl⟩, zw_505, zw_18⟩) <|
  zgd_e (fun d => zo_r d rfl) <|
  zgd_e (fun d => zo_l d rfl rfl trivial) <|
  zgd_e (fun d => zo_v d rfl ⟨rfl, zd_18, zw_533, Nat.le_of_ble_eq_true rfl, ⟨_, Or.inl ⟨Nat.le_of_ble_eq_true rfl, rfl⟩, rfl⟩, zw_531, zw_19⟩) <|
  zgd_e (fun d => zo_r d rfl) <|
  zgd_e (fun d => zo_l d rfl rfl trivial) <|
  zgd_e (fun d => zo_v d rfl ⟨rfl, zd_19, zw_555, Nat.le_of_ble_eq_true rfl, ⟨_, Or.inl ⟨Nat.le_of_ble_eq_true rfl, rfl⟩, rfl⟩, zw_553, zw_20⟩) <|
  zgd_e (fun d => zo_r d rfl) <|
  zgd_e (fun d => zo_l d rfl rfl trivial) <|
  zgd_e (fun d => zo_v d rfl ⟨rfl, zd_20, zw_573, Nat.le_of_ble_eq_true rfl, ⟨_, Or.inl ⟨Nat.le_of_ble_eq_true rfl, rfl⟩, rfl⟩, zw_571, zw_21⟩) <|
  zgd_e (fun d => zo_r d rfl) <|
  zgd_m h
theorem zk_8 (xs : List Int32) : z_okm (za_T xs) za_P za_M 8 := z_okm_of ⟨"LyndonBench$Script", "runCommand", "()Z"⟩ prog_5_method_4_code zc_8 _ rfl rfl rfl rfl
  (zk_8_0 xs <|
  zk_8_1 xs <|
  z_fn)
  (z_fn)
theorem zdd_9_0 : ∀ q ∈ zc_9_0, decode prog_5_method_5_code q.1 = Except.ok (q.2.1, q.2.2.1) := zdd_of (by decide +kernel)
theorem zk_9_0 (xs : List Int32) {l : List zE} (h : ∀ q ∈ l, z_oke' (za_T xs) za_P za_M ⟨"LyndonBench$Script", "openRepeat", "()Z"⟩ prog_5_method_5_code q) : ∀ q ∈ zc_9_0 ++ l, z_oke' (za_T xs) za_P za_M ⟨"LyndonBench$Script", "openRepeat", "()Z"⟩ prog_5_method_5_code q :=
  zgd_y zdd_9_0 <|
  zgd_e (fun d => zo_l d rfl rfl trivial) <|
  zgd_e (fun d => zo_h d rfl ⟨rfl, Nat.le_of_ble_eq_true rfl, _, _, _, Or.inl ⟨Nat.le_of_ble_eq_true rfl, rfl⟩, Nat.le_of_ble_eq_true rfl, zw_232⟩) <|
  zgd_e (fun d => zo_l d rfl rfl (by show ((4 : Nat) : Int) + (27) = ((31 : Nat) : Int); decide)) <|
  zgd_e (fun d => zo_l d rfl rfl trivial) <|
  zgd_e (fun d => zo_h d rfl ⟨rfl, Nat.le_of_ble_eq_true rfl, _, _, _, Or.inl ⟨Nat.le_of_ble_eq_true rfl, rfl⟩, Nat.le_of_ble_eq_true rfl, zw_232⟩) <|
  zgd_e (fun d => zo_l d rfl rfl trivial) <|
  zgd_e (fun d => zo_h d rfl ⟨rfl, Nat.le_of_ble_eq_true rfl, _, _, _, Or.inl ⟨Nat.le_of_ble_eq_true rfl, rfl⟩, Nat.le_of_ble_eq_true rfl, zw_233⟩) <|
  zgd_e (fun d => zo_h d rfl rfl) <|
  zgd_e (fun d => zo_l d rfl rfl (by show ((16 : Nat) : Int) + (15) = ((31 : Nat) : Int); decide)) <|
  zgd_e (fun d => zo_l d rfl rfl trivial) <|
  zgd_e (fun d => zo_h d rfl ⟨rfl, Nat.le_of_ble_eq_true rfl, _, _, _, Or.inl ⟨Nat.le_of_ble_eq_true rfl, rfl⟩, Nat.le_of_ble_eq_true rfl, zw_232⟩) <|
  zgd_e (fun d => zo_l d rfl rfl trivial) <|
  zgd_e (fun d => zo_h d rfl ⟨rfl, Nat.le_of_ble_eq_true rfl, _, _, _, Or.inl ⟨Nat.le_of_ble_eq_true rfl, rfl⟩, Nat.le_of_ble_eq_true rfl, zw_234⟩) <|
  zgd_e (fun d => zo_h d rfl rfl) <|
  zgd_e (fun d => zo_l d rfl rfl (by show ((28 : Nat) : Int) + (9) = ((37 : Nat) : Int); decide)) <|
  zgd_e (fun d => zo_l d rfl rfl trivial) <|
  zgd_e (fun d => zo_l d rfl rfl trivial) <|
  zgd_e (fun d => zo_v d rfl ⟨rfl, zd_24, zw_402, Nat.le_of_ble_eq_true rfl, ⟨_, Or.inl ⟨Nat.le_of_ble_eq_true rfl, rfl⟩, rfl⟩, zw_400, zw_3⟩) <|
  zgd_e (fun d => zo_r d rfl) <|
  zgd_e (fun d => zo_l d rfl rfl trivial) <|
  zgd_e (fun d => zo_l d rfl rfl trivial) <|
  zgd_e (fun d => zo_l d rfl rfl trivial) <|
  zgd_e (fun d => zo_v d rfl ⟨rfl, zd_22, zw_406, Nat.le_of_ble_eq_true rfl, ⟨_, Or.inl ⟨Nat.le_of_ble_eq_true rfl, rfl⟩, rfl⟩, zw_404, zw_4⟩) <|
  zgd_e (fun d => zo_l d rfl rfl (by show ((44 : Nat) : Int) + (11) = ((55 : Nat) : Int); decide)) <|
  zgd_e (fun d => zo_l d rfl rfl trivial) <|
  zgd_e (fun d => zo_l d rfl rfl trivial) <|
  zgd_e (fun d => zo_v d rfl ⟨rfl, zd_21, zw_410, Nat.le_of_ble_eq_true rfl, ⟨_, Or.inl ⟨Nat.le_of_ble_eq_true rfl, rfl⟩, rfl⟩, zw_408, zw_5⟩) <|
  zgd_e (fun d => zo_l d rfl rfl (by show ((52 : Nat) : Int) + (5) = ((57 : Nat) : Int); decide)) <|
  zgd_e (fun d => zo_l d rfl rfl trivial) <|
  zgd_e (fun d => zo_r d rfl) <|
  zgd_e (fun d => zo_l d rfl rfl trivial) <|
  zgd_e (fun d => zo_h d rfl ⟨rfl, Nat.le_of_ble_eq_true rfl, _, _, _, Or.inl ⟨Nat.le_of_ble_eq_true rfl, rfl⟩, Nat.le_of_ble_eq_true rfl, zw_233⟩) <|
  zgd_e (fun d => zo_l d rfl rfl trivial) <|
  zgd_e (fun d => zo_h d rfl ⟨rfl, Nat.le_of_ble_eq_true rfl, _, _, _, Or.inl ⟨Nat.le_of_ble_eq_true rfl, rfl⟩, Nat.le_of_ble_eq_true rfl, zw_232⟩) <|
  zgd_e (fun d => zo_l d rfl rfl trivial) <|
  zgd_e (fun d => zo_h d rfl ⟨rfl, Nat.le_of_ble_eq_true rfl, _, _, _, Or.inl ⟨Nat.le_of_ble_eq_true rfl, rfl⟩, Nat.le_of_ble_eq_true rfl, zw_229⟩) <|
  zgd_e (fun d => zo_h d rfl rfl) <|
  zgd_e (fun d => zo_l d rfl rfl trivial) <|
  zgd_e (fun d => zo_h d rfl ⟨rfl, Nat.le_of_ble_eq_true rfl, _, _, _, Or.inl ⟨Nat.le_of_ble_eq_true rfl, rfl⟩, Nat.le_of_ble_eq_true rfl, zw_234⟩) <|
  zgd_e (fun d => zo_l d rfl rfl trivial) <|
  zgd_m h
theorem zdd_9_1 : ∀ q ∈ zc_9_1, decode prog_5_method_5_code q.1 = Except.ok (q.2.1, q.2.2.1) := zdd_of (by decide +kernel)
theorem zk_9_1 (xs : List Int32) {l : List zE} (h : ∀ q ∈ l, z_oke' (za_T xs) za_P za_M ⟨"LyndonBench$Script", "openRepeat", "()Z"⟩ prog_5_method_5_code q) : ∀ q ∈ zc_9_1 ++ l, z_oke' (za_T xs) za_P za_M ⟨"LyndonBench$Script", "openRepeat", "()Z"⟩ prog_5_method_5_code q :=
  zgd_y zdd_9_1 <|
  zgd_e (fun d => zo_h d rfl ⟨rfl, Nat.le_of_ble_eq_true rfl, _, _, _, Or.inl ⟨Nat.le_of_ble_eq_true rfl, rfl⟩, Nat.le_of_ble_eq_true rfl, zw_232⟩) <|
  zgd_e (fun d => zo_l d rfl rfl trivial) <|
  zgd_e (fun d => zo_h d rfl ⟨rfl, Nat.le_of_ble_eq_true rfl, _, _, _, Or.inl ⟨Nat.le_of_ble_eq_true rfl, rfl⟩, Nat.le_of_ble_eq_true rfl, zw_230⟩) <|
  zgd_e (fun d => zo_h d rfl rfl) <|
  zgd_e (fun d => zo_l d rfl rfl trivial) <|
  zgd_e (fun d => zo_l d rfl rfl trivial) <|
  zgd_e (fun d => zo_h d rfl ⟨rfl, Nat.le_of_ble_eq_true rfl, _, _, _, Or.inl ⟨Nat.le_of_ble_eq_true rfl, rfl⟩, Nat.le_of_ble_eq_true rfl, zw_232⟩) <|
  zgd_e (fun d => zo_l d rfl rfl trivial) <|
  zgd_e (fun d => zo_l d rfl rfl trivial) <|
  zgd_e (fun d => zo_h d rfl ⟨rfl, Nat.le_of_ble_eq_true rfl, _, _, _, rfl, Nat.le_of_ble_eq_true rfl, zw_232, Or.inl rfl⟩) <|
  zgd_e (fun d => zo_l d rfl rfl trivial) <|
  zgd_e (fun d => zo_r d rfl) <|
  zgd_m h
theorem zk_9 (xs : List Int32) : z_okm (za_T xs) za_P za_M 9 := z_okm_of ⟨"LyndonBench$Script", "openRepeat", "()Z"⟩ prog_5_method_5_code zc_9 _ rfl rfl rfl rfl
  (zk_9_0 xs <|
  zk_9_1 xs <|
  z_fn)
  (z_fn)
theorem zdd_10_0 : ∀ q ∈ zc_10_0, decode prog_5_method_6_code q.1 = Except.ok (q.2.1, q.2.2.1) := zdd_of (by decide +kernel)
theorem zk_10_0 (xs : List Int32) {l : List zE} (h : ∀ q ∈ l, z_oke' (za_T xs) za_P za_M ⟨"LyndonBench$Script", "endRound", "()Z"⟩ prog_5_method_6_code q) : ∀ q ∈ zc_10_0 ++ l, z_oke' (za_T xs) za_P za_M ⟨"LyndonBench$Script", "endRound", "()Z"⟩ prog_5_method_6_code q :=
  zgd_y zdd_10_0 <|
  zgd_e (fun d => zo_l d rfl rfl trivial) <|
  zgd_e (fun d => zo_h d rfl ⟨rfl, Nat.le_of_ble_eq_true rfl, _, _, _, Or.inl ⟨Nat.le_of_ble_eq_true rfl, rfl⟩, Nat.le_of_ble_eq_true rfl, zw_232⟩) <|
  zgd_e (fun d => zo_l d rfl rfl trivial) <|
  zgd_e (fun d => zo_l d rfl rfl trivial) <|
  zgd_e (fun d => zo_l d rfl rfl trivial) <|
  zgd_e (fun d => zo_l d rfl rfl trivial) <|
  zgd_e (fun d => zo_l d rfl rfl (by show ((8 : Nat) : Int) + (21) = ((29 : Nat) : Int); decide)) <|
  zgd_e (fun d => zo_l d rfl rfl trivial) <|
  zgd_e (fun d => zo_l d rfl rfl trivial) <|
  zgd_e (fun d => zo_h d rfl ⟨rfl, Nat.le_of_ble_eq_true rfl, _, _, _, Or.inl ⟨Nat.le_of_ble_eq_true rfl, rfl⟩, Nat.le_of_ble_eq_true rfl, zw_233⟩) <|
  zgd_e (fun d => zo_h d rfl rfl) <|
  zgd_e (fun d => zo_l d rfl rfl (by show ((17 : Nat) : Int) + (12) = ((29 : Nat) : Int); decide)) <|
  zgd_e (fun d => zo_l d rfl rfl trivial) <|
  zgd_e (fun d => zo_l d rfl rfl trivial) <|
  zgd_e (fun d => zo_h d rfl ⟨rfl, Nat.le_of_ble_eq_true rfl, _, _, _, Or.inl ⟨Nat.le_of_ble_eq_true rfl, rfl⟩, Nat.le_of_ble_eq_true rfl, zw_234⟩) <|
  zgd_e (fun d => zo_h d rfl rfl) <|
  zgd_e (fun d => zo_l d rfl rfl (by show ((26 : Nat) : Int) + (9) = ((35 : Nat) : Int); decide)) <|
  zgd_e (fun d => zo_l d rfl rfl trivial) <|
  zgd_e (fun d => zo_l d rfl rfl trivial) <|
  zgd_e (fun d => zo_v d rfl ⟨rfl, zd_24, zw_402, Nat.le_of_ble_eq_true rfl, ⟨_, Or.inl ⟨Nat.le_of_ble_eq_true rfl, rfl⟩, rfl⟩, zw_400, zw_3⟩) <|
  zgd_e (fun d => zo_r d rfl) <|
  zgd_e (fun d => zo_l d rfl rfl trivial) <|
  zgd_e (fun d => zo_h d rfl ⟨rfl, Nat.le_of_ble_eq_true rfl, _, _, _, Or.inl ⟨Nat.le_of_ble_eq_true rfl, rfl⟩, Nat.le_of_ble_eq_true rfl, zw_234⟩) <|
  zgd_e (fun d => zo_l d rfl rfl trivial) <|
  zgd_e (fun d => zo_l d rfl rfl trivial) <|
  zgd_e (fun d => zo_h d rfl rfl) <|
  zgd_e (fun d => zo_l d rfl rfl trivial) <|
  zgd_e (fun d => zo_l d rfl rfl trivial) <|
  zgd_e (fun d => zo_h d rfl rfl) <|
  zgd_e (fun d => zo_l d rfl rfl trivial) <|
  zgd_e (fun d => zo_h d rfl ⟨rfl, Nat.le_of_ble_eq_true rfl, _, _, _, Or.inl ⟨Nat.le_of_ble_eq_true rfl, rfl⟩, Nat.le_of_ble_eq_true rfl, zw_234⟩) <|
  zgd_e (fun d => zo_l d rfl rfl trivial) <|
  zgd_e (fun d => zo_h d rfl rfl) <|
  zgd_e (fun d => zo_l d rfl rfl (by show ((51 : Nat) : Int) + (15) = ((66 : Nat) : Int); decide)) <|
  zgd_e (fun d => zo_l d rfl rfl trivial) <|
  zgd_e (fun d => zo_l d rfl rfl trivial) <|
  zgd_e (fun d => zo_h d rfl ⟨rfl, Nat.le_of_ble_eq_true rfl, _, _, _, Or.inl ⟨Nat.le_of_ble_eq_true rfl, rfl⟩, Nat.le_of_ble_eq_true rfl, zw_233⟩) <|
  zgd_e (fun d => zo_l d rfl rfl trivial) <|
  zgd_e (fun d => zo_h d rfl rfl) <|
  zgd_e (fun d => zo_h d rfl ⟨rfl, Nat.le_of_ble_eq_true rfl, _, _, _, rfl, Nat.le_of_ble_eq_true rfl, zw_229, Or.inl rfl⟩) <|
  zgd_m h
theorem zdd_10_1 : ∀ q ∈ zc_10_1, decode prog_5_method_6_code q.1 = Except.ok (q.2.1, q.2.2.1) := zdd_of (by decide +kernel)
theorem zk_10_1 (xs : List Int32) {l : List zE} (h : ∀ q ∈ l, z_oke' (za_T xs) za_P za_M ⟨"LyndonBench$Script", "endRound", "()Z"⟩ prog_5_method_6_code q) : ∀ q ∈ zc_10_1 ++ l, z_oke' (za_T xs) za_P za_M ⟨"LyndonBench$Script", "endRound", "()Z"⟩ prog_5_method_6_code q :=
  zgd_y zdd_10_1 <|
  zgd_e (fun d => zo_l d rfl rfl trivial) <|
  zgd_e (fun d => zo_r d rfl) <|
  zgd_e (fun d => zo_l d rfl rfl trivial) <|
  zgd_e (fun d => zo_l d rfl rfl trivial) <|
  zgd_e (fun d => zo_h d rfl ⟨rfl, Nat.le_of_ble_eq_true rfl, _, _, _, rfl, Nat.le_of_ble_eq_true rfl, zw_232, Or.inl rfl⟩) <|
  zgd_e (fun d => zo_l d rfl rfl trivial) <|
  zgd_e (fun d => zo_l d rfl rfl trivial) <|
  zgd_e (fun d => zo_v d rfl ⟨rfl, zd_21, zw_410, Nat.le_of_ble_eq_true rfl, ⟨_, Or.inl ⟨Nat.le_of_ble_eq_true rfl, rfl⟩, rfl⟩, zw_408, zw_5⟩) <|
  zgd_e (fun d => zo_r d rfl) <|
  zgd_m h
theorem zk_10 (xs : List Int32) : z_okm (za_T xs) za_P za_M 10 := z_okm_of ⟨"LyndonBench$Script", "endRound", "()Z"⟩ prog_5_method_6_code zc_10 _ rfl rfl rfl rfl
  (zk_10_0 xs <|
  zk_10_1 xs <|
  z_fn)
  (z_fn)
theorem zdd_11_0 : ∀ q ∈ zc_11_0, decode prog_5_method_7_code q.1 = Except.ok (q.2.1, q.2.2.1) := zdd_of (by decide +kernel)
theorem zk_11_0 (xs : List Int32) {l : List zE} (h : ∀ q ∈ l, z_oke' (za_T xs) za_P za_M ⟨"LyndonBench$Script", "runText", "(Z)Z"⟩ prog_5_method_7_code q) : ∀ q ∈ zc_11_0 ++ l, z_oke' (za_T xs) za_P za_M ⟨"LyndonBench$Script", "runText", "(Z)Z"⟩ prog_5_method_7_code q :=
  zgd_y zdd_11_0 <|
  zgd_e (fun d => zo_l d rfl rfl trivial) <|
  zgd_e (fun d => zo_l d rfl rfl trivial) <|
  zgd_e (fun d => zo_v d rfl ⟨rfl, zd_21, zw_410, Nat.le_of_ble_eq_true rfl, ⟨_, Or.inl ⟨Nat.le_of_ble_eq_true rfl, rfl⟩, rfl⟩, zw_408, zw_5⟩) <|
  zgd_e (fun d => zo_l d rfl rfl (by show ((5 : Nat) : Int) + (5) = ((10 : Nat) : Int); decide)) <|
  zgd_e (fun d => zo_l d rfl rfl trivial) <|
  zgd_e (fun d => zo_r d rfl) <|
  zgd_e (fun d => zo_l d rfl rfl trivial) <|
  zgd_e (fun d => zo_h d rfl ⟨rfl, Nat.le_of_ble_eq_true rfl, _, _, _, Or.inl ⟨Nat.le_of_ble_eq_true rfl, rfl⟩, Nat.le_of_ble_eq_true rfl, zw_228⟩) <|
  zgd_e (fun d => zo_l d rfl rfl trivial) <|
  zgd_e (fun d => zo_l d rfl rfl trivial) <|
  zgd_e (fun d => zo_h d rfl ⟨rfl, Nat.le_of_ble_eq_true rfl, _, _, _, Or.inl ⟨Nat.le_of_ble_eq_true rfl, rfl⟩, Nat.le_of_ble_eq_true rfl, zw_229⟩) <|
  zgd_e (fun d => zo_l d rfl rfl trivial) <|
  zgd_e (fun d => zo_l d rfl rfl trivial) <|
  zgd_e (fun d => zo_l d rfl rfl trivial) <|
  zgd_e (fun d => zo_l d rfl rfl trivial) <|
  zgd_e (fun d => zo_l d rfl rfl trivial) <|
  zgd_e (fun d => zo_l d rfl rfl (by show ((26 : Nat) : Int) + (34) = ((60 : Nat) : Int); decide)) <|
  zgd_e (fun d => zo_l d rfl rfl trivial) <|
  zgd_e (fun d => zo_h d rfl ⟨rfl, Nat.le_of_ble_eq_true rfl, _, _, _, Or.inl ⟨Nat.le_of_ble_eq_true rfl, rfl⟩, Nat.le_of_ble_eq_true rfl, zw_221⟩) <|
  zgd_e (fun d => zo_l d rfl rfl trivial) <|
  zgd_e (fun d => zo_h d rfl ⟨rfl, Nat.le_of_ble_eq_true rfl, _, _, _, Or.inl ⟨Nat.le_of_ble_eq_true rfl, rfl⟩, Nat.le_of_ble_eq_true rfl, zw_219⟩) <|
  zgd_e (fun d => zo_l d rfl rfl trivial) <|
  zgd_e (fun d => zo_v d rfl ⟨rfl, zd_43, zw_338, Nat.le_of_ble_eq_true rfl, ⟨_, Or.inl ⟨Nat.le_of_ble_eq_true rfl, rfl⟩, rfl⟩, zw_387, zw_339⟩) <|
  zgd_e (fun d => zo_v d rfl ⟨rfl, zd_31, zw_447, Nat.le_of_ble_eq_true rfl, ⟨_, Or.inl ⟨Nat.le_of_ble_eq_true rfl, rfl⟩, rfl⟩, zw_446, zw_448⟩) <|
  zgd_e (fun d => zo_l d rfl rfl (by show ((45 : Nat) : Int) + (9) = ((54 : Nat) : Int); decide)) <|
  zgd_e (fun d => zo_l d rfl rfl trivial) <|
  zgd_e (fun d => zo_l d rfl rfl trivial) <|
  zgd_e (fun d => zo_v d rfl ⟨rfl, zd_24, zw_402, Nat.le_of_ble_eq_true rfl, ⟨_, Or.inl ⟨Nat.le_of_ble_eq_true rfl, rfl⟩, rfl⟩, zw_400, zw_3⟩) <|
  zgd_e (fun d => zo_r d rfl) <|
  zgd_e (fun d => zo_l d rfl rfl trivial) <|
  zgd_e (fun d => zo_l d rfl rfl (by show ((57 : Nat) : Int) + (-34) = ((23 : Nat) : Int); decide)) <|
  zgd_e (fun d => zo_l d rfl rfl trivial) <|
  zgd_e (fun d => zo_l d rfl rfl (by show ((61 : Nat) : Int) + (16) = ((77 : Nat) : Int); decide)) <|
  zgd_e (fun d => zo_l d rfl rfl trivial) <|
  zgd_e (fun d => zo_h d rfl ⟨rfl, Nat.le_of_ble_eq_true rfl, _, _, _, Or.inl ⟨Nat.le_of_ble_eq_true rfl, rfl⟩, Nat.le_of_ble_eq_true rfl, zw_221⟩) <|
  zgd_e (fun d => zo_h d rfl ⟨rfl, Nat.le_of_ble_eq_true rfl, _, _, _, Or.inl ⟨Nat.le_of_ble_eq_true rfl, rfl⟩, Nat.le_of_ble_eq_true rfl, zw_178⟩) <|
  zgd_e (fun d => zo_h d rfl ⟨rfl, Nat.le_of_ble_eq_true rfl, _, _, _, Or.inl ⟨Nat.le_of_ble_eq_true rfl, rfl⟩, Nat.le_of_ble_eq_true rfl, zw_166⟩) <|
  zgd_e (fun d => zo_l d rfl rfl (by show ((74 : Nat) : Int) + (4) = ((78 : Nat) : Int); decide)) <|
  zgd_e (fun d => zo_l d rfl rfl trivial) <|
  zgd_e (fun d => zo_l d rfl rfl trivial) <|
  zgd_m h
theorem zdd_11_1 : ∀ q ∈ zc_11_1, decode prog_5_method_7_code q.1 = Except.ok (q.2.1, q.2.2.1) := zdd_of (by decide +kernel)
theorem zk_11_1 (xs : List Int32) {l : List zE} (h : ∀ q ∈ l, z_oke' (za_T xs) za_P za_M ⟨"LyndonBench$Script", "runText", "(Z)Z"⟩ prog_5_method_7_code q) : ∀ q ∈ zc_11_1 ++ l, z_oke' (za_T xs) za_P za_M ⟨"LyndonBench$Script", "runText", "(Z)Z"⟩ prog_5_method_7_code q :=
  zgd_y zdd_11_1 <|
  zgd_e (fun d => zo_l d rfl rfl trivial) <|
  zgd_e (fun d => zo_l d rfl rfl trivial) <|
  zgd_e (fun d => zo_l d rfl rfl trivial) <|
  zgd_e (fun d => zo_l d rfl rfl trivial) <|
  zgd_e (fun d => zo_l d rfl rfl trivial) <|
  zgd_e (fun d => zo_l d rfl rfl trivial) <|
  zgd_e (fun d => zo_l d rfl rfl trivial) <|
  zgd_e (fun d => zo_l d rfl rfl (by show ((89 : Nat) : Int) + (7) = ((96 : Nat) : Int); decide)) <|
  zgd_e (fun d => zo_l d rfl rfl trivial) <|
  zgd_e (fun d => zo_l d rfl rfl (by show ((93 : Nat) : Int) + (4) = ((97 : Nat) : Int); decide)) <|
  zgd_e (fun d => zo_l d rfl rfl trivial) <|
  zgd_e (fun d => zo_v d rfl ⟨rfl, zd_23, zw_452, Nat.le_of_ble_eq_true rfl, ⟨_, Or.inl ⟨Nat.le_of_ble_eq_true rfl, rfl⟩, rfl⟩, zw_450, zw_10⟩) <|
  zgd_e (fun d => zo_l d rfl rfl (by show ((100 : Nat) : Int) + (5) = ((105 : Nat) : Int); decide)) <|
  zgd_e (fun d => zo_l d rfl rfl trivial) <|
  zgd_e (fun d => zo_r d rfl) <|
  zgd_e (fun d => zo_l d rfl rfl trivial) <|
  zgd_e (fun d => zo_h d rfl ⟨rfl, Nat.le_of_ble_eq_true rfl, _, _, _, Or.inl ⟨Nat.le_of_ble_eq_true rfl, rfl⟩, Nat.le_of_ble_eq_true rfl, zw_221⟩) <|
  zgd_e (fun d => zo_h d rfl ⟨rfl, Nat.le_of_ble_eq_true rfl, _, _, _, Or.inl ⟨Nat.le_of_ble_eq_true rfl, rfl⟩, Nat.le_of_ble_eq_true rfl, zw_178⟩) <|
  zgd_e (fun d => zo_l d rfl rfl trivial) <|
  zgd_e (fun d => zo_v d rfl ⟨rfl, zd_52, zw_455, Nat.le_of_ble_eq_true rfl, ⟨_, Or.inl ⟨Nat.le_of_ble_eq_true rfl, rfl⟩, rfl⟩, zw_454, zw_456⟩) <|
  zgd_e (fun d => zo_l d rfl rfl trivial) <|
  zgd_e (fun d => zo_h d rfl ⟨rfl, Nat.le_of_ble_eq_true rfl, _, _, _, Or.inl ⟨Nat.le_of_ble_eq_true rfl, rfl⟩, Nat.le_of_ble_eq_true rfl, zw_221⟩) <|
  zgd_e (fun d => zo_h d rfl ⟨rfl, Nat.le_of_ble_eq_true rfl, _, _, _, Or.inl ⟨Nat.le_of_ble_eq_true rfl, rfl⟩, Nat.le_of_ble_eq_true rfl, zw_178⟩) <|
  zgd_e (fun d => zo_l d rfl rfl trivial) <|
  zgd_e (fun d => zo_h d rfl ⟨rfl, Nat.le_of_ble_eq_true rfl, _, _, _, Or.inl ⟨Nat.le_of_ble_eq_true rfl, rfl⟩, Nat.le_of_ble_eq_true rfl, zw_219⟩) <|
  zgd_e (fun d => zo_l d rfl rfl trivial) <|
  zgd_e (fun d => zo_l d rfl rfl trivial) <|
  zgd_e (fun d => zo_v d rfl ⟨rfl, zd_49, zw_334, Nat.le_of_ble_eq_true rfl, ⟨_, Or.inl ⟨Nat.le_of_ble_eq_true rfl, rfl⟩, rfl⟩, zw_458, zw_335⟩) <|
  zgd_e (fun d => zo_l d rfl rfl trivial) <|
  zgd_e (fun d => zo_r d rfl) <|
  zgd_m h
theorem zk_11 (xs : List Int32) : z_okm (za_T xs) za_P za_M 11 := z_okm_of ⟨"LyndonBench$Script", "runText", "(Z)Z"⟩ prog_5_method_7_code zc_11 _ rfl rfl rfl rfl
  (zk_11_0 xs <|
  zk_11_1 xs <|
  z_fn)
  (z_fn)
theorem zdd_12 : ∀ q ∈ zc_12, decode prog_5_method_8_code q.1 = Except.ok (q.2.1, q.2.2.1) := zdd_of (by decide +kernel)
theorem zk_12 (xs : List Int32) : z_okm (za_T xs) za_P za_M 12 := z_okm_of ⟨"LyndonBench$Script", "runDrop", "()Z"⟩ prog_5_method_8_code zc_12 _ rfl rfl rfl rfl
  (zgd_x zdd_12 <|
  zgd_d (fun d => zo_l d rfl rfl trivial) <|
  zgd_d (fun d => zo_l d rfl rfl trivial) <|
  zgd_d (fun d => zo_l d rfl rfl trivial) <|
  zgd_d (fun d => zo_h d rfl ⟨rfl, Nat.le_of_ble_eq_true rfl, _, _, _, Or.inl ⟨Nat.le_of_ble_eq_true rfl, rfl⟩, Nat.le_of_ble_eq_true rfl, zw_221⟩) <|
  zgd_d (fun d => zo_h d rfl ⟨rfl, Nat.le_of_ble_eq_true rfl, _, _, _, Or.inl ⟨Nat.le_of_ble_eq_true rfl, rfl⟩, Nat.le_of_ble_eq_true rfl, zw_178⟩) <|
  zgd_d (fun d => zo_h d rfl ⟨rfl, Nat.le_of_ble_eq_true rfl, _, _, _, Or.inl ⟨Nat.le_of_ble_eq_true rfl, rfl⟩, Nat.le_of_ble_eq_true rfl, zw_166⟩) <|
  zgd_d (fun d => zo_v d rfl ⟨rfl, zd_22, zw_406, Nat.le_of_ble_eq_true rfl, ⟨_, Or.inl ⟨Nat.le_of_ble_eq_true rfl, rfl⟩, rfl⟩, zw_404, zw_4⟩) <|
  zgd_d (fun d => zo_l d rfl rfl (by show ((15 : Nat) : Int) + (11) = ((26 : Nat) : Int); decide)) <|
  zgd_d (fun d => zo_l d rfl rfl trivial) <|
  zgd_d (fun d => zo_l d rfl rfl trivial) <|
  zgd_d (fun d => zo_v d rfl ⟨rfl, zd_21, zw_410, Nat.le_of_ble_eq_true rfl, ⟨_, Or.inl ⟨Nat.le_of_ble_eq_true rfl, rfl⟩, rfl⟩, zw_408, zw_5⟩) <|
  zgd_d (fun d => zo_l d rfl rfl (by show ((23 : Nat) : Int) + (5) = ((28 : Nat) : Int); decide)) <|
  zgd_d (fun d => zo_l d rfl rfl trivial) <|
  zgd_d (fun d => zo_r d rfl) <|
  zgd_d (fun d => zo_l d rfl rfl trivial) <|
  zgd_d (fun d => zo_h d rfl ⟨rfl, Nat.le_of_ble_eq_true rfl, _, _, _, Or.inl ⟨Nat.le_of_ble_eq_true rfl, rfl⟩, Nat.le_of_ble_eq_true rfl, zw_221⟩) <|
  zgd_d (fun d => zo_h d rfl ⟨rfl, Nat.le_of_ble_eq_true rfl, _, _, _, Or.inl ⟨Nat.le_of_ble_eq_true rfl, rfl⟩, Nat.le_of_ble_eq_true rfl, zw_178⟩) <|
  zgd_d (fun d => zo_l d rfl rfl trivial) <|
  zgd_d (fun d => zo_h d rfl ⟨rfl, Nat.le_of_ble_eq_true rfl, _, _, _, Or.inl ⟨Nat.le_of_ble_eq_true rfl, rfl⟩, Nat.le_of_ble_eq_true rfl, zw_221⟩) <|
  zgd_d (fun d => zo_h d rfl ⟨rfl, Nat.le_of_ble_eq_true rfl, _, _, _, Or.inl ⟨Nat.le_of_ble_eq_true rfl, rfl⟩, Nat.le_of_ble_eq_true rfl, zw_178⟩) <|
  zgd_d (fun d => zo_h d rfl ⟨rfl, Nat.le_of_ble_eq_true rfl, _, _, _, Or.inl ⟨Nat.le_of_ble_eq_true rfl, rfl⟩, Nat.le_of_ble_eq_true rfl, zw_166⟩) <|
  zgd_d (fun d => zo_l d rfl rfl trivial) <|
  zgd_d (fun d => zo_h d rfl ⟨rfl, Nat.le_of_ble_eq_true rfl, _, _, _, Or.inl ⟨Nat.le_of_ble_eq_true rfl, rfl⟩, Nat.le_of_ble_eq_true rfl, zw_230⟩) <|
  zgd_d (fun d => zo_l d rfl rfl trivial) <|
  zgd_d (fun d => zo_v d rfl ⟨rfl, zd_52, zw_455, Nat.le_of_ble_eq_true rfl, ⟨_, Or.inl ⟨Nat.le_of_ble_eq_true rfl, rfl⟩, rfl⟩, zw_454, zw_456⟩) <|
  zgd_d (fun d => zo_l d rfl rfl trivial) <|
  zgd_d (fun d => zo_r d rfl) <|
  zgd_n)
  (z_fn)
theorem zdd_13 : ∀ q ∈ zc_13, decode prog_5_method_9_code q.1 = Except.ok (q.2.1, q.2.2.1) := zdd_of (by decide +kernel)
theorem zk_13 (xs : List Int32) : z_okm (za_T xs) za_P za_M 13 := z_okm_of ⟨"LyndonBench$Script", "runPart", "()Z"⟩ prog_5_method_9_code zc_13 _ rfl rfl rfl rfl
  (zgd_x zdd_13 <|
  zgd_d (fun d => zo_l d rfl rfl trivial) <|
  zgd_d (fun d => zo_l d rfl rfl trivial) <|
  zgd_d (fun d => zo_l d rfl rfl trivial) <|
  zgd_d (fun d => zo_v d rfl ⟨rfl, zd_22, zw_406, Nat.le_of_ble_eq_true rfl, ⟨_, Or.inl ⟨Nat.le_of_ble_eq_true rfl, rfl⟩, rfl⟩, zw_404, zw_4⟩) <|
  zgd_d (fun d => zo_l d rfl rfl (by show ((8 : Nat) : Int) + (5) = ((13 : Nat) : Int); decide)) <|
  zgd_d (fun d => zo_l d rfl rfl trivial) <|
  zgd_d (fun d => zo_r d rfl) <|
  zgd_d (fun d => zo_l d rfl rfl trivial) <|
  zgd_d (fun d => zo_h d rfl ⟨rfl, Nat.le_of_ble_eq_true rfl, _, _, _, Or.inl ⟨Nat.le_of_ble_eq_true rfl, rfl⟩, Nat.le_of_ble_eq_true rfl, zw_230⟩) <|
  zgd_d (fun d => zo_l d rfl rfl trivial) <|
  zgd_d (fun d => zo_l d rfl rfl trivial) <|
  zgd_d (fun d => zo_l d rfl rfl trivial) <|
  zgd_d (fun d => zo_l d rfl rfl trivial) <|
  zgd_d (fun d => zo_h d rfl ⟨rfl, Nat.le_of_ble_eq_true rfl, _, _, _, Or.inl ⟨Nat.le_of_ble_eq_true rfl, rfl⟩, Nat.le_of_ble_eq_true rfl, zw_221⟩) <|
  zgd_d (fun d => zo_h d rfl ⟨rfl, Nat.le_of_ble_eq_true rfl, _, _, _, Or.inl ⟨Nat.le_of_ble_eq_true rfl, rfl⟩, Nat.le_of_ble_eq_true rfl, zw_178⟩) <|
  zgd_d (fun d => zo_h d rfl ⟨rfl, Nat.le_of_ble_eq_true rfl, _, _, _, Or.inl ⟨Nat.le_of_ble_eq_true rfl, rfl⟩, Nat.le_of_ble_eq_true rfl, zw_166⟩) <|
  zgd_d (fun d => zo_v d rfl ⟨rfl, zd_22, zw_406, Nat.le_of_ble_eq_true rfl, ⟨_, Or.inl ⟨Nat.le_of_ble_eq_true rfl, rfl⟩, rfl⟩, zw_404, zw_4⟩) <|
  zgd_d (fun d => zo_l d rfl rfl (by show ((33 : Nat) : Int) + (11) = ((44 : Nat) : Int); decide)) <|
  zgd_d (fun d => zo_l d rfl rfl trivial) <|
  zgd_d (fun d => zo_l d rfl rfl trivial) <|
  zgd_d (fun d => zo_v d rfl ⟨rfl, zd_21, zw_410, Nat.le_of_ble_eq_true rfl, ⟨_, Or.inl ⟨Nat.le_of_ble_eq_true rfl, rfl⟩, rfl⟩, zw_408, zw_5⟩) <|
  zgd_d (fun d => zo_l d rfl rfl (by show ((41 : Nat) : Int) + (5) = ((46 : Nat) : Int); decide)) <|
  zgd_d (fun d => zo_l d rfl rfl trivial) <|
  zgd_d (fun d => zo_r d rfl) <|
  zgd_d (fun d => zo_l d rfl rfl trivial) <|
  zgd_d (fun d => zo_h d rfl ⟨rfl, Nat.le_of_ble_eq_true rfl, _, _, _, Or.inl ⟨Nat.le_of_ble_eq_true rfl, rfl⟩, Nat.le_of_ble_eq_true rfl, zw_221⟩) <|
  zgd_d (fun d => zo_h d rfl ⟨rfl, Nat.le_of_ble_eq_true rfl, _, _, _, Or.inl ⟨Nat.le_of_ble_eq_true rfl, rfl⟩, Nat.le_of_ble_eq_true rfl, zw_178⟩) <|
  zgd_d (fun d => zo_l d rfl rfl trivial) <|
  zgd_d (fun d => zo_l d rfl rfl trivial) <|
  zgd_d (fun d => zo_h d rfl ⟨rfl, Nat.le_of_ble_eq_true rfl, _, _, _, Or.inl ⟨Nat.le_of_ble_eq_true rfl, rfl⟩, Nat.le_of_ble_eq_true rfl, zw_230⟩) <|
  zgd_d (fun d => zo_v d rfl ⟨rfl, zd_53, zw_468, Nat.le_of_ble_eq_true rfl, ⟨_, Or.inl ⟨Nat.le_of_ble_eq_true rfl, rfl⟩, rfl⟩, zw_467, zw_469⟩) <|
  zgd_d (fun d => zo_l d rfl rfl trivial) <|
  zgd_d (fun d => zo_r d rfl) <|
  zgd_n)
  (z_fn)
theorem zdd_14 : ∀ q ∈ zc_14, decode prog_5_method_10_code q.1 = Except.ok (q.2.1, q.2.2.1) := zdd_of (by decide +kernel)
theorem zk_14 (xs : List Int32) : z_okm (za_T xs) za_P za_M 14 := z_okm_of ⟨"LyndonBench$Script", "runRotate", "()Z"⟩ prog_5_method_10_code zc_14 _ rfl rfl rfl rfl
  (zgd_x zdd_14 <|
  zgd_d (fun d => zo_l d rfl rfl trivial) <|
  zgd_d (fun d => zo_l d rfl rfl trivial) <|
  zgd_d (fun d => zo_l d rfl rfl trivial) <|
  zgd_d (fun d => zo_h d rfl ⟨rfl, Nat.le_of_ble_eq_true rfl, _, _, _, Or.inl ⟨Nat.le_of_ble_eq_true rfl, rfl⟩, Nat.le_of_ble_eq_true rfl, zw_221⟩) <|
  zgd_d (fun d => zo_h d rfl ⟨rfl, Nat.le_of_ble_eq_true rfl, _, _, _, Or.inl ⟨Nat.le_of_ble_eq_true rfl, rfl⟩, Nat.le_of_ble_eq_true rfl, zw_178⟩) <|
  zgd_d (fun d => zo_h d rfl ⟨rfl, Nat.le_of_ble_eq_true rfl, _, _, _, Or.inl ⟨Nat.le_of_ble_eq_true rfl, rfl⟩, Nat.le_of_ble_eq_true rfl, zw_166⟩) <|
  zgd_d (fun d => zo_v d rfl ⟨rfl, zd_22, zw_406, Nat.le_of_ble_eq_true rfl, ⟨_, Or.inl ⟨Nat.le_of_ble_eq_true rfl, rfl⟩, rfl⟩, zw_404, zw_4⟩) <|
  zgd_d (fun d => zo_l d rfl rfl (by show ((15 : Nat) : Int) + (11) = ((26 : Nat) : Int); decide)) <|
  zgd_d (fun d => zo_l d rfl rfl trivial) <|
  zgd_d (fun d => zo_l d rfl rfl trivial) <|
  zgd_d (fun d => zo_v d rfl ⟨rfl, zd_21, zw_410, Nat.le_of_ble_eq_true rfl, ⟨_, Or.inl ⟨Nat.le_of_ble_eq_true rfl, rfl⟩, rfl⟩, zw_408, zw_5⟩) <|
  zgd_d (fun d => zo_l d rfl rfl (by show ((23 : Nat) : Int) + (5) = ((28 : Nat) : Int); decide)) <|
  zgd_d (fun d => zo_l d rfl rfl trivial) <|
  zgd_d (fun d => zo_r d rfl) <|
  zgd_d (fun d => zo_l d rfl rfl trivial) <|
  zgd_d (fun d => zo_h d rfl ⟨rfl, Nat.le_of_ble_eq_true rfl, _, _, _, Or.inl ⟨Nat.le_of_ble_eq_true rfl, rfl⟩, Nat.le_of_ble_eq_true rfl, zw_221⟩) <|
  zgd_d (fun d => zo_h d rfl ⟨rfl, Nat.le_of_ble_eq_true rfl, _, _, _, Or.inl ⟨Nat.le_of_ble_eq_true rfl, rfl⟩, Nat.le_of_ble_eq_true rfl, zw_178⟩) <|
  zgd_d (fun d => zo_l d rfl rfl trivial) <|
  zgd_d (fun d => zo_h d rfl ⟨rfl, Nat.le_of_ble_eq_true rfl, _, _, _, Or.inl ⟨Nat.le_of_ble_eq_true rfl, rfl⟩, Nat.le_of_ble_eq_true rfl, zw_230⟩) <|
  zgd_d (fun d => zo_v d rfl ⟨rfl, zd_55, zw_481, Nat.le_of_ble_eq_true rfl, ⟨_, Or.inl ⟨Nat.le_of_ble_eq_true rfl, rfl⟩, rfl⟩, zw_480, zw_482⟩) <|
  zgd_d (fun d => zo_l d rfl rfl trivial) <|
  zgd_d (fun d => zo_r d rfl) <|
  zgd_n)
  (z_fn)
theorem zdd_15 : ∀ q ∈ zc_15, decode prog_5_method_11_code q.1 = Except.ok (q.2.1, q.2.2.1) := zdd_of (by decide +kernel)
theorem zk_15 (xs : List Int32) : z_okm (za_T xs) za_P za_M 15 := z_okm_of ⟨"LyndonBench$Script", "runReverse", "()Z"⟩ prog_5_method_11_code zc_15 _ rfl rfl rfl rfl
  (zgd_x zdd_15 <|
  zgd_d (fun d => zo_l d rfl rfl trivial) <|
  zgd_d (fun d => zo_l d rfl rfl trivial) <|
  zgd_d (fun d => zo_v d rfl ⟨rfl, zd_21, zw_410, Nat.le_of_ble_eq_true rfl, ⟨_, Or.inl ⟨Nat.le_of_ble_eq_true rfl, rfl⟩, rfl⟩, zw_408, zw_5⟩) <|
  zgd_d (fun d => zo_l d rfl rfl (by show ((5 : Nat) : Int) + (5) = ((10 : Nat) : Int); decide)) <|
  zgd_d (fun d => zo_l d rfl rfl trivial) <|
  zgd_d (fun d => zo_r d rfl) <|
  zgd_d (fun d => zo_l d rfl rfl trivial) <|
  zgd_d (fun d => zo_h d rfl ⟨rfl, Nat.le_of_ble_eq_true rfl, _, _, _, Or.inl ⟨Nat.le_of_ble_eq_true rfl, rfl⟩, Nat.le_of_ble_eq_true rfl, zw_221⟩) <|
  zgd_d (fun d => zo_h d rfl ⟨rfl, Nat.le_of_ble_eq_true rfl, _, _, _, Or.inl ⟨Nat.le_of_ble_eq_true rfl, rfl⟩, Nat.le_of_ble_eq_true rfl, zw_178⟩) <|
  zgd_d (fun d => zo_l d rfl rfl trivial) <|
  zgd_d (fun d => zo_l d rfl rfl trivial) <|
  zgd_d (fun d => zo_h d rfl ⟨rfl, Nat.le_of_ble_eq_true rfl, _, _, _, Or.inl ⟨Nat.le_of_ble_eq_true rfl, rfl⟩, Nat.le_of_ble_eq_true rfl, zw_221⟩) <|
  zgd_d (fun d => zo_h d rfl ⟨rfl, Nat.le_of_ble_eq_true rfl, _, _, _, Or.inl ⟨Nat.le_of_ble_eq_true rfl, rfl⟩, Nat.le_of_ble_eq_true rfl, zw_178⟩) <|
  zgd_d (fun d => zo_h d rfl ⟨rfl, Nat.le_of_ble_eq_true rfl, _, _, _, Or.inl ⟨Nat.le_of_ble_eq_true rfl, rfl⟩, Nat.le_of_ble_eq_true rfl, zw_166⟩) <|
  zgd_d (fun d => zo_v d rfl ⟨rfl, zd_54, zw_485, Nat.le_of_ble_eq_true rfl, ⟨_, Or.inl ⟨Nat.le_of_ble_eq_true rfl, rfl⟩, rfl⟩, zw_492, zw_486⟩) <|
  zgd_d (fun d => zo_l d rfl rfl trivial) <|
  zgd_d (fun d => zo_r d rfl) <|
  zgd_n)
  (z_fn)
theorem zdd_16 : ∀ q ∈ zc_16, decode prog_5_method_12_code q.1 = Except.ok (q.2.1, q.2.2.1) := zdd_of (by decide +kernel)
theorem zk_16 (xs : List Int32) : z_okm (za_T xs) za_P za_M 16 := z_okm_of ⟨"LyndonBench$Script", "runLeast", "()Z"⟩ prog_5_method_12_code zc_16 _ rfl rfl rfl rfl
  (zgd_x zdd_16 <|
  zgd_d (fun d => zo_l d rfl rfl trivial) <|
  zgd_d (fun d => zo_l d rfl rfl trivial) <|
  zgd_d (fun d => zo_h d rfl ⟨rfl, Nat.le_of_ble_eq_true rfl, _, _, _, Or.inl ⟨Nat.le_of_ble_eq_true rfl, rfl⟩, Nat.le_of_ble_eq_true rfl, zw_221⟩) <|
  zgd_d (fun d => zo_h d rfl ⟨rfl, Nat.le_of_ble_eq_true rfl, _, _, _, Or.inl ⟨Nat.le_of_ble_eq_true rfl, rfl⟩, Nat.le_of_ble_eq_true rfl, zw_178⟩) <|
  zgd_d (fun d => zo_h d rfl ⟨rfl, Nat.le_of_ble_eq_true rfl, _, _, _, Or.inl ⟨Nat.le_of_ble_eq_true rfl, rfl⟩, Nat.le_of_ble_eq_true rfl, zw_166⟩) <|
  zgd_d (fun d => zo_l d rfl rfl (by show ((11 : Nat) : Int) + (7) = ((18 : Nat) : Int); decide)) <|
  zgd_d (fun d => zo_l d rfl rfl trivial) <|
  zgd_d (fun d => zo_l d rfl rfl (by show ((15 : Nat) : Int) + (4) = ((19 : Nat) : Int); decide)) <|
  zgd_d (fun d => zo_l d rfl rfl trivial) <|
  zgd_d (fun d => zo_v d rfl ⟨rfl, zd_23, zw_452, Nat.le_of_ble_eq_true rfl, ⟨_, Or.inl ⟨Nat.le_of_ble_eq_true rfl, rfl⟩, rfl⟩, zw_450, zw_10⟩) <|
  zgd_d (fun d => zo_l d rfl rfl (by show ((22 : Nat) : Int) + (5) = ((27 : Nat) : Int); decide)) <|
  zgd_d (fun d => zo_l d rfl rfl trivial) <|
  zgd_d (fun d => zo_r d rfl) <|
  zgd_d (fun d => zo_l d rfl rfl trivial) <|
  zgd_d (fun d => zo_h d rfl ⟨rfl, Nat.le_of_ble_eq_true rfl, _, _, _, Or.inl ⟨Nat.le_of_ble_eq_true rfl, rfl⟩, Nat.le_of_ble_eq_true rfl, zw_221⟩) <|
  zgd_d (fun d => zo_h d rfl ⟨rfl, Nat.le_of_ble_eq_true rfl, _, _, _, Or.inl ⟨Nat.le_of_ble_eq_true rfl, rfl⟩, Nat.le_of_ble_eq_true rfl, zw_178⟩) <|
  zgd_d (fun d => zo_l d rfl rfl trivial) <|
  zgd_d (fun d => zo_h d rfl ⟨rfl, Nat.le_of_ble_eq_true rfl, _, _, _, Or.inl ⟨Nat.le_of_ble_eq_true rfl, rfl⟩, Nat.le_of_ble_eq_true rfl, zw_221⟩) <|
  zgd_d (fun d => zo_h d rfl ⟨rfl, Nat.le_of_ble_eq_true rfl, _, _, _, Or.inl ⟨Nat.le_of_ble_eq_true rfl, rfl⟩, Nat.le_of_ble_eq_true rfl, zw_178⟩) <|
  zgd_d (fun d => zo_v d rfl ⟨rfl, zd_72, zw_498, Nat.le_of_ble_eq_true rfl, ⟨_, Or.inl ⟨Nat.le_of_ble_eq_true rfl, rfl⟩, rfl⟩, zw_497, zw_499⟩) <|
  zgd_d (fun d => zo_v d rfl ⟨rfl, zd_55, zw_481, Nat.le_of_ble_eq_true rfl, ⟨_, Or.inl ⟨Nat.le_of_ble_eq_true rfl, rfl⟩, rfl⟩, zw_480, zw_482⟩) <|
  zgd_d (fun d => zo_l d rfl rfl trivial) <|
  zgd_d (fun d => zo_r d rfl) <|
  zgd_n)
  (z_fn)
theorem zdd_17 : ∀ q ∈ zc_17, decode prog_5_method_13_code q.1 = Except.ok (q.2.1, q.2.2.1) := zdd_of (by decide +kernel)
theorem zk_17 (xs : List Int32) : z_okm (za_T xs) za_P za_M 17 := z_okm_of ⟨"LyndonBench$Script", "runNext", "()Z"⟩ prog_5_method_13_code zc_17 _ rfl rfl rfl rfl
  (zgd_x zdd_17 <|
  zgd_d (fun d => zo_l d rfl rfl trivial) <|
  zgd_d (fun d => zo_l d rfl rfl trivial) <|
  zgd_d (fun d => zo_l d rfl rfl trivial) <|
  zgd_d (fun d => zo_v d rfl ⟨rfl, zd_22, zw_406, Nat.le_of_ble_eq_true rfl, ⟨_, Or.inl ⟨Nat.le_of_ble_eq_true rfl, rfl⟩, rfl⟩, zw_404, zw_4⟩) <|
  zgd_d (fun d => zo_l d rfl rfl (by show ((7 : Nat) : Int) + (21) = ((28 : Nat) : Int); decide)) <|
  zgd_d (fun d => zo_l d rfl rfl trivial) <|
  zgd_d (fun d => zo_l d rfl rfl trivial) <|
  zgd_d (fun d => zo_h d rfl ⟨rfl, Nat.le_of_ble_eq_true rfl, _, _, _, Or.inl ⟨Nat.le_of_ble_eq_true rfl, rfl⟩, Nat.le_of_ble_eq_true rfl, zw_221⟩) <|
  zgd_d (fun d => zo_l d rfl rfl trivial) <|
  zgd_d (fun d => zo_h d rfl ⟨rfl, Nat.le_of_ble_eq_true rfl, _, _, _, Or.inl ⟨Nat.le_of_ble_eq_true rfl, rfl⟩, Nat.le_of_ble_eq_true rfl, zw_230⟩) <|
  zgd_d (fun d => zo_v d rfl ⟨rfl, zd_41, zw_510, Nat.le_of_ble_eq_true rfl, ⟨_, Or.inl ⟨Nat.le_of_ble_eq_true rfl, rfl⟩, rfl⟩, zw_509, zw_511⟩) <|
  zgd_d (fun d => zo_v d rfl ⟨rfl, zd_23, zw_452, Nat.le_of_ble_eq_true rfl, ⟨_, Or.inl ⟨Nat.le_of_ble_eq_true rfl, rfl⟩, rfl⟩, zw_450, zw_10⟩) <|
  zgd_d (fun d => zo_l d rfl rfl (by show ((25 : Nat) : Int) + (5) = ((30 : Nat) : Int); decide)) <|
  zgd_d (fun d => zo_l d rfl rfl trivial) <|
  zgd_d (fun d => zo_r d rfl) <|
  zgd_d (fun d => zo_l d rfl rfl trivial) <|
  zgd_d (fun d => zo_h d rfl ⟨rfl, Nat.le_of_ble_eq_true rfl, _, _, _, Or.inl ⟨Nat.le_of_ble_eq_true rfl, rfl⟩, Nat.le_of_ble_eq_true rfl, zw_221⟩) <|
  zgd_d (fun d => zo_h d rfl ⟨rfl, Nat.le_of_ble_eq_true rfl, _, _, _, Or.inl ⟨Nat.le_of_ble_eq_true rfl, rfl⟩, Nat.le_of_ble_eq_true rfl, zw_178⟩) <|
  zgd_d (fun d => zo_l d rfl rfl trivial) <|
  zgd_d (fun d => zo_h d rfl ⟨rfl, Nat.le_of_ble_eq_true rfl, _, _, _, Or.inl ⟨Nat.le_of_ble_eq_true rfl, rfl⟩, Nat.le_of_ble_eq_true rfl, zw_230⟩) <|
  zgd_d (fun d => zo_l d rfl rfl trivial) <|
  zgd_d (fun d => zo_h d rfl ⟨rfl, Nat.le_of_ble_eq_true rfl, _, _, _, Or.inl ⟨Nat.le_of_ble_eq_true rfl, rfl⟩, Nat.le_of_ble_eq_true rfl, zw_221⟩) <|
  zgd_d (fun d => zo_v d rfl ⟨rfl, zd_32, zw_523, Nat.le_of_ble_eq_true rfl, ⟨_, Or.inl ⟨Nat.le_of_ble_eq_true rfl, rfl⟩, rfl⟩, zw_526, zw_524⟩) <|
  zgd_d (fun d => zo_v d rfl ⟨rfl, zd_75, zw_528, Nat.le_of_ble_eq_true rfl, ⟨_, Or.inl ⟨Nat.le_of_ble_eq_true rfl, rfl⟩, rfl⟩, zw_527, zw_529⟩) <|
  zgd_d (fun d => zo_l d rfl rfl trivial) <|
  zgd_d (fun d => zo_r d rfl) <|
  zgd_n)
  (z_fn)
theorem zdd_18_0 : ∀ q ∈ zc_18_0, decode prog_5_method_14_code q.1 = Except.ok (q.2.1, q.2.2.1) := zdd_of (by decide +kernel)
theorem zk_18_0 (xs : List Int32) {l : List zE} (h : ∀ q ∈ l, z_oke' (za_T xs) za_P za_M ⟨"LyndonBench$Script", "runKeep", "()Z"⟩ prog_5_method_14_code q) : ∀ q ∈ zc_18_0 ++ l, z_oke' (za_T xs) za_P za_M ⟨"LyndonBench$Script", "runKeep", "()Z"⟩ prog_5_method_14_code q :=
  zgd_y zdd_18_0 <|
  zgd_e (fun d => zo_l d rfl rfl trivial) <|
  zgd_e (fun d => zo_l d rfl rfl trivial) <|
  zgd_e (fun d => zo_l d rfl rfl trivial) <|
  zgd_e (fun d => zo_h d rfl ⟨rfl, Nat.le_of_ble_eq_true rfl, _, _, _, Or.inl ⟨Nat.le_of_ble_eq_true rfl, rfl⟩, Nat.le_of_ble_eq_true rfl, zw_221⟩) <|
  zgd_e (fun d => zo_h d rfl ⟨rfl, Nat.le_of_ble_eq_true rfl, _, _, _, Or.inl ⟨Nat.le_of_ble_eq_true rfl, rfl⟩, Nat.le_of_ble_eq_true rfl, zw_178⟩) <|
  zgd_e (fun d => zo_h d rfl ⟨rfl, Nat.le_of_ble_eq_true rfl, _, _, _, Or.inl ⟨Nat.le_of_ble_eq_true rfl, rfl⟩, Nat.le_of_ble_eq_true rfl, zw_166⟩) <|
  zgd_e (fun d => zo_l d rfl rfl trivial) <|
  zgd_e (fun d => zo_l d rfl rfl trivial) <|
  zgd_e (fun d => zo_v d rfl ⟨rfl, zd_25, zw_385, Nat.le_of_ble_eq_true rfl, ⟨_, Or.inl ⟨Nat.le_of_ble_eq_true rfl, rfl⟩, rfl⟩, zw_383, zw_1⟩) <|
  zgd_e (fun d => zo_l d rfl rfl trivial) <|
  zgd_e (fun d => zo_h d rfl ⟨rfl, Nat.le_of_ble_eq_true rfl, _, _, _, Or.inl ⟨Nat.le_of_ble_eq_true rfl, rfl⟩, Nat.le_of_ble_eq_true rfl, zw_227⟩) <|
  zgd_e (fun d => zo_l d rfl rfl trivial) <|
  zgd_e (fun d => zo_l d rfl rfl (by show ((22 : Nat) : Int) + (45) = ((67 : Nat) : Int); decide)) <|
  zgd_e (fun d => zo_l d rfl rfl trivial) <|
  zgd_e (fun d => zo_h d rfl ⟨rfl, Nat.le_of_ble_eq_true rfl, _, _, _, Or.inl ⟨Nat.le_of_ble_eq_true rfl, rfl⟩, Nat.le_of_ble_eq_true rfl, zw_221⟩) <|
  zgd_e (fun d => zo_h d rfl ⟨rfl, Nat.le_of_ble_eq_true rfl, _, _, _, Or.inl ⟨Nat.le_of_ble_eq_true rfl, rfl⟩, Nat.le_of_ble_eq_true rfl, zw_178⟩) <|
  zgd_e (fun d => zo_l d rfl rfl trivial) <|
  zgd_e (fun d => zo_h d rfl ⟨rfl, Nat.le_of_ble_eq_true rfl, _, _, _, Or.inl ⟨Nat.le_of_ble_eq_true rfl, rfl⟩, Nat.le_of_ble_eq_true rfl, zw_230⟩) <|
  zgd_e (fun d => zo_v d rfl ⟨rfl, zd_63, zw_536, Nat.le_of_ble_eq_true rfl, ⟨_, Or.inl ⟨Nat.le_of_ble_eq_true rfl, rfl⟩, rfl⟩, zw_535, zw_537⟩) <|
  zgd_e (fun d => zo_l d rfl rfl trivial) <|
  zgd_e (fun d => zo_l d rfl rfl trivial) <|
  zgd_e (fun d => zo_l d rfl rfl trivial) <|
  zgd_e (fun d => zo_l d rfl rfl (by show ((42 : Nat) : Int) + (9) = ((51 : Nat) : Int); decide)) <|
  zgd_e (fun d => zo_l d rfl rfl trivial) <|
  zgd_e (fun d => zo_l d rfl rfl trivial) <|
  zgd_e (fun d => zo_v d rfl ⟨rfl, zd_24, zw_402, Nat.le_of_ble_eq_true rfl, ⟨_, Or.inl ⟨Nat.le_of_ble_eq_true rfl, rfl⟩, rfl⟩, zw_400, zw_3⟩) <|
  zgd_e (fun d => zo_r d rfl) <|
  zgd_e (fun d => zo_l d rfl rfl trivial) <|
  zgd_e (fun d => zo_h d rfl ⟨rfl, Nat.le_of_ble_eq_true rfl, _, _, _, Or.inl ⟨Nat.le_of_ble_eq_true rfl, rfl⟩, Nat.le_of_ble_eq_true rfl, zw_221⟩) <|
  zgd_e (fun d => zo_h d rfl ⟨rfl, Nat.le_of_ble_eq_true rfl, _, _, _, Or.inl ⟨Nat.le_of_ble_eq_true rfl, rfl⟩, Nat.le_of_ble_eq_true rfl, zw_178⟩) <|
  zgd_e (fun d => zo_l d rfl rfl trivial) <|
  zgd_e (fun d => zo_v d rfl ⟨rfl, zd_59, zw_518, Nat.le_of_ble_eq_true rfl, ⟨_, Or.inl ⟨Nat.le_of_ble_eq_true rfl, rfl⟩, rfl⟩, zw_547, zw_519⟩) <|
  zgd_e (fun d => zo_l d rfl rfl trivial) <|
  zgd_e (fun d => zo_l d rfl rfl trivial) <|
  zgd_e (fun d => zo_v d rfl ⟨rfl, zd_25, zw_385, Nat.le_of_ble_eq_true rfl, ⟨_, Or.inl ⟨Nat.le_of_ble_eq_true rfl, rfl⟩, rfl⟩, zw_383, zw_1⟩) <|
  zgd_e (fun d => zo_l d rfl rfl trivial) <|
  zgd_e (fun d => zo_h d rfl ⟨rfl, Nat.le_of_ble_eq_true rfl, _, _, _, Or.inl ⟨Nat.le_of_ble_eq_true rfl, rfl⟩, Nat.le_of_ble_eq_true rfl, zw_227⟩) <|
  zgd_e (fun d => zo_l d rfl rfl trivial) <|
  zgd_e (fun d => zo_l d rfl rfl (by show ((72 : Nat) : Int) + (9) = ((81 : Nat) : Int); decide)) <|
  zgd_e (fun d => zo_l d rfl rfl trivial) <|
  zgd_m h
theorem zdd_18_1 : ∀ q ∈ zc_18_1, decode prog_5_method_14_code q.1 = Except.ok (q.2.1, q.2.2.1) := zdd_of (by decide +kernel)
theorem zk_18_1 (xs : List Int32) {l : List zE} (h : ∀ q ∈ l, z_oke' (za_T xs) za_P za_M ⟨"LyndonBench$Script", "runKeep", "()Z"⟩ prog_5_method_14_code q) : ∀ q ∈ zc_18_1 ++ l, z_oke' (za_T xs) za_P za_M ⟨"LyndonBench$Script", "runKeep", "()Z"⟩ prog_5_method_14_code q :=
  zgd_y zdd_18_1 <|
  zgd_e (fun d => zo_l d rfl rfl trivial) <|
  zgd_e (fun d => zo_v d rfl ⟨rfl, zd_24, zw_402, Nat.le_of_ble_eq_true rfl, ⟨_, Or.inl ⟨Nat.le_of_ble_eq_true rfl, rfl⟩, rfl⟩, zw_400, zw_3⟩) <|
  zgd_e (fun d => zo_r d rfl) <|
  zgd_e (fun d => zo_l d rfl rfl trivial) <|
  zgd_e (fun d => zo_h d rfl ⟨rfl, Nat.le_of_ble_eq_true rfl, _, _, _, Or.inl ⟨Nat.le_of_ble_eq_true rfl, rfl⟩, Nat.le_of_ble_eq_true rfl, zw_221⟩) <|
  zgd_e (fun d => zo_l d rfl rfl trivial) <|
  zgd_e (fun d => zo_l d rfl rfl trivial) <|
  zgd_e (fun d => zo_l d rfl rfl trivial) <|
  zgd_e (fun d => zo_v d rfl ⟨rfl, zd_35, zw_549, Nat.le_of_ble_eq_true rfl, ⟨_, Or.inl ⟨Nat.le_of_ble_eq_true rfl, rfl⟩, rfl⟩, zw_548, zw_550⟩) <|
  zgd_e (fun d => zo_l d rfl rfl (by show ((91 : Nat) : Int) + (9) = ((100 : Nat) : Int); decide)) <|
  zgd_e (fun d => zo_l d rfl rfl trivial) <|
  zgd_e (fun d => zo_l d rfl rfl trivial) <|
  zgd_e (fun d => zo_v d rfl ⟨rfl, zd_24, zw_402, Nat.le_of_ble_eq_true rfl, ⟨_, Or.inl ⟨Nat.le_of_ble_eq_true rfl, rfl⟩, rfl⟩, zw_400, zw_3⟩) <|
  zgd_e (fun d => zo_r d rfl) <|
  zgd_e (fun d => zo_l d rfl rfl trivial) <|
  zgd_e (fun d => zo_h d rfl ⟨rfl, Nat.le_of_ble_eq_true rfl, _, _, _, Or.inl ⟨Nat.le_of_ble_eq_true rfl, rfl⟩, Nat.le_of_ble_eq_true rfl, zw_221⟩) <|
  zgd_e (fun d => zo_l d rfl rfl trivial) <|
  zgd_e (fun d => zo_h d rfl ⟨rfl, Nat.le_of_ble_eq_true rfl, _, _, _, Or.inl ⟨Nat.le_of_ble_eq_true rfl, rfl⟩, Nat.le_of_ble_eq_true rfl, zw_221⟩) <|
  zgd_e (fun d => zo_h d rfl ⟨rfl, Nat.le_of_ble_eq_true rfl, _, _, _, Or.inl ⟨Nat.le_of_ble_eq_true rfl, rfl⟩, Nat.le_of_ble_eq_true rfl, zw_178⟩) <|
  zgd_e (fun d => zo_l d rfl rfl trivial) <|
  zgd_e (fun d => zo_l d rfl rfl trivial) <|
  zgd_e (fun d => zo_v d rfl ⟨rfl, zd_36, zw_330, Nat.le_of_ble_eq_true rfl, ⟨_, Or.inl ⟨Nat.le_of_ble_eq_true rfl, rfl⟩, rfl⟩, zw_552, zw_331⟩) <|
  zgd_e (fun d => zo_l d rfl rfl trivial) <|
  zgd_e (fun d => zo_r d rfl) <|
  zgd_m h
theorem zk_18 (xs : List Int32) : z_okm (za_T xs) za_P za_M 18 := z_okm_of ⟨"LyndonBench$Script", "runKeep", "()Z"⟩ prog_5_method_14_code zc_18 _ rfl rfl rfl rfl
  (zk_18_0 xs <|
  zk_18_1 xs <|
  z_fn)
  (z_fn)
theorem zdd_19 : ∀ q ∈ zc_19, decode prog_5_method_15_code q.1 = Except.ok (q.2.1, q.2.2.1) := zdd_of (by decide +kernel)
theorem zk_19 (xs : List Int32) : z_okm (za_T xs) za_P za_M 19 := z_okm_of ⟨"LyndonBench$Script", "runRemove", "()Z"⟩ prog_5_method_15_code zc_19 _ rfl rfl rfl rfl
  (zgd_x zdd_19 <|
  zgd_d (fun d => zo_l d rfl rfl trivial) <|
  zgd_d (fun d => zo_l d rfl rfl trivial) <|
  zgd_d (fun d => zo_l d rfl rfl trivial) <|
  zgd_d (fun d => zo_h d rfl ⟨rfl, Nat.le_of_ble_eq_true rfl, _, _, _, Or.inl ⟨Nat.le_of_ble_eq_true rfl, rfl⟩, Nat.le_of_ble_eq_true rfl, zw_221⟩) <|
  zgd_d (fun d => zo_h d rfl ⟨rfl, Nat.le_of_ble_eq_true rfl, _, _, _, Or.inl ⟨Nat.le_of_ble_eq_true rfl, rfl⟩, Nat.le_of_ble_eq_true rfl, zw_182⟩) <|
  zgd_d (fun d => zo_l d rfl rfl trivial) <|
  zgd_d (fun d => zo_l d rfl rfl trivial) <|
  zgd_d (fun d => zo_v d rfl ⟨rfl, zd_22, zw_406, Nat.le_of_ble_eq_true rfl, ⟨_, Or.inl ⟨Nat.le_of_ble_eq_true rfl, rfl⟩, rfl⟩, zw_404, zw_4⟩) <|
  zgd_d (fun d => zo_l d rfl rfl (by show ((14 : Nat) : Int) + (11) = ((25 : Nat) : Int); decide)) <|
  zgd_d (fun d => zo_l d rfl rfl trivial) <|
  zgd_d (fun d => zo_l d rfl rfl trivial) <|
  zgd_d (fun d => zo_v d rfl ⟨rfl, zd_21, zw_410, Nat.le_of_ble_eq_true rfl, ⟨_, Or.inl ⟨Nat.le_of_ble_eq_true rfl, rfl⟩, rfl⟩, zw_408, zw_5⟩) <|
  zgd_d (fun d => zo_l d rfl rfl (by show ((22 : Nat) : Int) + (5) = ((27 : Nat) : Int); decide)) <|
  zgd_d (fun d => zo_l d rfl rfl trivial) <|
  zgd_d (fun d => zo_r d rfl) <|
  zgd_d (fun d => zo_l d rfl rfl trivial) <|
  zgd_d (fun d => zo_h d rfl ⟨rfl, Nat.le_of_ble_eq_true rfl, _, _, _, Or.inl ⟨Nat.le_of_ble_eq_true rfl, rfl⟩, Nat.le_of_ble_eq_true rfl, zw_221⟩) <|
  zgd_d (fun d => zo_l d rfl rfl trivial) <|
  zgd_d (fun d => zo_h d rfl ⟨rfl, Nat.le_of_ble_eq_true rfl, _, _, _, Or.inl ⟨Nat.le_of_ble_eq_true rfl, rfl⟩, Nat.le_of_ble_eq_true rfl, zw_230⟩) <|
  zgd_d (fun d => zo_v d rfl ⟨rfl, zd_37, zw_558, Nat.le_of_ble_eq_true rfl, ⟨_, Or.inl ⟨Nat.le_of_ble_eq_true rfl, rfl⟩, rfl⟩, zw_557, zw_559⟩) <|
  zgd_d (fun d => zo_l d rfl rfl trivial) <|
  zgd_d (fun d => zo_r d rfl) <|
  zgd_n)
  (z_fn)
theorem zdd_20 : ∀ q ∈ zc_20, decode prog_5_method_16_code q.1 = Except.ok (q.2.1, q.2.2.1) := zdd_of (by decide +kernel)
theorem zk_20 (xs : List Int32) : z_okm (za_T xs) za_P za_M 20 := z_okm_of ⟨"LyndonBench$Script", "runJoin", "()Z"⟩ prog_5_method_16_code zc_20 _ rfl rfl rfl rfl
  (zgd_x zdd_20 <|
  zgd_d (fun d => zo_l d rfl rfl trivial) <|
  zgd_d (fun d => zo_l d rfl rfl trivial) <|
  zgd_d (fun d => zo_h d rfl ⟨rfl, Nat.le_of_ble_eq_true rfl, _, _, _, Or.inl ⟨Nat.le_of_ble_eq_true rfl, rfl⟩, Nat.le_of_ble_eq_true rfl, zw_221⟩) <|
  zgd_d (fun d => zo_v d rfl ⟨rfl, zd_39, zw_576, Nat.le_of_ble_eq_true rfl, ⟨_, Or.inl ⟨Nat.le_of_ble_eq_true rfl, rfl⟩, rfl⟩, zw_575, zw_577⟩) <|
  zgd_d (fun d => zo_v d rfl ⟨rfl, zd_23, zw_452, Nat.le_of_ble_eq_true rfl, ⟨_, Or.inl ⟨Nat.le_of_ble_eq_true rfl, rfl⟩, rfl⟩, zw_450, zw_10⟩) <|
  zgd_d (fun d => zo_l d rfl rfl (by show ((11 : Nat) : Int) + (5) = ((16 : Nat) : Int); decide)) <|
  zgd_d (fun d => zo_l d rfl rfl trivial) <|
  zgd_d (fun d => zo_r d rfl) <|
  zgd_d (fun d => zo_l d rfl rfl trivial) <|
  zgd_d (fun d => zo_h d rfl ⟨rfl, Nat.le_of_ble_eq_true rfl, _, _, _, Or.inl ⟨Nat.le_of_ble_eq_true rfl, rfl⟩, Nat.le_of_ble_eq_true rfl, zw_221⟩) <|
  zgd_d (fun d => zo_v d rfl ⟨rfl, zd_40, zw_580, Nat.le_of_ble_eq_true rfl, ⟨_, Or.inl ⟨Nat.le_of_ble_eq_true rfl, rfl⟩, rfl⟩, zw_579, zw_581⟩) <|
  zgd_d (fun d => zo_l d rfl rfl trivial) <|
  zgd_d (fun d => zo_r d rfl) <|
  zgd_n)
  (z_fn)
theorem zdd_21 : ∀ q ∈ zc_21, decode prog_5_method_17_code q.1 = Except.ok (q.2.1, q.2.2.1) := zdd_of (by decide +kernel)
theorem zk_21 (xs : List Int32) : z_okm (za_T xs) za_P za_M 21 := z_okm_of ⟨"LyndonBench$Script", "expect", "(I)Z"⟩ prog_5_method_17_code zc_21 _ rfl rfl rfl rfl
  (zgd_x zdd_21 <|
  zgd_d (fun d => zo_l d rfl rfl trivial) <|
  zgd_d (fun d => zo_v d rfl ⟨rfl, zd_25, zw_385, Nat.le_of_ble_eq_true rfl, ⟨_, Or.inl ⟨Nat.le_of_ble_eq_true rfl, rfl⟩, rfl⟩, zw_383, zw_1⟩) <|
  zgd_d (fun d => zo_l d rfl rfl trivial) <|
  zgd_d (fun d => zo_h d rfl ⟨rfl, Nat.le_of_ble_eq_true rfl, _, _, _, Or.inl ⟨Nat.le_of_ble_eq_true rfl, rfl⟩, Nat.le_of_ble_eq_true rfl, zw_227⟩) <|
  zgd_d (fun d => zo_l d rfl rfl trivial) <|
  zgd_d (fun d => zo_l d rfl rfl (by show ((9 : Nat) : Int) + (11) = ((20 : Nat) : Int); decide)) <|
  zgd_d (fun d => zo_l d rfl rfl trivial) <|
  zgd_d (fun d => zo_l d rfl rfl trivial) <|
  zgd_d (fun d => zo_v d rfl ⟨rfl, zd_24, zw_402, Nat.le_of_ble_eq_true rfl, ⟨_, Or.inl ⟨Nat.le_of_ble_eq_true rfl, rfl⟩, rfl⟩, zw_400, zw_3⟩) <|
  zgd_d (fun d => zo_l d rfl rfl (by show ((17 : Nat) : Int) + (7) = ((24 : Nat) : Int); decide)) <|
  zgd_d (fun d => zo_l d rfl rfl trivial) <|
  zgd_d (fun d => zo_l d rfl rfl (by show ((21 : Nat) : Int) + (4) = ((25 : Nat) : Int); decide)) <|
  zgd_d (fun d => zo_l d rfl rfl trivial) <|
  zgd_d (fun d => zo_r d rfl) <|
  zgd_n)
  (z_fn)
theorem zdd_22 : ∀ q ∈ zc_22, decode prog_5_method_18_code q.1 = Except.ok (q.2.1, q.2.2.1) := zdd_of (by decide +kernel)
theorem zk_22 (xs : List Int32) : z_okm (za_T xs) za_P za_M 22 := z_okm_of ⟨"LyndonBench$Script", "expectNumber", "(II)Z"⟩ prog_5_method_18_code zc_22 _ rfl rfl rfl rfl
  (zgd_x zdd_22 <|
  zgd_d (fun d => zo_l d rfl rfl trivial) <|
  zgd_d (fun d => zo_v d rfl ⟨rfl, zd_25, zw_385, Nat.le_of_ble_eq_true rfl, ⟨_, Or.inl ⟨Nat.le_of_ble_eq_true rfl, rfl⟩, rfl⟩, zw_383, zw_1⟩) <|
  zgd_d (fun d => zo_l d rfl rfl trivial) <|
  zgd_d (fun d => zo_h d rfl ⟨rfl, Nat.le_of_ble_eq_true rfl, _, _, _, Or.inl ⟨Nat.le_of_ble_eq_true rfl, rfl⟩, Nat.le_of_ble_eq_true rfl, zw_227⟩) <|
  zgd_d (fun d => zo_l d rfl rfl trivial) <|
  zgd_d (fun d => zo_l d rfl rfl (by show ((9 : Nat) : Int) + (9) = ((18 : Nat) : Int); decide)) <|
  zgd_d (fun d => zo_l d rfl rfl trivial) <|
  zgd_d (fun d => zo_l d rfl rfl trivial) <|
  zgd_d (fun d => zo_v d rfl ⟨rfl, zd_24, zw_402, Nat.le_of_ble_eq_true rfl, ⟨_, Or.inl ⟨Nat.le_of_ble_eq_true rfl, rfl⟩, rfl⟩, zw_400, zw_3⟩) <|
  zgd_d (fun d => zo_r d rfl) <|
  zgd_d (fun d => zo_l d rfl rfl trivial) <|
  zgd_d (fun d => zo_h d rfl ⟨rfl, Nat.le_of_ble_eq_true rfl, _, _, _, Or.inl ⟨Nat.le_of_ble_eq_true rfl, rfl⟩, Nat.le_of_ble_eq_true rfl, zw_230⟩) <|
  zgd_d (fun d => zo_l d rfl rfl trivial) <|
  zgd_d (fun d => zo_l d rfl rfl (by show ((23 : Nat) : Int) + (11) = ((34 : Nat) : Int); decide)) <|
  zgd_d (fun d => zo_l d rfl rfl trivial) <|
  zgd_d (fun d => zo_h d rfl ⟨rfl, Nat.le_of_ble_eq_true rfl, _, _, _, Or.inl ⟨Nat.le_of_ble_eq_true rfl, rfl⟩, Nat.le_of_ble_eq_true rfl, zw_230⟩) <|
  zgd_d (fun d => zo_l d rfl rfl trivial) <|
  zgd_d (fun d => zo_l d rfl rfl (by show ((31 : Nat) : Int) + (11) = ((42 : Nat) : Int); decide)) <|
  zgd_d (fun d => zo_l d rfl rfl trivial) <|
  zgd_d (fun d => zo_l d rfl rfl trivial) <|
  zgd_d (fun d => zo_v d rfl ⟨rfl, zd_24, zw_402, Nat.le_of_ble_eq_true rfl, ⟨_, Or.inl ⟨Nat.le_of_ble_eq_true rfl, rfl⟩, rfl⟩, zw_400, zw_3⟩) <|
  zgd_d (fun d => zo_l d rfl rfl (by show ((39 : Nat) : Int) + (7) = ((46 : Nat) : Int); decide)) <|
  zgd_d (fun d => zo_l d rfl rfl trivial) <|
  zgd_d (fun d => zo_l d rfl rfl (by show ((43 : Nat) : Int) + (4) = ((47 : Nat) : Int); decide)) <|
  zgd_d (fun d => zo_l d rfl rfl trivial) <|
  zgd_d (fun d => zo_r d rfl) <|
  zgd_n)
  (z_fn)
theorem zdd_23 : ∀ q ∈ zc_23, decode prog_5_method_19_code q.1 = Except.ok (q.2.1, q.2.2.1) := zdd_of (by decide +kernel)
theorem zk_23 (xs : List Int32) : z_okm (za_T xs) za_P za_M 23 := z_okm_of ⟨"LyndonBench$Script", "expectEnd", "(Z)Z"⟩ prog_5_method_19_code zc_23 _ rfl rfl rfl rfl
  (zgd_x zdd_23 <|
  zgd_d (fun d => zo_l d rfl rfl trivial) <|
  zgd_d (fun d => zo_v d rfl ⟨rfl, zd_25, zw_385, Nat.le_of_ble_eq_true rfl, ⟨_, Or.inl ⟨Nat.le_of_ble_eq_true rfl, rfl⟩, rfl⟩, zw_383, zw_1⟩) <|
  zgd_d (fun d => zo_l d rfl rfl trivial) <|
  zgd_d (fun d => zo_h d rfl ⟨rfl, Nat.le_of_ble_eq_true rfl, _, _, _, Or.inl ⟨Nat.le_of_ble_eq_true rfl, rfl⟩, Nat.le_of_ble_eq_true rfl, zw_227⟩) <|
  zgd_d (fun d => zo_l d rfl rfl trivial) <|
  zgd_d (fun d => zo_l d rfl rfl (by show ((9 : Nat) : Int) + (9) = ((18 : Nat) : Int); decide)) <|
  zgd_d (fun d => zo_l d rfl rfl trivial) <|
  zgd_d (fun d => zo_l d rfl rfl trivial) <|
  zgd_d (fun d => zo_v d rfl ⟨rfl, zd_24, zw_402, Nat.le_of_ble_eq_true rfl, ⟨_, Or.inl ⟨Nat.le_of_ble_eq_true rfl, rfl⟩, rfl⟩, zw_400, zw_3⟩) <|
  zgd_d (fun d => zo_r d rfl) <|
  zgd_d (fun d => zo_l d rfl rfl trivial) <|
  zgd_d (fun d => zo_l d rfl rfl (by show ((19 : Nat) : Int) + (11) = ((30 : Nat) : Int); decide)) <|
  zgd_d (fun d => zo_l d rfl rfl trivial) <|
  zgd_d (fun d => zo_l d rfl rfl trivial) <|
  zgd_d (fun d => zo_v d rfl ⟨rfl, zd_24, zw_402, Nat.le_of_ble_eq_true rfl, ⟨_, Or.inl ⟨Nat.le_of_ble_eq_true rfl, rfl⟩, rfl⟩, zw_400, zw_3⟩) <|
  zgd_d (fun d => zo_l d rfl rfl (by show ((27 : Nat) : Int) + (7) = ((34 : Nat) : Int); decide)) <|
  zgd_d (fun d => zo_l d rfl rfl trivial) <|
  zgd_d (fun d => zo_l d rfl rfl (by show ((31 : Nat) : Int) + (4) = ((35 : Nat) : Int); decide)) <|
  zgd_d (fun d => zo_l d rfl rfl trivial) <|
  zgd_d (fun d => zo_r d rfl) <|
  zgd_n)
  (z_fn)
theorem zdd_24 : ∀ q ∈ zc_24, decode prog_5_method_20_code q.1 = Except.ok (q.2.1, q.2.2.1) := zdd_of (by decide +kernel)
theorem zk_24 (xs : List Int32) : z_okm (za_T xs) za_P za_M 24 := z_okm_of ⟨"LyndonBench$Script", "fail", "(I)Z"⟩ prog_5_method_20_code zc_24 _ rfl rfl rfl rfl
  (zgd_x zdd_24 <|
  zgd_d (fun d => zo_l d rfl rfl trivial) <|
  zgd_d (fun d => zo_l d rfl rfl trivial) <|
  zgd_d (fun d => zo_h d rfl ⟨rfl, Nat.le_of_ble_eq_true rfl, _, _, _, rfl, Nat.le_of_ble_eq_true rfl, zw_223, Or.inl rfl⟩) <|
  zgd_d (fun d => zo_l d rfl rfl trivial) <|
  zgd_d (fun d => zo_l d rfl rfl trivial) <|
  zgd_d (fun d => zo_h d rfl ⟨rfl, Nat.le_of_ble_eq_true rfl, _, _, _, Or.inl ⟨Nat.le_of_ble_eq_true rfl, rfl⟩, Nat.le_of_ble_eq_true rfl, zw_228⟩) <|
  zgd_d (fun d => zo_h d rfl ⟨rfl, Nat.le_of_ble_eq_true rfl, _, _, _, rfl, Nat.le_of_ble_eq_true rfl, zw_225, Or.inl rfl⟩) <|
  zgd_d (fun d => zo_l d rfl rfl trivial) <|
  zgd_d (fun d => zo_r d rfl) <|
  zgd_n)
  (z_fn)
theorem zdd_25_0 : ∀ q ∈ zc_25_0, decode prog_5_method_21_code q.1 = Except.ok (q.2.1, q.2.2.1) := zdd_of (by decide +kernel)
theorem zk_25_0 (xs : List Int32) {l : List zE} (h : ∀ q ∈ l, z_oke' (za_T xs) za_P za_M ⟨"LyndonBench$Script", "readToken", "()V"⟩ prog_5_method_21_code q) : ∀ q ∈ zc_25_0 ++ l, z_oke' (za_T xs) za_P za_M ⟨"LyndonBench$Script", "readToken", "()V"⟩ prog_5_method_21_code q :=
  zgd_y zdd_25_0 <|
  zgd_e (fun d => zo_l d rfl rfl trivial) <|
  zgd_e (fun d => zo_h d rfl ⟨rfl, Nat.le_of_ble_eq_true rfl, _, _, _, Or.inl ⟨Nat.le_of_ble_eq_true rfl, rfl⟩, Nat.le_of_ble_eq_true rfl, zw_229⟩) <|
  zgd_e (fun d => zo_l d rfl rfl trivial) <|
  zgd_e (fun d => zo_h d rfl ⟨rfl, Nat.le_of_ble_eq_true rfl, _, _, _, Or.inl ⟨Nat.le_of_ble_eq_true rfl, rfl⟩, Nat.le_of_ble_eq_true rfl, zw_219⟩) <|
  zgd_e (fun d => zo_h d rfl ⟨rfl, Nat.le_of_ble_eq_true rfl, _, _, _, Or.inl ⟨Nat.le_of_ble_eq_true rfl, rfl⟩, Nat.le_of_ble_eq_true rfl, zw_166⟩) <|
  zgd_e (fun d => zo_l d rfl rfl (by show ((11 : Nat) : Int) + (35) = ((46 : Nat) : Int); decide)) <|
  zgd_e (fun d => zo_l d rfl rfl trivial) <|
  zgd_e (fun d => zo_h d rfl ⟨rfl, Nat.le_of_ble_eq_true rfl, _, _, _, Or.inl ⟨Nat.le_of_ble_eq_true rfl, rfl⟩, Nat.le_of_ble_eq_true rfl, zw_219⟩) <|
  zgd_e (fun d => zo_l d rfl rfl trivial) <|
  zgd_e (fun d => zo_h d rfl ⟨rfl, Nat.le_of_ble_eq_true rfl, _, _, _, Or.inl ⟨Nat.le_of_ble_eq_true rfl, rfl⟩, Nat.le_of_ble_eq_true rfl, zw_229⟩) <|
  zgd_e (fun d => zo_v d rfl ⟨rfl, zd_43, zw_338, Nat.le_of_ble_eq_true rfl, ⟨_, Or.inl ⟨Nat.le_of_ble_eq_true rfl, rfl⟩, rfl⟩, zw_387, zw_339⟩) <|
  zgd_e (fun d => zo_s d rfl ⟨zd_27, zw_388, zw_389⟩) <|
  zgd_e (fun d => zo_l d rfl rfl trivial) <|
  zgd_e (fun d => zo_l d rfl rfl (by show ((30 : Nat) : Int) + (16) = ((46 : Nat) : Int); decide)) <|
  zgd_e (fun d => zo_l d rfl rfl trivial) <|
  zgd_e (fun d => zo_l d rfl rfl trivial) <|
  zgd_e (fun d => zo_h d rfl ⟨rfl, Nat.le_of_ble_eq_true rfl, _, _, _, Or.inl ⟨Nat.le_of_ble_eq_true rfl, rfl⟩, Nat.le_of_ble_eq_true rfl, zw_229⟩) <|
  zgd_e (fun d => zo_l d rfl rfl trivial) <|
  zgd_e (fun d => zo_l d rfl rfl trivial) <|
  zgd_e (fun d => zo_h d rfl ⟨rfl, Nat.le_of_ble_eq_true rfl, _, _, _, rfl, Nat.le_of_ble_eq_true rfl, zw_229, Or.inl rfl⟩) <|
  zgd_e (fun d => zo_l d rfl rfl (by show ((43 : Nat) : Int) + (-43) = ((0 : Nat) : Int); decide)) <|
  zgd_e (fun d => zo_l d rfl rfl trivial) <|
  zgd_e (fun d => zo_l d rfl rfl trivial) <|
  zgd_e (fun d => zo_h d rfl ⟨rfl, Nat.le_of_ble_eq_true rfl, _, _, _, Or.inl ⟨Nat.le_of_ble_eq_true rfl, rfl⟩, Nat.le_of_ble_eq_true rfl, zw_229⟩) <|
  zgd_e (fun d => zo_h d rfl ⟨rfl, Nat.le_of_ble_eq_true rfl, _, _, _, rfl, Nat.le_of_ble_eq_true rfl, zw_228, Or.inl rfl⟩) <|
  zgd_e (fun d => zo_l d rfl rfl trivial) <|
  zgd_e (fun d => zo_l d rfl rfl trivial) <|
  zgd_e (fun d => zo_h d rfl ⟨rfl, Nat.le_of_ble_eq_true rfl, _, _, _, Or.inl ⟨Nat.le_of_ble_eq_true rfl, rfl⟩, Nat.le_of_ble_eq_true rfl, zw_219⟩) <|
  zgd_e (fun d => zo_l d rfl rfl trivial) <|
  zgd_e (fun d => zo_h d rfl ⟨rfl, Nat.le_of_ble_eq_true rfl, _, _, _, Or.inl ⟨Nat.le_of_ble_eq_true rfl, rfl⟩, Nat.le_of_ble_eq_true rfl, zw_229⟩) <|
  zgd_e (fun d => zo_v d rfl ⟨rfl, zd_43, zw_338, Nat.le_of_ble_eq_true rfl, ⟨_, Or.inl ⟨Nat.le_of_ble_eq_true rfl, rfl⟩, rfl⟩, zw_387, zw_339⟩) <|
  zgd_e (fun d => zo_s d rfl ⟨zd_27, zw_388, zw_389⟩) <|
  zgd_e (fun d => zo_h d rfl ⟨rfl, Nat.le_of_ble_eq_true rfl, _, _, _, rfl, Nat.le_of_ble_eq_true rfl, zw_227, Or.inl rfl⟩) <|
  zgd_e (fun d => zo_l d rfl rfl trivial) <|
  zgd_e (fun d => zo_h d rfl ⟨rfl, Nat.le_of_ble_eq_true rfl, _, _, _, Or.inl ⟨Nat.le_of_ble_eq_true rfl, rfl⟩, Nat.le_of_ble_eq_true rfl, zw_227⟩) <|
  zgd_e (fun d => zo_l d rfl rfl (by show ((76 : Nat) : Int) + (13) = ((89 : Nat) : Int); decide)) <|
  zgd_e (fun d => zo_l d rfl rfl trivial) <|
  zgd_e (fun d => zo_l d rfl rfl trivial) <|
  zgd_e (fun d => zo_h d rfl ⟨rfl, Nat.le_of_ble_eq_true rfl, _, _, _, Or.inl ⟨Nat.le_of_ble_eq_true rfl, rfl⟩, Nat.le_of_ble_eq_true rfl, zw_229⟩) <|
  zgd_e (fun d => zo_l d rfl rfl trivial) <|
  zgd_m h
theorem zdd_25_1 : ∀ q ∈ zc_25_1, decode prog_5_method_21_code q.1 = Except.ok (q.2.1, q.2.2.1) := zdd_of (by decide +kernel)
theorem zk_25_1 (xs : List Int32) {l : List zE} (h : ∀ q ∈ l, z_oke' (za_T xs) za_P za_M ⟨"LyndonBench$Script", "readToken", "()V"⟩ prog_5_method_21_code q) : ∀ q ∈ zc_25_1 ++ l, z_oke' (za_T xs) za_P za_M ⟨"LyndonBench$Script", "readToken", "()V"⟩ prog_5_method_21_code q :=
  zgd_y zdd_25_1 <|
  zgd_e (fun d => zo_l d rfl rfl trivial) <|
  zgd_e (fun d => zo_h d rfl ⟨rfl, Nat.le_of_ble_eq_true rfl, _, _, _, rfl, Nat.le_of_ble_eq_true rfl, zw_229, Or.inl rfl⟩) <|
  zgd_e (fun d => zo_l d rfl rfl trivial) <|
  zgd_e (fun d => zo_h d rfl ⟨rfl, Nat.le_of_ble_eq_true rfl, _, _, _, Or.inl ⟨Nat.le_of_ble_eq_true rfl, rfl⟩, Nat.le_of_ble_eq_true rfl, zw_227⟩) <|
  zgd_e (fun d => zo_l d rfl rfl trivial) <|
  zgd_e (fun d => zo_l d rfl rfl (by show ((94 : Nat) : Int) + (11) = ((105 : Nat) : Int); decide)) <|
  zgd_e (fun d => zo_l d rfl rfl trivial) <|
  zgd_e (fun d => zo_h d rfl ⟨rfl, Nat.le_of_ble_eq_true rfl, _, _, _, Or.inl ⟨Nat.le_of_ble_eq_true rfl, rfl⟩, Nat.le_of_ble_eq_true rfl, zw_227⟩) <|
  zgd_e (fun d => zo_l d rfl rfl trivial) <|
  zgd_e (fun d => zo_l d rfl rfl (by show ((102 : Nat) : Int) + (51) = ((153 : Nat) : Int); decide)) <|
  zgd_e (fun d => zo_l d rfl rfl trivial) <|
  zgd_e (fun d => zo_h d rfl ⟨rfl, Nat.le_of_ble_eq_true rfl, _, _, _, Or.inl ⟨Nat.le_of_ble_eq_true rfl, rfl⟩, Nat.le_of_ble_eq_true rfl, zw_229⟩) <|
  zgd_e (fun d => zo_l d rfl rfl trivial) <|
  zgd_e (fun d => zo_h d rfl ⟨rfl, Nat.le_of_ble_eq_true rfl, _, _, _, Or.inl ⟨Nat.le_of_ble_eq_true rfl, rfl⟩, Nat.le_of_ble_eq_true rfl, zw_219⟩) <|
  zgd_e (fun d => zo_h d rfl ⟨rfl, Nat.le_of_ble_eq_true rfl, _, _, _, Or.inl ⟨Nat.le_of_ble_eq_true rfl, rfl⟩, Nat.le_of_ble_eq_true rfl, zw_166⟩) <|
  zgd_e (fun d => zo_l d rfl rfl (by show ((116 : Nat) : Int) + (37) = ((153 : Nat) : Int); decide)) <|
  zgd_e (fun d => zo_l d rfl rfl trivial) <|
  zgd_e (fun d => zo_h d rfl ⟨rfl, Nat.le_of_ble_eq_true rfl, _, _, _, Or.inl ⟨Nat.le_of_ble_eq_true rfl, rfl⟩, Nat.le_of_ble_eq_true rfl, zw_219⟩) <|
  zgd_e (fun d => zo_l d rfl rfl trivial) <|
  zgd_e (fun d => zo_h d rfl ⟨rfl, Nat.le_of_ble_eq_true rfl, _, _, _, Or.inl ⟨Nat.le_of_ble_eq_true rfl, rfl⟩, Nat.le_of_ble_eq_true rfl, zw_229⟩) <|
  zgd_e (fun d => zo_v d rfl ⟨rfl, zd_43, zw_338, Nat.le_of_ble_eq_true rfl, ⟨_, Or.inl ⟨Nat.le_of_ble_eq_true rfl, rfl⟩, rfl⟩, zw_387, zw_339⟩) <|
  zgd_e (fun d => zo_s d rfl ⟨zd_27, zw_388, zw_389⟩) <|
  zgd_e (fun d => zo_l d rfl rfl trivial) <|
  zgd_e (fun d => zo_h d rfl ⟨rfl, Nat.le_of_ble_eq_true rfl, _, _, _, Or.inl ⟨Nat.le_of_ble_eq_true rfl, rfl⟩, Nat.le_of_ble_eq_true rfl, zw_227⟩) <|
  zgd_e (fun d => zo_l d rfl rfl (by show ((137 : Nat) : Int) + (16) = ((153 : Nat) : Int); decide)) <|
  zgd_e (fun d => zo_l d rfl rfl trivial) <|
  zgd_e (fun d => zo_l d rfl rfl trivial) <|
  zgd_e (fun d => zo_h d rfl ⟨rfl, Nat.le_of_ble_eq_true rfl, _, _, _, Or.inl ⟨Nat.le_of_ble_eq_true rfl, rfl⟩, Nat.le_of_ble_eq_true rfl, zw_229⟩) <|
  zgd_e (fun d => zo_l d rfl rfl trivial) <|
  zgd_e (fun d => zo_l d rfl rfl trivial) <|
  zgd_e (fun d => zo_h d rfl ⟨rfl, Nat.le_of_ble_eq_true rfl, _, _, _, rfl, Nat.le_of_ble_eq_true rfl, zw_229, Or.inl rfl⟩) <|
  zgd_e (fun d => zo_l d rfl rfl (by show ((150 : Nat) : Int) + (-45) = ((105 : Nat) : Int); decide)) <|
  zgd_e (fun d => zo_l d rfl rfl trivial) <|
  zgd_e (fun d => zo_h d rfl ⟨rfl, Nat.le_of_ble_eq_true rfl, _, _, _, Or.inl ⟨Nat.le_of_ble_eq_true rfl, rfl⟩, Nat.le_of_ble_eq_true rfl, zw_227⟩) <|
  zgd_e (fun d => zo_l d rfl rfl trivial) <|
  zgd_e (fun d => zo_l d rfl rfl (by show ((158 : Nat) : Int) + (7) = ((165 : Nat) : Int); decide)) <|
  zgd_e (fun d => zo_l d rfl rfl trivial) <|
  zgd_e (fun d => zo_v d rfl ⟨rfl, zd_26, zw_393, Nat.le_of_ble_eq_true rfl, ⟨_, Or.inl ⟨Nat.le_of_ble_eq_true rfl, rfl⟩, rfl⟩, zw_391, zw_2⟩) <|
  zgd_e (fun d => zo_e d) <|
  zgd_m h
theorem zk_25 (xs : List Int32) : z_okm (za_T xs) za_P za_M 25 := z_okm_of ⟨"LyndonBench$Script", "readToken", "()V"⟩ prog_5_method_21_code zc_25 _ rfl rfl rfl rfl
  (zk_25_0 xs <|
  zk_25_1 xs <|
  z_fn)
  (z_fn)
theorem zdd_26 : ∀ q ∈ zc_26, decode prog_5_method_22_code q.1 = Except.ok (q.2.1, q.2.2.1) := zdd_of (by decide +kernel)
theorem zk_26 (xs : List Int32) : z_okm (za_T xs) za_P za_M 26 := z_okm_of ⟨"LyndonBench$Script", "readNumber", "()V"⟩ prog_5_method_22_code zc_26 _ rfl rfl rfl rfl
  (zgd_x zdd_26 <|
  zgd_d (fun d => zo_l d rfl rfl trivial) <|
  zgd_d (fun d => zo_h d rfl ⟨rfl, Nat.le_of_ble_eq_true rfl, _, _, _, Or.inl ⟨Nat.le_of_ble_eq_true rfl, rfl⟩, Nat.le_of_ble_eq_true rfl, zw_229⟩) <|
  zgd_d (fun d => zo_l d rfl rfl trivial) <|
  zgd_d (fun d => zo_h d rfl ⟨rfl, Nat.le_of_ble_eq_true rfl, _, _, _, Or.inl ⟨Nat.le_of_ble_eq_true rfl, rfl⟩, Nat.le_of_ble_eq_true rfl, zw_228⟩) <|
  zgd_d (fun d => zo_l d rfl rfl trivial) <|
  zgd_d (fun d => zo_l d rfl rfl trivial) <|
  zgd_d (fun d => zo_l d rfl rfl (by show ((10 : Nat) : Int) + (10) = ((20 : Nat) : Int); decide)) <|
  zgd_d (fun d => zo_l d rfl rfl trivial) <|
  zgd_d (fun d => zo_l d rfl rfl trivial) <|
  zgd_d (fun d => zo_h d rfl ⟨rfl, Nat.le_of_ble_eq_true rfl, _, _, _, rfl, Nat.le_of_ble_eq_true rfl, zw_227, Or.inl rfl⟩) <|
  zgd_d (fun d => zo_e d) <|
  zgd_d (fun d => zo_l d rfl rfl trivial) <|
  zgd_d (fun d => zo_l d rfl rfl trivial) <|
  zgd_d (fun d => zo_h d rfl ⟨rfl, Nat.le_of_ble_eq_true rfl, _, _, _, rfl, Nat.le_of_ble_eq_true rfl, zw_230, Or.inl rfl⟩) <|
  zgd_d (fun d => zo_l d rfl rfl trivial) <|
  zgd_d (fun d => zo_h d rfl ⟨rfl, Nat.le_of_ble_eq_true rfl, _, _, _, Or.inl ⟨Nat.le_of_ble_eq_true rfl, rfl⟩, Nat.le_of_ble_eq_true rfl, zw_228⟩) <|
  zgd_d (fun d => zo_l d rfl rfl trivial) <|
  zgd_d (fun d => zo_l d rfl rfl trivial) <|
  zgd_d (fun d => zo_l d rfl rfl trivial) <|
  zgd_d (fun d => zo_h d rfl ⟨rfl, Nat.le_of_ble_eq_true rfl, _, _, _, Or.inl ⟨Nat.le_of_ble_eq_true rfl, rfl⟩, Nat.le_of_ble_eq_true rfl, zw_229⟩) <|
  zgd_d (fun d => zo_l d rfl rfl (by show ((35 : Nat) : Int) + (32) = ((67 : Nat) : Int); decide)) <|
  zgd_d (fun d => zo_l d rfl rfl trivial) <|
  zgd_d (fun d => zo_l d rfl rfl trivial) <|
  zgd_d (fun d => zo_h d rfl ⟨rfl, Nat.le_of_ble_eq_true rfl, _, _, _, Or.inl ⟨Nat.le_of_ble_eq_true rfl, rfl⟩, Nat.le_of_ble_eq_true rfl, zw_230⟩) <|
  zgd_d (fun d => zo_l d rfl rfl trivial) <|
  zgd_d (fun d => zo_l d rfl rfl trivial) <|
  zgd_d (fun d => zo_l d rfl rfl trivial) <|
  zgd_d (fun d => zo_h d rfl ⟨rfl, Nat.le_of_ble_eq_true rfl, _, _, _, Or.inl ⟨Nat.le_of_ble_eq_true rfl, rfl⟩, Nat.le_of_ble_eq_true rfl, zw_219⟩) <|
  zgd_d (fun d => zo_l d rfl rfl trivial) <|
  zgd_d (fun d => zo_v d rfl ⟨rfl, zd_43, zw_338, Nat.le_of_ble_eq_true rfl, ⟨_, Or.inl ⟨Nat.le_of_ble_eq_true rfl, rfl⟩, rfl⟩, zw_387, zw_339⟩) <|
  zgd_d (fun d => zo_l d rfl rfl trivial) <|
  zgd_d (fun d => zo_l d rfl rfl trivial) <|
  zgd_d (fun d => zo_l d rfl rfl trivial) <|
  zgd_d (fun d => zo_h d rfl ⟨rfl, Nat.le_of_ble_eq_true rfl, _, _, _, rfl, Nat.le_of_ble_eq_true rfl, zw_230, Or.inl rfl⟩) <|
  zgd_d (fun d => zo_l d rfl rfl trivial) <|
  zgd_d (fun d => zo_l d rfl rfl (by show ((64 : Nat) : Int) + (-34) = ((30 : Nat) : Int); decide)) <|
  zgd_d (fun d => zo_e d) <|
  zgd_n)
  (z_fn)
theorem zdd_27 : ∀ q ∈ zc_27, decode prog_5_method_23_code q.1 = Except.ok (q.2.1, q.2.2.1) := zdd_of (by decide +kernel)
theorem zk_27 (xs : List Int32) : z_okm (za_T xs) za_P za_M 27 := z_okm_of ⟨"LyndonBench$Script", "kindOf", "(I)I"⟩ prog_5_method_23_code zc_27 _ rfl rfl rfl rfl
  (zgd_x zdd_27 <|
  zgd_d (fun d => zo_l d rfl rfl trivial) <|
  zgd_d (fun d => zo_l d rfl rfl trivial) <|
  zgd_d (fun d => zo_l d rfl rfl (by show ((3 : Nat) : Int) + (11) = ((14 : Nat) : Int); decide)) <|
  zgd_d (fun d => zo_l d rfl rfl trivial) <|
  zgd_d (fun d => zo_l d rfl rfl trivial) <|
  zgd_d (fun d => zo_l d rfl rfl (by show ((9 : Nat) : Int) + (5) = ((14 : Nat) : Int); decide)) <|
  zgd_d (fun d => zo_l d rfl rfl trivial) <|
  zgd_d (fun d => zo_r d rfl) <|
  zgd_d (fun d => zo_l d rfl rfl trivial) <|
  zgd_d (fun d => zo_l d rfl rfl trivial) <|
  zgd_d (fun d => zo_l d rfl rfl (by show ((17 : Nat) : Int) + (11) = ((28 : Nat) : Int); decide)) <|
  zgd_d (fun d => zo_l d rfl rfl trivial) <|
  zgd_d (fun d => zo_l d rfl rfl trivial) <|
  zgd_d (fun d => zo_l d rfl rfl (by show ((23 : Nat) : Int) + (5) = ((28 : Nat) : Int); decide)) <|
  zgd_d (fun d => zo_l d rfl rfl trivial) <|
  zgd_d (fun d => zo_r d rfl) <|
  zgd_d (fun d => zo_l d rfl rfl trivial) <|
  zgd_d (fun d => zo_l d rfl trivial trivial) <|
  zgd_d (fun d => zo_l d rfl rfl trivial) <|
  zgd_d (fun d => zo_r d rfl) <|
  zgd_d (fun d => zo_l d rfl rfl trivial) <|
  zgd_d (fun d => zo_r d rfl) <|
  zgd_d (fun d => zo_l d rfl rfl trivial) <|
  zgd_d (fun d => zo_r d rfl) <|
  zgd_d (fun d => zo_l d rfl rfl trivial) <|
  zgd_d (fun d => zo_r d rfl) <|
  zgd_d (fun d => zo_l d rfl rfl trivial) <|
  zgd_d (fun d => zo_r d rfl) <|
  zgd_d (fun d => zo_l d rfl rfl trivial) <|
  zgd_d (fun d => zo_r d rfl) <|
  zgd_n)
  (z_fn)
theorem zdd_28 : ∀ q ∈ zc_28, decode prog_6_method_1_code q.1 = Except.ok (q.2.1, q.2.2.1) := zdd_of (by decide +kernel)
theorem zk_28 (xs : List Int32) : z_okm (za_T xs) za_P za_M 28 := z_okm_of ⟨"LyndonBench$State", "<init>", "()V"⟩ prog_6_method_1_code zc_28 _ rfl rfl rfl rfl
  (zgd_x zdd_28 <|
  zgd_d (fun d => zo_l d rfl rfl trivial) <|
  zgd_d (fun d => zo_h d rfl ⟨rfl, zw_152, zw_145, zw_146⟩) <|
  zgd_d (fun d => zo_l d rfl rfl trivial) <|
  zgd_d (fun d => zo_l d rfl rfl trivial) <|
  zgd_d (fun d => zo_h d rfl ⟨rfl, Nat.le_of_ble_eq_true rfl, _, _, _, rfl, Nat.le_of_ble_eq_true rfl, zw_174, Or.inl rfl⟩) <|
  zgd_d (fun d => zo_l d rfl rfl trivial) <|
  zgd_d (fun d => zo_h d rfl ⟨rfl, Nat.le_of_ble_eq_true rfl, _, _, rfl, zn_4, zm_4, zw_153, zw_154, zw_120⟩) <|
  zgd_d (fun d => zo_l d rfl rfl trivial) <|
  zgd_d (fun d => zo_l d rfl rfl trivial) <|
  zgd_d (fun d => zo_n d rfl ⟨rfl, zd_42, rfl, rfl, zw_156, Or.inl zw_155⟩) <|
  zgd_d (fun d => zo_h d rfl ⟨rfl, Nat.le_of_ble_eq_true rfl, _, _, _, rfl, Nat.le_of_ble_eq_true rfl, zw_176, Or.inr ⟨rfl, rfl, rfl⟩⟩) <|
  zgd_d (fun d => zo_l d rfl rfl trivial) <|
  zgd_d (fun d => zo_l d rfl rfl trivial) <|
  zgd_d (fun d => zo_h d rfl ⟨rfl, ⟨Nat.le_of_ble_eq_true rfl, Nat.le_of_ble_eq_true rfl⟩, _, rfl, zw_153, by decide +kernel⟩) <|
  zgd_d (fun d => zo_h d rfl ⟨rfl, Nat.le_of_ble_eq_true rfl, _, _, _, rfl, Nat.le_of_ble_eq_true rfl, zw_179, Or.inr ⟨rfl, rfl, rfl⟩⟩) <|
  zgd_d (fun d => zo_l d rfl rfl trivial) <|
  zgd_d (fun d => zo_l d rfl rfl trivial) <|
  zgd_d (fun d => zo_h d rfl ⟨rfl, Nat.le_of_ble_eq_true rfl, _, _, _, rfl, Nat.le_of_ble_eq_true rfl, zw_180, Or.inl rfl⟩) <|
  zgd_d (fun d => zo_l d rfl rfl trivial) <|
  zgd_d (fun d => zo_l d rfl rfl trivial) <|
  zgd_d (fun d => zo_l d rfl rfl trivial) <|
  zgd_d (fun d => zo_l d rfl rfl trivial) <|
  zgd_d (fun d => zo_h d rfl ⟨rfl, Nat.le_of_ble_eq_true rfl, _, _, _, Or.inl ⟨Nat.le_of_ble_eq_true rfl, rfl⟩, Nat.le_of_ble_eq_true rfl, zw_179⟩) <|
  zgd_d (fun d => zo_h d rfl rfl) <|
  zgd_d (fun d => zo_l d rfl rfl (by show ((44 : Nat) : Int) + (24) = ((68 : Nat) : Int); decide)) <|
  zgd_d (fun d => zo_l d rfl rfl trivial) <|
  zgd_d (fun d => zo_h d rfl ⟨rfl, Nat.le_of_ble_eq_true rfl, _, _, _, Or.inl ⟨Nat.le_of_ble_eq_true rfl, rfl⟩, Nat.le_of_ble_eq_true rfl, zw_179⟩) <|
  zgd_d (fun d => zo_l d rfl rfl trivial) <|
  zgd_d (fun d => zo_h d rfl ⟨rfl, Nat.le_of_ble_eq_true rfl, _, _, rfl, zn_4, zm_4, zw_153, zw_154, zw_120⟩) <|
  zgd_d (fun d => zo_l d rfl rfl trivial) <|
  zgd_d (fun d => zo_l d rfl rfl trivial) <|
  zgd_d (fun d => zo_n d rfl ⟨rfl, zd_42, rfl, rfl, zw_156, Or.inl zw_155⟩) <|
  zgd_d (fun d => zo_h d rfl rfl) <|
  zgd_d (fun d => zo_l d rfl rfl trivial) <|
  zgd_d (fun d => zo_l d rfl rfl (by show ((65 : Nat) : Int) + (-27) = ((38 : Nat) : Int); decide)) <|
  zgd_d (fun d => zo_e d) <|
  zgd_n)
  (z_fn)
theorem zdd_29 : ∀ q ∈ zc_29, decode prog_6_method_2_code q.1 = Except.ok (q.2.1, q.2.2.1) := zdd_of (by decide +kernel)
theorem zk_29 (xs : List Int32) : z_okm (za_T xs) za_P za_M 29 := z_okm_of ⟨"LyndonBench$State", "clear", "(I)V"⟩ prog_6_method_2_code zc_29 _ rfl rfl rfl rfl
  (zgd_x zdd_29 <|
  zgd_d (fun d => zo_l d rfl rfl trivial) <|
  zgd_d (fun d => zo_l d rfl rfl trivial) <|
  zgd_d (fun d => zo_h d rfl ⟨rfl, Nat.le_of_ble_eq_true rfl, _, _, _, rfl, Nat.le_of_ble_eq_true rfl, zw_174, Or.inl rfl⟩) <|
  zgd_d (fun d => zo_l d rfl rfl trivial) <|
  zgd_d (fun d => zo_h d rfl ⟨rfl, Nat.le_of_ble_eq_true rfl, _, _, _, Or.inl ⟨Nat.le_of_ble_eq_true rfl, rfl⟩, Nat.le_of_ble_eq_true rfl, zw_176⟩) <|
  zgd_d (fun d => zo_v d rfl ⟨rfl, zd_45, zw_268, Nat.le_of_ble_eq_true rfl, ⟨_, Or.inl ⟨Nat.le_of_ble_eq_true rfl, rfl⟩, rfl⟩, zw_267, zw_269⟩) <|
  zgd_d (fun d => zo_l d rfl rfl trivial) <|
  zgd_d (fun d => zo_l d rfl rfl trivial) <|
  zgd_d (fun d => zo_h d rfl ⟨rfl, Nat.le_of_ble_eq_true rfl, _, _, _, rfl, Nat.le_of_ble_eq_true rfl, zw_180, Or.inl rfl⟩) <|
  zgd_d (fun d => zo_e d) <|
  zgd_n)
  (z_fn)
theorem zdd_30 : ∀ q ∈ zc_30, decode prog_6_method_3_code q.1 = Except.ok (q.2.1, q.2.2.1) := zdd_of (by decide +kernel)
theorem zk_30 (xs : List Int32) : z_okm (za_T xs) za_P za_M 30 := z_okm_of ⟨"LyndonBench$State", "copyFrom", "(LLyndonBench$State;)V"⟩ prog_6_method_3_code zc_30 _ rfl rfl rfl rfl
  (zgd_x zdd_30 <|
  zgd_d (fun d => zo_l d rfl rfl trivial) <|
  zgd_d (fun d => zo_l d rfl rfl trivial) <|
  zgd_d (fun d => zo_h d rfl ⟨rfl, Nat.le_of_ble_eq_true rfl, _, _, _, Or.inl ⟨Nat.le_of_ble_eq_true rfl, rfl⟩, Nat.le_of_ble_eq_true rfl, zw_174⟩) <|
  zgd_d (fun d => zo_h d rfl ⟨rfl, Nat.le_of_ble_eq_true rfl, _, _, _, rfl, Nat.le_of_ble_eq_true rfl, zw_174, Or.inl rfl⟩) <|
  zgd_d (fun d => zo_l d rfl rfl trivial) <|
  zgd_d (fun d => zo_h d rfl ⟨rfl, Nat.le_of_ble_eq_true rfl, _, _, _, Or.inl ⟨Nat.le_of_ble_eq_true rfl, rfl⟩, Nat.le_of_ble_eq_true rfl, zw_176⟩) <|
  zgd_d (fun d => zo_l d rfl rfl trivial) <|
  zgd_d (fun d => zo_h d rfl ⟨rfl, Nat.le_of_ble_eq_true rfl, _, _, _, Or.inl ⟨Nat.le_of_ble_eq_true rfl, rfl⟩, Nat.le_of_ble_eq_true rfl, zw_176⟩) <|
  zgd_d (fun d => zo_v d rfl ⟨rfl, zd_51, zw_566, Nat.le_of_ble_eq_true rfl, ⟨_, Or.inl ⟨Nat.le_of_ble_eq_true rfl, rfl⟩, rfl⟩, zw_565, zw_567⟩) <|
  zgd_d (fun d => zo_l d rfl rfl trivial) <|
  zgd_d (fun d => zo_l d rfl rfl trivial) <|
  zgd_d (fun d => zo_h d rfl ⟨rfl, Nat.le_of_ble_eq_true rfl, _, _, _, rfl, Nat.le_of_ble_eq_true rfl, zw_180, Or.inl rfl⟩) <|
  zgd_d (fun d => zo_l d rfl rfl trivial) <|
  zgd_d (fun d => zo_l d rfl rfl trivial) <|
  zgd_d (fun d => zo_l d rfl rfl trivial) <|
  zgd_d (fun d => zo_l d rfl rfl trivial) <|
  zgd_d (fun d => zo_h d rfl ⟨rfl, Nat.le_of_ble_eq_true rfl, _, _, _, Or.inl ⟨Nat.le_of_ble_eq_true rfl, rfl⟩, Nat.le_of_ble_eq_true rfl, zw_180⟩) <|
  zgd_d (fun d => zo_l d rfl rfl (by show ((31 : Nat) : Int) + (29) = ((60 : Nat) : Int); decide)) <|
  zgd_d (fun d => zo_l d rfl rfl trivial) <|
  zgd_d (fun d => zo_l d rfl rfl trivial) <|
  zgd_d (fun d => zo_v d rfl ⟨rfl, zd_34, zw_562, Nat.le_of_ble_eq_true rfl, ⟨_, Or.inl ⟨Nat.le_of_ble_eq_true rfl, rfl⟩, rfl⟩, zw_561, zw_563⟩) <|
  zgd_d (fun d => zo_l d rfl rfl trivial) <|
  zgd_d (fun d => zo_l d rfl rfl trivial) <|
  zgd_d (fun d => zo_h d rfl ⟨rfl, by show ((41 : Nat) : Int) + (13) = ((54 : Nat) : Int); decide⟩) <|
  zgd_d (fun d => zo_l d rfl rfl trivial) <|
  zgd_d (fun d => zo_l d rfl rfl trivial) <|
  zgd_d (fun d => zo_l d rfl rfl trivial) <|
  zgd_d (fun d => zo_l d rfl rfl trivial) <|
  zgd_d (fun d => zo_h d rfl ⟨rfl, Nat.le_of_ble_eq_true rfl, _, _, _, Or.inl ⟨Nat.le_of_ble_eq_true rfl, rfl⟩, Nat.le_of_ble_eq_true rfl, zw_165⟩) <|
  zgd_d (fun d => zo_v d rfl ⟨rfl, zd_36, zw_330, Nat.le_of_ble_eq_true rfl, ⟨_, Or.inl ⟨Nat.le_of_ble_eq_true rfl, rfl⟩, rfl⟩, zw_601, zw_331⟩) <|
  zgd_d (fun d => zo_l d rfl rfl trivial) <|
  zgd_d (fun d => zo_l d rfl rfl (by show ((57 : Nat) : Int) + (-31) = ((26 : Nat) : Int); decide)) <|
  zgd_d (fun d => zo_e d) <|
  zgd_n)
  (z_fn)
theorem zdd_31 : ∀ q ∈ zc_31, decode prog_6_method_4_code q.1 = Except.ok (q.2.1, q.2.2.1) := zdd_of (by decide +kernel)
theorem zk_31 (xs : List Int32) : z_okm (za_T xs) za_P za_M 31 := z_okm_of ⟨"LyndonBench$State", "isLetter", "(I)Z"⟩ prog_6_method_4_code zc_31 _ rfl rfl rfl rfl
  (zgd_x zdd_31 <|
  zgd_d (fun d => zo_l d rfl rfl trivial) <|
  zgd_d (fun d => zo_l d rfl rfl trivial) <|
  zgd_d (fun d => zo_l d rfl rfl (by show ((3 : Nat) : Int) + (18) = ((21 : Nat) : Int); decide)) <|
  zgd_d (fun d => zo_l d rfl rfl trivial) <|
  zgd_d (fun d => zo_l d rfl rfl trivial) <|
  zgd_d (fun d => zo_l d rfl rfl trivial) <|
  zgd_d (fun d => zo_h d rfl ⟨rfl, Nat.le_of_ble_eq_true rfl, _, _, _, Or.inl ⟨Nat.le_of_ble_eq_true rfl, rfl⟩, Nat.le_of_ble_eq_true rfl, zw_174⟩) <|
  zgd_d (fun d => zo_l d rfl rfl trivial) <|
  zgd_d (fun d => zo_l d rfl rfl (by show ((14 : Nat) : Int) + (7) = ((21 : Nat) : Int); decide)) <|
  zgd_d (fun d => zo_l d rfl rfl trivial) <|
  zgd_d (fun d => zo_l d rfl rfl (by show ((18 : Nat) : Int) + (4) = ((22 : Nat) : Int); decide)) <|
  zgd_d (fun d => zo_l d rfl rfl trivial) <|
  zgd_d (fun d => zo_r d rfl) <|
  zgd_n)
  (z_fn)
theorem zdd_32 : ∀ q ∈ zc_32, decode prog_6_method_5_code q.1 = Except.ok (q.2.1, q.2.2.1) := zdd_of (by decide +kernel)
theorem zk_32 (xs : List Int32) : z_okm (za_T xs) za_P za_M 32 := z_okm_of ⟨"LyndonBench$State", "greatestLetter", "()I"⟩ prog_6_method_5_code zc_32 _ rfl rfl rfl rfl
  (zgd_x zdd_32 <|
  zgd_d (fun d => zo_l d rfl rfl trivial) <|
  zgd_d (fun d => zo_l d rfl rfl trivial) <|
  zgd_d (fun d => zo_h d rfl ⟨rfl, Nat.le_of_ble_eq_true rfl, _, _, _, Or.inl ⟨Nat.le_of_ble_eq_true rfl, rfl⟩, Nat.le_of_ble_eq_true rfl, zw_174⟩) <|
  zgd_d (fun d => zo_l d rfl rfl trivial) <|
  zgd_d (fun d => zo_l d rfl rfl trivial) <|
  zgd_d (fun d => zo_l d rfl rfl trivial) <|
  zgd_d (fun d => zo_r d rfl) <|
  zgd_n)
  (z_fn)
theorem zdd_33 : ∀ q ∈ zc_33, decode prog_6_method_6_code q.1 = Except.ok (q.2.1, q.2.2.1) := zdd_of (by decide +kernel)
theorem zk_33 (xs : List Int32) : z_okm (za_T xs) za_P za_M 33 := z_okm_of ⟨"LyndonBench$State", "fitsLetters", "(I)Z"⟩ prog_6_method_6_code zc_33 _ rfl rfl rfl rfl
  (zgd_x zdd_33 <|
  zgd_d (fun d => zo_l d rfl rfl trivial) <|
  zgd_d (fun d => zo_l d rfl rfl trivial) <|
  zgd_d (fun d => zo_l d rfl rfl trivial) <|
  zgd_d (fun d => zo_l d rfl rfl trivial) <|
  zgd_d (fun d => zo_h d rfl ⟨rfl, Nat.le_of_ble_eq_true rfl, _, _, _, Or.inl ⟨Nat.le_of_ble_eq_true rfl, rfl⟩, Nat.le_of_ble_eq_true rfl, zw_180⟩) <|
  zgd_d (fun d => zo_l d rfl rfl (by show ((7 : Nat) : Int) + (29) = ((36 : Nat) : Int); decide)) <|
  zgd_d (fun d => zo_l d rfl rfl trivial) <|
  zgd_d (fun d => zo_l d rfl rfl trivial) <|
  zgd_d (fun d => zo_v d rfl ⟨rfl, zd_34, zw_562, Nat.le_of_ble_eq_true rfl, ⟨_, Or.inl ⟨Nat.le_of_ble_eq_true rfl, rfl⟩, rfl⟩, zw_561, zw_563⟩) <|
  zgd_d (fun d => zo_l d rfl rfl trivial) <|
  zgd_d (fun d => zo_l d rfl rfl trivial) <|
  zgd_d (fun d => zo_h d rfl ⟨rfl, by show ((17 : Nat) : Int) + (13) = ((30 : Nat) : Int); decide⟩) <|
  zgd_d (fun d => zo_l d rfl rfl trivial) <|
  zgd_d (fun d => zo_l d rfl rfl trivial) <|
  zgd_d (fun d => zo_v d rfl ⟨rfl, zd_56, zw_887, Nat.le_of_ble_eq_true rfl, ⟨_, Or.inl ⟨Nat.le_of_ble_eq_true rfl, rfl⟩, rfl⟩, zw_886, zw_888⟩) <|
  zgd_d (fun d => zo_l d rfl rfl (by show ((25 : Nat) : Int) + (5) = ((30 : Nat) : Int); decide)) <|
  zgd_d (fun d => zo_l d rfl rfl trivial) <|
  zgd_d (fun d => zo_r d rfl) <|
  zgd_d (fun d => zo_l d rfl rfl trivial) <|
  zgd_d (fun d => zo_l d rfl rfl (by show ((33 : Nat) : Int) + (-31) = ((2 : Nat) : Int); decide)) <|
  zgd_d (fun d => zo_l d rfl rfl trivial) <|
  zgd_d (fun d => zo_h d rfl ⟨rfl, Nat.le_of_ble_eq_true rfl, _, _, _, Or.inl ⟨Nat.le_of_ble_eq_true rfl, rfl⟩, Nat.le_of_ble_eq_true rfl, zw_176⟩) <|
  zgd_d (fun d => zo_l d rfl rfl trivial) <|
  zgd_d (fun d => zo_v d rfl ⟨rfl, zd_56, zw_887, Nat.le_of_ble_eq_true rfl, ⟨_, Or.inl ⟨Nat.le_of_ble_eq_true rfl, rfl⟩, rfl⟩, zw_886, zw_888⟩) <|
  zgd_d (fun d => zo_r d rfl) <|
  zgd_n)
  (z_fn)
theorem zdd_34 : ∀ q ∈ zc_34, decode prog_6_method_7_code q.1 = Except.ok (q.2.1, q.2.2.1) := zdd_of (by decide +kernel)
theorem zk_34 (xs : List Int32) : z_okm (za_T xs) za_P za_M 34 := z_okm_of ⟨"LyndonBench$State", "keptAt", "(I)LLyndonBench$Word;"⟩ prog_6_method_7_code zc_34 _ rfl rfl rfl rfl
  (zgd_x zdd_34 <|
  zgd_d (fun d => zo_l d rfl rfl trivial) <|
  zgd_d (fun d => zo_l d rfl rfl (by show ((1 : Nat) : Int) + (29) = ((30 : Nat) : Int); decide)) <|
  zgd_d (fun d => zo_l d rfl rfl trivial) <|
  zgd_d (fun d => zo_l d rfl rfl trivial) <|
  zgd_d (fun d => zo_h d rfl ⟨rfl, Nat.le_of_ble_eq_true rfl, _, _, _, Or.inl ⟨Nat.le_of_ble_eq_true rfl, rfl⟩, Nat.le_of_ble_eq_true rfl, zw_180⟩) <|
  zgd_d (fun d => zo_l d rfl rfl (by show ((9 : Nat) : Int) + (21) = ((30 : Nat) : Int); decide)) <|
  zgd_d (fun d => zo_l d rfl rfl trivial) <|
  zgd_d (fun d => zo_l d rfl rfl trivial) <|
  zgd_d (fun d => zo_h d rfl ⟨rfl, Nat.le_of_ble_eq_true rfl, _, _, _, Or.inl ⟨Nat.le_of_ble_eq_true rfl, rfl⟩, Nat.le_of_ble_eq_true rfl, zw_179⟩) <|
  zgd_d (fun d => zo_h d rfl rfl) <|
  zgd_d (fun d => zo_l d rfl rfl (by show ((18 : Nat) : Int) + (12) = ((30 : Nat) : Int); decide)) <|
  zgd_d (fun d => zo_l d rfl rfl trivial) <|
  zgd_d (fun d => zo_h d rfl ⟨rfl, Nat.le_of_ble_eq_true rfl, _, _, _, Or.inl ⟨Nat.le_of_ble_eq_true rfl, rfl⟩, Nat.le_of_ble_eq_true rfl, zw_179⟩) <|
  zgd_d (fun d => zo_l d rfl rfl trivial) <|
  zgd_d (fun d => zo_h d rfl rfl) <|
  zgd_d (fun d => zo_l d rfl rfl (by show ((27 : Nat) : Int) + (4) = ((31 : Nat) : Int); decide)) <|
  zgd_d (fun d => zo_l d rfl rfl trivial) <|
  zgd_d (fun d => zo_r d rfl) <|
  zgd_n)
  (z_fn)
theorem zdd_35 : ∀ q ∈ zc_35, decode prog_6_method_8_code q.1 = Except.ok (q.2.1, q.2.2.1) := zdd_of (by decide +kernel)
theorem zk_35 (xs : List Int32) : z_okm (za_T xs) za_P za_M 35 := z_okm_of ⟨"LyndonBench$State", "canKeep", "(I)Z"⟩ prog_6_method_8_code zc_35 _ rfl rfl rfl rfl
  (zgd_x zdd_35 <|
  zgd_d (fun d => zo_l d rfl rfl trivial) <|
  zgd_d (fun d => zo_l d rfl rfl trivial) <|
  zgd_d (fun d => zo_l d rfl rfl (by show ((2 : Nat) : Int) + (22) = ((24 : Nat) : Int); decide)) <|
  zgd_d (fun d => zo_l d rfl rfl trivial) <|
  zgd_d (fun d => zo_l d rfl rfl trivial) <|
  zgd_d (fun d => zo_l d rfl rfl (by show ((8 : Nat) : Int) + (16) = ((24 : Nat) : Int); decide)) <|
  zgd_d (fun d => zo_l d rfl rfl trivial) <|
  zgd_d (fun d => zo_h d rfl ⟨rfl, Nat.le_of_ble_eq_true rfl, _, _, _, Or.inl ⟨Nat.le_of_ble_eq_true rfl, rfl⟩, Nat.le_of_ble_eq_true rfl, zw_180⟩) <|
  zgd_d (fun d => zo_l d rfl rfl trivial) <|
  zgd_d (fun d => zo_l d rfl rfl (by show ((17 : Nat) : Int) + (7) = ((24 : Nat) : Int); decide)) <|
  zgd_d (fun d => zo_l d rfl rfl trivial) <|
  zgd_d (fun d => zo_l d rfl rfl (by show ((21 : Nat) : Int) + (4) = ((25 : Nat) : Int); decide)) <|
  zgd_d (fun d => zo_l d rfl rfl trivial) <|
  zgd_d (fun d => zo_r d rfl) <|
  zgd_n)
  (z_fn)
theorem zdd_36 : ∀ q ∈ zc_36, decode prog_6_method_9_code q.1 = Except.ok (q.2.1, q.2.2.1) := zdd_of (by decide +kernel)
theorem zk_36 (xs : List Int32) : z_okm (za_T xs) za_P za_M 36 := z_okm_of ⟨"LyndonBench$State", "keep", "(LLyndonBench$Word;II)V"⟩ prog_6_method_9_code zc_36 _ rfl rfl rfl rfl
  (zgd_x zdd_36 <|
  zgd_d (fun d => zo_l d rfl rfl trivial) <|
  zgd_d (fun d => zo_h d rfl ⟨rfl, Nat.le_of_ble_eq_true rfl, _, _, _, Or.inl ⟨Nat.le_of_ble_eq_true rfl, rfl⟩, Nat.le_of_ble_eq_true rfl, zw_180⟩) <|
  zgd_d (fun d => zo_l d rfl rfl (by show ((4 : Nat) : Int) + (15) = ((19 : Nat) : Int); decide)) <|
  zgd_d (fun d => zo_l d rfl rfl trivial) <|
  zgd_d (fun d => zo_h d rfl ⟨rfl, Nat.le_of_ble_eq_true rfl, _, _, _, Or.inl ⟨Nat.le_of_ble_eq_true rfl, rfl⟩, Nat.le_of_ble_eq_true rfl, zw_180⟩) <|
  zgd_d (fun d => zo_l d rfl rfl trivial) <|
  zgd_d (fun d => zo_h d rfl ⟨rfl, Nat.le_of_ble_eq_true rfl, _, _, _, Or.inl ⟨Nat.le_of_ble_eq_true rfl, rfl⟩, Nat.le_of_ble_eq_true rfl, zw_179⟩) <|
  zgd_d (fun d => zo_h d rfl rfl) <|
  zgd_d (fun d => zo_l d rfl rfl (by show ((16 : Nat) : Int) + (4) = ((20 : Nat) : Int); decide)) <|
  zgd_d (fun d => zo_e d) <|
  zgd_d (fun d => zo_l d rfl rfl trivial) <|
  zgd_d (fun d => zo_h d rfl ⟨rfl, Nat.le_of_ble_eq_true rfl, _, _, _, Or.inl ⟨Nat.le_of_ble_eq_true rfl, rfl⟩, Nat.le_of_ble_eq_true rfl, zw_179⟩) <|
  zgd_d (fun d => zo_l d rfl rfl trivial) <|
  zgd_d (fun d => zo_h d rfl ⟨rfl, Nat.le_of_ble_eq_true rfl, _, _, _, Or.inl ⟨Nat.le_of_ble_eq_true rfl, rfl⟩, Nat.le_of_ble_eq_true rfl, zw_180⟩) <|
  zgd_d (fun d => zo_h d rfl rfl) <|
  zgd_d (fun d => zo_l d rfl rfl trivial) <|
  zgd_d (fun d => zo_l d rfl rfl trivial) <|
  zgd_d (fun d => zo_h d rfl ⟨rfl, by show ((33 : Nat) : Int) + (26) = ((59 : Nat) : Int); decide⟩) <|
  zgd_d (fun d => zo_l d rfl rfl trivial) <|
  zgd_d (fun d => zo_v d rfl ⟨rfl, zd_45, zw_268, Nat.le_of_ble_eq_true rfl, ⟨_, Or.inl ⟨Nat.le_of_ble_eq_true rfl, rfl⟩, rfl⟩, zw_267, zw_269⟩) <|
  zgd_d (fun d => zo_l d rfl rfl trivial) <|
  zgd_d (fun d => zo_l d rfl rfl trivial) <|
  zgd_d (fun d => zo_l d rfl rfl trivial) <|
  zgd_d (fun d => zo_l d rfl rfl trivial) <|
  zgd_d (fun d => zo_v d rfl ⟨rfl, zd_49, zw_334, Nat.le_of_ble_eq_true rfl, ⟨_, Or.inl ⟨Nat.le_of_ble_eq_true rfl, rfl⟩, rfl⟩, zw_333, zw_335⟩) <|
  zgd_d (fun d => zo_l d rfl rfl trivial) <|
  zgd_d (fun d => zo_l d rfl rfl trivial) <|
  zgd_d (fun d => zo_h d rfl ⟨rfl, Nat.le_of_ble_eq_true rfl, _, _, _, Or.inl ⟨Nat.le_of_ble_eq_true rfl, rfl⟩, Nat.le_of_ble_eq_true rfl, zw_180⟩) <|
  zgd_d (fun d => zo_l d rfl rfl trivial) <|
  zgd_d (fun d => zo_l d rfl rfl trivial) <|
  zgd_d (fun d => zo_h d rfl ⟨rfl, Nat.le_of_ble_eq_true rfl, _, _, _, rfl, Nat.le_of_ble_eq_true rfl, zw_180, Or.inl rfl⟩) <|
  zgd_d (fun d => zo_e d) <|
  zgd_n)
  (z_fn)
theorem zdd_37 : ∀ q ∈ zc_37, decode prog_6_method_10_code q.1 = Except.ok (q.2.1, q.2.2.1) := zdd_of (by decide +kernel)
theorem zk_37 (xs : List Int32) : z_okm (za_T xs) za_P za_M 37 := z_okm_of ⟨"LyndonBench$State", "takeFromShelf", "(I)V"⟩ prog_6_method_10_code zc_37 _ rfl rfl rfl rfl
  (zgd_x zdd_37 <|
  zgd_d (fun d => zo_l d rfl rfl trivial) <|
  zgd_d (fun d => zo_l d rfl rfl trivial) <|
  zgd_d (fun d => zo_l d rfl rfl trivial) <|
  zgd_d (fun d => zo_l d rfl rfl trivial) <|
  zgd_d (fun d => zo_h d rfl ⟨rfl, Nat.le_of_ble_eq_true rfl, _, _, _, Or.inl ⟨Nat.le_of_ble_eq_true rfl, rfl⟩, Nat.le_of_ble_eq_true rfl, zw_180⟩) <|
  zgd_d (fun d => zo_l d rfl rfl trivial) <|
  zgd_d (fun d => zo_l d rfl rfl trivial) <|
  zgd_d (fun d => zo_l d rfl rfl (by show ((9 : Nat) : Int) + (39) = ((48 : Nat) : Int); decide)) <|
  zgd_d (fun d => zo_l d rfl rfl trivial) <|
  zgd_d (fun d => zo_l d rfl rfl trivial) <|
  zgd_d (fun d => zo_v d rfl ⟨rfl, zd_34, zw_562, Nat.le_of_ble_eq_true rfl, ⟨_, Or.inl ⟨Nat.le_of_ble_eq_true rfl, rfl⟩, rfl⟩, zw_561, zw_563⟩) <|
  zgd_d (fun d => zo_l d rfl rfl trivial) <|
  zgd_d (fun d => zo_l d rfl rfl trivial) <|
  zgd_d (fun d => zo_l d rfl rfl trivial) <|
  zgd_d (fun d => zo_l d rfl rfl trivial) <|
  zgd_d (fun d => zo_l d rfl rfl trivial) <|
  zgd_d (fun d => zo_v d rfl ⟨rfl, zd_34, zw_562, Nat.le_of_ble_eq_true rfl, ⟨_, Or.inl ⟨Nat.le_of_ble_eq_true rfl, rfl⟩, rfl⟩, zw_561, zw_563⟩) <|
  zgd_d (fun d => zo_l d rfl rfl trivial) <|
  zgd_d (fun d => zo_l d rfl rfl trivial) <|
  zgd_d (fun d => zo_h d rfl ⟨rfl, by show ((28 : Nat) : Int) + (14) = ((42 : Nat) : Int); decide⟩) <|
  zgd_d (fun d => zo_l d rfl rfl trivial) <|
  zgd_d (fun d => zo_h d rfl ⟨rfl, by show ((33 : Nat) : Int) + (9) = ((42 : Nat) : Int); decide⟩) <|
  zgd_d (fun d => zo_l d rfl rfl trivial) <|
  zgd_d (fun d => zo_l d rfl rfl trivial) <|
  zgd_d (fun d => zo_v d rfl ⟨rfl, zd_51, zw_566, Nat.le_of_ble_eq_true rfl, ⟨_, Or.inl ⟨Nat.le_of_ble_eq_true rfl, rfl⟩, rfl⟩, zw_565, zw_567⟩) <|
  zgd_d (fun d => zo_l d rfl rfl trivial) <|
  zgd_d (fun d => zo_l d rfl rfl (by show ((45 : Nat) : Int) + (-43) = ((2 : Nat) : Int); decide)) <|
  zgd_d (fun d => zo_l d rfl rfl trivial) <|
  zgd_d (fun d => zo_l d rfl rfl (by show ((49 : Nat) : Int) + (21) = ((70 : Nat) : Int); decide)) <|
  zgd_d (fun d => zo_l d rfl rfl trivial) <|
  zgd_d (fun d => zo_l d rfl rfl trivial) <|
  zgd_d (fun d => zo_h d rfl ⟨rfl, Nat.le_of_ble_eq_true rfl, _, _, _, Or.inl ⟨Nat.le_of_ble_eq_true rfl, rfl⟩, Nat.le_of_ble_eq_true rfl, zw_180⟩) <|
  zgd_d (fun d => zo_l d rfl rfl (by show ((57 : Nat) : Int) + (13) = ((70 : Nat) : Int); decide)) <|
  zgd_d (fun d => zo_l d rfl rfl trivial) <|
  zgd_d (fun d => zo_l d rfl rfl trivial) <|
  zgd_d (fun d => zo_h d rfl ⟨rfl, Nat.le_of_ble_eq_true rfl, _, _, _, Or.inl ⟨Nat.le_of_ble_eq_true rfl, rfl⟩, Nat.le_of_ble_eq_true rfl, zw_180⟩) <|
  zgd_d (fun d => zo_l d rfl rfl trivial) <|
  zgd_d (fun d => zo_l d rfl rfl trivial) <|
  zgd_d (fun d => zo_h d rfl ⟨rfl, Nat.le_of_ble_eq_true rfl, _, _, _, rfl, Nat.le_of_ble_eq_true rfl, zw_180, Or.inl rfl⟩) <|
  zgd_d (fun d => zo_e d) <|
  zgd_n)
  (z_fn)
theorem zdd_38_0 : ∀ q ∈ zc_38_0, decode prog_6_method_11_code q.1 = Except.ok (q.2.1, q.2.2.1) := zdd_of (by decide +kernel)
theorem zk_38_0 (xs : List Int32) {l : List zE} (h : ∀ q ∈ l, z_oke' (za_T xs) za_P za_M ⟨"LyndonBench$State", "greatestOfShelf", "(I)I"⟩ prog_6_method_11_code q) : ∀ q ∈ zc_38_0 ++ l, z_oke' (za_T xs) za_P za_M ⟨"LyndonBench$State", "greatestOfShelf", "(I)I"⟩ prog_6_method_11_code q :=
  zgd_y zdd_38_0 <|
  zgd_e (fun d => zo_l d rfl rfl trivial) <|
  zgd_e (fun d => zo_l d rfl rfl trivial) <|
  zgd_e (fun d => zo_l d rfl rfl trivial) <|
  zgd_e (fun d => zo_l d rfl rfl trivial) <|
  zgd_e (fun d => zo_l d rfl rfl trivial) <|
  zgd_e (fun d => zo_l d rfl rfl trivial) <|
  zgd_e (fun d => zo_l d rfl rfl trivial) <|
  zgd_e (fun d => zo_l d rfl rfl trivial) <|
  zgd_e (fun d => zo_h d rfl ⟨rfl, Nat.le_of_ble_eq_true rfl, _, _, _, Or.inl ⟨Nat.le_of_ble_eq_true rfl, rfl⟩, Nat.le_of_ble_eq_true rfl, zw_180⟩) <|
  zgd_e (fun d => zo_l d rfl rfl (by show ((13 : Nat) : Int) + (65) = ((78 : Nat) : Int); decide)) <|
  zgd_e (fun d => zo_l d rfl rfl trivial) <|
  zgd_e (fun d => zo_l d rfl rfl trivial) <|
  zgd_e (fun d => zo_l d rfl rfl trivial) <|
  zgd_e (fun d => zo_l d rfl rfl trivial) <|
  zgd_e (fun d => zo_l d rfl rfl trivial) <|
  zgd_e (fun d => zo_l d rfl rfl (by show ((22 : Nat) : Int) + (12) = ((34 : Nat) : Int); decide)) <|
  zgd_e (fun d => zo_l d rfl rfl trivial) <|
  zgd_e (fun d => zo_l d rfl rfl trivial) <|
  zgd_e (fun d => zo_v d rfl ⟨rfl, zd_34, zw_562, Nat.le_of_ble_eq_true rfl, ⟨_, Or.inl ⟨Nat.le_of_ble_eq_true rfl, rfl⟩, rfl⟩, zw_561, zw_563⟩) <|
  zgd_e (fun d => zo_l d rfl rfl (by show ((31 : Nat) : Int) + (4) = ((35 : Nat) : Int); decide)) <|
  zgd_e (fun d => zo_l d rfl rfl trivial) <|
  zgd_e (fun d => zo_l d rfl rfl trivial) <|
  zgd_e (fun d => zo_l d rfl rfl trivial) <|
  zgd_e (fun d => zo_h d rfl ⟨rfl, by show ((39 : Nat) : Int) + (33) = ((72 : Nat) : Int); decide⟩) <|
  zgd_e (fun d => zo_l d rfl rfl trivial) <|
  zgd_e (fun d => zo_h d rfl ⟨rfl, by show ((43 : Nat) : Int) + (23) = ((66 : Nat) : Int); decide⟩) <|
  zgd_e (fun d => zo_l d rfl rfl trivial) <|
  zgd_e (fun d => zo_l d rfl rfl trivial) <|
  zgd_e (fun d => zo_l d rfl rfl trivial) <|
  zgd_e (fun d => zo_h d rfl ⟨rfl, Nat.le_of_ble_eq_true rfl, _, _, _, Or.inl ⟨Nat.le_of_ble_eq_true rfl, rfl⟩, Nat.le_of_ble_eq_true rfl, zw_165⟩) <|
  zgd_e (fun d => zo_l d rfl rfl trivial) <|
  zgd_e (fun d => zo_l d rfl rfl trivial) <|
  zgd_e (fun d => zo_l d rfl rfl trivial) <|
  zgd_e (fun d => zo_h d rfl ⟨rfl, Nat.le_of_ble_eq_true rfl, _, _, _, Or.inl ⟨Nat.le_of_ble_eq_true rfl, rfl⟩, Nat.le_of_ble_eq_true rfl, zw_165⟩) <|
  zgd_e (fun d => zo_v d rfl ⟨rfl, zd_58, zw_544, Nat.le_of_ble_eq_true rfl, ⟨_, Or.inl ⟨Nat.le_of_ble_eq_true rfl, rfl⟩, rfl⟩, zw_587, zw_545⟩) <|
  zgd_e (fun d => zo_l d rfl rfl (by show ((63 : Nat) : Int) + (9) = ((72 : Nat) : Int); decide)) <|
  zgd_e (fun d => zo_l d rfl rfl trivial) <|
  zgd_e (fun d => zo_l d rfl rfl trivial) <|
  zgd_e (fun d => zo_l d rfl rfl trivial) <|
  zgd_e (fun d => zo_l d rfl rfl trivial) <|
  zgd_m h
theorem zdd_38_1 : ∀ q ∈ zc_38_1, decode prog_6_method_11_code q.1 = Except.ok (q.2.1, q.2.2.1) := zdd_of (by decide +kernel)
theorem zk_38_1 (xs : List Int32) {l : List zE} (h : ∀ q ∈ l, z_oke' (za_T xs) za_P za_M ⟨"LyndonBench$State", "greatestOfShelf", "(I)I"⟩ prog_6_method_11_code q) : ∀ q ∈ zc_38_1 ++ l, z_oke' (za_T xs) za_P za_M ⟨"LyndonBench$State", "greatestOfShelf", "(I)I"⟩ prog_6_method_11_code q :=
  zgd_y zdd_38_1 <|
  zgd_e (fun d => zo_l d rfl rfl trivial) <|
  zgd_e (fun d => zo_l d rfl rfl (by show ((75 : Nat) : Int) + (-68) = ((7 : Nat) : Int); decide)) <|
  zgd_e (fun d => zo_l d rfl rfl trivial) <|
  zgd_e (fun d => zo_r d rfl) <|
  zgd_m h
theorem zk_38 (xs : List Int32) : z_okm (za_T xs) za_P za_M 38 := z_okm_of ⟨"LyndonBench$State", "greatestOfShelf", "(I)I"⟩ prog_6_method_11_code zc_38 _ rfl rfl rfl rfl
  (zk_38_0 xs <|
  zk_38_1 xs <|
  z_fn)
  (z_fn)
theorem zdd_39 : ∀ q ∈ zc_39, decode prog_6_method_12_code q.1 = Except.ok (q.2.1, q.2.2.1) := zdd_of (by decide +kernel)
theorem zk_39 (xs : List Int32) : z_okm (za_T xs) za_P za_M 39 := z_okm_of ⟨"LyndonBench$State", "canJoin", "()Z"⟩ prog_6_method_12_code zc_39 _ rfl rfl rfl rfl
  (zgd_x zdd_39 <|
  zgd_d (fun d => zo_l d rfl rfl trivial) <|
  zgd_d (fun d => zo_l d rfl rfl trivial) <|
  zgd_d (fun d => zo_l d rfl rfl trivial) <|
  zgd_d (fun d => zo_l d rfl rfl trivial) <|
  zgd_d (fun d => zo_l d rfl rfl trivial) <|
  zgd_d (fun d => zo_l d rfl rfl trivial) <|
  zgd_d (fun d => zo_h d rfl ⟨rfl, Nat.le_of_ble_eq_true rfl, _, _, _, Or.inl ⟨Nat.le_of_ble_eq_true rfl, rfl⟩, Nat.le_of_ble_eq_true rfl, zw_180⟩) <|
  zgd_d (fun d => zo_l d rfl rfl (by show ((9 : Nat) : Int) + (30) = ((39 : Nat) : Int); decide)) <|
  zgd_d (fun d => zo_l d rfl rfl trivial) <|
  zgd_d (fun d => zo_l d rfl rfl trivial) <|
  zgd_d (fun d => zo_v d rfl ⟨rfl, zd_34, zw_562, Nat.le_of_ble_eq_true rfl, ⟨_, Or.inl ⟨Nat.le_of_ble_eq_true rfl, rfl⟩, rfl⟩, zw_561, zw_563⟩) <|
  zgd_d (fun d => zo_l d rfl rfl trivial) <|
  zgd_d (fun d => zo_l d rfl rfl trivial) <|
  zgd_d (fun d => zo_l d rfl rfl trivial) <|
  zgd_d (fun d => zo_h d rfl ⟨rfl, by show ((20 : Nat) : Int) + (7) = ((27 : Nat) : Int); decide⟩) <|
  zgd_d (fun d => zo_l d rfl rfl trivial) <|
  zgd_d (fun d => zo_l d rfl rfl (by show ((24 : Nat) : Int) + (7) = ((31 : Nat) : Int); decide)) <|
  zgd_d (fun d => zo_l d rfl rfl trivial) <|
  zgd_d (fun d => zo_h d rfl ⟨rfl, Nat.le_of_ble_eq_true rfl, _, _, _, Or.inl ⟨Nat.le_of_ble_eq_true rfl, rfl⟩, Nat.le_of_ble_eq_true rfl, zw_165⟩) <|
  zgd_d (fun d => zo_l d rfl rfl trivial) <|
  zgd_d (fun d => zo_l d rfl rfl trivial) <|
  zgd_d (fun d => zo_l d rfl rfl trivial) <|
  zgd_d (fun d => zo_l d rfl rfl (by show ((36 : Nat) : Int) + (-32) = ((4 : Nat) : Int); decide)) <|
  zgd_d (fun d => zo_l d rfl rfl trivial) <|
  zgd_d (fun d => zo_h d rfl ⟨rfl, Nat.le_of_ble_eq_true rfl, _, _, _, Or.inl ⟨Nat.le_of_ble_eq_true rfl, rfl⟩, Nat.le_of_ble_eq_true rfl, zw_180⟩) <|
  zgd_d (fun d => zo_l d rfl rfl (by show ((43 : Nat) : Int) + (13) = ((56 : Nat) : Int); decide)) <|
  zgd_d (fun d => zo_l d rfl rfl trivial) <|
  zgd_d (fun d => zo_l d rfl rfl trivial) <|
  zgd_d (fun d => zo_l d rfl rfl (by show ((49 : Nat) : Int) + (7) = ((56 : Nat) : Int); decide)) <|
  zgd_d (fun d => zo_l d rfl rfl trivial) <|
  zgd_d (fun d => zo_l d rfl rfl (by show ((53 : Nat) : Int) + (4) = ((57 : Nat) : Int); decide)) <|
  zgd_d (fun d => zo_l d rfl rfl trivial) <|
  zgd_d (fun d => zo_r d rfl) <|
  zgd_n)
  (z_fn)
theorem zdd_40 : ∀ q ∈ zc_40, decode prog_6_method_13_code q.1 = Except.ok (q.2.1, q.2.2.1) := zdd_of (by decide +kernel)
theorem zk_40 (xs : List Int32) : z_okm (za_T xs) za_P za_M 40 := z_okm_of ⟨"LyndonBench$State", "joinShelf", "()V"⟩ prog_6_method_13_code zc_40 _ rfl rfl rfl rfl
  (zgd_x zdd_40 <|
  zgd_d (fun d => zo_l d rfl rfl trivial) <|
  zgd_d (fun d => zo_h d rfl ⟨rfl, Nat.le_of_ble_eq_true rfl, _, _, _, Or.inl ⟨Nat.le_of_ble_eq_true rfl, rfl⟩, Nat.le_of_ble_eq_true rfl, zw_176⟩) <|
  zgd_d (fun d => zo_v d rfl ⟨rfl, zd_45, zw_268, Nat.le_of_ble_eq_true rfl, ⟨_, Or.inl ⟨Nat.le_of_ble_eq_true rfl, rfl⟩, rfl⟩, zw_267, zw_269⟩) <|
  zgd_d (fun d => zo_l d rfl rfl trivial) <|
  zgd_d (fun d => zo_l d rfl rfl trivial) <|
  zgd_d (fun d => zo_l d rfl rfl trivial) <|
  zgd_d (fun d => zo_l d rfl rfl trivial) <|
  zgd_d (fun d => zo_l d rfl rfl trivial) <|
  zgd_d (fun d => zo_l d rfl rfl trivial) <|
  zgd_d (fun d => zo_h d rfl ⟨rfl, Nat.le_of_ble_eq_true rfl, _, _, _, Or.inl ⟨Nat.le_of_ble_eq_true rfl, rfl⟩, Nat.le_of_ble_eq_true rfl, zw_180⟩) <|
  zgd_d (fun d => zo_l d rfl rfl (by show ((16 : Nat) : Int) + (48) = ((64 : Nat) : Int); decide)) <|
  zgd_d (fun d => zo_l d rfl rfl trivial) <|
  zgd_d (fun d => zo_l d rfl rfl trivial) <|
  zgd_d (fun d => zo_v d rfl ⟨rfl, zd_38, zw_584, Nat.le_of_ble_eq_true rfl, ⟨_, Or.inl ⟨Nat.le_of_ble_eq_true rfl, rfl⟩, rfl⟩, zw_583, zw_585⟩) <|
  zgd_d (fun d => zo_l d rfl rfl trivial) <|
  zgd_d (fun d => zo_l d rfl rfl trivial) <|
  zgd_d (fun d => zo_l d rfl rfl trivial) <|
  zgd_d (fun d => zo_v d rfl ⟨rfl, zd_34, zw_562, Nat.le_of_ble_eq_true rfl, ⟨_, Or.inl ⟨Nat.le_of_ble_eq_true rfl, rfl⟩, rfl⟩, zw_561, zw_563⟩) <|
  zgd_d (fun d => zo_l d rfl rfl trivial) <|
  zgd_d (fun d => zo_l d rfl rfl trivial) <|
  zgd_d (fun d => zo_h d rfl ⟨rfl, by show ((34 : Nat) : Int) + (24) = ((58 : Nat) : Int); decide⟩) <|
  zgd_d (fun d => zo_l d rfl rfl trivial) <|
  zgd_d (fun d => zo_h d rfl ⟨rfl, Nat.le_of_ble_eq_true rfl, _, _, _, Or.inl ⟨Nat.le_of_ble_eq_true rfl, rfl⟩, Nat.le_of_ble_eq_true rfl, zw_176⟩) <|
  zgd_d (fun d => zo_l d rfl rfl trivial) <|
  zgd_d (fun d => zo_l d rfl rfl trivial) <|
  zgd_d (fun d => zo_l d rfl rfl trivial) <|
  zgd_d (fun d => zo_h d rfl ⟨rfl, Nat.le_of_ble_eq_true rfl, _, _, _, Or.inl ⟨Nat.le_of_ble_eq_true rfl, rfl⟩, Nat.le_of_ble_eq_true rfl, zw_165⟩) <|
  zgd_d (fun d => zo_v d rfl ⟨rfl, zd_49, zw_334, Nat.le_of_ble_eq_true rfl, ⟨_, Or.inl ⟨Nat.le_of_ble_eq_true rfl, rfl⟩, rfl⟩, zw_333, zw_335⟩) <|
  zgd_d (fun d => zo_l d rfl rfl trivial) <|
  zgd_d (fun d => zo_l d rfl rfl trivial) <|
  zgd_d (fun d => zo_l d rfl rfl trivial) <|
  zgd_d (fun d => zo_l d rfl rfl trivial) <|
  zgd_d (fun d => zo_l d rfl rfl trivial) <|
  zgd_d (fun d => zo_l d rfl rfl trivial) <|
  zgd_d (fun d => zo_l d rfl rfl trivial) <|
  zgd_d (fun d => zo_l d rfl rfl (by show ((61 : Nat) : Int) + (-50) = ((11 : Nat) : Int); decide)) <|
  zgd_d (fun d => zo_e d) <|
  zgd_n)
  (z_fn)
theorem zdd_41 : ∀ q ∈ zc_41, decode prog_6_method_14_code q.1 = Except.ok (q.2.1, q.2.2.1) := zdd_of (by decide +kernel)
theorem zk_41 (xs : List Int32) : z_okm (za_T xs) za_P za_M 41 := z_okm_of ⟨"LyndonBench$State", "hasNext", "(I)Z"⟩ prog_6_method_14_code zc_41 _ rfl rfl rfl rfl
  (zgd_x zdd_41 <|
  zgd_d (fun d => zo_l d rfl rfl trivial) <|
  zgd_d (fun d => zo_h d rfl ⟨rfl, Nat.le_of_ble_eq_true rfl, _, _, _, Or.inl ⟨Nat.le_of_ble_eq_true rfl, rfl⟩, Nat.le_of_ble_eq_true rfl, zw_176⟩) <|
  zgd_d (fun d => zo_h d rfl ⟨rfl, Nat.le_of_ble_eq_true rfl, _, _, _, Or.inl ⟨Nat.le_of_ble_eq_true rfl, rfl⟩, Nat.le_of_ble_eq_true rfl, zw_165⟩) <|
  zgd_d (fun d => zo_l d rfl rfl trivial) <|
  zgd_d (fun d => zo_l d rfl rfl (by show ((8 : Nat) : Int) + (32) = ((40 : Nat) : Int); decide)) <|
  zgd_d (fun d => zo_l d rfl rfl trivial) <|
  zgd_d (fun d => zo_h d rfl ⟨rfl, Nat.le_of_ble_eq_true rfl, _, _, _, Or.inl ⟨Nat.le_of_ble_eq_true rfl, rfl⟩, Nat.le_of_ble_eq_true rfl, zw_176⟩) <|
  zgd_d (fun d => zo_v d rfl ⟨rfl, zd_62, zw_514, Nat.le_of_ble_eq_true rfl, ⟨_, Or.inl ⟨Nat.le_of_ble_eq_true rfl, rfl⟩, rfl⟩, zw_513, zw_515⟩) <|
  zgd_d (fun d => zo_l d rfl rfl (by show ((18 : Nat) : Int) + (22) = ((40 : Nat) : Int); decide)) <|
  zgd_d (fun d => zo_l d rfl rfl trivial) <|
  zgd_d (fun d => zo_h d rfl ⟨rfl, Nat.le_of_ble_eq_true rfl, _, _, _, Or.inl ⟨Nat.le_of_ble_eq_true rfl, rfl⟩, Nat.le_of_ble_eq_true rfl, zw_176⟩) <|
  zgd_d (fun d => zo_l d rfl rfl trivial) <|
  zgd_d (fun d => zo_v d rfl ⟨rfl, zd_43, zw_338, Nat.le_of_ble_eq_true rfl, ⟨_, Or.inl ⟨Nat.le_of_ble_eq_true rfl, rfl⟩, rfl⟩, zw_521, zw_339⟩) <|
  zgd_d (fun d => zo_l d rfl rfl trivial) <|
  zgd_d (fun d => zo_v d rfl ⟨rfl, zd_32, zw_523, Nat.le_of_ble_eq_true rfl, ⟨_, Or.inl ⟨Nat.le_of_ble_eq_true rfl, rfl⟩, rfl⟩, zw_522, zw_524⟩) <|
  zgd_d (fun d => zo_l d rfl rfl (by show ((33 : Nat) : Int) + (7) = ((40 : Nat) : Int); decide)) <|
  zgd_d (fun d => zo_l d rfl rfl trivial) <|
  zgd_d (fun d => zo_l d rfl rfl (by show ((37 : Nat) : Int) + (4) = ((41 : Nat) : Int); decide)) <|
  zgd_d (fun d => zo_l d rfl rfl trivial) <|
  zgd_d (fun d => zo_r d rfl) <|
  zgd_n)
  (z_fn)
theorem zdd_42 : ∀ q ∈ zc_42, decode prog_7_method_1_code q.1 = Except.ok (q.2.1, q.2.2.1) := zdd_of (by decide +kernel)
theorem zk_42 (xs : List Int32) : z_okm (za_T xs) za_P za_M 42 := z_okm_of ⟨"LyndonBench$Word", "<init>", "(I)V"⟩ prog_7_method_1_code zc_42 _ rfl rfl rfl rfl
  (zgd_x zdd_42 <|
  zgd_d (fun d => zo_l d rfl rfl trivial) <|
  zgd_d (fun d => zo_h d rfl ⟨rfl, zw_158, zw_145, zw_146⟩) <|
  zgd_d (fun d => zo_l d rfl rfl trivial) <|
  zgd_d (fun d => zo_l d rfl rfl trivial) <|
  zgd_d (fun d => zo_h d rfl ⟨rfl, Nat.le_of_ble_eq_true rfl, _, _, _, rfl, Nat.le_of_ble_eq_true rfl, zw_163, Or.inl rfl⟩) <|
  zgd_d (fun d => zo_l d rfl rfl trivial) <|
  zgd_d (fun d => zo_l d rfl rfl trivial) <|
  zgd_d (fun d => zo_l d rfl rfl trivial) <|
  zgd_d (fun d => zo_h d rfl ⟨rfl, zw_159, zw_160, zw_121, zw_161⟩) <|
  zgd_d (fun d => zo_h d rfl ⟨rfl, zw_172⟩) <|
  zgd_d (fun d => zo_h d rfl ⟨rfl, Nat.le_of_ble_eq_true rfl, _, _, _, rfl, Nat.le_of_ble_eq_true rfl, zw_162, Or.inr ⟨rfl, rfl, rfl⟩⟩) <|
  zgd_d (fun d => zo_e d) <|
  zgd_n)
  (z_fn)
theorem zdd_43 : ∀ q ∈ zc_43, decode prog_7_method_2_code q.1 = Except.ok (q.2.1, q.2.2.1) := zdd_of (by decide +kernel)
theorem zk_43 (xs : List Int32) : z_okm (za_T xs) za_P za_M 43 := z_okm_of ⟨"LyndonBench$Word", "at", "(I)I"⟩ prog_7_method_2_code zc_43 _ rfl rfl rfl rfl
  (zgd_x zdd_43 <|
  zgd_d (fun d => zo_l d rfl rfl trivial) <|
  zgd_d (fun d => zo_l d rfl rfl (by show ((1 : Nat) : Int) + (33) = ((34 : Nat) : Int); decide)) <|
  zgd_d (fun d => zo_l d rfl rfl trivial) <|
  zgd_d (fun d => zo_l d rfl rfl trivial) <|
  zgd_d (fun d => zo_h d rfl ⟨rfl, Nat.le_of_ble_eq_true rfl, _, _, _, Or.inl ⟨Nat.le_of_ble_eq_true rfl, rfl⟩, Nat.le_of_ble_eq_true rfl, zw_163⟩) <|
  zgd_d (fun d => zo_l d rfl rfl (by show ((9 : Nat) : Int) + (25) = ((34 : Nat) : Int); decide)) <|
  zgd_d (fun d => zo_l d rfl rfl trivial) <|
  zgd_d (fun d => zo_l d rfl rfl trivial) <|
  zgd_d (fun d => zo_h d rfl ⟨rfl, Nat.le_of_ble_eq_true rfl, _, _, _, Or.inl ⟨Nat.le_of_ble_eq_true rfl, rfl⟩, Nat.le_of_ble_eq_true rfl, zw_162⟩) <|
  zgd_d (fun d => zo_h d rfl rfl) <|
  zgd_d (fun d => zo_l d rfl rfl (by show ((18 : Nat) : Int) + (16) = ((34 : Nat) : Int); decide)) <|
  zgd_d (fun d => zo_l d rfl rfl trivial) <|
  zgd_d (fun d => zo_h d rfl ⟨rfl, Nat.le_of_ble_eq_true rfl, _, _, _, Or.inl ⟨Nat.le_of_ble_eq_true rfl, rfl⟩, Nat.le_of_ble_eq_true rfl, zw_162⟩) <|
  zgd_d (fun d => zo_l d rfl rfl trivial) <|
  zgd_d (fun d => zo_h d rfl rfl) <|
  zgd_d (fun d => zo_l d rfl rfl trivial) <|
  zgd_d (fun d => zo_l d rfl rfl trivial) <|
  zgd_d (fun d => zo_l d rfl rfl (by show ((31 : Nat) : Int) + (4) = ((35 : Nat) : Int); decide)) <|
  zgd_d (fun d => zo_l d rfl rfl trivial) <|
  zgd_d (fun d => zo_r d rfl) <|
  zgd_n)
  (z_fn)
theorem zdd_44 : ∀ q ∈ zc_44, decode prog_7_method_3_code q.1 = Except.ok (q.2.1, q.2.2.1) := zdd_of (by decide +kernel)
theorem zk_44 (xs : List Int32) : z_okm (za_T xs) za_P za_M 44 := z_okm_of ⟨"LyndonBench$Word", "put", "(II)V"⟩ prog_7_method_3_code zc_44 _ rfl rfl rfl rfl
  (zgd_x zdd_44 <|
  zgd_d (fun d => zo_l d rfl rfl trivial) <|
  zgd_d (fun d => zo_l d rfl rfl (by show ((1 : Nat) : Int) + (28) = ((29 : Nat) : Int); decide)) <|
  zgd_d (fun d => zo_l d rfl rfl trivial) <|
  zgd_d (fun d => zo_l d rfl rfl trivial) <|
  zgd_d (fun d => zo_h d rfl ⟨rfl, Nat.le_of_ble_eq_true rfl, _, _, _, Or.inl ⟨Nat.le_of_ble_eq_true rfl, rfl⟩, Nat.le_of_ble_eq_true rfl, zw_163⟩) <|
  zgd_d (fun d => zo_l d rfl rfl (by show ((9 : Nat) : Int) + (20) = ((29 : Nat) : Int); decide)) <|
  zgd_d (fun d => zo_l d rfl rfl trivial) <|
  zgd_d (fun d => zo_l d rfl rfl trivial) <|
  zgd_d (fun d => zo_h d rfl ⟨rfl, Nat.le_of_ble_eq_true rfl, _, _, _, Or.inl ⟨Nat.le_of_ble_eq_true rfl, rfl⟩, Nat.le_of_ble_eq_true rfl, zw_162⟩) <|
  zgd_d (fun d => zo_h d rfl rfl) <|
  zgd_d (fun d => zo_l d rfl rfl (by show ((18 : Nat) : Int) + (11) = ((29 : Nat) : Int); decide)) <|
  zgd_d (fun d => zo_l d rfl rfl trivial) <|
  zgd_d (fun d => zo_h d rfl ⟨rfl, Nat.le_of_ble_eq_true rfl, _, _, _, Or.inl ⟨Nat.le_of_ble_eq_true rfl, rfl⟩, Nat.le_of_ble_eq_true rfl, zw_162⟩) <|
  zgd_d (fun d => zo_l d rfl rfl trivial) <|
  zgd_d (fun d => zo_l d rfl rfl trivial) <|
  zgd_d (fun d => zo_l d rfl rfl trivial) <|
  zgd_d (fun d => zo_h d rfl rfl) <|
  zgd_d (fun d => zo_e d) <|
  zgd_n)
  (z_fn)
theorem zdd_45 : ∀ q ∈ zc_45, decode prog_7_method_4_code q.1 = Except.ok (q.2.1, q.2.2.1) := zdd_of (by decide +kernel)
theorem zk_45 (xs : List Int32) : z_okm (za_T xs) za_P za_M 45 := z_okm_of ⟨"LyndonBench$Word", "clear", "()V"⟩ prog_7_method_4_code zc_45 _ rfl rfl rfl rfl
  (zgd_x zdd_45 <|
  zgd_d (fun d => zo_l d rfl rfl trivial) <|
  zgd_d (fun d => zo_l d rfl rfl trivial) <|
  zgd_d (fun d => zo_h d rfl ⟨rfl, Nat.le_of_ble_eq_true rfl, _, _, _, rfl, Nat.le_of_ble_eq_true rfl, zw_163, Or.inl rfl⟩) <|
  zgd_d (fun d => zo_e d) <|
  zgd_n)
  (z_fn)
theorem zdd_46 : ∀ q ∈ zc_46, decode prog_7_method_5_code q.1 = Except.ok (q.2.1, q.2.2.1) := zdd_of (by decide +kernel)
theorem zk_46 (xs : List Int32) : z_okm (za_T xs) za_P za_M 46 := z_okm_of ⟨"LyndonBench$Word", "add", "(I)V"⟩ prog_7_method_5_code zc_46 _ rfl rfl rfl rfl
  (zgd_x zdd_46 <|
  zgd_d (fun d => zo_l d rfl rfl trivial) <|
  zgd_d (fun d => zo_h d rfl ⟨rfl, Nat.le_of_ble_eq_true rfl, _, _, _, Or.inl ⟨Nat.le_of_ble_eq_true rfl, rfl⟩, Nat.le_of_ble_eq_true rfl, zw_163⟩) <|
  zgd_d (fun d => zo_l d rfl rfl (by show ((4 : Nat) : Int) + (36) = ((40 : Nat) : Int); decide)) <|
  zgd_d (fun d => zo_l d rfl rfl trivial) <|
  zgd_d (fun d => zo_h d rfl ⟨rfl, Nat.le_of_ble_eq_true rfl, _, _, _, Or.inl ⟨Nat.le_of_ble_eq_true rfl, rfl⟩, Nat.le_of_ble_eq_true rfl, zw_163⟩) <|
  zgd_d (fun d => zo_l d rfl rfl trivial) <|
  zgd_d (fun d => zo_h d rfl ⟨rfl, Nat.le_of_ble_eq_true rfl, _, _, _, Or.inl ⟨Nat.le_of_ble_eq_true rfl, rfl⟩, Nat.le_of_ble_eq_true rfl, zw_162⟩) <|
  zgd_d (fun d => zo_h d rfl rfl) <|
  zgd_d (fun d => zo_l d rfl rfl (by show ((16 : Nat) : Int) + (24) = ((40 : Nat) : Int); decide)) <|
  zgd_d (fun d => zo_l d rfl rfl trivial) <|
  zgd_d (fun d => zo_h d rfl ⟨rfl, Nat.le_of_ble_eq_true rfl, _, _, _, Or.inl ⟨Nat.le_of_ble_eq_true rfl, rfl⟩, Nat.le_of_ble_eq_true rfl, zw_162⟩) <|
  zgd_d (fun d => zo_l d rfl rfl trivial) <|
  zgd_d (fun d => zo_h d rfl ⟨rfl, Nat.le_of_ble_eq_true rfl, _, _, _, Or.inl ⟨Nat.le_of_ble_eq_true rfl, rfl⟩, Nat.le_of_ble_eq_true rfl, zw_163⟩) <|
  zgd_d (fun d => zo_l d rfl rfl trivial) <|
  zgd_d (fun d => zo_l d rfl rfl trivial) <|
  zgd_d (fun d => zo_h d rfl rfl) <|
  zgd_d (fun d => zo_l d rfl rfl trivial) <|
  zgd_d (fun d => zo_l d rfl rfl trivial) <|
  zgd_d (fun d => zo_h d rfl ⟨rfl, Nat.le_of_ble_eq_true rfl, _, _, _, Or.inl ⟨Nat.le_of_ble_eq_true rfl, rfl⟩, Nat.le_of_ble_eq_true rfl, zw_163⟩) <|
  zgd_d (fun d => zo_l d rfl rfl trivial) <|
  zgd_d (fun d => zo_l d rfl rfl trivial) <|
  zgd_d (fun d => zo_h d rfl ⟨rfl, Nat.le_of_ble_eq_true rfl, _, _, _, rfl, Nat.le_of_ble_eq_true rfl, zw_163, Or.inl rfl⟩) <|
  zgd_d (fun d => zo_e d) <|
  zgd_n)
  (z_fn)
theorem zdd_47 : ∀ q ∈ zc_47, decode prog_7_method_6_code q.1 = Except.ok (q.2.1, q.2.2.1) := zdd_of (by decide +kernel)
theorem zk_47 (xs : List Int32) : z_okm (za_T xs) za_P za_M 47 := z_okm_of ⟨"LyndonBench$Word", "addFourBytes", "(I)V"⟩ prog_7_method_6_code zc_47 _ rfl rfl rfl rfl
  (zgd_x zdd_47 <|
  zgd_d (fun d => zo_l d rfl rfl trivial) <|
  zgd_d (fun d => zo_l d rfl rfl trivial) <|
  zgd_d (fun d => zo_l d rfl rfl trivial) <|
  zgd_d (fun d => zo_l d rfl rfl (by show ((4 : Nat) : Int) + (16) = ((20 : Nat) : Int); decide)) <|
  zgd_d (fun d => zo_l d rfl rfl trivial) <|
  zgd_d (fun d => zo_l d rfl rfl trivial) <|
  zgd_d (fun d => zo_l d rfl rfl trivial) <|
  zgd_d (fun d => zo_l d rfl rfl trivial) <|
  zgd_d (fun d => zo_v d rfl ⟨rfl, zd_46, zw_325, Nat.le_of_ble_eq_true rfl, ⟨_, Or.inl ⟨Nat.le_of_ble_eq_true rfl, rfl⟩, rfl⟩, zw_324, zw_326⟩) <|
  zgd_d (fun d => zo_l d rfl rfl trivial) <|
  zgd_d (fun d => zo_l d rfl rfl (by show ((17 : Nat) : Int) + (-14) = ((3 : Nat) : Int); decide)) <|
  zgd_d (fun d => zo_e d) <|
  zgd_n)
  (z_fn)
theorem zdd_48 : ∀ q ∈ zc_48, decode prog_7_method_7_code q.1 = Except.ok (q.2.1, q.2.2.1) := zdd_of (by decide +kernel)
theorem zk_48 (xs : List Int32) : z_okm (za_T xs) za_P za_M 48 := z_okm_of ⟨"LyndonBench$Word", "addString", "(Ljava/lang/String;)V"⟩ prog_7_method_7_code zc_48 _ rfl rfl rfl rfl
  (zgd_x zdd_48 <|
  zgd_d (fun d => zo_l d rfl rfl trivial) <|
  zgd_d (fun d => zo_l d rfl rfl trivial) <|
  zgd_d (fun d => zo_l d rfl rfl trivial) <|
  zgd_d (fun d => zo_l d rfl rfl trivial) <|
  zgd_d (fun d => zo_v d rfl ⟨rfl, zd_295, zw_277, Nat.le_of_ble_eq_true rfl, ⟨_, Or.inr ⟨Nat.le_of_ble_eq_true rfl, rfl⟩, rfl⟩, zw_276, zw_278⟩) <|
  zgd_d (fun d => zo_l d rfl rfl (by show ((7 : Nat) : Int) + (18) = ((25 : Nat) : Int); decide)) <|
  zgd_d (fun d => zo_l d rfl rfl trivial) <|
  zgd_d (fun d => zo_l d rfl rfl trivial) <|
  zgd_d (fun d => zo_l d rfl rfl trivial) <|
  zgd_d (fun d => zo_v d rfl ⟨rfl, zd_296, zw_287, Nat.le_of_ble_eq_true rfl, ⟨_, Or.inr ⟨Nat.le_of_ble_eq_true rfl, rfl⟩, rfl⟩, zw_286, zw_288⟩) <|
  zgd_d (fun d => zo_v d rfl ⟨rfl, zd_46, zw_325, Nat.le_of_ble_eq_true rfl, ⟨_, Or.inl ⟨Nat.le_of_ble_eq_true rfl, rfl⟩, rfl⟩, zw_324, zw_326⟩) <|
  zgd_d (fun d => zo_l d rfl rfl trivial) <|
  zgd_d (fun d => zo_l d rfl rfl (by show ((22 : Nat) : Int) + (-20) = ((2 : Nat) : Int); decide)) <|
  zgd_d (fun d => zo_e d) <|
  zgd_n)
  (z_fn)
theorem zdd_49 : ∀ q ∈ zc_49, decode prog_7_method_8_code q.1 = Except.ok (q.2.1, q.2.2.1) := zdd_of (by decide +kernel)
theorem zk_49 (xs : List Int32) : z_okm (za_T xs) za_P za_M 49 := z_okm_of ⟨"LyndonBench$Word", "addPart", "(LLyndonBench$Word;II)V"⟩ prog_7_method_8_code zc_49 _ rfl rfl rfl rfl
  (zgd_x zdd_49 <|
  zgd_d (fun d => zo_l d rfl rfl trivial) <|
  zgd_d (fun d => zo_l d rfl rfl trivial) <|
  zgd_d (fun d => zo_l d rfl rfl trivial) <|
  zgd_d (fun d => zo_l d rfl rfl trivial) <|
  zgd_d (fun d => zo_l d rfl rfl (by show ((6 : Nat) : Int) + (19) = ((25 : Nat) : Int); decide)) <|
  zgd_d (fun d => zo_l d rfl rfl trivial) <|
  zgd_d (fun d => zo_l d rfl rfl trivial) <|
  zgd_d (fun d => zo_l d rfl rfl trivial) <|
  zgd_d (fun d => zo_v d rfl ⟨rfl, zd_43, zw_338, Nat.le_of_ble_eq_true rfl, ⟨_, Or.inl ⟨Nat.le_of_ble_eq_true rfl, rfl⟩, rfl⟩, zw_337, zw_339⟩) <|
  zgd_d (fun d => zo_v d rfl ⟨rfl, zd_46, zw_325, Nat.le_of_ble_eq_true rfl, ⟨_, Or.inl ⟨Nat.le_of_ble_eq_true rfl, rfl⟩, rfl⟩, zw_324, zw_326⟩) <|
  zgd_d (fun d => zo_l d rfl rfl trivial) <|
  zgd_d (fun d => zo_l d rfl rfl (by show ((22 : Nat) : Int) + (-19) = ((3 : Nat) : Int); decide)) <|
  zgd_d (fun d => zo_e d) <|
  zgd_n)
  (z_fn)
