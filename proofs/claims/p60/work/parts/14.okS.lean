/-! The check of the tables, as a whole. -/
theorem z_nth_out {α : Type} {d : α} : ∀ {l : List α} {n : Nat}, l.length ≤ n → z_nth l n d = d := by
  intro l
  induction l with
  | nil => intro n _; rfl
  | cons a l ih =>
    intro n h
    cases n with
    | zero => simp at h
    | succ n => exact ih (by simpa using h)
theorem z_g2_out {α : Type} {l : List (List α)} {d : α} {y : Nat} (h : 16 * l.length ≤ y) : z_g2 l d y = d := by
  unfold z_g2
  rw [z_nth_out (l := l) (by omega)]
  rfl
theorem z_up {Q : Nat → Prop} {k : Nat} (h : Q k) (t : ∀ y, k + 1 ≤ y → Q y) : ∀ y, k ≤ y → Q y := fun y hy => by
  rcases Nat.eq_or_lt_of_le hy with rfl | h1
  · exact h
  · exact t y h1
theorem z_good2 : ∀ w ∈ za_Ts, (w.onTables && w.keeps) = true ∨ ∃ ty, w = .arrayClass ty := fun w hw => good_of_word (List.mem_filter.mp hw).2
theorem z_all2 {ws : List Cond} (h : ws.all (fun w => goodWord w && lw_tbl.contains w) = true) : ∀ w ∈ ws, w ∈ za_Ts := fun w hw => by
  have h1 := List.all_eq_true.mp h w hw
  simp only [Bool.and_eq_true] at h1
  exact List.mem_filter.mpr ⟨List.contains_iff_mem.mp h1.2, h1.1⟩
theorem z_tfa : z_tf za_tf := by
  refine ⟨rfl, rfl, rfl, rfl, fun t ty h e => ?_⟩
  rcases Nat.lt_or_ge t 7 with h7 | h7
  · have h8 : t = 4 ∨ t = 5 ∨ t = 6 := by omega
    rcases h8 with rfl | rfl | rfl
    · exact ⟨_, (Option.some.inj e).symm⟩
    · exact ⟨_, (Option.some.inj e).symm⟩
    · exact ⟨_, (Option.some.inj e).symm⟩
  · rw [List.getElem?_eq_none (by exact h7)] at e
    cases e
theorem zj_0 (xs : List Int32) : (∀ w ∈ u_ws "LyndonBench" za_T0 7, w ∈ za_Ts) ∧ (∀ k, k < 7 → parseFieldDescriptor (za_T0 k).2.2.1 = some ((za_T xs).2.2.2.2.1 0 k)) ∧ (∀ a, a < 7 → ∀ b, b < 7 → a ≠ b → (za_T0 a).2.1 ≠ (za_T0 b).2.1) := ⟨z_all3 (by decide +kernel), (by decide +kernel : ∀ k, k < 7 → parseFieldDescriptor (za_T0 k).2.2.1 = some (za_fty 0 k)), by decide +kernel⟩
theorem zj_1 (xs : List Int32) : (∀ w ∈ u_ws "LyndonBench$History" za_T1 2, w ∈ za_Ts) ∧ (∀ k, k < 2 → parseFieldDescriptor (za_T1 k).2.2.1 = some ((za_T xs).2.2.2.2.1 1 k)) ∧ (∀ a, a < 2 → ∀ b, b < 2 → a ≠ b → (za_T1 a).2.1 ≠ (za_T1 b).2.1) := ⟨z_all3 (by decide +kernel), (by decide +kernel : ∀ k, k < 2 → parseFieldDescriptor (za_T1 k).2.2.1 = some (za_fty 1 k)), by decide +kernel⟩
theorem zj_2 (xs : List Int32) : (∀ w ∈ u_ws "LyndonBench$Script" za_T2 12, w ∈ za_Ts) ∧ (∀ k, k < 12 → parseFieldDescriptor (za_T2 k).2.2.1 = some ((za_T xs).2.2.2.2.1 2 k)) ∧ (∀ a, a < 12 → ∀ b, b < 12 → a ≠ b → (za_T2 a).2.1 ≠ (za_T2 b).2.1) := ⟨z_all3 (by decide +kernel), (by decide +kernel : ∀ k, k < 12 → parseFieldDescriptor (za_T2 k).2.2.1 = some (za_fty 2 k)), by decide +kernel⟩
theorem zj_3 (xs : List Int32) : (∀ w ∈ u_ws "LyndonBench$State" za_T3 4, w ∈ za_Ts) ∧ (∀ k, k < 4 → parseFieldDescriptor (za_T3 k).2.2.1 = some ((za_T xs).2.2.2.2.1 3 k)) ∧ (∀ a, a < 4 → ∀ b, b < 4 → a ≠ b → (za_T3 a).2.1 ≠ (za_T3 b).2.1) := ⟨z_all3 (by decide +kernel), (by decide +kernel : ∀ k, k < 4 → parseFieldDescriptor (za_T3 k).2.2.1 = some (za_fty 3 k)), by decide +kernel⟩
theorem zj_4 (xs : List Int32) : (∀ w ∈ u_ws "LyndonBench$Word" za_T4 2, w ∈ za_Ts) ∧ (∀ k, k < 2 → parseFieldDescriptor (za_T4 k).2.2.1 = some ((za_T xs).2.2.2.2.1 4 k)) ∧ (∀ a, a < 2 → ∀ b, b < 2 → a ≠ b → (za_T4 a).2.1 ≠ (za_T4 b).2.1) := ⟨z_all3 (by decide +kernel), (by decide +kernel : ∀ k, k < 2 → parseFieldDescriptor (za_T4 k).2.2.1 = some (za_fty 4 k)), by decide +kernel⟩
theorem zj_5 (xs : List Int32) : (∀ w ∈ u_ws "LyndonBenchModel" za_T5 24, w ∈ za_Ts) ∧ (∀ k, k < 24 → parseFieldDescriptor (za_T5 k).2.2.1 = some ((za_T xs).2.2.2.2.1 5 k)) ∧ (∀ a, a < 24 → ∀ b, b < 24 → a ≠ b → (za_T5 a).2.1 ≠ (za_T5 b).2.1) := ⟨z_all3 (by decide +kernel), (by decide +kernel : ∀ k, k < 24 → parseFieldDescriptor (za_T5 k).2.2.1 = some (za_fty 5 k)), by decide +kernel⟩
theorem z_okca (xs : List Int32) : z_okc za_cl za_tf (za_T xs) za_Ts := by
  refine ⟨fun ci r e => ?_, fun t h1 h2 ty e => ?_⟩
  · rcases Nat.lt_or_ge ci 6 with h7 | h7
    · have h8 : ci = 0 ∨ ci = 1 ∨ ci = 2 ∨ ci = 3 ∨ ci = 4 ∨ ci = 5 := by omega
      rcases h8 with rfl | rfl | rfl | rfl | rfl | rfl
      · cases e; exact zj_0 xs
      · cases e; exact zj_1 xs
      · cases e; exact zj_2 xs
      · cases e; exact zj_3 xs
      · cases e; exact zj_4 xs
      · cases e; exact zj_5 xs
    · rw [List.getElem?_eq_none (by exact h7)] at e
      cases e
  · have h8 : t = 104 ∨ t = 105 := by omega
    rcases h8 with rfl | rfl
    · cases e; exact ⟨Nat.le_of_ble_eq_true rfl, _, rfl, rfl⟩
    · cases e; exact ⟨Nat.le_of_ble_eq_true rfl, _, rfl, rfl⟩
theorem z_nwa : ∀ w ∈ za_nw, z_nwk w := by
  intro w hw
  simp only [za_nw, List.mem_cons, List.not_mem_nil, or_false] at hw
  rcases hw with rfl | rfl | rfl | rfl | rfl | rfl | rfl | rfl | rfl | rfl <;> trivial
theorem zk_out (xs : List Int32) (y : Nat) (h : 328 ≤ y) : plainName (za_M.1 y).cls = true ∧ z_okm (za_T xs) za_P za_M y := by
  rcases Nat.lt_or_ge y 336 with h1 | h1
  · have h2 : y = 328 ∨ y = 329 ∨ y = 330 ∨ y = 331 ∨ y = 332 ∨ y = 333 ∨ y = 334 ∨ y = 335 := by omega
    rcases h2 with rfl | rfl | rfl | rfl | rfl | rfl | rfl | rfl
    · exact ⟨by decide +kernel, z_okm_of _ _ [] [] rfl rfl rfl rfl z_fn z_fn⟩
    · exact ⟨by decide +kernel, z_okm_of _ _ [] [] rfl rfl rfl rfl z_fn z_fn⟩
    · exact ⟨by decide +kernel, z_okm_of _ _ [] [] rfl rfl rfl rfl z_fn z_fn⟩
    · exact ⟨by decide +kernel, z_okm_of _ _ [] [] rfl rfl rfl rfl z_fn z_fn⟩
    · exact ⟨by decide +kernel, z_okm_of _ _ [] [] rfl rfl rfl rfl z_fn z_fn⟩
    · exact ⟨by decide +kernel, z_okm_of _ _ [] [] rfl rfl rfl rfl z_fn z_fn⟩
    · exact ⟨by decide +kernel, z_okm_of _ _ [] [] rfl rfl rfl rfl z_fn z_fn⟩
    · exact ⟨by decide +kernel, z_okm_of _ _ [] [] rfl rfl rfl rfl z_fn z_fn⟩
  · have e1 : za_M.1 y = ⟨"LyndonBench", "", ""⟩ := z_g2_out (l := za_n) h1
    have e2 : za_M.2.1 y = ⟨#[]⟩ := z_g2_out (l := za_b) h1
    have e3 : za_P.1 y = [] := z_g2_out (l := za_c) h1
    have e4 : za_P.2.2.1 y = [] := z_g2_out (l := za_h) h1
    exact ⟨by rw [e1]; decide +kernel, z_okm_of _ _ [] [] e1 e2 e3 e4 z_fn z_fn⟩
theorem zk_up0 (xs : List Int32) (h : ∀ y, 40 ≤ y → plainName (za_M.1 y).cls = true ∧ z_okm (za_T xs) za_P za_M y) : ∀ y, 0 ≤ y → plainName (za_M.1 y).cls = true ∧ z_okm (za_T xs) za_P za_M y :=
  z_up ⟨by decide +kernel, zk_0 xs⟩ <|
  z_up ⟨by decide +kernel, zk_1 xs⟩ <|
  z_up ⟨by decide +kernel, zk_2 xs⟩ <|
  z_up ⟨by decide +kernel, zk_3 xs⟩ <|
  z_up ⟨by decide +kernel, zk_4 xs⟩ <|
  z_up ⟨by decide +kernel, zk_5 xs⟩ <|
  z_up ⟨by decide +kernel, zk_6 xs⟩ <|
  z_up ⟨by decide +kernel, zk_7 xs⟩ <|
  z_up ⟨by decide +kernel, zk_8 xs⟩ <|
  z_up ⟨by decide +kernel, zk_9 xs⟩ <|
  z_up ⟨by decide +kernel, zk_10 xs⟩ <|
  z_up ⟨by decide +kernel, zk_11 xs⟩ <|
  z_up ⟨by decide +kernel, zk_12 xs⟩ <|
  z_up ⟨by decide +kernel, zk_13 xs⟩ <|
  z_up ⟨by decide +kernel, zk_14 xs⟩ <|
  z_up ⟨by decide +kernel, zk_15 xs⟩ <|
  z_up ⟨by decide +kernel, zk_16 xs⟩ <|
  z_up ⟨by decide +kernel, zk_17 xs⟩ <|
  z_up ⟨by decide +kernel, zk_18 xs⟩ <|
  z_up ⟨by decide +kernel, zk_19 xs⟩ <|
  z_up ⟨by decide +kernel, zk_20 xs⟩ <|
  z_up ⟨by decide +kernel, zk_21 xs⟩ <|
  z_up ⟨by decide +kernel, zk_22 xs⟩ <|
  z_up ⟨by decide +kernel, zk_23 xs⟩ <|
  z_up ⟨by decide +kernel, zk_24 xs⟩ <|
  z_up ⟨by decide +kernel, zk_25 xs⟩ <|
  z_up ⟨by decide +kernel, zk_26 xs⟩ <|
  z_up ⟨by decide +kernel, zk_27 xs⟩ <|
  z_up ⟨by decide +kernel, zk_28 xs⟩ <|
  z_up ⟨by decide +kernel, zk_29 xs⟩ <|
  z_up ⟨by decide +kernel, zk_30 xs⟩ <|
  z_up ⟨by decide +kernel, zk_31 xs⟩ <|
  z_up ⟨by decide +kernel, zk_32 xs⟩ <|
  z_up ⟨by decide +kernel, zk_33 xs⟩ <|
  z_up ⟨by decide +kernel, zk_34 xs⟩ <|
  z_up ⟨by decide +kernel, zk_35 xs⟩ <|
  z_up ⟨by decide +kernel, zk_36 xs⟩ <|
  z_up ⟨by decide +kernel, zk_37 xs⟩ <|
  z_up ⟨by decide +kernel, zk_38 xs⟩ <|
  z_up ⟨by decide +kernel, zk_39 xs⟩ <|
  h
theorem zk_up1 (xs : List Int32) (h : ∀ y, 80 ≤ y → plainName (za_M.1 y).cls = true ∧ z_okm (za_T xs) za_P za_M y) : ∀ y, 40 ≤ y → plainName (za_M.1 y).cls = true ∧ z_okm (za_T xs) za_P za_M y :=
  z_up ⟨by decide +kernel, zk_40 xs⟩ <|
  z_up ⟨by decide +kernel, zk_41 xs⟩ <|
  z_up ⟨by decide +kernel, zk_42 xs⟩ <|
  z_up ⟨by decide +kernel, zk_43 xs⟩ <|
  z_up ⟨by decide +kernel, zk_44 xs⟩ <|
  z_up ⟨by decide +kernel, zk_45 xs⟩ <|
  z_up ⟨by decide +kernel, zk_46 xs⟩ <|
  z_up ⟨by decide +kernel, zk_47 xs⟩ <|
  z_up ⟨by decide +kernel, zk_48 xs⟩ <|
  z_up ⟨by decide +kernel, zk_49 xs⟩ <|
  z_up ⟨by decide +kernel, zk_50 xs⟩ <|
  z_up ⟨by decide +kernel, zk_51 xs⟩ <|
  z_up ⟨by decide +kernel, zk_52 xs⟩ <|
  z_up ⟨by decide +kernel, zk_53 xs⟩ <|
  z_up ⟨by decide +kernel, zk_54 xs⟩ <|
  z_up ⟨by decide +kernel, zk_55 xs⟩ <|
  z_up ⟨by decide +kernel, zk_56 xs⟩ <|
  z_up ⟨by decide +kernel, zk_57 xs⟩ <|
  z_up ⟨by decide +kernel, zk_58 xs⟩ <|
  z_up ⟨by decide +kernel, zk_59 xs⟩ <|
  z_up ⟨by decide +kernel, zk_60 xs⟩ <|
  z_up ⟨by decide +kernel, zk_61 xs⟩ <|
  z_up ⟨by decide +kernel, zk_62 xs⟩ <|
  z_up ⟨by decide +kernel, zk_63 xs⟩ <|
  z_up ⟨by decide +kernel, zk_64 xs⟩ <|
  z_up ⟨by decide +kernel, zk_65 xs⟩ <|
  z_up ⟨by decide +kernel, zk_66 xs⟩ <|
  z_up ⟨by decide +kernel, zk_67 xs⟩ <|
  z_up ⟨by decide +kernel, zk_68 xs⟩ <|
  z_up ⟨by decide +kernel, zk_69 xs⟩ <|
  z_up ⟨by decide +kernel, zk_70 xs⟩ <|
  z_up ⟨by decide +kernel, zk_71 xs⟩ <|
  z_up ⟨by decide +kernel, zk_72 xs⟩ <|
  z_up ⟨by decide +kernel, zk_73 xs⟩ <|
  z_up ⟨by decide +kernel, zk_74 xs⟩ <|
  z_up ⟨by decide +kernel, zk_75 xs⟩ <|
  z_up ⟨by decide +kernel, zk_76 xs⟩ <|
  z_up ⟨by decide +kernel, zk_77 xs⟩ <|
  z_up ⟨by decide +kernel, zk_78 xs⟩ <|
  z_up ⟨by decide +kernel, zk_79 xs⟩ <|
  h
theorem zk_up2 (xs : List Int32) (h : ∀ y, 120 ≤ y → plainName (za_M.1 y).cls = true ∧ z_okm (za_T xs) za_P za_M y) : ∀ y, 80 ≤ y → plainName (za_M.1 y).cls = true ∧ z_okm (za_T xs) za_P za_M y :=
  z_up ⟨by decide +kernel, zk_80 xs⟩ <|
  z_up ⟨by decide +kernel, zk_81 xs⟩ <|
  z_up ⟨by decide +kernel, zk_82 xs⟩ <|
  z_up ⟨by decide +kernel, zk_83 xs⟩ <|
  z_up ⟨by decide +kernel, zk_84 xs⟩ <|
  z_up ⟨by decide +kernel, zk_85 xs⟩ <|
  z_up ⟨by decide +kernel, zk_86 xs⟩ <|
  z_up ⟨by decide +kernel, zk_87 xs⟩ <|
  z_up ⟨by decide +kernel, zk_88 xs⟩ <|
  z_up ⟨by decide +kernel, zk_89 xs⟩ <|
  z_up ⟨by decide +kernel, zk_90 xs⟩ <|
  z_up ⟨by decide +kernel, zk_91 xs⟩ <|
  z_up ⟨by decide +kernel, zk_92 xs⟩ <|
  z_up ⟨by decide +kernel, zk_93 xs⟩ <|
  z_up ⟨by decide +kernel, zk_94 xs⟩ <|
  z_up ⟨by decide +kernel, zk_95 xs⟩ <|
  z_up ⟨by decide +kernel, zk_96 xs⟩ <|
  z_up ⟨by decide +kernel, zk_97 xs⟩ <|
  z_up ⟨by decide +kernel, zk_98 xs⟩ <|
  z_up ⟨by decide +kernel, zk_99 xs⟩ <|
  z_up ⟨by decide +kernel, zk_100 xs⟩ <|
  z_up ⟨by decide +kernel, zk_101 xs⟩ <|
  z_up ⟨by decide +kernel, zk_102 xs⟩ <|
  z_up ⟨by decide +kernel, zk_103 xs⟩ <|
  z_up ⟨by decide +kernel, zk_104 xs⟩ <|
  z_up ⟨by decide +kernel, zk_105 xs⟩ <|
  z_up ⟨by decide +kernel, zk_106 xs⟩ <|
  z_up ⟨by decide +kernel, zk_107 xs⟩ <|
  z_up ⟨by decide +kernel, zk_108 xs⟩ <|
  z_up ⟨by decide +kernel, zk_109 xs⟩ <|
  z_up ⟨by decide +kernel, zk_110 xs⟩ <|
  z_up ⟨by decide +kernel, zk_111 xs⟩ <|
  z_up ⟨by decide +kernel, zk_112 xs⟩ <|
  z_up ⟨by decide +kernel, zk_113 xs⟩ <|
  z_up ⟨by decide +kernel, zk_114 xs⟩ <|
  z_up ⟨by decide +kernel, zk_115 xs⟩ <|
  z_up ⟨by decide +kernel, zk_116 xs⟩ <|
  z_up ⟨by decide +kernel, zk_117 xs⟩ <|
  z_up ⟨by decide +kernel, zk_118 xs⟩ <|
  z_up ⟨by decide +kernel, zk_119 xs⟩ <|
  h
theorem zk_up3 (xs : List Int32) (h : ∀ y, 160 ≤ y → plainName (za_M.1 y).cls = true ∧ z_okm (za_T xs) za_P za_M y) : ∀ y, 120 ≤ y → plainName (za_M.1 y).cls = true ∧ z_okm (za_T xs) za_P za_M y :=
  z_up ⟨by decide +kernel, zk_120 xs⟩ <|
  z_up ⟨by decide +kernel, zk_121 xs⟩ <|
  z_up ⟨by decide +kernel, zk_122 xs⟩ <|
  z_up ⟨by decide +kernel, zk_123 xs⟩ <|
  z_up ⟨by decide +kernel, zk_124 xs⟩ <|
  z_up ⟨by decide +kernel, zk_125 xs⟩ <|
  z_up ⟨by decide +kernel, zk_126 xs⟩ <|
  z_up ⟨by decide +kernel, zk_127 xs⟩ <|
  z_up ⟨by decide +kernel, zk_128 xs⟩ <|
  z_up ⟨by decide +kernel, zk_129 xs⟩ <|
  z_up ⟨by decide +kernel, zk_130 xs⟩ <|
  z_up ⟨by decide +kernel, zk_131 xs⟩ <|
  z_up ⟨by decide +kernel, zk_132 xs⟩ <|
  z_up ⟨by decide +kernel, zk_133 xs⟩ <|
  z_up ⟨by decide +kernel, zk_134 xs⟩ <|
  z_up ⟨by decide +kernel, zk_135 xs⟩ <|
  z_up ⟨by decide +kernel, zk_136 xs⟩ <|
  z_up ⟨by decide +kernel, zk_137 xs⟩ <|
  z_up ⟨by decide +kernel, zk_138 xs⟩ <|
  z_up ⟨by decide +kernel, zk_139 xs⟩ <|
  z_up ⟨by decide +kernel, zk_140 xs⟩ <|
  z_up ⟨by decide +kernel, zk_141 xs⟩ <|
  z_up ⟨by decide +kernel, zk_142 xs⟩ <|
  z_up ⟨by decide +kernel, zk_143 xs⟩ <|
  z_up ⟨by decide +kernel, zk_144 xs⟩ <|
  z_up ⟨by decide +kernel, zk_145 xs⟩ <|
  z_up ⟨by decide +kernel, zk_146 xs⟩ <|
  z_up ⟨by decide +kernel, zk_147 xs⟩ <|
  z_up ⟨by decide +kernel, zk_148 xs⟩ <|
  z_up ⟨by decide +kernel, zk_149 xs⟩ <|
  z_up ⟨by decide +kernel, zk_150 xs⟩ <|
  z_up ⟨by decide +kernel, zk_151 xs⟩ <|
  z_up ⟨by decide +kernel, zk_152 xs⟩ <|
  z_up ⟨by decide +kernel, zk_153 xs⟩ <|
  z_up ⟨by decide +kernel, zk_154 xs⟩ <|
  z_up ⟨by decide +kernel, zk_155 xs⟩ <|
  z_up ⟨by decide +kernel, zk_156 xs⟩ <|
  z_up ⟨by decide +kernel, zk_157 xs⟩ <|
  z_up ⟨by decide +kernel, zk_158 xs⟩ <|
  z_up ⟨by decide +kernel, zk_159 xs⟩ <|
  h
theorem zk_up4 (xs : List Int32) (h : ∀ y, 200 ≤ y → plainName (za_M.1 y).cls = true ∧ z_okm (za_T xs) za_P za_M y) : ∀ y, 160 ≤ y → plainName (za_M.1 y).cls = true ∧ z_okm (za_T xs) za_P za_M y :=
  z_up ⟨by decide +kernel, zk_160 xs⟩ <|
  z_up ⟨by decide +kernel, zk_161 xs⟩ <|
  z_up ⟨by decide +kernel, zk_162 xs⟩ <|
  z_up ⟨by decide +kernel, zk_163 xs⟩ <|
  z_up ⟨by decide +kernel, zk_164 xs⟩ <|
  z_up ⟨by decide +kernel, zk_165 xs⟩ <|
  z_up ⟨by decide +kernel, zk_166 xs⟩ <|
  z_up ⟨by decide +kernel, zk_167 xs⟩ <|
  z_up ⟨by decide +kernel, zk_168 xs⟩ <|
  z_up ⟨by decide +kernel, zk_169 xs⟩ <|
  z_up ⟨by decide +kernel, zk_170 xs⟩ <|
  z_up ⟨by decide +kernel, zk_171 xs⟩ <|
  z_up ⟨by decide +kernel, zk_172 xs⟩ <|
  z_up ⟨by decide +kernel, zk_173 xs⟩ <|
  z_up ⟨by decide +kernel, zk_174 xs⟩ <|
  z_up ⟨by decide +kernel, zk_175 xs⟩ <|
  z_up ⟨by decide +kernel, zk_176 xs⟩ <|
  z_up ⟨by decide +kernel, zk_177 xs⟩ <|
  z_up ⟨by decide +kernel, zk_178 xs⟩ <|
  z_up ⟨by decide +kernel, zk_179 xs⟩ <|
  z_up ⟨by decide +kernel, zk_180 xs⟩ <|
  z_up ⟨by decide +kernel, zk_181 xs⟩ <|
  z_up ⟨by decide +kernel, zk_182 xs⟩ <|
  z_up ⟨by decide +kernel, zk_183 xs⟩ <|
  z_up ⟨by decide +kernel, zk_184 xs⟩ <|
  z_up ⟨by decide +kernel, zk_185 xs⟩ <|
  z_up ⟨by decide +kernel, zk_186 xs⟩ <|
  z_up ⟨by decide +kernel, zk_187 xs⟩ <|
  z_up ⟨by decide +kernel, zk_188 xs⟩ <|
  z_up ⟨by decide +kernel, zk_189 xs⟩ <|
  z_up ⟨by decide +kernel, zk_190 xs⟩ <|
  z_up ⟨by decide +kernel, zk_191 xs⟩ <|
  z_up ⟨by decide +kernel, zk_192 xs⟩ <|
  z_up ⟨by decide +kernel, zk_193 xs⟩ <|
  z_up ⟨by decide +kernel, zk_194 xs⟩ <|
  z_up ⟨by decide +kernel, zk_195 xs⟩ <|
  z_up ⟨by decide +kernel, zk_196 xs⟩ <|
  z_up ⟨by decide +kernel, zk_197 xs⟩ <|
  z_up ⟨by decide +kernel, zk_198 xs⟩ <|
  z_up ⟨by decide +kernel, zk_199 xs⟩ <|
  h
theorem zk_up5 (xs : List Int32) (h : ∀ y, 240 ≤ y → plainName (za_M.1 y).cls = true ∧ z_okm (za_T xs) za_P za_M y) : ∀ y, 200 ≤ y → plainName (za_M.1 y).cls = true ∧ z_okm (za_T xs) za_P za_M y :=
  z_up ⟨by decide +kernel, zk_200 xs⟩ <|
  z_up ⟨by decide +kernel, zk_201 xs⟩ <|
  z_up ⟨by decide +kernel, zk_202 xs⟩ <|
  z_up ⟨by decide +kernel, zk_203 xs⟩ <|
  z_up ⟨by decide +kernel, zk_204 xs⟩ <|
  z_up ⟨by decide +kernel, zk_205 xs⟩ <|
  z_up ⟨by decide +kernel, zk_206 xs⟩ <|
  z_up ⟨by decide +kernel, zk_207 xs⟩ <|
  z_up ⟨by decide +kernel, zk_208 xs⟩ <|
  z_up ⟨by decide +kernel, zk_209 xs⟩ <|
  z_up ⟨by decide +kernel, zk_210 xs⟩ <|
  z_up ⟨by decide +kernel, zk_211 xs⟩ <|
  z_up ⟨by decide +kernel, zk_212 xs⟩ <|
  z_up ⟨by decide +kernel, zk_213 xs⟩ <|
  z_up ⟨by decide +kernel, zk_214 xs⟩ <|
  z_up ⟨by decide +kernel, zk_215 xs⟩ <|
  z_up ⟨by decide +kernel, zk_216 xs⟩ <|
  z_up ⟨by decide +kernel, zk_217 xs⟩ <|
  z_up ⟨by decide +kernel, zk_218 xs⟩ <|
  z_up ⟨by decide +kernel, zk_219 xs⟩ <|
  z_up ⟨by decide +kernel, zk_220 xs⟩ <|
  z_up ⟨by decide +kernel, zk_221 xs⟩ <|
  z_up ⟨by decide +kernel, zk_222 xs⟩ <|
  z_up ⟨by decide +kernel, zk_223 xs⟩ <|
  z_up ⟨by decide +kernel, zk_224 xs⟩ <|
  z_up ⟨by decide +kernel, zk_225 xs⟩ <|
  z_up ⟨by decide +kernel, zk_226 xs⟩ <|
  z_up ⟨by decide +kernel, zk_227 xs⟩ <|
  z_up ⟨by decide +kernel, zk_228 xs⟩ <|
  z_up ⟨by decide +kernel, zk_229 xs⟩ <|
  z_up ⟨by decide +kernel, zk_230 xs⟩ <|
  z_up ⟨by decide +kernel, zk_231 xs⟩ <|
  z_up ⟨by decide +kernel, zk_232 xs⟩ <|
  z_up ⟨by decide +kernel, zk_233 xs⟩ <|
  z_up ⟨by decide +kernel, zk_234 xs⟩ <|
  z_up ⟨by decide +kernel, zk_235 xs⟩ <|
  z_up ⟨by decide +kernel, zk_236 xs⟩ <|
  z_up ⟨by decide +kernel, zk_237 xs⟩ <|
  z_up ⟨by decide +kernel, zk_238 xs⟩ <|
  z_up ⟨by decide +kernel, zk_239 xs⟩ <|
  h
theorem zk_up6 (xs : List Int32) (h : ∀ y, 280 ≤ y → plainName (za_M.1 y).cls = true ∧ z_okm (za_T xs) za_P za_M y) : ∀ y, 240 ≤ y → plainName (za_M.1 y).cls = true ∧ z_okm (za_T xs) za_P za_M y :=
  z_up ⟨by decide +kernel, zk_240 xs⟩ <|
  z_up ⟨by decide +kernel, zk_241 xs⟩ <|
  z_up ⟨by decide +kernel, zk_242 xs⟩ <|
  z_up ⟨by decide +kernel, zk_243 xs⟩ <|
  z_up ⟨by decide +kernel, zk_244 xs⟩ <|
  z_up ⟨by decide +kernel, zk_245 xs⟩ <|
  z_up ⟨by decide +kernel, zk_246 xs⟩ <|
  z_up ⟨by decide +kernel, zk_247 xs⟩ <|
  z_up ⟨by decide +kernel, zk_248 xs⟩ <|
  z_up ⟨by decide +kernel, zk_249 xs⟩ <|
  z_up ⟨by decide +kernel, zk_250 xs⟩ <|
  z_up ⟨by decide +kernel, zk_251 xs⟩ <|
  z_up ⟨by decide +kernel, zk_252 xs⟩ <|
  z_up ⟨by decide +kernel, zk_253 xs⟩ <|
  z_up ⟨by decide +kernel, zk_254 xs⟩ <|
  z_up ⟨by decide +kernel, zk_255 xs⟩ <|
  z_up ⟨by decide +kernel, zk_256 xs⟩ <|
  z_up ⟨by decide +kernel, zk_257 xs⟩ <|
  z_up ⟨by decide +kernel, zk_258 xs⟩ <|
  z_up ⟨by decide +kernel, zk_259 xs⟩ <|
  z_up ⟨by decide +kernel, zk_260 xs⟩ <|
  z_up ⟨by decide +kernel, zk_261 xs⟩ <|
  z_up ⟨by decide +kernel, zk_262 xs⟩ <|
  z_up ⟨by decide +kernel, zk_263 xs⟩ <|
  z_up ⟨by decide +kernel, zk_264 xs⟩ <|
  z_up ⟨by decide +kernel, zk_265 xs⟩ <|
  z_up ⟨by decide +kernel, zk_266 xs⟩ <|
  z_up ⟨by decide +kernel, zk_267 xs⟩ <|
  z_up ⟨by decide +kernel, zk_268 xs⟩ <|
  z_up ⟨by decide +kernel, zk_269 xs⟩ <|
  z_up ⟨by decide +kernel, zk_270 xs⟩ <|
  z_up ⟨by decide +kernel, zk_271 xs⟩ <|
  z_up ⟨by decide +kernel, zk_272 xs⟩ <|
  z_up ⟨by decide +kernel, zk_273 xs⟩ <|
  z_up ⟨by decide +kernel, zk_274 xs⟩ <|
  z_up ⟨by decide +kernel, zk_275 xs⟩ <|
  z_up ⟨by decide +kernel, zk_276 xs⟩ <|
  z_up ⟨by decide +kernel, zk_277 xs⟩ <|
  z_up ⟨by decide +kernel, zk_278 xs⟩ <|
  z_up ⟨by decide +kernel, zk_279 xs⟩ <|
  h
theorem zk_up7 (xs : List Int32) (h : ∀ y, 320 ≤ y → plainName (za_M.1 y).cls = true ∧ z_okm (za_T xs) za_P za_M y) : ∀ y, 280 ≤ y → plainName (za_M.1 y).cls = true ∧ z_okm (za_T xs) za_P za_M y :=
  z_up ⟨by decide +kernel, zk_280 xs⟩ <|
  z_up ⟨by decide +kernel, zk_281 xs⟩ <|
  z_up ⟨by decide +kernel, zk_282 xs⟩ <|
  z_up ⟨by decide +kernel, zk_283 xs⟩ <|
  z_up ⟨by decide +kernel, zk_284 xs⟩ <|
  z_up ⟨by decide +kernel, zk_285 xs⟩ <|
  z_up ⟨by decide +kernel, zk_286 xs⟩ <|
  z_up ⟨by decide +kernel, zk_287 xs⟩ <|
  z_up ⟨by decide +kernel, zk_288 xs⟩ <|
  z_up ⟨by decide +kernel, zk_289 xs⟩ <|
  z_up ⟨by decide +kernel, zk_290 xs⟩ <|
  z_up ⟨by decide +kernel, zk_291 xs⟩ <|
  z_up ⟨by decide +kernel, zk_292 xs⟩ <|
  z_up ⟨by decide +kernel, zk_293 xs⟩ <|
  z_up ⟨by decide +kernel, zk_294 xs⟩ <|
  z_up ⟨by decide +kernel, zk_295 xs⟩ <|
  z_up ⟨by decide +kernel, zk_296 xs⟩ <|
  z_up ⟨by decide +kernel, zk_297 xs⟩ <|
  z_up ⟨by decide +kernel, zk_298 xs⟩ <|
  z_up ⟨by decide +kernel, zk_299 xs⟩ <|
  z_up ⟨by decide +kernel, zk_300 xs⟩ <|
  z_up ⟨by decide +kernel, zk_301 xs⟩ <|
  z_up ⟨by decide +kernel, zk_302 xs⟩ <|
  z_up ⟨by decide +kernel, zk_303 xs⟩ <|
  z_up ⟨by decide +kernel, zk_304 xs⟩ <|
  z_up ⟨by decide +kernel, zk_305 xs⟩ <|
  z_up ⟨by decide +kernel, zk_306 xs⟩ <|
  z_up ⟨by decide +kernel, zk_307 xs⟩ <|
  z_up ⟨by decide +kernel, zk_308 xs⟩ <|
  z_up ⟨by decide +kernel, zk_309 xs⟩ <|
  z_up ⟨by decide +kernel, zk_310 xs⟩ <|
  z_up ⟨by decide +kernel, zk_311 xs⟩ <|
  z_up ⟨by decide +kernel, zk_312 xs⟩ <|
  z_up ⟨by decide +kernel, zk_313 xs⟩ <|
  z_up ⟨by decide +kernel, zk_314 xs⟩ <|
  z_up ⟨by decide +kernel, zk_315 xs⟩ <|
  z_up ⟨by decide +kernel, zk_316 xs⟩ <|
  z_up ⟨by decide +kernel, zk_317 xs⟩ <|
  z_up ⟨by decide +kernel, zk_318 xs⟩ <|
  z_up ⟨by decide +kernel, zk_319 xs⟩ <|
  h
theorem zk_up8 (xs : List Int32) (h : ∀ y, 328 ≤ y → plainName (za_M.1 y).cls = true ∧ z_okm (za_T xs) za_P za_M y) : ∀ y, 320 ≤ y → plainName (za_M.1 y).cls = true ∧ z_okm (za_T xs) za_P za_M y :=
  z_up ⟨by decide +kernel, zk_320 xs⟩ <|
  z_up ⟨by decide +kernel, zk_321 xs⟩ <|
  z_up ⟨by decide +kernel, zk_322 xs⟩ <|
  z_up ⟨by decide +kernel, zk_323 xs⟩ <|
  z_up ⟨by decide +kernel, zk_324 xs⟩ <|
  z_up ⟨by decide +kernel, zk_325 xs⟩ <|
  z_up ⟨by decide +kernel, zk_326 xs⟩ <|
  z_up ⟨by decide +kernel, zk_327 xs⟩ <|
  h
theorem zk_all (xs : List Int32) : ∀ y, plainName (za_M.1 y).cls = true ∧ z_okm (za_T xs) za_P za_M y := fun y => zk_up0 xs (zk_up1 xs (zk_up2 xs (zk_up3 xs (zk_up4 xs (zk_up5 xs (zk_up6 xs (zk_up7 xs (zk_up8 xs (zk_out xs))))))))) y (Nat.zero_le y)
theorem za_okS (xs : List Int32) {tys : List (ClassId × FieldType)} (h1 : ∀ (t : Nat) (x : ClassId × FieldType), tys[t]? = some x → za_tf[t]? = some x.2) (h2 : ∀ t : Nat, t < 6 → ∀ ty : FieldType, za_tf[t]? = some ty → ∃ x : ClassId, tys[t]? = some (x, ty)) : z_okS (za_T xs) za_P za_M tys :=
  ⟨z_okca xs, z_tfa, h1, h2, z_nwa, z_good2, zk_all xs⟩
