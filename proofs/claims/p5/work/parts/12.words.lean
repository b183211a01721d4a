/-! THE CHECK of the tables: lemmas. -/
def z_oke' (T : zT) (P : zP) (M : zM) (nm : MethodName) (cc : ByteArray) (q : zE) : Prop := match q with
  | (pc, i, len, a, b) => decode cc pc = .ok (i, len) ∧ (match z_kind i a b with
    | 0 => z_len i len ∧ z_tgt i pc a
    | 1 => z_okh M.2.2.2.2.2.1 M.2.2.2.2.2.2.1 M.2.2.2.2.2.2.2 M.2.2.2.2.1 T nm.cls nm.name M.2.2.2.1 i len pc a b
    | 2 => len = 3 ∧ z_okv P M nm.cls i a b
    | 7 => len = 3 ∧ z_okn P M nm.cls i a b
    | 3 => len = 3 ∧ z_oks P M nm.cls i a b
    | 4 => len = 1
    | 5 => i = .return_ ∧ len = 1
    | _ => z_okt T M nm.cls cc i pc a)
theorem z_okm_of {T : zT} {P : zP} {M : zM} {y : Nat} (nm : MethodName) (cc : ByteArray) (l : List zE) (hx : List zX) (hn : M.1 y = nm) (hc : M.2.1 y = cc) (hl : P.1 y = l) (hh : P.2.2.1 y = hx) (h1 : ∀ q ∈ l, z_oke' T P M nm cc q) (h2 : ∀ x ∈ hx, z_okx P M y x) : z_okm T P M y := by
  subst hn; subst hc; subst hl; subst hh
  exact ⟨h1, h2⟩
theorem z_fc {α : Type} {Q : α → Prop} {a : α} {l : List α} (h : Q a) (t : ∀ q ∈ l, Q q) : ∀ q ∈ a :: l, Q q := List.forall_mem_cons.mpr ⟨h, t⟩
theorem z_fn {α : Type} {Q : α → Prop} : ∀ q ∈ ([] : List α), Q q := fun _ h => absurd h List.not_mem_nil
theorem z_mem (i : Nat) {w : Cond} (h : lw_tbl[i]? = some w) (hg : goodWord w = true) : w ∈ za_Ts := List.mem_filter.mpr ⟨List.mem_of_getElem? h, hg⟩
section ZO
variable {T : zT} {P : zP} {M : zM} {nm : MethodName} {cc : ByteArray} {pc len a b : Nat} {i : Instr}
theorem zo_l (hd : decode cc pc = .ok (i, len)) (hk : z_kind i a b = 0) (hn : z_len i len) (ht : z_tgt i pc a) : z_oke' T P M nm cc (pc, i, len, a, b) := by
  unfold z_oke'
  dsimp only
  rw [hk]
  exact ⟨hd, hn, ht⟩
theorem zo_h (hd : decode cc pc = .ok (i, len)) (hk : z_kind i a b = 1) (h : z_okh M.2.2.2.2.2.1 M.2.2.2.2.2.2.1 M.2.2.2.2.2.2.2 M.2.2.2.2.1 T nm.cls nm.name M.2.2.2.1 i len pc a b) : z_oke' T P M nm cc (pc, i, len, a, b) := by
  unfold z_oke'
  dsimp only
  rw [hk]
  exact ⟨hd, h⟩
theorem zo_v (hd : decode cc pc = .ok (i, 3)) (hk : z_kind i a b = 2) (h : z_okv P M nm.cls i a b) : z_oke' T P M nm cc (pc, i, 3, a, b) := by
  unfold z_oke'
  dsimp only
  rw [hk]
  exact ⟨hd, rfl, h⟩
theorem zo_n (hd : decode cc pc = .ok (i, 3)) (hk : z_kind i a b = 7) (h : z_okn P M nm.cls i a b) : z_oke' T P M nm cc (pc, i, 3, a, b) := by
  unfold z_oke'
  dsimp only
  rw [hk]
  exact ⟨hd, rfl, h⟩
theorem zo_s (hd : decode cc pc = .ok (i, 3)) (hk : z_kind i a b = 3) (h : z_oks P M nm.cls i a b) : z_oke' T P M nm cc (pc, i, 3, a, b) := by
  unfold z_oke'
  dsimp only
  rw [hk]
  exact ⟨hd, rfl, h⟩
theorem zo_r (hd : decode cc pc = .ok (i, 1)) (hk : z_kind i a b = 4) : z_oke' T P M nm cc (pc, i, 1, a, b) := by
  unfold z_oke'
  dsimp only
  rw [hk]
  exact ⟨hd, rfl⟩
theorem zo_e (hd : decode cc pc = .ok (.return_, 1)) : z_oke' T P M nm cc (pc, .return_, 1, a, b) := ⟨hd, rfl, rfl⟩
theorem zo_t (hd : decode cc pc = .ok (i, len)) (hk : z_kind i a b = 6) (h : z_okt T M nm.cls cc i pc a) : z_oke' T P M nm cc (pc, i, len, a, b) := by
  unfold z_oke'
  dsimp only
  rw [hk]
  exact ⟨hd, h⟩
end ZO
/-! The tables' words, each by its place. -/
theorem z_mt1 (j : Nat) {w : Cond} (h : tables_1_1[j]? = some w) (hg : goodWord w = true) : w ∈ za_Ts := List.mem_filter.mpr ⟨List.mem_append_right _ (show w ∈ tables_1 from List.mem_append_left _ (List.mem_of_getElem? h)), hg⟩
theorem z_mt2 (j : Nat) {w : Cond} (h : tables_1_2[j]? = some w) (hg : goodWord w = true) : w ∈ za_Ts := List.mem_filter.mpr ⟨List.mem_append_right _ (show w ∈ tables_1 from List.mem_append_right _ (List.mem_append_left _ (List.mem_of_getElem? h))), hg⟩
theorem z_mt3 (j : Nat) {w : Cond} (h : tables_1_3[j]? = some w) (hg : goodWord w = true) : w ∈ za_Ts := List.mem_filter.mpr ⟨List.mem_append_right _ (show w ∈ tables_1 from List.mem_append_right _ (List.mem_append_right _ (List.mem_append_left _ (List.mem_of_getElem? h)))), hg⟩
theorem z_mt4 (j : Nat) {w : Cond} (h : tables_1_4[j]? = some w) (hg : goodWord w = true) : w ∈ za_Ts := List.mem_filter.mpr ⟨List.mem_append_right _ (show w ∈ tables_1 from List.mem_append_right _ (List.mem_append_right _ (List.mem_append_right _ (List.mem_append_left _ (List.mem_of_getElem? h))))), hg⟩
theorem z_mt5 (j : Nat) {w : Cond} (h : tables_1_5[j]? = some w) (hg : goodWord w = true) : w ∈ za_Ts := List.mem_filter.mpr ⟨List.mem_append_right _ (show w ∈ tables_1 from List.mem_append_right _ (List.mem_append_right _ (List.mem_append_right _ (List.mem_append_right _ (List.mem_append_left _ (List.mem_of_getElem? h)))))), hg⟩
theorem z_mt6 (j : Nat) {w : Cond} (h : tables_1_6[j]? = some w) (hg : goodWord w = true) : w ∈ za_Ts := List.mem_filter.mpr ⟨List.mem_append_right _ (show w ∈ tables_1 from List.mem_append_right _ (List.mem_append_right _ (List.mem_append_right _ (List.mem_append_right _ (List.mem_append_right _ (List.mem_append_left _ (List.mem_of_getElem? h))))))), hg⟩
theorem z_mt7 (j : Nat) {w : Cond} (h : tables_1_7[j]? = some w) (hg : goodWord w = true) : w ∈ za_Ts := List.mem_filter.mpr ⟨List.mem_append_right _ (show w ∈ tables_1 from List.mem_append_right _ (List.mem_append_right _ (List.mem_append_right _ (List.mem_append_right _ (List.mem_append_right _ (List.mem_append_right _ (List.mem_append_left _ (List.mem_of_getElem? h)))))))), hg⟩
theorem z_mt8 (j : Nat) {w : Cond} (h : tables_1_8[j]? = some w) (hg : goodWord w = true) : w ∈ za_Ts := List.mem_filter.mpr ⟨List.mem_append_right _ (show w ∈ tables_1 from List.mem_append_right _ (List.mem_append_right _ (List.mem_append_right _ (List.mem_append_right _ (List.mem_append_right _ (List.mem_append_right _ (List.mem_append_right _ (List.mem_of_getElem? h)))))))), hg⟩
theorem zw_0 : Jvm.Cond.selects "LyndonBench$Script" ({ cls := "LyndonBench$Script", name := "runHead", desc := "()Z" } : Jvm.MethodName) ({ cls := "LyndonBench$Script", name := "runHead", desc := "()Z" } : Jvm.MethodName) ∈ za_Ts := z_mem 0 (by decide +kernel) rfl
theorem zw_1 : Jvm.Cond.selects "LyndonBench$Script" ({ cls := "LyndonBench$Script", name := "readToken", desc := "()V" } : Jvm.MethodName) ({ cls := "LyndonBench$Script", name := "readToken", desc := "()V" } : Jvm.MethodName) ∈ za_Ts := z_mem 1 (by decide +kernel) rfl
theorem zw_2 : Jvm.Cond.selects "LyndonBench$Script" ({ cls := "LyndonBench$Script", name := "readNumber", desc := "()V" } : Jvm.MethodName) ({ cls := "LyndonBench$Script", name := "readNumber", desc := "()V" } : Jvm.MethodName) ∈ za_Ts := z_mem 2 (by decide +kernel) rfl
theorem zw_3 : Jvm.Cond.selects "LyndonBench$Script" ({ cls := "LyndonBench$Script", name := "fail", desc := "(I)Z" } : Jvm.MethodName) ({ cls := "LyndonBench$Script", name := "fail", desc := "(I)Z" } : Jvm.MethodName) ∈ za_Ts := z_mem 3 (by decide +kernel) rfl
theorem zw_4 : Jvm.Cond.selects "LyndonBench$Script" ({ cls := "LyndonBench$Script", name := "expectNumber", desc := "(II)Z" } : Jvm.MethodName) ({ cls := "LyndonBench$Script", name := "expectNumber", desc := "(II)Z" } : Jvm.MethodName) ∈ za_Ts := z_mem 4 (by decide +kernel) rfl
theorem zw_5 : Jvm.Cond.selects "LyndonBench$Script" ({ cls := "LyndonBench$Script", name := "expect", desc := "(I)Z" } : Jvm.MethodName) ({ cls := "LyndonBench$Script", name := "expect", desc := "(I)Z" } : Jvm.MethodName) ∈ za_Ts := z_mem 5 (by decide +kernel) rfl
theorem zw_6 : Jvm.Cond.selects "LyndonBench$Script" ({ cls := "LyndonBench$Script", name := "endRound", desc := "()Z" } : Jvm.MethodName) ({ cls := "LyndonBench$Script", name := "endRound", desc := "()Z" } : Jvm.MethodName) ∈ za_Ts := z_mem 6 (by decide +kernel) rfl
theorem zw_7 : Jvm.Cond.selects "LyndonBench$Script" ({ cls := "LyndonBench$Script", name := "runCommand", desc := "()Z" } : Jvm.MethodName) ({ cls := "LyndonBench$Script", name := "runCommand", desc := "()Z" } : Jvm.MethodName) ∈ za_Ts := z_mem 7 (by decide +kernel) rfl
theorem zw_8 : Jvm.Cond.selects "LyndonBench$Script" ({ cls := "LyndonBench$Script", name := "openRepeat", desc := "()Z" } : Jvm.MethodName) ({ cls := "LyndonBench$Script", name := "openRepeat", desc := "()Z" } : Jvm.MethodName) ∈ za_Ts := z_mem 8 (by decide +kernel) rfl
theorem zw_9 : Jvm.Cond.selects "LyndonBench$Script" ({ cls := "LyndonBench$Script", name := "runText", desc := "(Z)Z" } : Jvm.MethodName) ({ cls := "LyndonBench$Script", name := "runText", desc := "(Z)Z" } : Jvm.MethodName) ∈ za_Ts := z_mem 9 (by decide +kernel) rfl
theorem zw_10 : Jvm.Cond.selects "LyndonBench$Script" ({ cls := "LyndonBench$Script", name := "expectEnd", desc := "(Z)Z" } : Jvm.MethodName) ({ cls := "LyndonBench$Script", name := "expectEnd", desc := "(Z)Z" } : Jvm.MethodName) ∈ za_Ts := z_mem 10 (by decide +kernel) rfl
theorem zw_11 : Jvm.Cond.selects "LyndonBench$Script" ({ cls := "LyndonBench$Script", name := "runDrop", desc := "()Z" } : Jvm.MethodName) ({ cls := "LyndonBench$Script", name := "runDrop", desc := "()Z" } : Jvm.MethodName) ∈ za_Ts := z_mem 11 (by decide +kernel) rfl
theorem zw_12 : Jvm.Cond.selects "LyndonBench$Script" ({ cls := "LyndonBench$Script", name := "runPart", desc := "()Z" } : Jvm.MethodName) ({ cls := "LyndonBench$Script", name := "runPart", desc := "()Z" } : Jvm.MethodName) ∈ za_Ts := z_mem 12 (by decide +kernel) rfl
theorem zw_13 : Jvm.Cond.selects "LyndonBench$Word" ({ cls := "LyndonBench$Word", name := "put", desc := "(II)V" } : Jvm.MethodName) ({ cls := "LyndonBench$Word", name := "put", desc := "(II)V" } : Jvm.MethodName) ∈ za_Ts := z_mem 13 (by decide +kernel) rfl
theorem zw_14 : Jvm.Cond.selects "LyndonBench$Script" ({ cls := "LyndonBench$Script", name := "runRotate", desc := "()Z" } : Jvm.MethodName) ({ cls := "LyndonBench$Script", name := "runRotate", desc := "()Z" } : Jvm.MethodName) ∈ za_Ts := z_mem 14 (by decide +kernel) rfl
theorem zw_15 : Jvm.Cond.selects "LyndonBench$Script" ({ cls := "LyndonBench$Script", name := "runReverse", desc := "()Z" } : Jvm.MethodName) ({ cls := "LyndonBench$Script", name := "runReverse", desc := "()Z" } : Jvm.MethodName) ∈ za_Ts := z_mem 15 (by decide +kernel) rfl
theorem zw_16 : Jvm.Cond.selects "LyndonBench$Script" ({ cls := "LyndonBench$Script", name := "runLeast", desc := "()Z" } : Jvm.MethodName) ({ cls := "LyndonBench$Script", name := "runLeast", desc := "()Z" } : Jvm.MethodName) ∈ za_Ts := z_mem 16 (by decide +kernel) rfl
theorem zw_17 : Jvm.Cond.selects "LyndonBench$Word" ({ cls := "LyndonBench$Word", name := "atAround", desc := "(I)I" } : Jvm.MethodName) ({ cls := "LyndonBench$Word", name := "atAround", desc := "(I)I" } : Jvm.MethodName) ∈ za_Ts := z_mem 17 (by decide +kernel) rfl
theorem zw_18 : Jvm.Cond.selects "LyndonBench$Script" ({ cls := "LyndonBench$Script", name := "runNext", desc := "()Z" } : Jvm.MethodName) ({ cls := "LyndonBench$Script", name := "runNext", desc := "()Z" } : Jvm.MethodName) ∈ za_Ts := z_mem 18 (by decide +kernel) rfl
theorem zw_19 : Jvm.Cond.selects "LyndonBench$Script" ({ cls := "LyndonBench$Script", name := "runKeep", desc := "()Z" } : Jvm.MethodName) ({ cls := "LyndonBench$Script", name := "runKeep", desc := "()Z" } : Jvm.MethodName) ∈ za_Ts := z_mem 19 (by decide +kernel) rfl
theorem zw_20 : Jvm.Cond.selects "LyndonBench$Script" ({ cls := "LyndonBench$Script", name := "runRemove", desc := "()Z" } : Jvm.MethodName) ({ cls := "LyndonBench$Script", name := "runRemove", desc := "()Z" } : Jvm.MethodName) ∈ za_Ts := z_mem 20 (by decide +kernel) rfl
theorem zw_21 : Jvm.Cond.selects "LyndonBench$Script" ({ cls := "LyndonBench$Script", name := "runJoin", desc := "()Z" } : Jvm.MethodName) ({ cls := "LyndonBench$Script", name := "runJoin", desc := "()Z" } : Jvm.MethodName) ∈ za_Ts := z_mem 21 (by decide +kernel) rfl
theorem zw_22 : Jvm.Cond.selects "LyndonBench$History" ({ cls := "LyndonBench$History", name := "forgetOldest", desc := "()V" } : Jvm.MethodName) ({ cls := "LyndonBench$History", name := "forgetOldest", desc := "()V" } : Jvm.MethodName) ∈ za_Ts := z_mem 22 (by decide +kernel) rfl
theorem zw_23 : Jvm.Cond.selects "LyndonBench$Word" ({ cls := "LyndonBench$Word", name := "hasPeriod", desc := "(I)Z" } : Jvm.MethodName) ({ cls := "LyndonBench$Word", name := "hasPeriod", desc := "(I)Z" } : Jvm.MethodName) ∈ za_Ts := z_mem 23 (by decide +kernel) rfl
theorem zw_25 : Jvm.Cond.selects "LyndonBench" ({ cls := "LyndonBench", name := "checkLetter", desc := "(I)V" } : Jvm.MethodName) ({ cls := "LyndonBench", name := "checkLetter", desc := "(I)V" } : Jvm.MethodName) ∈ za_Ts := z_mem 25 (by decide +kernel) rfl
theorem zw_26 : Jvm.Cond.selects "LyndonBench" ({ cls := "LyndonBench", name := "checkCount", desc := "(I)V" } : Jvm.MethodName) ({ cls := "LyndonBench", name := "checkCount", desc := "(I)V" } : Jvm.MethodName) ∈ za_Ts := z_mem 26 (by decide +kernel) rfl
theorem zw_27 : Jvm.Cond.selects "LyndonBench" ({ cls := "LyndonBench", name := "checkPart", desc := "(II)V" } : Jvm.MethodName) ({ cls := "LyndonBench", name := "checkPart", desc := "(II)V" } : Jvm.MethodName) ∈ za_Ts := z_mem 27 (by decide +kernel) rfl
theorem zw_28 : Jvm.Cond.selects "LyndonBench" ({ cls := "LyndonBench", name := "checkedBegin", desc := "(I)I" } : Jvm.MethodName) ({ cls := "LyndonBench", name := "checkedBegin", desc := "(I)I" } : Jvm.MethodName) ∈ za_Ts := z_mem 28 (by decide +kernel) rfl
theorem zw_29 : Jvm.Cond.selects "LyndonBench" ({ cls := "LyndonBench", name := "countSmaller", desc := "(II)I" } : Jvm.MethodName) ({ cls := "LyndonBench", name := "countSmaller", desc := "(II)I" } : Jvm.MethodName) ∈ za_Ts := z_mem 29 (by decide +kernel) rfl
theorem zw_30 : Jvm.Cond.selects "LyndonBench" ({ cls := "LyndonBench", name := "startListing", desc := "()V" } : Jvm.MethodName) ({ cls := "LyndonBench", name := "startListing", desc := "()V" } : Jvm.MethodName) ∈ za_Ts := z_mem 30 (by decide +kernel) rfl
theorem zw_31 : Jvm.Cond.selects "LyndonBench" ({ cls := "LyndonBench", name := "checkCountedLength", desc := "(I)V" } : Jvm.MethodName) ({ cls := "LyndonBench", name := "checkCountedLength", desc := "(I)V" } : Jvm.MethodName) ∈ za_Ts := z_mem 31 (by decide +kernel) rfl
theorem zw_32 : Jvm.Cond.selects "LyndonBench" ({ cls := "LyndonBench", name := "findRowLetter", desc := "(II)I" } : Jvm.MethodName) ({ cls := "LyndonBench", name := "findRowLetter", desc := "(II)I" } : Jvm.MethodName) ∈ za_Ts := z_mem 32 (by decide +kernel) rfl
theorem zw_33 : Jvm.Cond.selects "LyndonBenchModel" ({ cls := "LyndonBenchModel", name := "tell", desc := "(Ljava/lang/String;)V" } : Jvm.MethodName) ({ cls := "LyndonBenchModel", name := "tell", desc := "(Ljava/lang/String;)V" } : Jvm.MethodName) ∈ za_Ts := z_mem 33 (by decide +kernel) rfl
theorem zw_34 : Jvm.Cond.selects "LyndonBenchModel" ({ cls := "LyndonBenchModel", name := "parses", desc := "()Z" } : Jvm.MethodName) ({ cls := "LyndonBenchModel", name := "parses", desc := "()Z" } : Jvm.MethodName) ∈ za_Ts := z_mem 34 (by decide +kernel) rfl
theorem zw_35 : Jvm.Cond.selects "LyndonBenchModel" ({ cls := "LyndonBenchModel", name := "next", desc := "()V" } : Jvm.MethodName) ({ cls := "LyndonBenchModel", name := "next", desc := "()V" } : Jvm.MethodName) ∈ za_Ts := z_mem 35 (by decide +kernel) rfl
theorem zw_36 : Jvm.Cond.selects "LyndonBenchModel" ({ cls := "LyndonBenchModel", name := "readsAll", desc := "()Z" } : Jvm.MethodName) ({ cls := "LyndonBenchModel", name := "readsAll", desc := "()Z" } : Jvm.MethodName) ∈ za_Ts := z_mem 36 (by decide +kernel) rfl
theorem zw_37 : Jvm.Cond.selects "LyndonBenchModel" ({ cls := "LyndonBenchModel", name := "says", desc := "(Ljava/lang/String;)Z" } : Jvm.MethodName) ({ cls := "LyndonBenchModel", name := "says", desc := "(Ljava/lang/String;)Z" } : Jvm.MethodName) ∈ za_Ts := z_mem 37 (by decide +kernel) rfl
theorem zw_38 : Jvm.Cond.selects "LyndonBenchModel" ({ cls := "LyndonBenchModel", name := "fail", desc := "(I)Z" } : Jvm.MethodName) ({ cls := "LyndonBenchModel", name := "fail", desc := "(I)Z" } : Jvm.MethodName) ∈ za_Ts := z_mem 38 (by decide +kernel) rfl
theorem zw_39 : Jvm.Cond.selects "LyndonBenchModel" ({ cls := "LyndonBenchModel", name := "number", desc := "(III)Z" } : Jvm.MethodName) ({ cls := "LyndonBenchModel", name := "number", desc := "(III)Z" } : Jvm.MethodName) ∈ za_Ts := z_mem 39 (by decide +kernel) rfl
theorem zw_40 : Jvm.Cond.selects "LyndonBenchModel" ({ cls := "LyndonBenchModel", name := "is", desc := "(I)Z" } : Jvm.MethodName) ({ cls := "LyndonBenchModel", name := "is", desc := "(I)Z" } : Jvm.MethodName) ∈ za_Ts := z_mem 40 (by decide +kernel) rfl
theorem zw_41 : Jvm.Cond.selects "LyndonBenchModel" ({ cls := "LyndonBenchModel", name := "readsCommand", desc := "(I)Z" } : Jvm.MethodName) ({ cls := "LyndonBenchModel", name := "readsCommand", desc := "(I)Z" } : Jvm.MethodName) ∈ za_Ts := z_mem 41 (by decide +kernel) rfl
theorem zw_42 : Jvm.Cond.selects "LyndonBenchModel" ({ cls := "LyndonBenchModel", name := "wordAhead", desc := "()I" } : Jvm.MethodName) ({ cls := "LyndonBenchModel", name := "wordAhead", desc := "()I" } : Jvm.MethodName) ∈ za_Ts := z_mem 42 (by decide +kernel) rfl
theorem zw_43 : Jvm.Cond.selects "LyndonBenchModel" ({ cls := "LyndonBenchModel", name := "laterWord", desc := "()I" } : Jvm.MethodName) ({ cls := "LyndonBenchModel", name := "laterWord", desc := "()I" } : Jvm.MethodName) ∈ za_Ts := z_mem 43 (by decide +kernel) rfl
theorem zw_44 : Jvm.Cond.selects "LyndonBenchModel" ({ cls := "LyndonBenchModel", name := "readsRepeat", desc := "(I)Z" } : Jvm.MethodName) ({ cls := "LyndonBenchModel", name := "readsRepeat", desc := "(I)Z" } : Jvm.MethodName) ∈ za_Ts := z_mem 44 (by decide +kernel) rfl
theorem zw_45 : Jvm.Cond.selects "LyndonBenchModel" ({ cls := "LyndonBenchModel", name := "readsWord", desc := "(I)Z" } : Jvm.MethodName) ({ cls := "LyndonBenchModel", name := "readsWord", desc := "(I)Z" } : Jvm.MethodName) ∈ za_Ts := z_mem 45 (by decide +kernel) rfl
theorem zw_46 : Jvm.Cond.selects "LyndonBenchModel" ({ cls := "LyndonBenchModel", name := "readsText", desc := "()Z" } : Jvm.MethodName) ({ cls := "LyndonBenchModel", name := "readsText", desc := "()Z" } : Jvm.MethodName) ∈ za_Ts := z_mem 46 (by decide +kernel) rfl
theorem zw_47 : Jvm.Cond.selects "LyndonBenchModel" ({ cls := "LyndonBenchModel", name := "readsWordInto", desc := "(I)Z" } : Jvm.MethodName) ({ cls := "LyndonBenchModel", name := "readsWordInto", desc := "(I)Z" } : Jvm.MethodName) ∈ za_Ts := z_mem 47 (by decide +kernel) rfl
theorem zw_48 : Jvm.Cond.selects "LyndonBenchModel" ({ cls := "LyndonBenchModel", name := "isLetter", desc := "(I)Z" } : Jvm.MethodName) ({ cls := "LyndonBenchModel", name := "isLetter", desc := "(I)Z" } : Jvm.MethodName) ∈ za_Ts := z_mem 48 (by decide +kernel) rfl
theorem zw_49 : Jvm.Cond.selects "LyndonBenchModel" ({ cls := "LyndonBenchModel", name := "stops", desc := "(Z)Z" } : Jvm.MethodName) ({ cls := "LyndonBenchModel", name := "stops", desc := "(Z)Z" } : Jvm.MethodName) ∈ za_Ts := z_mem 49 (by decide +kernel) rfl
theorem zw_50 : Jvm.Cond.selects "LyndonBenchModel" ({ cls := "LyndonBenchModel", name := "takes", desc := "()I" } : Jvm.MethodName) ({ cls := "LyndonBenchModel", name := "takes", desc := "()I" } : Jvm.MethodName) ∈ za_Ts := z_mem 50 (by decide +kernel) rfl
theorem zw_51 : Jvm.Cond.selects "LyndonBenchModel" ({ cls := "LyndonBenchModel", name := "readsAppend", desc := "()Z" } : Jvm.MethodName) ({ cls := "LyndonBenchModel", name := "readsAppend", desc := "()Z" } : Jvm.MethodName) ∈ za_Ts := z_mem 51 (by decide +kernel) rfl
theorem zw_52 : Jvm.Cond.selects "LyndonBenchModel" ({ cls := "LyndonBenchModel", name := "loads", desc := "()V" } : Jvm.MethodName) ({ cls := "LyndonBenchModel", name := "loads", desc := "()V" } : Jvm.MethodName) ∈ za_Ts := z_mem 52 (by decide +kernel) rfl
theorem zw_53 : Jvm.Cond.selects "LyndonBenchModel" ({ cls := "LyndonBenchModel", name := "readsDrop", desc := "()Z" } : Jvm.MethodName) ({ cls := "LyndonBenchModel", name := "readsDrop", desc := "()Z" } : Jvm.MethodName) ∈ za_Ts := z_mem 53 (by decide +kernel) rfl
theorem zw_54 : Jvm.Cond.selects "LyndonBenchModel" ({ cls := "LyndonBenchModel", name := "drops", desc := "(I)I" } : Jvm.MethodName) ({ cls := "LyndonBenchModel", name := "drops", desc := "(I)I" } : Jvm.MethodName) ∈ za_Ts := z_mem 54 (by decide +kernel) rfl
theorem zw_55 : Jvm.Cond.selects "LyndonBenchModel" ({ cls := "LyndonBenchModel", name := "factors", desc := "()I" } : Jvm.MethodName) ({ cls := "LyndonBenchModel", name := "factors", desc := "()I" } : Jvm.MethodName) ∈ za_Ts := z_mem 55 (by decide +kernel) rfl
theorem zw_56 : Jvm.Cond.selects "LyndonBenchModel" ({ cls := "LyndonBenchModel", name := "cuts", desc := "()I" } : Jvm.MethodName) ({ cls := "LyndonBenchModel", name := "cuts", desc := "()I" } : Jvm.MethodName) ∈ za_Ts := z_mem 56 (by decide +kernel) rfl
theorem zw_57 : Jvm.Cond.selects "LyndonBenchModel" ({ cls := "LyndonBenchModel", name := "isLess", desc := "(II)Z" } : Jvm.MethodName) ({ cls := "LyndonBenchModel", name := "isLess", desc := "(II)Z" } : Jvm.MethodName) ∈ za_Ts := z_mem 57 (by decide +kernel) rfl
theorem zw_58 : Jvm.Cond.selects "LyndonBenchModel" ({ cls := "LyndonBenchModel", name := "readsPart", desc := "()Z" } : Jvm.MethodName) ({ cls := "LyndonBenchModel", name := "readsPart", desc := "()Z" } : Jvm.MethodName) ∈ za_Ts := z_mem 58 (by decide +kernel) rfl
theorem zw_59 : Jvm.Cond.selects "LyndonBenchModel" ({ cls := "LyndonBenchModel", name := "parts", desc := "(II)I" } : Jvm.MethodName) ({ cls := "LyndonBenchModel", name := "parts", desc := "(II)I" } : Jvm.MethodName) ∈ za_Ts := z_mem 59 (by decide +kernel) rfl
theorem zw_60 : Jvm.Cond.selects "LyndonBenchModel" ({ cls := "LyndonBenchModel", name := "readsRotate", desc := "()Z" } : Jvm.MethodName) ({ cls := "LyndonBenchModel", name := "readsRotate", desc := "()Z" } : Jvm.MethodName) ∈ za_Ts := z_mem 60 (by decide +kernel) rfl
theorem zw_61 : Jvm.Cond.selects "LyndonBenchModel" ({ cls := "LyndonBenchModel", name := "turns", desc := "(I)I" } : Jvm.MethodName) ({ cls := "LyndonBenchModel", name := "turns", desc := "(I)I" } : Jvm.MethodName) ∈ za_Ts := z_mem 61 (by decide +kernel) rfl
theorem zw_62 : Jvm.Cond.selects "LyndonBenchModel" ({ cls := "LyndonBenchModel", name := "loadsRotated", desc := "(I)V" } : Jvm.MethodName) ({ cls := "LyndonBenchModel", name := "loadsRotated", desc := "(I)V" } : Jvm.MethodName) ∈ za_Ts := z_mem 62 (by decide +kernel) rfl
theorem zw_63 : Jvm.Cond.selects "LyndonBenchModel" ({ cls := "LyndonBenchModel", name := "readsReverse", desc := "()Z" } : Jvm.MethodName) ({ cls := "LyndonBenchModel", name := "readsReverse", desc := "()Z" } : Jvm.MethodName) ∈ za_Ts := z_mem 63 (by decide +kernel) rfl
theorem zw_64 : Jvm.Cond.selects "LyndonBenchModel" ({ cls := "LyndonBenchModel", name := "mirrors", desc := "()I" } : Jvm.MethodName) ({ cls := "LyndonBenchModel", name := "mirrors", desc := "()I" } : Jvm.MethodName) ∈ za_Ts := z_mem 64 (by decide +kernel) rfl
theorem zw_65 : Jvm.Cond.selects "LyndonBenchModel" ({ cls := "LyndonBenchModel", name := "readsLeast", desc := "()Z" } : Jvm.MethodName) ({ cls := "LyndonBenchModel", name := "readsLeast", desc := "()Z" } : Jvm.MethodName) ∈ za_Ts := z_mem 65 (by decide +kernel) rfl
theorem zw_66 : Jvm.Cond.selects "LyndonBenchModel" ({ cls := "LyndonBenchModel", name := "turnsToLeast", desc := "()I" } : Jvm.MethodName) ({ cls := "LyndonBenchModel", name := "turnsToLeast", desc := "()I" } : Jvm.MethodName) ∈ za_Ts := z_mem 66 (by decide +kernel) rfl
theorem zw_67 : Jvm.Cond.selects "LyndonBenchModel" ({ cls := "LyndonBenchModel", name := "least", desc := "()I" } : Jvm.MethodName) ({ cls := "LyndonBenchModel", name := "least", desc := "()I" } : Jvm.MethodName) ∈ za_Ts := z_mem 67 (by decide +kernel) rfl
theorem zw_68 : Jvm.Cond.selects "LyndonBenchModel" ({ cls := "LyndonBenchModel", name := "rotations", desc := "(II)I" } : Jvm.MethodName) ({ cls := "LyndonBenchModel", name := "rotations", desc := "(II)I" } : Jvm.MethodName) ∈ za_Ts := z_mem 68 (by decide +kernel) rfl
theorem zw_69 : Jvm.Cond.selects "LyndonBenchModel" ({ cls := "LyndonBenchModel", name := "readsNext", desc := "()Z" } : Jvm.MethodName) ({ cls := "LyndonBenchModel", name := "readsNext", desc := "()Z" } : Jvm.MethodName) ∈ za_Ts := z_mem 69 (by decide +kernel) rfl
theorem zw_70 : Jvm.Cond.selects "LyndonBenchModel" ({ cls := "LyndonBenchModel", name := "hasNext", desc := "(I)Z" } : Jvm.MethodName) ({ cls := "LyndonBenchModel", name := "hasNext", desc := "(I)Z" } : Jvm.MethodName) ∈ za_Ts := z_mem 70 (by decide +kernel) rfl
theorem zw_71 : Jvm.Cond.selects "LyndonBenchModel" ({ cls := "LyndonBenchModel", name := "why", desc := "()I" } : Jvm.MethodName) ({ cls := "LyndonBenchModel", name := "why", desc := "()I" } : Jvm.MethodName) ∈ za_Ts := z_mem 71 (by decide +kernel) rfl
theorem zw_72 : Jvm.Cond.selects "LyndonBenchModel" ({ cls := "LyndonBenchModel", name := "isPrimitiveRow", desc := "()Z" } : Jvm.MethodName) ({ cls := "LyndonBenchModel", name := "isPrimitiveRow", desc := "()Z" } : Jvm.MethodName) ∈ za_Ts := z_mem 72 (by decide +kernel) rfl
theorem zw_73 : Jvm.Cond.selects "LyndonBenchModel" ({ cls := "LyndonBenchModel", name := "turned", desc := "(I)I" } : Jvm.MethodName) ({ cls := "LyndonBenchModel", name := "turned", desc := "(I)I" } : Jvm.MethodName) ∈ za_Ts := z_mem 73 (by decide +kernel) rfl
theorem zw_74 : Jvm.Cond.selects "LyndonBenchModel" ({ cls := "LyndonBenchModel", name := "isLeastRow", desc := "()Z" } : Jvm.MethodName) ({ cls := "LyndonBenchModel", name := "isLeastRow", desc := "()Z" } : Jvm.MethodName) ∈ za_Ts := z_mem 74 (by decide +kernel) rfl
theorem zw_75 : Jvm.Cond.selects "LyndonBenchModel" ({ cls := "LyndonBenchModel", name := "nexts", desc := "(I)V" } : Jvm.MethodName) ({ cls := "LyndonBenchModel", name := "nexts", desc := "(I)V" } : Jvm.MethodName) ∈ za_Ts := z_mem 75 (by decide +kernel) rfl
theorem zw_76 : Jvm.Cond.selects "LyndonBenchModel" ({ cls := "LyndonBenchModel", name := "goesOn", desc := "(I)I" } : Jvm.MethodName) ({ cls := "LyndonBenchModel", name := "goesOn", desc := "(I)I" } : Jvm.MethodName) ∈ za_Ts := z_mem 76 (by decide +kernel) rfl
theorem zw_77 : Jvm.Cond.selects "LyndonBenchModel" ({ cls := "LyndonBenchModel", name := "readsKeep", desc := "()Z" } : Jvm.MethodName) ({ cls := "LyndonBenchModel", name := "readsKeep", desc := "()Z" } : Jvm.MethodName) ∈ za_Ts := z_mem 77 (by decide +kernel) rfl
theorem zw_78 : Jvm.Cond.selects "LyndonBenchModel" ({ cls := "LyndonBenchModel", name := "canKeepText", desc := "()Z" } : Jvm.MethodName) ({ cls := "LyndonBenchModel", name := "canKeepText", desc := "()Z" } : Jvm.MethodName) ∈ za_Ts := z_mem 78 (by decide +kernel) rfl
theorem zw_79 : Jvm.Cond.selects "LyndonBenchModel" ({ cls := "LyndonBenchModel", name := "shelves", desc := "(II)I" } : Jvm.MethodName) ({ cls := "LyndonBenchModel", name := "shelves", desc := "(II)I" } : Jvm.MethodName) ∈ za_Ts := z_mem 79 (by decide +kernel) rfl
theorem zw_80 : Jvm.Cond.selects "LyndonBenchModel" ({ cls := "LyndonBenchModel", name := "canKeepFactor", desc := "(I)Z" } : Jvm.MethodName) ({ cls := "LyndonBenchModel", name := "canKeepFactor", desc := "(I)Z" } : Jvm.MethodName) ∈ za_Ts := z_mem 80 (by decide +kernel) rfl
theorem zw_81 : Jvm.Cond.selects "LyndonBenchModel" ({ cls := "LyndonBenchModel", name := "keepsFactor", desc := "(I)I" } : Jvm.MethodName) ({ cls := "LyndonBenchModel", name := "keepsFactor", desc := "(I)I" } : Jvm.MethodName) ∈ za_Ts := z_mem 81 (by decide +kernel) rfl
theorem zw_82 : Jvm.Cond.selects "LyndonBenchModel" ({ cls := "LyndonBenchModel", name := "readsRemove", desc := "()Z" } : Jvm.MethodName) ({ cls := "LyndonBenchModel", name := "readsRemove", desc := "()Z" } : Jvm.MethodName) ∈ za_Ts := z_mem 82 (by decide +kernel) rfl
theorem zw_83 : Jvm.Cond.selects "LyndonBenchModel" ({ cls := "LyndonBenchModel", name := "removes", desc := "(I)I" } : Jvm.MethodName) ({ cls := "LyndonBenchModel", name := "removes", desc := "(I)I" } : Jvm.MethodName) ∈ za_Ts := z_mem 83 (by decide +kernel) rfl
theorem zw_84 : Jvm.Cond.selects "LyndonBenchModel" ({ cls := "LyndonBenchModel", name := "readsJoin", desc := "()Z" } : Jvm.MethodName) ({ cls := "LyndonBenchModel", name := "readsJoin", desc := "()Z" } : Jvm.MethodName) ∈ za_Ts := z_mem 84 (by decide +kernel) rfl
theorem zw_85 : Jvm.Cond.selects "LyndonBenchModel" ({ cls := "LyndonBenchModel", name := "canJoin", desc := "()Z" } : Jvm.MethodName) ({ cls := "LyndonBenchModel", name := "canJoin", desc := "()Z" } : Jvm.MethodName) ∈ za_Ts := z_mem 85 (by decide +kernel) rfl
theorem zw_86 : Jvm.Cond.selects "LyndonBenchModel" ({ cls := "LyndonBenchModel", name := "shelfLength", desc := "()I" } : Jvm.MethodName) ({ cls := "LyndonBenchModel", name := "shelfLength", desc := "()I" } : Jvm.MethodName) ∈ za_Ts := z_mem 86 (by decide +kernel) rfl
theorem zw_87 : Jvm.Cond.selects "LyndonBenchModel" ({ cls := "LyndonBenchModel", name := "joins", desc := "()I" } : Jvm.MethodName) ({ cls := "LyndonBenchModel", name := "joins", desc := "()I" } : Jvm.MethodName) ∈ za_Ts := z_mem 87 (by decide +kernel) rfl
theorem zw_88 : Jvm.Cond.selects "LyndonBenchModel" ({ cls := "LyndonBenchModel", name := "greatestBeside", desc := "(I)I" } : Jvm.MethodName) ({ cls := "LyndonBenchModel", name := "greatestBeside", desc := "(I)I" } : Jvm.MethodName) ∈ za_Ts := z_mem 88 (by decide +kernel) rfl
theorem zw_89 : Jvm.Cond.selects "LyndonBenchModel" ({ cls := "LyndonBenchModel", name := "shelved", desc := "(II)I" } : Jvm.MethodName) ({ cls := "LyndonBenchModel", name := "shelved", desc := "(II)I" } : Jvm.MethodName) ∈ za_Ts := z_mem 89 (by decide +kernel) rfl
theorem zw_90 : Jvm.Cond.selects "LyndonBenchModel" ({ cls := "LyndonBenchModel", name := "compares", desc := "(IIII)I" } : Jvm.MethodName) ({ cls := "LyndonBenchModel", name := "compares", desc := "(IIII)I" } : Jvm.MethodName) ∈ za_Ts := z_mem 90 (by decide +kernel) rfl
theorem zw_91 : Jvm.Cond.selects "LyndonBenchModel" ({ cls := "LyndonBenchModel", name := "adds", desc := "(I)V" } : Jvm.MethodName) ({ cls := "LyndonBenchModel", name := "adds", desc := "(I)V" } : Jvm.MethodName) ∈ za_Ts := z_mem 91 (by decide +kernel) rfl
theorem zw_92 : Jvm.Cond.selects "LyndonBenchModel" ({ cls := "LyndonBenchModel", name := "type", desc := "(I)V" } : Jvm.MethodName) ({ cls := "LyndonBenchModel", name := "type", desc := "(I)V" } : Jvm.MethodName) ∈ za_Ts := z_mem 92 (by decide +kernel) rfl
theorem zw_93 : Jvm.Cond.selects "LyndonBenchModel" ({ cls := "LyndonBenchModel", name := "throwsOne", desc := "(Z)Z" } : Jvm.MethodName) ({ cls := "LyndonBenchModel", name := "throwsOne", desc := "(Z)Z" } : Jvm.MethodName) ∈ za_Ts := z_mem 93 (by decide +kernel) rfl
theorem zw_94 : Jvm.Cond.selects "LyndonBenchModel" ({ cls := "LyndonBenchModel", name := "begins", desc := "()V" } : Jvm.MethodName) ({ cls := "LyndonBenchModel", name := "begins", desc := "()V" } : Jvm.MethodName) ∈ za_Ts := z_mem 94 (by decide +kernel) rfl
theorem zw_95 : Jvm.Cond.selects "LyndonBenchModel" ({ cls := "LyndonBenchModel", name := "remember", desc := "(I)I" } : Jvm.MethodName) ({ cls := "LyndonBenchModel", name := "remember", desc := "(I)I" } : Jvm.MethodName) ∈ za_Ts := z_mem 95 (by decide +kernel) rfl
theorem zw_96 : Jvm.Cond.selects "LyndonBenchModel" ({ cls := "LyndonBenchModel", name := "canHave", desc := "(I)Z" } : Jvm.MethodName) ({ cls := "LyndonBenchModel", name := "canHave", desc := "(I)Z" } : Jvm.MethodName) ∈ za_Ts := z_mem 96 (by decide +kernel) rfl
theorem zw_97 : Jvm.Cond.selects "LyndonBenchModel" ({ cls := "LyndonBenchModel", name := "throwsOne", desc := "(ZZ)Z" } : Jvm.MethodName) ({ cls := "LyndonBenchModel", name := "throwsOne", desc := "(ZZ)Z" } : Jvm.MethodName) ∈ za_Ts := z_mem 97 (by decide +kernel) rfl
theorem zw_98 : Jvm.Cond.selects "LyndonBenchModel" ({ cls := "LyndonBenchModel", name := "appends", desc := "(I)I" } : Jvm.MethodName) ({ cls := "LyndonBenchModel", name := "appends", desc := "(I)I" } : Jvm.MethodName) ∈ za_Ts := z_mem 98 (by decide +kernel) rfl
theorem zw_99 : Jvm.Cond.selects "LyndonBenchModel" ({ cls := "LyndonBenchModel", name := "isShelved", desc := "(I)Z" } : Jvm.MethodName) ({ cls := "LyndonBenchModel", name := "isShelved", desc := "(I)Z" } : Jvm.MethodName) ∈ za_Ts := z_mem 99 (by decide +kernel) rfl
theorem zw_100 : Jvm.Cond.selects "LyndonBenchModel" ({ cls := "LyndonBenchModel", name := "told", desc := "(I)I" } : Jvm.MethodName) ({ cls := "LyndonBenchModel", name := "told", desc := "(I)I" } : Jvm.MethodName) ∈ za_Ts := z_mem 100 (by decide +kernel) rfl
theorem zw_101 : Jvm.Cond.selects "LyndonBenchModel" ({ cls := "LyndonBenchModel", name := "isPart", desc := "(II)Z" } : Jvm.MethodName) ({ cls := "LyndonBenchModel", name := "isPart", desc := "(II)Z" } : Jvm.MethodName) ∈ za_Ts := z_mem 101 (by decide +kernel) rfl
theorem zw_102 : Jvm.Cond.selects "LyndonBenchModel" ({ cls := "LyndonBenchModel", name := "throwsFactor", desc := "(I)Z" } : Jvm.MethodName) ({ cls := "LyndonBenchModel", name := "throwsFactor", desc := "(I)Z" } : Jvm.MethodName) ∈ za_Ts := z_mem 102 (by decide +kernel) rfl
theorem zw_103 : Jvm.Cond.selects "LyndonBenchModel" ({ cls := "LyndonBenchModel", name := "powerOf", desc := "(II)I" } : Jvm.MethodName) ({ cls := "LyndonBenchModel", name := "powerOf", desc := "(II)I" } : Jvm.MethodName) ∈ za_Ts := z_mem 103 (by decide +kernel) rfl
theorem zw_104 : Jvm.Cond.selects "LyndonBenchModel" ({ cls := "LyndonBenchModel", name := "areAlike", desc := "(II)Z" } : Jvm.MethodName) ({ cls := "LyndonBenchModel", name := "areAlike", desc := "(II)Z" } : Jvm.MethodName) ∈ za_Ts := z_mem 104 (by decide +kernel) rfl
theorem zw_105 : Jvm.Cond.selects "LyndonBenchModel" ({ cls := "LyndonBenchModel", name := "power", desc := "(I)I" } : Jvm.MethodName) ({ cls := "LyndonBenchModel", name := "power", desc := "(I)I" } : Jvm.MethodName) ∈ za_Ts := z_mem 105 (by decide +kernel) rfl
theorem zw_106 : Jvm.Cond.selects "LyndonBenchModel" ({ cls := "LyndonBenchModel", name := "numberOf", desc := "(II)I" } : Jvm.MethodName) ({ cls := "LyndonBenchModel", name := "numberOf", desc := "(II)I" } : Jvm.MethodName) ∈ za_Ts := z_mem 106 (by decide +kernel) rfl
theorem zw_107 : Jvm.Cond.selects "LyndonBenchModel" ({ cls := "LyndonBenchModel", name := "spells", desc := "(II)V" } : Jvm.MethodName) ({ cls := "LyndonBenchModel", name := "spells", desc := "(II)V" } : Jvm.MethodName) ∈ za_Ts := z_mem 107 (by decide +kernel) rfl
theorem zw_108 : Jvm.Cond.selects "LyndonBenchModel" ({ cls := "LyndonBenchModel", name := "isBeginning", desc := "()Z" } : Jvm.MethodName) ({ cls := "LyndonBenchModel", name := "isBeginning", desc := "()Z" } : Jvm.MethodName) ∈ za_Ts := z_mem 108 (by decide +kernel) rfl
theorem zw_109 : Jvm.Cond.selects "LyndonBenchModel" ({ cls := "LyndonBenchModel", name := "rootLength", desc := "()I" } : Jvm.MethodName) ({ cls := "LyndonBenchModel", name := "rootLength", desc := "()I" } : Jvm.MethodName) ∈ za_Ts := z_mem 109 (by decide +kernel) rfl
theorem zw_110 : Jvm.Cond.selects "LyndonBenchModel" ({ cls := "LyndonBenchModel", name := "period", desc := "()I" } : Jvm.MethodName) ({ cls := "LyndonBenchModel", name := "period", desc := "()I" } : Jvm.MethodName) ∈ za_Ts := z_mem 110 (by decide +kernel) rfl
theorem zw_111 : Jvm.Cond.selects "LyndonBenchModel" ({ cls := "LyndonBenchModel", name := "suffix", desc := "(I)I" } : Jvm.MethodName) ({ cls := "LyndonBenchModel", name := "suffix", desc := "(I)I" } : Jvm.MethodName) ∈ za_Ts := z_mem 111 (by decide +kernel) rfl
theorem zw_112 : Jvm.Cond.selects "LyndonBenchModel" ({ cls := "LyndonBenchModel", name := "primitives", desc := "(I)J" } : Jvm.MethodName) ({ cls := "LyndonBenchModel", name := "primitives", desc := "(I)J" } : Jvm.MethodName) ∈ za_Ts := z_mem 112 (by decide +kernel) rfl
theorem zw_113 : Jvm.Cond.selects "LyndonBenchModel" ({ cls := "LyndonBenchModel", name := "rings", desc := "(I)J" } : Jvm.MethodName) ({ cls := "LyndonBenchModel", name := "rings", desc := "(I)J" } : Jvm.MethodName) ∈ za_Ts := z_mem 113 (by decide +kernel) rfl
theorem zw_114 : Jvm.Cond.selects "LyndonBenchModel" ({ cls := "LyndonBenchModel", name := "writeFactor", desc := "(II)V" } : Jvm.MethodName) ({ cls := "LyndonBenchModel", name := "writeFactor", desc := "(II)V" } : Jvm.MethodName) ∈ za_Ts := z_mem 114 (by decide +kernel) rfl
theorem zw_115 : Jvm.Cond.selects "LyndonBenchModel" ({ cls := "LyndonBenchModel", name := "write", desc := "(I)V" } : Jvm.MethodName) ({ cls := "LyndonBenchModel", name := "write", desc := "(I)V" } : Jvm.MethodName) ∈ za_Ts := z_mem 115 (by decide +kernel) rfl
theorem zw_116 : Jvm.Cond.selects "LyndonBenchModel" ({ cls := "LyndonBenchModel", name := "writeNumber", desc := "(I)V" } : Jvm.MethodName) ({ cls := "LyndonBenchModel", name := "writeNumber", desc := "(I)V" } : Jvm.MethodName) ∈ za_Ts := z_mem 116 (by decide +kernel) rfl
theorem zw_117 : Jvm.Cond.initialized "LyndonBenchLaw" ∈ za_Ts := z_mt1 0 rfl rfl
theorem zw_118 : Jvm.Cond.initialized "LyndonBench" ∈ za_Ts := z_mt1 1 rfl rfl
theorem zw_119 : Jvm.Cond.initialized "LyndonBench$State" ∈ za_Ts := z_mt1 2 rfl rfl
theorem zw_120 : Jvm.Cond.initialized "LyndonBench$Word" ∈ za_Ts := z_mt1 3 rfl rfl
theorem zw_121 : Jvm.Cond.initialized "java/lang/Math" ∈ za_Ts := z_mt1 4 rfl rfl
theorem zw_122 : Jvm.Cond.initialized "LyndonBench$History" ∈ za_Ts := z_mt1 5 rfl rfl
theorem zw_123 : Jvm.Cond.initialized "LyndonBench$Script" ∈ za_Ts := z_mt1 6 rfl rfl
theorem zw_124 : Jvm.Cond.initialized "java/lang/String" ∈ za_Ts := z_mt1 7 rfl rfl
theorem zw_125 : Jvm.Cond.initialized "java/lang/StringLatin1" ∈ za_Ts := z_mt1 8 rfl rfl
theorem zw_126 : Jvm.Cond.initialized "jdk/internal/util/Preconditions" ∈ za_Ts := z_mt1 9 rfl rfl
theorem zw_128 : Jvm.Cond.initialized "LyndonBenchModel" ∈ za_Ts := z_mt1 11 rfl rfl
theorem zw_132 : Jvm.Cond.initialized "java/lang/IllegalArgumentException" ∈ za_Ts := z_mt1 15 rfl rfl
theorem zw_133 : Jvm.Cond.initialized "java/lang/Enum" ∈ za_Ts := z_mt1 16 rfl rfl
theorem zw_134 : Jvm.Cond.initialized "LyndonBench$Command" ∈ za_Ts := z_mt1 17 rfl rfl
theorem zw_136 : Jvm.Cond.initialized "java/lang/IllegalStateException" ∈ za_Ts := z_mt1 19 rfl rfl
theorem zw_137 : Jvm.Cond.initialized "java/lang/IndexOutOfBoundsException" ∈ za_Ts := z_mt1 20 rfl rfl
theorem zw_138 : Jvm.Cond.initialized "java/util/NoSuchElementException" ∈ za_Ts := z_mt1 21 rfl rfl
theorem zw_139 : Jvm.Cond.classLink "LyndonBenchLaw" (8 : Nat) "LyndonBench" ∈ za_Ts := z_mt1 22 rfl rfl
theorem zw_140 : Jvm.Cond.instantiable "LyndonBench" (7 : Nat) ∈ za_Ts := z_mt1 23 rfl rfl
theorem zw_141 : Jvm.Cond.methodLink "LyndonBenchLaw" (100 : Nat) ({ cls := "LyndonBench", name := "<init>", desc := "()V" } : Jvm.MethodName) ∈ za_Ts := z_mt1 24 rfl rfl
theorem zw_142 : Jvm.Cond.instanceMethod ({ cls := "LyndonBench", name := "<init>", desc := "()V" } : Jvm.MethodName) ∈ za_Ts := z_mt1 25 rfl rfl
theorem zw_143 : Jvm.Cond.code ({ cls := "LyndonBench", name := "<init>", desc := "()V" } : Jvm.MethodName) prog_1_method_1_code (1 : Nat) (Option.none : Option Jvm.ClassFile.FieldType) ∈ za_Ts := z_mt1 26 rfl rfl
theorem zw_144 : Jvm.Cond.methodLink "LyndonBench" (3 : Nat) ({ cls := "java/lang/Object", name := "<init>", desc := "()V" } : Jvm.MethodName) ∈ za_Ts := z_mt1 27 rfl rfl
theorem zw_145 : Jvm.Cond.instanceMethod ({ cls := "java/lang/Object", name := "<init>", desc := "()V" } : Jvm.MethodName) ∈ za_Ts := z_mt1 28 rfl rfl
theorem zw_146 : Jvm.Cond.code ({ cls := "java/lang/Object", name := "<init>", desc := "()V" } : Jvm.MethodName) object_method_1_code (1 : Nat) (Option.none : Option Jvm.ClassFile.FieldType) ∈ za_Ts := z_mt1 29 rfl rfl
theorem zw_147 : Jvm.Cond.classLink "LyndonBench" (9 : Nat) "LyndonBench$State" ∈ za_Ts := z_mt1 30 rfl rfl
theorem zw_148 : Jvm.Cond.instantiable "LyndonBench$State" (4 : Nat) ∈ za_Ts := z_mt1 31 rfl rfl
theorem zw_149 : Jvm.Cond.methodLink "LyndonBench" (11 : Nat) ({ cls := "LyndonBench$State", name := "<init>", desc := "()V" } : Jvm.MethodName) ∈ za_Ts := z_mt1 32 rfl rfl
theorem zw_150 : Jvm.Cond.instanceMethod ({ cls := "LyndonBench$State", name := "<init>", desc := "()V" } : Jvm.MethodName) ∈ za_Ts := z_mt1 33 rfl rfl
theorem zw_151 : Jvm.Cond.code ({ cls := "LyndonBench$State", name := "<init>", desc := "()V" } : Jvm.MethodName) prog_6_method_1_code (2 : Nat) (Option.none : Option Jvm.ClassFile.FieldType) ∈ za_Ts := z_mt1 34 rfl rfl
theorem zw_152 : Jvm.Cond.methodLink "LyndonBench$State" (3 : Nat) ({ cls := "java/lang/Object", name := "<init>", desc := "()V" } : Jvm.MethodName) ∈ za_Ts := z_mt1 35 rfl rfl
theorem zw_153 : Jvm.Cond.classLink "LyndonBench$State" (15 : Nat) "LyndonBench$Word" ∈ za_Ts := z_mt1 36 rfl rfl
theorem zw_154 : Jvm.Cond.instantiable "LyndonBench$Word" (2 : Nat) ∈ za_Ts := z_mt1 37 rfl rfl
theorem zw_155 : Jvm.Cond.methodLink "LyndonBench$State" (17 : Nat) ({ cls := "LyndonBench$Word", name := "<init>", desc := "(I)V" } : Jvm.MethodName) ∈ za_Ts := z_mt1 38 rfl rfl
theorem zw_156 : Jvm.Cond.instanceMethod ({ cls := "LyndonBench$Word", name := "<init>", desc := "(I)V" } : Jvm.MethodName) ∈ za_Ts := z_mt1 39 rfl rfl
theorem zw_157 : Jvm.Cond.code ({ cls := "LyndonBench$Word", name := "<init>", desc := "(I)V" } : Jvm.MethodName) prog_7_method_1_code (2 : Nat) (Option.none : Option Jvm.ClassFile.FieldType) ∈ za_Ts := z_mt1 40 rfl rfl
theorem zw_158 : Jvm.Cond.methodLink "LyndonBench$Word" (3 : Nat) ({ cls := "java/lang/Object", name := "<init>", desc := "()V" } : Jvm.MethodName) ∈ za_Ts := z_mt1 41 rfl rfl
theorem zw_159 : Jvm.Cond.methodLink "LyndonBench$Word" (15 : Nat) ({ cls := "java/lang/Math", name := "max", desc := "(II)I" } : Jvm.MethodName) ∈ za_Ts := z_mt1 42 rfl rfl
theorem zw_160 : Jvm.Cond.static ({ cls := "java/lang/Math", name := "max", desc := "(II)I" } : Jvm.MethodName) ∈ za_Ts := z_mt1 43 rfl rfl
theorem zw_161 : Jvm.Cond.code ({ cls := "java/lang/Math", name := "max", desc := "(II)I" } : Jvm.MethodName) prog_18_method_65_code (2 : Nat) (Option.some Jvm.ClassFile.FieldType.int) ∈ za_Ts := z_mt1 44 rfl rfl
theorem zw_162 : Jvm.Cond.fieldLink "LyndonBench$Word" (21 : Nat) "LyndonBench$Word" "row" "[B" ∈ za_Ts := z_mt1 45 rfl rfl
theorem zw_163 : Jvm.Cond.fieldLink "LyndonBench$Word" (9 : Nat) "LyndonBench$Word" "size" "I" ∈ za_Ts := z_mt1 46 rfl rfl
theorem zw_164 : Jvm.Cond.fieldLink "LyndonBench" (70 : Nat) "LyndonBench$Word" "size" "I" ∈ za_Ts := z_mt1 47 rfl rfl
theorem zw_165 : Jvm.Cond.fieldLink "LyndonBench$State" (42 : Nat) "LyndonBench$Word" "size" "I" ∈ za_Ts := z_mt1 48 rfl rfl
theorem zw_166 : Jvm.Cond.fieldLink "LyndonBench$Script" (156 : Nat) "LyndonBench$Word" "size" "I" ∈ za_Ts := z_mt1 49 rfl rfl
theorem zw_172 : Jvm.Cond.arrayClass Jvm.ClassFile.FieldType.byte ∈ za_Ts := z_mt1 55 rfl rfl
theorem zw_174 : Jvm.Cond.fieldLink "LyndonBench$State" (9 : Nat) "LyndonBench$State" "letterCount" "I" ∈ za_Ts := z_mt1 57 rfl rfl
theorem zw_175 : Jvm.Cond.fieldLink "LyndonBench" (113 : Nat) "LyndonBench$State" "letterCount" "I" ∈ za_Ts := z_mt1 58 rfl rfl
theorem zw_176 : Jvm.Cond.fieldLink "LyndonBench$State" (20 : Nat) "LyndonBench$State" "text" "LLyndonBench$Word;" ∈ za_Ts := z_mt1 59 rfl rfl
theorem zw_177 : Jvm.Cond.fieldLink "LyndonBench" (52 : Nat) "LyndonBench$State" "text" "LLyndonBench$Word;" ∈ za_Ts := z_mt1 60 rfl rfl
theorem zw_178 : Jvm.Cond.fieldLink "LyndonBench$Script" (153 : Nat) "LyndonBench$State" "text" "LLyndonBench$Word;" ∈ za_Ts := z_mt1 61 rfl rfl
theorem zw_179 : Jvm.Cond.fieldLink "LyndonBench$State" (24 : Nat) "LyndonBench$State" "shelf" "[LLyndonBench$Word;" ∈ za_Ts := z_mt1 62 rfl rfl
theorem zw_180 : Jvm.Cond.fieldLink "LyndonBench$State" (28 : Nat) "LyndonBench$State" "keptWords" "I" ∈ za_Ts := z_mt1 63 rfl rfl
theorem zw_181 : Jvm.Cond.fieldLink "LyndonBench" (183 : Nat) "LyndonBench$State" "keptWords" "I" ∈ za_Ts := z_mt1 64 rfl rfl
theorem zw_182 : Jvm.Cond.fieldLink "LyndonBench$Script" (203 : Nat) "LyndonBench$State" "keptWords" "I" ∈ za_Ts := z_mt1 65 rfl rfl
theorem zw_192 : Jvm.Cond.classLink "LyndonBench" (16 : Nat) "LyndonBench$History" ∈ za_Ts := z_mt1 75 rfl rfl
theorem zw_193 : Jvm.Cond.instantiable "LyndonBench$History" (2 : Nat) ∈ za_Ts := z_mt1 76 rfl rfl
theorem zw_194 : Jvm.Cond.methodLink "LyndonBench" (18 : Nat) ({ cls := "LyndonBench$History", name := "<init>", desc := "()V" } : Jvm.MethodName) ∈ za_Ts := z_mt1 77 rfl rfl
theorem zw_195 : Jvm.Cond.instanceMethod ({ cls := "LyndonBench$History", name := "<init>", desc := "()V" } : Jvm.MethodName) ∈ za_Ts := z_mt1 78 rfl rfl
theorem zw_196 : Jvm.Cond.code ({ cls := "LyndonBench$History", name := "<init>", desc := "()V" } : Jvm.MethodName) prog_4_method_1_code (2 : Nat) (Option.none : Option Jvm.ClassFile.FieldType) ∈ za_Ts := z_mt1 79 rfl rfl
theorem zw_197 : Jvm.Cond.methodLink "LyndonBench$History" (3 : Nat) ({ cls := "java/lang/Object", name := "<init>", desc := "()V" } : Jvm.MethodName) ∈ za_Ts := z_mt1 80 rfl rfl
theorem zw_198 : Jvm.Cond.classLink "LyndonBench$History" (9 : Nat) "LyndonBench$State" ∈ za_Ts := z_mt1 81 rfl rfl
theorem zw_200 : Jvm.Cond.methodLink "LyndonBench$History" (21 : Nat) ({ cls := "LyndonBench$State", name := "<init>", desc := "()V" } : Jvm.MethodName) ∈ za_Ts := z_mt1 83 rfl rfl
theorem zw_201 : Jvm.Cond.fieldLink "LyndonBench$History" (11 : Nat) "LyndonBench$History" "states" "[LLyndonBench$State;" ∈ za_Ts := z_mt1 84 rfl rfl
theorem zw_202 : Jvm.Cond.fieldLink "LyndonBench$History" (17 : Nat) "LyndonBench$History" "count" "I" ∈ za_Ts := z_mt1 85 rfl rfl
theorem zw_203 : Jvm.Cond.fieldLink "LyndonBench" (212 : Nat) "LyndonBench$History" "count" "I" ∈ za_Ts := z_mt1 86 rfl rfl
theorem zw_209 : Jvm.Cond.classLink "LyndonBench" (30 : Nat) "LyndonBench$Script" ∈ za_Ts := z_mt1 92 rfl rfl
theorem zw_210 : Jvm.Cond.instantiable "LyndonBench$Script" (12 : Nat) ∈ za_Ts := z_mt1 93 rfl rfl
theorem zw_212 : Jvm.Cond.instanceMethod ({ cls := "LyndonBench$Script", name := "<init>", desc := "()V" } : Jvm.MethodName) ∈ za_Ts := z_mt1 95 rfl rfl
theorem zw_213 : Jvm.Cond.code ({ cls := "LyndonBench$Script", name := "<init>", desc := "()V" } : Jvm.MethodName) prog_5_method_1_code (1 : Nat) (Option.none : Option Jvm.ClassFile.FieldType) ∈ za_Ts := z_mt1 96 rfl rfl
theorem zw_214 : Jvm.Cond.methodLink "LyndonBench$Script" (3 : Nat) ({ cls := "java/lang/Object", name := "<init>", desc := "()V" } : Jvm.MethodName) ∈ za_Ts := z_mt1 97 rfl rfl
theorem zw_215 : Jvm.Cond.classLink "LyndonBench$Script" (9 : Nat) "LyndonBench$Word" ∈ za_Ts := z_mt1 98 rfl rfl
theorem zw_216 : Jvm.Cond.methodLink "LyndonBench$Script" (11 : Nat) ({ cls := "LyndonBench$Word", name := "<init>", desc := "(I)V" } : Jvm.MethodName) ∈ za_Ts := z_mt1 99 rfl rfl
theorem zw_217 : Jvm.Cond.classLink "LyndonBench$Script" (20 : Nat) "LyndonBench$State" ∈ za_Ts := z_mt1 100 rfl rfl
theorem zw_218 : Jvm.Cond.methodLink "LyndonBench$Script" (22 : Nat) ({ cls := "LyndonBench$State", name := "<init>", desc := "()V" } : Jvm.MethodName) ∈ za_Ts := z_mt1 101 rfl rfl
theorem zw_219 : Jvm.Cond.fieldLink "LyndonBench$Script" (14 : Nat) "LyndonBench$Script" "source" "LLyndonBench$Word;" ∈ za_Ts := z_mt1 102 rfl rfl
theorem zw_220 : Jvm.Cond.fieldLink "LyndonBench" (67 : Nat) "LyndonBench$Script" "source" "LLyndonBench$Word;" ∈ za_Ts := z_mt1 103 rfl rfl
theorem zw_221 : Jvm.Cond.fieldLink "LyndonBench$Script" (23 : Nat) "LyndonBench$Script" "state" "LLyndonBench$State;" ∈ za_Ts := z_mt1 104 rfl rfl
theorem zw_222 : Jvm.Cond.fieldLink "LyndonBench" (96 : Nat) "LyndonBench$Script" "state" "LLyndonBench$State;" ∈ za_Ts := z_mt1 105 rfl rfl
theorem zw_223 : Jvm.Cond.fieldLink "LyndonBench$Script" (27 : Nat) "LyndonBench$Script" "errorKind" "I" ∈ za_Ts := z_mt1 106 rfl rfl
theorem zw_224 : Jvm.Cond.fieldLink "LyndonBench" (220 : Nat) "LyndonBench$Script" "errorKind" "I" ∈ za_Ts := z_mt1 107 rfl rfl
theorem zw_225 : Jvm.Cond.fieldLink "LyndonBench$Script" (31 : Nat) "LyndonBench$Script" "errorOffset" "I" ∈ za_Ts := z_mt1 108 rfl rfl
theorem zw_226 : Jvm.Cond.fieldLink "LyndonBench" (223 : Nat) "LyndonBench$Script" "errorOffset" "I" ∈ za_Ts := z_mt1 109 rfl rfl
theorem zw_227 : Jvm.Cond.fieldLink "LyndonBench$Script" (34 : Nat) "LyndonBench$Script" "token" "I" ∈ za_Ts := z_mt1 110 rfl rfl
theorem zw_228 : Jvm.Cond.fieldLink "LyndonBench$Script" (37 : Nat) "LyndonBench$Script" "tokenStart" "I" ∈ za_Ts := z_mt1 111 rfl rfl
theorem zw_229 : Jvm.Cond.fieldLink "LyndonBench$Script" (40 : Nat) "LyndonBench$Script" "position" "I" ∈ za_Ts := z_mt1 112 rfl rfl
theorem zw_230 : Jvm.Cond.fieldLink "LyndonBench$Script" (43 : Nat) "LyndonBench$Script" "number" "I" ∈ za_Ts := z_mt1 113 rfl rfl
theorem zw_231 : Jvm.Cond.fieldLink "LyndonBench$Script" (46 : Nat) "LyndonBench$Script" "executed" "I" ∈ za_Ts := z_mt1 114 rfl rfl
theorem zw_232 : Jvm.Cond.fieldLink "LyndonBench$Script" (49 : Nat) "LyndonBench$Script" "nesting" "I" ∈ za_Ts := z_mt1 115 rfl rfl
theorem zw_233 : Jvm.Cond.fieldLink "LyndonBench$Script" (52 : Nat) "LyndonBench$Script" "bodies" "[I" ∈ za_Ts := z_mt1 116 rfl rfl
theorem zw_234 : Jvm.Cond.fieldLink "LyndonBench$Script" (56 : Nat) "LyndonBench$Script" "rounds" "[I" ∈ za_Ts := z_mt1 117 rfl rfl
theorem zw_260 : Jvm.Cond.arrayClass Jvm.ClassFile.FieldType.int ∈ za_Ts := z_mt1 143 rfl rfl
theorem zw_261 : Jvm.Cond.classLink "LyndonBench" (37 : Nat) "LyndonBench$Word" ∈ za_Ts := z_mt1 144 rfl rfl
theorem zw_262 : Jvm.Cond.methodLink "LyndonBench" (39 : Nat) ({ cls := "LyndonBench$Word", name := "<init>", desc := "(I)V" } : Jvm.MethodName) ∈ za_Ts := z_mt1 145 rfl rfl
theorem zw_263 : Jvm.Cond.methodLink "LyndonBench" (49 : Nat) ({ cls := "LyndonBench$State", name := "clear", desc := "(I)V" } : Jvm.MethodName) ∈ za_Ts := z_mt1 146 rfl rfl
theorem zw_264 : Jvm.Cond.instanceMethod ({ cls := "LyndonBench$State", name := "clear", desc := "(I)V" } : Jvm.MethodName) ∈ za_Ts := z_mt1 147 rfl rfl
theorem zw_265 : Jvm.Cond.selects "LyndonBench$State" ({ cls := "LyndonBench$State", name := "clear", desc := "(I)V" } : Jvm.MethodName) ({ cls := "LyndonBench$State", name := "clear", desc := "(I)V" } : Jvm.MethodName) ∈ za_Ts := z_mt1 148 rfl rfl
theorem zw_266 : Jvm.Cond.code ({ cls := "LyndonBench$State", name := "clear", desc := "(I)V" } : Jvm.MethodName) prog_6_method_2_code (2 : Nat) (Option.none : Option Jvm.ClassFile.FieldType) ∈ za_Ts := z_mt1 149 rfl rfl
theorem zw_267 : Jvm.Cond.methodLink "LyndonBench$State" (31 : Nat) ({ cls := "LyndonBench$Word", name := "clear", desc := "()V" } : Jvm.MethodName) ∈ za_Ts := z_mt1 150 rfl rfl
theorem zw_268 : Jvm.Cond.instanceMethod ({ cls := "LyndonBench$Word", name := "clear", desc := "()V" } : Jvm.MethodName) ∈ za_Ts := z_mt1 151 rfl rfl
theorem zw_269 : Jvm.Cond.selects "LyndonBench$Word" ({ cls := "LyndonBench$Word", name := "clear", desc := "()V" } : Jvm.MethodName) ({ cls := "LyndonBench$Word", name := "clear", desc := "()V" } : Jvm.MethodName) ∈ za_Ts := z_mt1 152 rfl rfl
theorem zw_270 : Jvm.Cond.code ({ cls := "LyndonBench$Word", name := "clear", desc := "()V" } : Jvm.MethodName) prog_7_method_4_code (1 : Nat) (Option.none : Option Jvm.ClassFile.FieldType) ∈ za_Ts := z_mt1 153 rfl rfl
theorem zw_272 : Jvm.Cond.methodLink "LyndonBench" (57 : Nat) ({ cls := "LyndonBench$Word", name := "addString", desc := "(Ljava/lang/String;)V" } : Jvm.MethodName) ∈ za_Ts := z_mt1 155 rfl rfl
theorem zw_273 : Jvm.Cond.instanceMethod ({ cls := "LyndonBench$Word", name := "addString", desc := "(Ljava/lang/String;)V" } : Jvm.MethodName) ∈ za_Ts := z_mt1 156 rfl rfl
theorem zw_274 : Jvm.Cond.selects "LyndonBench$Word" ({ cls := "LyndonBench$Word", name := "addString", desc := "(Ljava/lang/String;)V" } : Jvm.MethodName) ({ cls := "LyndonBench$Word", name := "addString", desc := "(Ljava/lang/String;)V" } : Jvm.MethodName) ∈ za_Ts := z_mt1 157 rfl rfl
theorem zw_275 : Jvm.Cond.code ({ cls := "LyndonBench$Word", name := "addString", desc := "(Ljava/lang/String;)V" } : Jvm.MethodName) prog_7_method_7_code (3 : Nat) (Option.none : Option Jvm.ClassFile.FieldType) ∈ za_Ts := z_mt1 158 rfl rfl
theorem zw_276 : Jvm.Cond.methodLink "LyndonBench$Word" (29 : Nat) ({ cls := "java/lang/String", name := "length", desc := "()I" } : Jvm.MethodName) ∈ za_Ts := z_mt1 159 rfl rfl
theorem zw_277 : Jvm.Cond.instanceMethod ({ cls := "java/lang/String", name := "length", desc := "()I" } : Jvm.MethodName) ∈ za_Ts := z_mt1 160 rfl rfl
theorem zw_278 : Jvm.Cond.selects "java/lang/String" ({ cls := "java/lang/String", name := "length", desc := "()I" } : Jvm.MethodName) ({ cls := "java/lang/String", name := "length", desc := "()I" } : Jvm.MethodName) ∈ za_Ts := z_mt1 161 rfl rfl
theorem zw_279 : Jvm.Cond.code ({ cls := "java/lang/String", name := "length", desc := "()I" } : Jvm.MethodName) prog_20_method_54_code (1 : Nat) (Option.some Jvm.ClassFile.FieldType.int) ∈ za_Ts := z_mt1 162 rfl rfl
theorem zw_280 : Jvm.Cond.methodLink "java/lang/String" (335 : Nat) ({ cls := "java/lang/String", name := "coder", desc := "()B" } : Jvm.MethodName) ∈ za_Ts := z_mt1 163 rfl rfl
theorem zw_281 : Jvm.Cond.instanceMethod ({ cls := "java/lang/String", name := "coder", desc := "()B" } : Jvm.MethodName) ∈ za_Ts := z_mt1 164 rfl rfl
theorem zw_282 : Jvm.Cond.selects "java/lang/String" ({ cls := "java/lang/String", name := "coder", desc := "()B" } : Jvm.MethodName) ({ cls := "java/lang/String", name := "coder", desc := "()B" } : Jvm.MethodName) ∈ za_Ts := z_mt1 165 rfl rfl
theorem zw_283 : Jvm.Cond.code ({ cls := "java/lang/String", name := "coder", desc := "()B" } : Jvm.MethodName) prog_20_method_152_code (1 : Nat) (Option.some Jvm.ClassFile.FieldType.byte) ∈ za_Ts := z_mt1 166 rfl rfl
theorem zw_284 : Jvm.Cond.fieldLink "java/lang/String" (38 : Nat) "java/lang/String" "COMPACT_STRINGS" "Z" ∈ za_Ts := z_mt1 167 rfl rfl
theorem zw_286 : Jvm.Cond.methodLink "LyndonBench$Word" (35 : Nat) ({ cls := "java/lang/String", name := "charAt", desc := "(I)C" } : Jvm.MethodName) ∈ za_Ts := z_mt1 169 rfl rfl
theorem zw_287 : Jvm.Cond.instanceMethod ({ cls := "java/lang/String", name := "charAt", desc := "(I)C" } : Jvm.MethodName) ∈ za_Ts := z_mt1 170 rfl rfl
theorem zw_288 : Jvm.Cond.selects "java/lang/String" ({ cls := "java/lang/String", name := "charAt", desc := "(I)C" } : Jvm.MethodName) ({ cls := "java/lang/String", name := "charAt", desc := "(I)C" } : Jvm.MethodName) ∈ za_Ts := z_mt1 171 rfl rfl
theorem zw_289 : Jvm.Cond.code ({ cls := "java/lang/String", name := "charAt", desc := "(I)C" } : Jvm.MethodName) prog_20_method_56_code (2 : Nat) (Option.some Jvm.ClassFile.FieldType.char) ∈ za_Ts := z_mt1 172 rfl rfl
theorem zw_290 : Jvm.Cond.methodLink "java/lang/String" (492 : Nat) ({ cls := "java/lang/String", name := "isLatin1", desc := "()Z" } : Jvm.MethodName) ∈ za_Ts := z_mt1 173 rfl rfl
theorem zw_291 : Jvm.Cond.instanceMethod ({ cls := "java/lang/String", name := "isLatin1", desc := "()Z" } : Jvm.MethodName) ∈ za_Ts := z_mt1 174 rfl rfl
theorem zw_292 : Jvm.Cond.selects "java/lang/String" ({ cls := "java/lang/String", name := "isLatin1", desc := "()Z" } : Jvm.MethodName) ({ cls := "java/lang/String", name := "isLatin1", desc := "()Z" } : Jvm.MethodName) ∈ za_Ts := z_mt1 175 rfl rfl
theorem zw_293 : Jvm.Cond.code ({ cls := "java/lang/String", name := "isLatin1", desc := "()Z" } : Jvm.MethodName) prog_20_method_154_code (1 : Nat) (Option.some Jvm.ClassFile.FieldType.boolean) ∈ za_Ts := z_mt1 176 rfl rfl
theorem zw_294 : Jvm.Cond.methodLink "java/lang/String" (495 : Nat) ({ cls := "java/lang/StringLatin1", name := "charAt", desc := "([BI)C" } : Jvm.MethodName) ∈ za_Ts := z_mt1 177 rfl rfl
theorem zw_295 : Jvm.Cond.static ({ cls := "java/lang/StringLatin1", name := "charAt", desc := "([BI)C" } : Jvm.MethodName) ∈ za_Ts := z_mt1 178 rfl rfl
theorem zw_296 : Jvm.Cond.code ({ cls := "java/lang/StringLatin1", name := "charAt", desc := "([BI)C" } : Jvm.MethodName) prog_21_method_2_code (2 : Nat) (Option.some Jvm.ClassFile.FieldType.char) ∈ za_Ts := z_mt1 179 rfl rfl
theorem zw_297 : Jvm.Cond.methodLink "java/lang/StringLatin1" (9 : Nat) ({ cls := "java/lang/String", name := "checkIndex", desc := "(II)V" } : Jvm.MethodName) ∈ za_Ts := z_mt1 180 rfl rfl
theorem zw_298 : Jvm.Cond.static ({ cls := "java/lang/String", name := "checkIndex", desc := "(II)V" } : Jvm.MethodName) ∈ za_Ts := z_mt1 181 rfl rfl
theorem zw_299 : Jvm.Cond.code ({ cls := "java/lang/String", name := "checkIndex", desc := "(II)V" } : Jvm.MethodName) prog_20_method_155_code (2 : Nat) (Option.none : Option Jvm.ClassFile.FieldType) ∈ za_Ts := z_mt1 182 rfl rfl
theorem zw_300 : Jvm.Cond.fieldLink "java/lang/String" (1053 : Nat) "jdk/internal/util/Preconditions" "SIOOBE_FORMATTER" "Ljava/util/function/BiFunction;" ∈ za_Ts := z_mt1 183 rfl rfl
theorem zw_302 : Jvm.Cond.methodLink "java/lang/String" (1059 : Nat) ({ cls := "jdk/internal/util/Preconditions", name := "checkIndex", desc := "(IILjava/util/function/BiFunction;)I" } : Jvm.MethodName) ∈ za_Ts := z_mt1 185 rfl rfl
theorem zw_303 : Jvm.Cond.static ({ cls := "jdk/internal/util/Preconditions", name := "checkIndex", desc := "(IILjava/util/function/BiFunction;)I" } : Jvm.MethodName) ∈ za_Ts := z_mt1 186 rfl rfl
theorem zw_304 : Jvm.Cond.code ({ cls := "jdk/internal/util/Preconditions", name := "checkIndex", desc := "(IILjava/util/function/BiFunction;)I" } : Jvm.MethodName) prog_27_method_11_code (3 : Nat) (Option.some Jvm.ClassFile.FieldType.int) ∈ za_Ts := z_mt1 187 rfl rfl
theorem zw_324 : Jvm.Cond.methodLink "LyndonBench$Word" (25 : Nat) ({ cls := "LyndonBench$Word", name := "add", desc := "(I)V" } : Jvm.MethodName) ∈ za_Ts := z_mt1 207 rfl rfl
theorem zw_325 : Jvm.Cond.instanceMethod ({ cls := "LyndonBench$Word", name := "add", desc := "(I)V" } : Jvm.MethodName) ∈ za_Ts := z_mt1 208 rfl rfl
theorem zw_326 : Jvm.Cond.selects "LyndonBench$Word" ({ cls := "LyndonBench$Word", name := "add", desc := "(I)V" } : Jvm.MethodName) ({ cls := "LyndonBench$Word", name := "add", desc := "(I)V" } : Jvm.MethodName) ∈ za_Ts := z_mt1 209 rfl rfl
theorem zw_327 : Jvm.Cond.code ({ cls := "LyndonBench$Word", name := "add", desc := "(I)V" } : Jvm.MethodName) prog_7_method_5_code (2 : Nat) (Option.none : Option Jvm.ClassFile.FieldType) ∈ za_Ts := z_mt1 210 rfl rfl
theorem zw_329 : Jvm.Cond.methodLink "LyndonBench" (63 : Nat) ({ cls := "LyndonBench$State", name := "keep", desc := "(LLyndonBench$Word;II)V" } : Jvm.MethodName) ∈ za_Ts := z_mt1 212 rfl rfl
theorem zw_330 : Jvm.Cond.instanceMethod ({ cls := "LyndonBench$State", name := "keep", desc := "(LLyndonBench$Word;II)V" } : Jvm.MethodName) ∈ za_Ts := z_mt1 213 rfl rfl
theorem zw_331 : Jvm.Cond.selects "LyndonBench$State" ({ cls := "LyndonBench$State", name := "keep", desc := "(LLyndonBench$Word;II)V" } : Jvm.MethodName) ({ cls := "LyndonBench$State", name := "keep", desc := "(LLyndonBench$Word;II)V" } : Jvm.MethodName) ∈ za_Ts := z_mt1 214 rfl rfl
theorem zw_332 : Jvm.Cond.code ({ cls := "LyndonBench$State", name := "keep", desc := "(LLyndonBench$Word;II)V" } : Jvm.MethodName) prog_6_method_9_code (5 : Nat) (Option.none : Option Jvm.ClassFile.FieldType) ∈ za_Ts := z_mt1 215 rfl rfl
theorem zw_333 : Jvm.Cond.methodLink "LyndonBench$State" (53 : Nat) ({ cls := "LyndonBench$Word", name := "addPart", desc := "(LLyndonBench$Word;II)V" } : Jvm.MethodName) ∈ za_Ts := z_mt1 216 rfl rfl
theorem zw_334 : Jvm.Cond.instanceMethod ({ cls := "LyndonBench$Word", name := "addPart", desc := "(LLyndonBench$Word;II)V" } : Jvm.MethodName) ∈ za_Ts := z_mt1 217 rfl rfl
theorem zw_335 : Jvm.Cond.selects "LyndonBench$Word" ({ cls := "LyndonBench$Word", name := "addPart", desc := "(LLyndonBench$Word;II)V" } : Jvm.MethodName) ({ cls := "LyndonBench$Word", name := "addPart", desc := "(LLyndonBench$Word;II)V" } : Jvm.MethodName) ∈ za_Ts := z_mt1 218 rfl rfl
theorem zw_336 : Jvm.Cond.code ({ cls := "LyndonBench$Word", name := "addPart", desc := "(LLyndonBench$Word;II)V" } : Jvm.MethodName) prog_7_method_8_code (5 : Nat) (Option.none : Option Jvm.ClassFile.FieldType) ∈ za_Ts := z_mt1 219 rfl rfl
theorem zw_337 : Jvm.Cond.methodLink "LyndonBench$Word" (39 : Nat) ({ cls := "LyndonBench$Word", name := "at", desc := "(I)I" } : Jvm.MethodName) ∈ za_Ts := z_mt1 220 rfl rfl
theorem zw_338 : Jvm.Cond.instanceMethod ({ cls := "LyndonBench$Word", name := "at", desc := "(I)I" } : Jvm.MethodName) ∈ za_Ts := z_mt1 221 rfl rfl
theorem zw_339 : Jvm.Cond.selects "LyndonBench$Word" ({ cls := "LyndonBench$Word", name := "at", desc := "(I)I" } : Jvm.MethodName) ({ cls := "LyndonBench$Word", name := "at", desc := "(I)I" } : Jvm.MethodName) ∈ za_Ts := z_mt1 222 rfl rfl
theorem zw_340 : Jvm.Cond.code ({ cls := "LyndonBench$Word", name := "at", desc := "(I)I" } : Jvm.MethodName) prog_7_method_2_code (2 : Nat) (Option.some Jvm.ClassFile.FieldType.int) ∈ za_Ts := z_mt1 223 rfl rfl
theorem zw_341 : Jvm.Cond.fieldLink "LyndonBench" (12 : Nat) "LyndonBench" "now" "LLyndonBench$State;" ∈ za_Ts := z_mt1 224 rfl rfl
theorem zw_342 : Jvm.Cond.fieldLink "LyndonBench" (19 : Nat) "LyndonBench" "history" "LLyndonBench$History;" ∈ za_Ts := z_mt1 225 rfl rfl
theorem zw_343 : Jvm.Cond.fieldLink "LyndonBench" (23 : Nat) "LyndonBench" "snapshot" "LLyndonBench$State;" ∈ za_Ts := z_mt1 226 rfl rfl
theorem zw_344 : Jvm.Cond.fieldLink "LyndonBench" (26 : Nat) "LyndonBench" "snapshotSaved" "Z" ∈ za_Ts := z_mt1 227 rfl rfl
theorem zw_345 : Jvm.Cond.fieldLink "LyndonBench" (33 : Nat) "LyndonBench" "script" "LLyndonBench$Script;" ∈ za_Ts := z_mt1 228 rfl rfl
theorem zw_346 : Jvm.Cond.fieldLink "LyndonBench" (42 : Nat) "LyndonBench" "report" "LLyndonBench$Word;" ∈ za_Ts := z_mt1 229 rfl rfl
theorem zw_347 : Jvm.Cond.fieldLink "LyndonBench" (46 : Nat) "LyndonBench" "trial" "LLyndonBench$Word;" ∈ za_Ts := z_mt1 230 rfl rfl
theorem zw_363 : Jvm.Cond.methodLink "LyndonBenchLaw" (104 : Nat) ({ cls := "LyndonBench", name := "append", desc := "(IIIII)I" } : Jvm.MethodName) ∈ za_Ts := z_mt2 6 rfl rfl
theorem zw_364 : Jvm.Cond.instanceMethod ({ cls := "LyndonBench", name := "append", desc := "(IIIII)I" } : Jvm.MethodName) ∈ za_Ts := z_mt2 7 rfl rfl
theorem zw_365 : Jvm.Cond.selects "LyndonBench" ({ cls := "LyndonBench", name := "append", desc := "(IIIII)I" } : Jvm.MethodName) ({ cls := "LyndonBench", name := "append", desc := "(IIIII)I" } : Jvm.MethodName) ∈ za_Ts := z_mt2 8 rfl rfl
theorem zw_366 : Jvm.Cond.code ({ cls := "LyndonBench", name := "append", desc := "(IIIII)I" } : Jvm.MethodName) prog_1_method_2_code (7 : Nat) (Option.some Jvm.ClassFile.FieldType.int) ∈ za_Ts := z_mt2 9 rfl rfl
theorem zw_367 : Jvm.Cond.methodLink "LyndonBench" (74 : Nat) ({ cls := "LyndonBench$Word", name := "addFourBytes", desc := "(I)V" } : Jvm.MethodName) ∈ za_Ts := z_mt2 10 rfl rfl
theorem zw_368 : Jvm.Cond.instanceMethod ({ cls := "LyndonBench$Word", name := "addFourBytes", desc := "(I)V" } : Jvm.MethodName) ∈ za_Ts := z_mt2 11 rfl rfl
theorem zw_369 : Jvm.Cond.selects "LyndonBench$Word" ({ cls := "LyndonBench$Word", name := "addFourBytes", desc := "(I)V" } : Jvm.MethodName) ({ cls := "LyndonBench$Word", name := "addFourBytes", desc := "(I)V" } : Jvm.MethodName) ∈ za_Ts := z_mt2 12 rfl rfl
theorem zw_370 : Jvm.Cond.code ({ cls := "LyndonBench$Word", name := "addFourBytes", desc := "(I)V" } : Jvm.MethodName) prog_7_method_6_code (3 : Nat) (Option.none : Option Jvm.ClassFile.FieldType) ∈ za_Ts := z_mt2 13 rfl rfl
theorem zw_371 : Jvm.Cond.methodLink "LyndonBenchLaw" (115 : Nat) ({ cls := "LyndonBench", name := "runScript", desc := "()I" } : Jvm.MethodName) ∈ za_Ts := z_mt2 14 rfl rfl
theorem zw_372 : Jvm.Cond.instanceMethod ({ cls := "LyndonBench", name := "runScript", desc := "()I" } : Jvm.MethodName) ∈ za_Ts := z_mt2 15 rfl rfl
theorem zw_373 : Jvm.Cond.selects "LyndonBench" ({ cls := "LyndonBench", name := "runScript", desc := "()I" } : Jvm.MethodName) ({ cls := "LyndonBench", name := "runScript", desc := "()I" } : Jvm.MethodName) ∈ za_Ts := z_mt2 16 rfl rfl
theorem zw_374 : Jvm.Cond.code ({ cls := "LyndonBench", name := "runScript", desc := "()I" } : Jvm.MethodName) prog_1_method_4_code (2 : Nat) (Option.some Jvm.ClassFile.FieldType.int) ∈ za_Ts := z_mt2 17 rfl rfl
theorem zw_375 : Jvm.Cond.methodLink "LyndonBench" (86 : Nat) ({ cls := "LyndonBench$Script", name := "run", desc := "()Z" } : Jvm.MethodName) ∈ za_Ts := z_mt2 18 rfl rfl
theorem zw_376 : Jvm.Cond.instanceMethod ({ cls := "LyndonBench$Script", name := "run", desc := "()Z" } : Jvm.MethodName) ∈ za_Ts := z_mt2 19 rfl rfl
theorem zw_377 : Jvm.Cond.selects "LyndonBench$Script" ({ cls := "LyndonBench$Script", name := "run", desc := "()Z" } : Jvm.MethodName) ({ cls := "LyndonBench$Script", name := "run", desc := "()Z" } : Jvm.MethodName) ∈ za_Ts := z_mt2 20 rfl rfl
theorem zw_378 : Jvm.Cond.code ({ cls := "LyndonBench$Script", name := "run", desc := "()Z" } : Jvm.MethodName) prog_5_method_2_code (3 : Nat) (Option.some Jvm.ClassFile.FieldType.boolean) ∈ za_Ts := z_mt2 21 rfl rfl
theorem zw_379 : Jvm.Cond.methodLink "LyndonBench$Script" (59 : Nat) ({ cls := "LyndonBench$Script", name := "runHead", desc := "()Z" } : Jvm.MethodName) ∈ za_Ts := z_mt2 22 rfl rfl
theorem zw_381 : Jvm.Cond.instanceMethod ({ cls := "LyndonBench$Script", name := "runHead", desc := "()Z" } : Jvm.MethodName) ∈ za_Ts := z_mt2 24 rfl rfl
theorem zw_382 : Jvm.Cond.code ({ cls := "LyndonBench$Script", name := "runHead", desc := "()Z" } : Jvm.MethodName) prog_5_method_3_code (1 : Nat) (Option.some Jvm.ClassFile.FieldType.boolean) ∈ za_Ts := z_mt2 25 rfl rfl
theorem zw_383 : Jvm.Cond.methodLink "LyndonBench$Script" (64 : Nat) ({ cls := "LyndonBench$Script", name := "readToken", desc := "()V" } : Jvm.MethodName) ∈ za_Ts := z_mt2 26 rfl rfl
theorem zw_385 : Jvm.Cond.instanceMethod ({ cls := "LyndonBench$Script", name := "readToken", desc := "()V" } : Jvm.MethodName) ∈ za_Ts := z_mt2 28 rfl rfl
theorem zw_386 : Jvm.Cond.code ({ cls := "LyndonBench$Script", name := "readToken", desc := "()V" } : Jvm.MethodName) prog_5_method_21_code (1 : Nat) (Option.none : Option Jvm.ClassFile.FieldType) ∈ za_Ts := z_mt2 29 rfl rfl
theorem zw_387 : Jvm.Cond.methodLink "LyndonBench$Script" (146 : Nat) ({ cls := "LyndonBench$Word", name := "at", desc := "(I)I" } : Jvm.MethodName) ∈ za_Ts := z_mt2 30 rfl rfl
theorem zw_388 : Jvm.Cond.methodLink "LyndonBench$Script" (215 : Nat) ({ cls := "LyndonBench$Script", name := "kindOf", desc := "(I)I" } : Jvm.MethodName) ∈ za_Ts := z_mt2 31 rfl rfl
theorem zw_389 : Jvm.Cond.static ({ cls := "LyndonBench$Script", name := "kindOf", desc := "(I)I" } : Jvm.MethodName) ∈ za_Ts := z_mt2 32 rfl rfl
theorem zw_390 : Jvm.Cond.code ({ cls := "LyndonBench$Script", name := "kindOf", desc := "(I)I" } : Jvm.MethodName) prog_5_method_23_code (1 : Nat) (Option.some Jvm.ClassFile.FieldType.int) ∈ za_Ts := z_mt2 33 rfl rfl
theorem zw_391 : Jvm.Cond.methodLink "LyndonBench$Script" (218 : Nat) ({ cls := "LyndonBench$Script", name := "readNumber", desc := "()V" } : Jvm.MethodName) ∈ za_Ts := z_mt2 34 rfl rfl
theorem zw_393 : Jvm.Cond.instanceMethod ({ cls := "LyndonBench$Script", name := "readNumber", desc := "()V" } : Jvm.MethodName) ∈ za_Ts := z_mt2 36 rfl rfl
theorem zw_394 : Jvm.Cond.code ({ cls := "LyndonBench$Script", name := "readNumber", desc := "()V" } : Jvm.MethodName) prog_5_method_22_code (2 : Nat) (Option.none : Option Jvm.ClassFile.FieldType) ∈ za_Ts := z_mt2 37 rfl rfl
theorem zw_396 : Jvm.Cond.methodLink "LyndonBench$Script" (79 : Nat) ({ cls := "LyndonBench$Word", name := "equalsString", desc := "(IILjava/lang/String;)Z" } : Jvm.MethodName) ∈ za_Ts := z_mt2 39 rfl rfl
theorem zw_397 : Jvm.Cond.instanceMethod ({ cls := "LyndonBench$Word", name := "equalsString", desc := "(IILjava/lang/String;)Z" } : Jvm.MethodName) ∈ za_Ts := z_mt2 40 rfl rfl
theorem zw_398 : Jvm.Cond.selects "LyndonBench$Word" ({ cls := "LyndonBench$Word", name := "equalsString", desc := "(IILjava/lang/String;)Z" } : Jvm.MethodName) ({ cls := "LyndonBench$Word", name := "equalsString", desc := "(IILjava/lang/String;)Z" } : Jvm.MethodName) ∈ za_Ts := z_mt2 41 rfl rfl
theorem zw_399 : Jvm.Cond.code ({ cls := "LyndonBench$Word", name := "equalsString", desc := "(IILjava/lang/String;)Z" } : Jvm.MethodName) prog_7_method_16_code (5 : Nat) (Option.some Jvm.ClassFile.FieldType.boolean) ∈ za_Ts := z_mt2 42 rfl rfl
theorem zw_400 : Jvm.Cond.methodLink "LyndonBench$Script" (73 : Nat) ({ cls := "LyndonBench$Script", name := "fail", desc := "(I)Z" } : Jvm.MethodName) ∈ za_Ts := z_mt2 43 rfl rfl
theorem zw_402 : Jvm.Cond.instanceMethod ({ cls := "LyndonBench$Script", name := "fail", desc := "(I)Z" } : Jvm.MethodName) ∈ za_Ts := z_mt2 45 rfl rfl
theorem zw_403 : Jvm.Cond.code ({ cls := "LyndonBench$Script", name := "fail", desc := "(I)Z" } : Jvm.MethodName) prog_5_method_20_code (2 : Nat) (Option.some Jvm.ClassFile.FieldType.boolean) ∈ za_Ts := z_mt2 46 rfl rfl
theorem zw_404 : Jvm.Cond.methodLink "LyndonBench$Script" (83 : Nat) ({ cls := "LyndonBench$Script", name := "expectNumber", desc := "(II)Z" } : Jvm.MethodName) ∈ za_Ts := z_mt2 47 rfl rfl
theorem zw_406 : Jvm.Cond.instanceMethod ({ cls := "LyndonBench$Script", name := "expectNumber", desc := "(II)Z" } : Jvm.MethodName) ∈ za_Ts := z_mt2 49 rfl rfl
theorem zw_407 : Jvm.Cond.code ({ cls := "LyndonBench$Script", name := "expectNumber", desc := "(II)Z" } : Jvm.MethodName) prog_5_method_18_code (3 : Nat) (Option.some Jvm.ClassFile.FieldType.boolean) ∈ za_Ts := z_mt2 50 rfl rfl
theorem zw_408 : Jvm.Cond.methodLink "LyndonBench$Script" (87 : Nat) ({ cls := "LyndonBench$Script", name := "expect", desc := "(I)Z" } : Jvm.MethodName) ∈ za_Ts := z_mt2 51 rfl rfl
theorem zw_410 : Jvm.Cond.instanceMethod ({ cls := "LyndonBench$Script", name := "expect", desc := "(I)Z" } : Jvm.MethodName) ∈ za_Ts := z_mt2 53 rfl rfl
theorem zw_411 : Jvm.Cond.code ({ cls := "LyndonBench$Script", name := "expect", desc := "(I)Z" } : Jvm.MethodName) prog_5_method_17_code (2 : Nat) (Option.some Jvm.ClassFile.FieldType.boolean) ∈ za_Ts := z_mt2 54 rfl rfl
theorem zw_412 : Jvm.Cond.methodLink "LyndonBench$Script" (90 : Nat) ({ cls := "LyndonBench$State", name := "clear", desc := "(I)V" } : Jvm.MethodName) ∈ za_Ts := z_mt2 55 rfl rfl
theorem zw_413 : Jvm.Cond.constant "LyndonBench$Script" (63 : Nat) (1000000 : Int32) ∈ za_Ts := z_mt2 56 rfl rfl
theorem zw_414 : Jvm.Cond.methodLink "LyndonBench$Script" (67 : Nat) ({ cls := "LyndonBench$Script", name := "endRound", desc := "()Z" } : Jvm.MethodName) ∈ za_Ts := z_mt2 57 rfl rfl
theorem zw_416 : Jvm.Cond.instanceMethod ({ cls := "LyndonBench$Script", name := "endRound", desc := "()Z" } : Jvm.MethodName) ∈ za_Ts := z_mt2 59 rfl rfl
theorem zw_417 : Jvm.Cond.code ({ cls := "LyndonBench$Script", name := "endRound", desc := "()Z" } : Jvm.MethodName) prog_5_method_6_code (2 : Nat) (Option.some Jvm.ClassFile.FieldType.boolean) ∈ za_Ts := z_mt2 60 rfl rfl
theorem zw_418 : Jvm.Cond.methodLink "LyndonBench$Script" (70 : Nat) ({ cls := "LyndonBench$Script", name := "runCommand", desc := "()Z" } : Jvm.MethodName) ∈ za_Ts := z_mt2 61 rfl rfl
theorem zw_420 : Jvm.Cond.instanceMethod ({ cls := "LyndonBench$Script", name := "runCommand", desc := "()Z" } : Jvm.MethodName) ∈ za_Ts := z_mt2 63 rfl rfl
theorem zw_421 : Jvm.Cond.code ({ cls := "LyndonBench$Script", name := "runCommand", desc := "()Z" } : Jvm.MethodName) prog_5_method_4_code (2 : Nat) (Option.some Jvm.ClassFile.FieldType.boolean) ∈ za_Ts := z_mt2 64 rfl rfl
theorem zw_422 : Jvm.Cond.methodLink "LyndonBench$Script" (93 : Nat) ({ cls := "LyndonBench$Command", name := "find", desc := "(LLyndonBench$Word;II)LLyndonBench$Command;" } : Jvm.MethodName) ∈ za_Ts := z_mt2 65 rfl rfl
theorem zw_423 : Jvm.Cond.static ({ cls := "LyndonBench$Command", name := "find", desc := "(LLyndonBench$Word;II)LLyndonBench$Command;" } : Jvm.MethodName) ∈ za_Ts := z_mt2 66 rfl rfl
theorem zw_424 : Jvm.Cond.code ({ cls := "LyndonBench$Command", name := "find", desc := "(LLyndonBench$Word;II)LLyndonBench$Command;" } : Jvm.MethodName) prog_3_method_4_code (7 : Nat) (Option.some (Jvm.ClassFile.FieldType.object "LyndonBench$Command")) ∈ za_Ts := z_mt2 67 rfl rfl
theorem zw_425 : Jvm.Cond.fieldLink "LyndonBench$Command" (63 : Nat) "LyndonBench$Command" "ALL" "[LLyndonBench$Command;" ∈ za_Ts := z_mt2 68 rfl rfl
theorem zw_427 : Jvm.Cond.methodLink "LyndonBench$Command" (66 : Nat) ({ cls := "LyndonBench$Word", name := "equalsString", desc := "(IILjava/lang/String;)Z" } : Jvm.MethodName) ∈ za_Ts := z_mt2 70 rfl rfl
theorem zw_428 : Jvm.Cond.fieldLink "LyndonBench$Script" (99 : Nat) "LyndonBench$Command" "REPEAT" "LLyndonBench$Command;" ∈ za_Ts := z_mt2 71 rfl rfl
theorem zw_430 : Jvm.Cond.methodLink "LyndonBench$Script" (103 : Nat) ({ cls := "LyndonBench$Script", name := "openRepeat", desc := "()Z" } : Jvm.MethodName) ∈ za_Ts := z_mt2 73 rfl rfl
theorem zw_432 : Jvm.Cond.instanceMethod ({ cls := "LyndonBench$Script", name := "openRepeat", desc := "()Z" } : Jvm.MethodName) ∈ za_Ts := z_mt2 75 rfl rfl
theorem zw_433 : Jvm.Cond.code ({ cls := "LyndonBench$Script", name := "openRepeat", desc := "()Z" } : Jvm.MethodName) prog_5_method_5_code (1 : Nat) (Option.some Jvm.ClassFile.FieldType.boolean) ∈ za_Ts := z_mt2 76 rfl rfl
theorem zw_434 : Jvm.Cond.fieldLink "LyndonBench$Script" (106 : Nat) "LyndonBench$1" "$SwitchMap$LyndonBench$Command" "[I" ∈ za_Ts := z_mt2 77 rfl rfl
theorem zw_436 : Jvm.Cond.methodLink "LyndonBench$Script" (111 : Nat) ({ cls := "LyndonBench$Command", name := "ordinal", desc := "()I" } : Jvm.MethodName) ∈ za_Ts := z_mt2 79 rfl rfl
theorem zw_437 : Jvm.Cond.sameMethod "LyndonBench$Command" "java/lang/Enum" "ordinal" "()I" ∈ za_Ts := z_mt2 80 rfl rfl
theorem zw_439 : Jvm.Cond.selects "LyndonBench$Command" ({ cls := "LyndonBench$Command", name := "ordinal", desc := "()I" } : Jvm.MethodName) ({ cls := "java/lang/Enum", name := "ordinal", desc := "()I" } : Jvm.MethodName) ∈ za_Ts := z_mt2 82 rfl rfl
theorem zw_440 : Jvm.Cond.instanceMethod ({ cls := "java/lang/Enum", name := "ordinal", desc := "()I" } : Jvm.MethodName) ∈ za_Ts := z_mt2 83 rfl rfl
theorem zw_441 : Jvm.Cond.code ({ cls := "java/lang/Enum", name := "ordinal", desc := "()I" } : Jvm.MethodName) prog_13_method_2_code (1 : Nat) (Option.some Jvm.ClassFile.FieldType.int) ∈ za_Ts := z_mt2 84 rfl rfl
theorem zw_442 : Jvm.Cond.methodLink "LyndonBench$Script" (115 : Nat) ({ cls := "LyndonBench$Script", name := "runText", desc := "(Z)Z" } : Jvm.MethodName) ∈ za_Ts := z_mt2 85 rfl rfl
theorem zw_444 : Jvm.Cond.instanceMethod ({ cls := "LyndonBench$Script", name := "runText", desc := "(Z)Z" } : Jvm.MethodName) ∈ za_Ts := z_mt2 87 rfl rfl
theorem zw_445 : Jvm.Cond.code ({ cls := "LyndonBench$Script", name := "runText", desc := "(Z)Z" } : Jvm.MethodName) prog_5_method_7_code (5 : Nat) (Option.some Jvm.ClassFile.FieldType.boolean) ∈ za_Ts := z_mt2 88 rfl rfl
theorem zw_446 : Jvm.Cond.methodLink "LyndonBench$Script" (150 : Nat) ({ cls := "LyndonBench$State", name := "isLetter", desc := "(I)Z" } : Jvm.MethodName) ∈ za_Ts := z_mt2 89 rfl rfl
theorem zw_447 : Jvm.Cond.instanceMethod ({ cls := "LyndonBench$State", name := "isLetter", desc := "(I)Z" } : Jvm.MethodName) ∈ za_Ts := z_mt2 90 rfl rfl
theorem zw_448 : Jvm.Cond.selects "LyndonBench$State" ({ cls := "LyndonBench$State", name := "isLetter", desc := "(I)Z" } : Jvm.MethodName) ({ cls := "LyndonBench$State", name := "isLetter", desc := "(I)Z" } : Jvm.MethodName) ∈ za_Ts := z_mt2 91 rfl rfl
theorem zw_449 : Jvm.Cond.code ({ cls := "LyndonBench$State", name := "isLetter", desc := "(I)Z" } : Jvm.MethodName) prog_6_method_4_code (2 : Nat) (Option.some Jvm.ClassFile.FieldType.boolean) ∈ za_Ts := z_mt2 92 rfl rfl
theorem zw_450 : Jvm.Cond.methodLink "LyndonBench$Script" (159 : Nat) ({ cls := "LyndonBench$Script", name := "expectEnd", desc := "(Z)Z" } : Jvm.MethodName) ∈ za_Ts := z_mt2 93 rfl rfl
theorem zw_452 : Jvm.Cond.instanceMethod ({ cls := "LyndonBench$Script", name := "expectEnd", desc := "(Z)Z" } : Jvm.MethodName) ∈ za_Ts := z_mt2 95 rfl rfl
theorem zw_453 : Jvm.Cond.code ({ cls := "LyndonBench$Script", name := "expectEnd", desc := "(Z)Z" } : Jvm.MethodName) prog_5_method_19_code (2 : Nat) (Option.some Jvm.ClassFile.FieldType.boolean) ∈ za_Ts := z_mt2 96 rfl rfl
theorem zw_454 : Jvm.Cond.methodLink "LyndonBench$Script" (162 : Nat) ({ cls := "LyndonBench$Word", name := "shortenTo", desc := "(I)V" } : Jvm.MethodName) ∈ za_Ts := z_mt2 97 rfl rfl
theorem zw_455 : Jvm.Cond.instanceMethod ({ cls := "LyndonBench$Word", name := "shortenTo", desc := "(I)V" } : Jvm.MethodName) ∈ za_Ts := z_mt2 98 rfl rfl
theorem zw_456 : Jvm.Cond.selects "LyndonBench$Word" ({ cls := "LyndonBench$Word", name := "shortenTo", desc := "(I)V" } : Jvm.MethodName) ({ cls := "LyndonBench$Word", name := "shortenTo", desc := "(I)V" } : Jvm.MethodName) ∈ za_Ts := z_mt2 99 rfl rfl
theorem zw_457 : Jvm.Cond.code ({ cls := "LyndonBench$Word", name := "shortenTo", desc := "(I)V" } : Jvm.MethodName) prog_7_method_11_code (2 : Nat) (Option.none : Option Jvm.ClassFile.FieldType) ∈ za_Ts := z_mt2 100 rfl rfl
theorem zw_458 : Jvm.Cond.methodLink "LyndonBench$Script" (165 : Nat) ({ cls := "LyndonBench$Word", name := "addPart", desc := "(LLyndonBench$Word;II)V" } : Jvm.MethodName) ∈ za_Ts := z_mt2 101 rfl rfl
theorem zw_459 : Jvm.Cond.methodLink "LyndonBench$Script" (119 : Nat) ({ cls := "LyndonBench$Script", name := "runDrop", desc := "()Z" } : Jvm.MethodName) ∈ za_Ts := z_mt2 102 rfl rfl
theorem zw_461 : Jvm.Cond.instanceMethod ({ cls := "LyndonBench$Script", name := "runDrop", desc := "()Z" } : Jvm.MethodName) ∈ za_Ts := z_mt2 104 rfl rfl
theorem zw_462 : Jvm.Cond.code ({ cls := "LyndonBench$Script", name := "runDrop", desc := "()Z" } : Jvm.MethodName) prog_5_method_8_code (1 : Nat) (Option.some Jvm.ClassFile.FieldType.boolean) ∈ za_Ts := z_mt2 105 rfl rfl
theorem zw_463 : Jvm.Cond.methodLink "LyndonBench$Script" (122 : Nat) ({ cls := "LyndonBench$Script", name := "runPart", desc := "()Z" } : Jvm.MethodName) ∈ za_Ts := z_mt2 106 rfl rfl
theorem zw_465 : Jvm.Cond.instanceMethod ({ cls := "LyndonBench$Script", name := "runPart", desc := "()Z" } : Jvm.MethodName) ∈ za_Ts := z_mt2 108 rfl rfl
theorem zw_466 : Jvm.Cond.code ({ cls := "LyndonBench$Script", name := "runPart", desc := "()Z" } : Jvm.MethodName) prog_5_method_9_code (2 : Nat) (Option.some Jvm.ClassFile.FieldType.boolean) ∈ za_Ts := z_mt2 109 rfl rfl
theorem zw_467 : Jvm.Cond.methodLink "LyndonBench$Script" (169 : Nat) ({ cls := "LyndonBench$Word", name := "cutTo", desc := "(II)V" } : Jvm.MethodName) ∈ za_Ts := z_mt2 110 rfl rfl
theorem zw_468 : Jvm.Cond.instanceMethod ({ cls := "LyndonBench$Word", name := "cutTo", desc := "(II)V" } : Jvm.MethodName) ∈ za_Ts := z_mt2 111 rfl rfl
theorem zw_469 : Jvm.Cond.selects "LyndonBench$Word" ({ cls := "LyndonBench$Word", name := "cutTo", desc := "(II)V" } : Jvm.MethodName) ({ cls := "LyndonBench$Word", name := "cutTo", desc := "(II)V" } : Jvm.MethodName) ∈ za_Ts := z_mt2 112 rfl rfl
theorem zw_470 : Jvm.Cond.code ({ cls := "LyndonBench$Word", name := "cutTo", desc := "(II)V" } : Jvm.MethodName) prog_7_method_12_code (4 : Nat) (Option.none : Option Jvm.ClassFile.FieldType) ∈ za_Ts := z_mt2 113 rfl rfl
theorem zw_471 : Jvm.Cond.methodLink "LyndonBench$Word" (50 : Nat) ({ cls := "LyndonBench$Word", name := "put", desc := "(II)V" } : Jvm.MethodName) ∈ za_Ts := z_mt2 114 rfl rfl
theorem zw_473 : Jvm.Cond.instanceMethod ({ cls := "LyndonBench$Word", name := "put", desc := "(II)V" } : Jvm.MethodName) ∈ za_Ts := z_mt2 116 rfl rfl
theorem zw_474 : Jvm.Cond.code ({ cls := "LyndonBench$Word", name := "put", desc := "(II)V" } : Jvm.MethodName) prog_7_method_3_code (3 : Nat) (Option.none : Option Jvm.ClassFile.FieldType) ∈ za_Ts := z_mt2 117 rfl rfl
theorem zw_475 : Jvm.Cond.methodLink "LyndonBench$Word" (54 : Nat) ({ cls := "LyndonBench$Word", name := "shortenTo", desc := "(I)V" } : Jvm.MethodName) ∈ za_Ts := z_mt2 118 rfl rfl
theorem zw_476 : Jvm.Cond.methodLink "LyndonBench$Script" (125 : Nat) ({ cls := "LyndonBench$Script", name := "runRotate", desc := "()Z" } : Jvm.MethodName) ∈ za_Ts := z_mt2 119 rfl rfl
theorem zw_478 : Jvm.Cond.instanceMethod ({ cls := "LyndonBench$Script", name := "runRotate", desc := "()Z" } : Jvm.MethodName) ∈ za_Ts := z_mt2 121 rfl rfl
theorem zw_479 : Jvm.Cond.code ({ cls := "LyndonBench$Script", name := "runRotate", desc := "()Z" } : Jvm.MethodName) prog_5_method_10_code (1 : Nat) (Option.some Jvm.ClassFile.FieldType.boolean) ∈ za_Ts := z_mt2 122 rfl rfl
theorem zw_480 : Jvm.Cond.methodLink "LyndonBench$Script" (173 : Nat) ({ cls := "LyndonBench$Word", name := "turn", desc := "(I)V" } : Jvm.MethodName) ∈ za_Ts := z_mt2 123 rfl rfl
theorem zw_481 : Jvm.Cond.instanceMethod ({ cls := "LyndonBench$Word", name := "turn", desc := "(I)V" } : Jvm.MethodName) ∈ za_Ts := z_mt2 124 rfl rfl
theorem zw_482 : Jvm.Cond.selects "LyndonBench$Word" ({ cls := "LyndonBench$Word", name := "turn", desc := "(I)V" } : Jvm.MethodName) ({ cls := "LyndonBench$Word", name := "turn", desc := "(I)V" } : Jvm.MethodName) ∈ za_Ts := z_mt2 125 rfl rfl
theorem zw_483 : Jvm.Cond.code ({ cls := "LyndonBench$Word", name := "turn", desc := "(I)V" } : Jvm.MethodName) prog_7_method_14_code (2 : Nat) (Option.none : Option Jvm.ClassFile.FieldType) ∈ za_Ts := z_mt2 126 rfl rfl
theorem zw_484 : Jvm.Cond.methodLink "LyndonBench$Word" (57 : Nat) ({ cls := "LyndonBench$Word", name := "mirror", desc := "(II)V" } : Jvm.MethodName) ∈ za_Ts := z_mt2 127 rfl rfl
theorem zw_485 : Jvm.Cond.instanceMethod ({ cls := "LyndonBench$Word", name := "mirror", desc := "(II)V" } : Jvm.MethodName) ∈ za_Ts := z_mt2 128 rfl rfl
theorem zw_486 : Jvm.Cond.selects "LyndonBench$Word" ({ cls := "LyndonBench$Word", name := "mirror", desc := "(II)V" } : Jvm.MethodName) ({ cls := "LyndonBench$Word", name := "mirror", desc := "(II)V" } : Jvm.MethodName) ∈ za_Ts := z_mt2 129 rfl rfl
theorem zw_487 : Jvm.Cond.code ({ cls := "LyndonBench$Word", name := "mirror", desc := "(II)V" } : Jvm.MethodName) prog_7_method_13_code (6 : Nat) (Option.none : Option Jvm.ClassFile.FieldType) ∈ za_Ts := z_mt2 130 rfl rfl
theorem zw_488 : Jvm.Cond.methodLink "LyndonBench$Script" (128 : Nat) ({ cls := "LyndonBench$Script", name := "runReverse", desc := "()Z" } : Jvm.MethodName) ∈ za_Ts := z_mt2 131 rfl rfl
theorem zw_490 : Jvm.Cond.instanceMethod ({ cls := "LyndonBench$Script", name := "runReverse", desc := "()Z" } : Jvm.MethodName) ∈ za_Ts := z_mt2 133 rfl rfl
theorem zw_491 : Jvm.Cond.code ({ cls := "LyndonBench$Script", name := "runReverse", desc := "()Z" } : Jvm.MethodName) prog_5_method_11_code (1 : Nat) (Option.some Jvm.ClassFile.FieldType.boolean) ∈ za_Ts := z_mt2 134 rfl rfl
theorem zw_492 : Jvm.Cond.methodLink "LyndonBench$Script" (176 : Nat) ({ cls := "LyndonBench$Word", name := "mirror", desc := "(II)V" } : Jvm.MethodName) ∈ za_Ts := z_mt2 135 rfl rfl
theorem zw_493 : Jvm.Cond.methodLink "LyndonBench$Script" (131 : Nat) ({ cls := "LyndonBench$Script", name := "runLeast", desc := "()Z" } : Jvm.MethodName) ∈ za_Ts := z_mt2 136 rfl rfl
theorem zw_495 : Jvm.Cond.instanceMethod ({ cls := "LyndonBench$Script", name := "runLeast", desc := "()Z" } : Jvm.MethodName) ∈ za_Ts := z_mt2 138 rfl rfl
theorem zw_496 : Jvm.Cond.code ({ cls := "LyndonBench$Script", name := "runLeast", desc := "()Z" } : Jvm.MethodName) prog_5_method_12_code (1 : Nat) (Option.some Jvm.ClassFile.FieldType.boolean) ∈ za_Ts := z_mt2 139 rfl rfl
theorem zw_497 : Jvm.Cond.methodLink "LyndonBench$Script" (179 : Nat) ({ cls := "LyndonBench$Word", name := "leastTurn", desc := "()I" } : Jvm.MethodName) ∈ za_Ts := z_mt2 140 rfl rfl
theorem zw_498 : Jvm.Cond.instanceMethod ({ cls := "LyndonBench$Word", name := "leastTurn", desc := "()I" } : Jvm.MethodName) ∈ za_Ts := z_mt2 141 rfl rfl
theorem zw_499 : Jvm.Cond.selects "LyndonBench$Word" ({ cls := "LyndonBench$Word", name := "leastTurn", desc := "()I" } : Jvm.MethodName) ({ cls := "LyndonBench$Word", name := "leastTurn", desc := "()I" } : Jvm.MethodName) ∈ za_Ts := z_mt2 142 rfl rfl
theorem zw_500 : Jvm.Cond.code ({ cls := "LyndonBench$Word", name := "leastTurn", desc := "()I" } : Jvm.MethodName) prog_7_method_31_code (7 : Nat) (Option.some Jvm.ClassFile.FieldType.int) ∈ za_Ts := z_mt2 143 rfl rfl
theorem zw_501 : Jvm.Cond.methodLink "LyndonBench$Word" (77 : Nat) ({ cls := "LyndonBench$Word", name := "atAround", desc := "(I)I" } : Jvm.MethodName) ∈ za_Ts := z_mt2 144 rfl rfl
theorem zw_503 : Jvm.Cond.instanceMethod ({ cls := "LyndonBench$Word", name := "atAround", desc := "(I)I" } : Jvm.MethodName) ∈ za_Ts := z_mt2 146 rfl rfl
theorem zw_504 : Jvm.Cond.code ({ cls := "LyndonBench$Word", name := "atAround", desc := "(I)I" } : Jvm.MethodName) prog_7_method_32_code (2 : Nat) (Option.some Jvm.ClassFile.FieldType.int) ∈ za_Ts := z_mt2 147 rfl rfl
theorem zw_505 : Jvm.Cond.methodLink "LyndonBench$Script" (134 : Nat) ({ cls := "LyndonBench$Script", name := "runNext", desc := "()Z" } : Jvm.MethodName) ∈ za_Ts := z_mt2 148 rfl rfl
theorem zw_507 : Jvm.Cond.instanceMethod ({ cls := "LyndonBench$Script", name := "runNext", desc := "()Z" } : Jvm.MethodName) ∈ za_Ts := z_mt2 150 rfl rfl
theorem zw_508 : Jvm.Cond.code ({ cls := "LyndonBench$Script", name := "runNext", desc := "()Z" } : Jvm.MethodName) prog_5_method_13_code (1 : Nat) (Option.some Jvm.ClassFile.FieldType.boolean) ∈ za_Ts := z_mt2 151 rfl rfl
theorem zw_509 : Jvm.Cond.methodLink "LyndonBench$Script" (182 : Nat) ({ cls := "LyndonBench$State", name := "hasNext", desc := "(I)Z" } : Jvm.MethodName) ∈ za_Ts := z_mt2 152 rfl rfl
theorem zw_510 : Jvm.Cond.instanceMethod ({ cls := "LyndonBench$State", name := "hasNext", desc := "(I)Z" } : Jvm.MethodName) ∈ za_Ts := z_mt2 153 rfl rfl
theorem zw_511 : Jvm.Cond.selects "LyndonBench$State" ({ cls := "LyndonBench$State", name := "hasNext", desc := "(I)Z" } : Jvm.MethodName) ({ cls := "LyndonBench$State", name := "hasNext", desc := "(I)Z" } : Jvm.MethodName) ∈ za_Ts := z_mt2 154 rfl rfl
theorem zw_512 : Jvm.Cond.code ({ cls := "LyndonBench$State", name := "hasNext", desc := "(I)Z" } : Jvm.MethodName) prog_6_method_14_code (2 : Nat) (Option.some Jvm.ClassFile.FieldType.boolean) ∈ za_Ts := z_mt2 155 rfl rfl
theorem zw_513 : Jvm.Cond.methodLink "LyndonBench$State" (64 : Nat) ({ cls := "LyndonBench$Word", name := "isOneFactor", desc := "()Z" } : Jvm.MethodName) ∈ za_Ts := z_mt2 156 rfl rfl
theorem zw_514 : Jvm.Cond.instanceMethod ({ cls := "LyndonBench$Word", name := "isOneFactor", desc := "()Z" } : Jvm.MethodName) ∈ za_Ts := z_mt2 157 rfl rfl
theorem zw_515 : Jvm.Cond.selects "LyndonBench$Word" ({ cls := "LyndonBench$Word", name := "isOneFactor", desc := "()Z" } : Jvm.MethodName) ({ cls := "LyndonBench$Word", name := "isOneFactor", desc := "()Z" } : Jvm.MethodName) ∈ za_Ts := z_mt2 158 rfl rfl
theorem zw_516 : Jvm.Cond.code ({ cls := "LyndonBench$Word", name := "isOneFactor", desc := "()Z" } : Jvm.MethodName) prog_7_method_21_code (1 : Nat) (Option.some Jvm.ClassFile.FieldType.boolean) ∈ za_Ts := z_mt2 159 rfl rfl
theorem zw_517 : Jvm.Cond.methodLink "LyndonBench$Word" (64 : Nat) ({ cls := "LyndonBench$Word", name := "lyndonEnd", desc := "(I)I" } : Jvm.MethodName) ∈ za_Ts := z_mt2 160 rfl rfl
theorem zw_518 : Jvm.Cond.instanceMethod ({ cls := "LyndonBench$Word", name := "lyndonEnd", desc := "(I)I" } : Jvm.MethodName) ∈ za_Ts := z_mt2 161 rfl rfl
theorem zw_519 : Jvm.Cond.selects "LyndonBench$Word" ({ cls := "LyndonBench$Word", name := "lyndonEnd", desc := "(I)I" } : Jvm.MethodName) ({ cls := "LyndonBench$Word", name := "lyndonEnd", desc := "(I)I" } : Jvm.MethodName) ∈ za_Ts := z_mt2 162 rfl rfl
theorem zw_520 : Jvm.Cond.code ({ cls := "LyndonBench$Word", name := "lyndonEnd", desc := "(I)I" } : Jvm.MethodName) prog_7_method_18_code (4 : Nat) (Option.some Jvm.ClassFile.FieldType.int) ∈ za_Ts := z_mt2 163 rfl rfl
theorem zw_521 : Jvm.Cond.methodLink "LyndonBench$State" (68 : Nat) ({ cls := "LyndonBench$Word", name := "at", desc := "(I)I" } : Jvm.MethodName) ∈ za_Ts := z_mt2 164 rfl rfl
theorem zw_522 : Jvm.Cond.methodLink "LyndonBench$State" (71 : Nat) ({ cls := "LyndonBench$State", name := "greatestLetter", desc := "()I" } : Jvm.MethodName) ∈ za_Ts := z_mt2 165 rfl rfl
theorem zw_523 : Jvm.Cond.instanceMethod ({ cls := "LyndonBench$State", name := "greatestLetter", desc := "()I" } : Jvm.MethodName) ∈ za_Ts := z_mt2 166 rfl rfl
theorem zw_524 : Jvm.Cond.selects "LyndonBench$State" ({ cls := "LyndonBench$State", name := "greatestLetter", desc := "()I" } : Jvm.MethodName) ({ cls := "LyndonBench$State", name := "greatestLetter", desc := "()I" } : Jvm.MethodName) ∈ za_Ts := z_mt2 167 rfl rfl
theorem zw_525 : Jvm.Cond.code ({ cls := "LyndonBench$State", name := "greatestLetter", desc := "()I" } : Jvm.MethodName) prog_6_method_5_code (1 : Nat) (Option.some Jvm.ClassFile.FieldType.int) ∈ za_Ts := z_mt2 168 rfl rfl
theorem zw_526 : Jvm.Cond.methodLink "LyndonBench$Script" (185 : Nat) ({ cls := "LyndonBench$State", name := "greatestLetter", desc := "()I" } : Jvm.MethodName) ∈ za_Ts := z_mt2 169 rfl rfl
theorem zw_527 : Jvm.Cond.methodLink "LyndonBench$Script" (188 : Nat) ({ cls := "LyndonBench$Word", name := "stepLyndon", desc := "(II)V" } : Jvm.MethodName) ∈ za_Ts := z_mt2 170 rfl rfl
theorem zw_528 : Jvm.Cond.instanceMethod ({ cls := "LyndonBench$Word", name := "stepLyndon", desc := "(II)V" } : Jvm.MethodName) ∈ za_Ts := z_mt2 171 rfl rfl
theorem zw_529 : Jvm.Cond.selects "LyndonBench$Word" ({ cls := "LyndonBench$Word", name := "stepLyndon", desc := "(II)V" } : Jvm.MethodName) ({ cls := "LyndonBench$Word", name := "stepLyndon", desc := "(II)V" } : Jvm.MethodName) ∈ za_Ts := z_mt2 172 rfl rfl
theorem zw_530 : Jvm.Cond.code ({ cls := "LyndonBench$Word", name := "stepLyndon", desc := "(II)V" } : Jvm.MethodName) prog_7_method_34_code (6 : Nat) (Option.none : Option Jvm.ClassFile.FieldType) ∈ za_Ts := z_mt2 173 rfl rfl
theorem zw_531 : Jvm.Cond.methodLink "LyndonBench$Script" (137 : Nat) ({ cls := "LyndonBench$Script", name := "runKeep", desc := "()Z" } : Jvm.MethodName) ∈ za_Ts := z_mt2 174 rfl rfl
theorem zw_533 : Jvm.Cond.instanceMethod ({ cls := "LyndonBench$Script", name := "runKeep", desc := "()Z" } : Jvm.MethodName) ∈ za_Ts := z_mt2 176 rfl rfl
theorem zw_534 : Jvm.Cond.code ({ cls := "LyndonBench$Script", name := "runKeep", desc := "()Z" } : Jvm.MethodName) prog_5_method_14_code (3 : Nat) (Option.some Jvm.ClassFile.FieldType.boolean) ∈ za_Ts := z_mt2 177 rfl rfl
theorem zw_535 : Jvm.Cond.methodLink "LyndonBench$Script" (191 : Nat) ({ cls := "LyndonBench$Word", name := "beginOfFactor", desc := "(I)I" } : Jvm.MethodName) ∈ za_Ts := z_mt2 178 rfl rfl
theorem zw_536 : Jvm.Cond.instanceMethod ({ cls := "LyndonBench$Word", name := "beginOfFactor", desc := "(I)I" } : Jvm.MethodName) ∈ za_Ts := z_mt2 179 rfl rfl
theorem zw_537 : Jvm.Cond.selects "LyndonBench$Word" ({ cls := "LyndonBench$Word", name := "beginOfFactor", desc := "(I)I" } : Jvm.MethodName) ({ cls := "LyndonBench$Word", name := "beginOfFactor", desc := "(I)I" } : Jvm.MethodName) ∈ za_Ts := z_mt2 180 rfl rfl
theorem zw_538 : Jvm.Cond.code ({ cls := "LyndonBench$Word", name := "beginOfFactor", desc := "(I)I" } : Jvm.MethodName) prog_7_method_22_code (6 : Nat) (Option.some Jvm.ClassFile.FieldType.int) ∈ za_Ts := z_mt2 181 rfl rfl
theorem zw_539 : Jvm.Cond.methodLink "LyndonBench$Word" (67 : Nat) ({ cls := "LyndonBench$Word", name := "factorEnd", desc := "(II)I" } : Jvm.MethodName) ∈ za_Ts := z_mt2 182 rfl rfl
theorem zw_540 : Jvm.Cond.instanceMethod ({ cls := "LyndonBench$Word", name := "factorEnd", desc := "(II)I" } : Jvm.MethodName) ∈ za_Ts := z_mt2 183 rfl rfl
theorem zw_541 : Jvm.Cond.selects "LyndonBench$Word" ({ cls := "LyndonBench$Word", name := "factorEnd", desc := "(II)I" } : Jvm.MethodName) ({ cls := "LyndonBench$Word", name := "factorEnd", desc := "(II)I" } : Jvm.MethodName) ∈ za_Ts := z_mt2 184 rfl rfl
theorem zw_542 : Jvm.Cond.code ({ cls := "LyndonBench$Word", name := "factorEnd", desc := "(II)I" } : Jvm.MethodName) prog_7_method_19_code (4 : Nat) (Option.some Jvm.ClassFile.FieldType.int) ∈ za_Ts := z_mt2 185 rfl rfl
theorem zw_543 : Jvm.Cond.methodLink "LyndonBench$Word" (60 : Nat) ({ cls := "LyndonBench$Word", name := "order", desc := "(IILLyndonBench$Word;II)I" } : Jvm.MethodName) ∈ za_Ts := z_mt2 186 rfl rfl
theorem zw_544 : Jvm.Cond.instanceMethod ({ cls := "LyndonBench$Word", name := "order", desc := "(IILLyndonBench$Word;II)I" } : Jvm.MethodName) ∈ za_Ts := z_mt2 187 rfl rfl
theorem zw_545 : Jvm.Cond.selects "LyndonBench$Word" ({ cls := "LyndonBench$Word", name := "order", desc := "(IILLyndonBench$Word;II)I" } : Jvm.MethodName) ({ cls := "LyndonBench$Word", name := "order", desc := "(IILLyndonBench$Word;II)I" } : Jvm.MethodName) ∈ za_Ts := z_mt2 188 rfl rfl
theorem zw_546 : Jvm.Cond.code ({ cls := "LyndonBench$Word", name := "order", desc := "(IILLyndonBench$Word;II)I" } : Jvm.MethodName) prog_7_method_17_code (11 : Nat) (Option.some Jvm.ClassFile.FieldType.int) ∈ za_Ts := z_mt2 189 rfl rfl
theorem zw_547 : Jvm.Cond.methodLink "LyndonBench$Script" (194 : Nat) ({ cls := "LyndonBench$Word", name := "lyndonEnd", desc := "(I)I" } : Jvm.MethodName) ∈ za_Ts := z_mt2 190 rfl rfl
theorem zw_548 : Jvm.Cond.methodLink "LyndonBench$Script" (197 : Nat) ({ cls := "LyndonBench$State", name := "canKeep", desc := "(I)Z" } : Jvm.MethodName) ∈ za_Ts := z_mt2 191 rfl rfl
theorem zw_549 : Jvm.Cond.instanceMethod ({ cls := "LyndonBench$State", name := "canKeep", desc := "(I)Z" } : Jvm.MethodName) ∈ za_Ts := z_mt2 192 rfl rfl
theorem zw_550 : Jvm.Cond.selects "LyndonBench$State" ({ cls := "LyndonBench$State", name := "canKeep", desc := "(I)Z" } : Jvm.MethodName) ({ cls := "LyndonBench$State", name := "canKeep", desc := "(I)Z" } : Jvm.MethodName) ∈ za_Ts := z_mt2 193 rfl rfl
theorem zw_551 : Jvm.Cond.code ({ cls := "LyndonBench$State", name := "canKeep", desc := "(I)Z" } : Jvm.MethodName) prog_6_method_8_code (2 : Nat) (Option.some Jvm.ClassFile.FieldType.boolean) ∈ za_Ts := z_mt2 194 rfl rfl
theorem zw_552 : Jvm.Cond.methodLink "LyndonBench$Script" (200 : Nat) ({ cls := "LyndonBench$State", name := "keep", desc := "(LLyndonBench$Word;II)V" } : Jvm.MethodName) ∈ za_Ts := z_mt2 195 rfl rfl
theorem zw_553 : Jvm.Cond.methodLink "LyndonBench$Script" (140 : Nat) ({ cls := "LyndonBench$Script", name := "runRemove", desc := "()Z" } : Jvm.MethodName) ∈ za_Ts := z_mt2 196 rfl rfl
theorem zw_555 : Jvm.Cond.instanceMethod ({ cls := "LyndonBench$Script", name := "runRemove", desc := "()Z" } : Jvm.MethodName) ∈ za_Ts := z_mt2 198 rfl rfl
theorem zw_556 : Jvm.Cond.code ({ cls := "LyndonBench$Script", name := "runRemove", desc := "()Z" } : Jvm.MethodName) prog_5_method_15_code (1 : Nat) (Option.some Jvm.ClassFile.FieldType.boolean) ∈ za_Ts := z_mt2 199 rfl rfl
theorem zw_557 : Jvm.Cond.methodLink "LyndonBench$Script" (206 : Nat) ({ cls := "LyndonBench$State", name := "takeFromShelf", desc := "(I)V" } : Jvm.MethodName) ∈ za_Ts := z_mt2 200 rfl rfl
theorem zw_558 : Jvm.Cond.instanceMethod ({ cls := "LyndonBench$State", name := "takeFromShelf", desc := "(I)V" } : Jvm.MethodName) ∈ za_Ts := z_mt2 201 rfl rfl
theorem zw_559 : Jvm.Cond.selects "LyndonBench$State" ({ cls := "LyndonBench$State", name := "takeFromShelf", desc := "(I)V" } : Jvm.MethodName) ({ cls := "LyndonBench$State", name := "takeFromShelf", desc := "(I)V" } : Jvm.MethodName) ∈ za_Ts := z_mt2 202 rfl rfl
theorem zw_560 : Jvm.Cond.code ({ cls := "LyndonBench$State", name := "takeFromShelf", desc := "(I)V" } : Jvm.MethodName) prog_6_method_10_code (5 : Nat) (Option.none : Option Jvm.ClassFile.FieldType) ∈ za_Ts := z_mt2 203 rfl rfl
theorem zw_561 : Jvm.Cond.methodLink "LyndonBench$State" (38 : Nat) ({ cls := "LyndonBench$State", name := "keptAt", desc := "(I)LLyndonBench$Word;" } : Jvm.MethodName) ∈ za_Ts := z_mt2 204 rfl rfl
theorem zw_562 : Jvm.Cond.instanceMethod ({ cls := "LyndonBench$State", name := "keptAt", desc := "(I)LLyndonBench$Word;" } : Jvm.MethodName) ∈ za_Ts := z_mt2 205 rfl rfl
theorem zw_563 : Jvm.Cond.selects "LyndonBench$State" ({ cls := "LyndonBench$State", name := "keptAt", desc := "(I)LLyndonBench$Word;" } : Jvm.MethodName) ({ cls := "LyndonBench$State", name := "keptAt", desc := "(I)LLyndonBench$Word;" } : Jvm.MethodName) ∈ za_Ts := z_mt2 206 rfl rfl
theorem zw_564 : Jvm.Cond.code ({ cls := "LyndonBench$State", name := "keptAt", desc := "(I)LLyndonBench$Word;" } : Jvm.MethodName) prog_6_method_7_code (2 : Nat) (Option.some (Jvm.ClassFile.FieldType.object "LyndonBench$Word")) ∈ za_Ts := z_mt2 207 rfl rfl
theorem zw_565 : Jvm.Cond.methodLink "LyndonBench$State" (34 : Nat) ({ cls := "LyndonBench$Word", name := "copyFrom", desc := "(LLyndonBench$Word;)V" } : Jvm.MethodName) ∈ za_Ts := z_mt2 208 rfl rfl
theorem zw_566 : Jvm.Cond.instanceMethod ({ cls := "LyndonBench$Word", name := "copyFrom", desc := "(LLyndonBench$Word;)V" } : Jvm.MethodName) ∈ za_Ts := z_mt2 209 rfl rfl
theorem zw_567 : Jvm.Cond.selects "LyndonBench$Word" ({ cls := "LyndonBench$Word", name := "copyFrom", desc := "(LLyndonBench$Word;)V" } : Jvm.MethodName) ({ cls := "LyndonBench$Word", name := "copyFrom", desc := "(LLyndonBench$Word;)V" } : Jvm.MethodName) ∈ za_Ts := z_mt2 210 rfl rfl
theorem zw_568 : Jvm.Cond.code ({ cls := "LyndonBench$Word", name := "copyFrom", desc := "(LLyndonBench$Word;)V" } : Jvm.MethodName) prog_7_method_10_code (2 : Nat) (Option.none : Option Jvm.ClassFile.FieldType) ∈ za_Ts := z_mt2 211 rfl rfl
theorem zw_569 : Jvm.Cond.methodLink "LyndonBench$Word" (43 : Nat) ({ cls := "LyndonBench$Word", name := "clear", desc := "()V" } : Jvm.MethodName) ∈ za_Ts := z_mt2 212 rfl rfl
theorem zw_570 : Jvm.Cond.methodLink "LyndonBench$Word" (46 : Nat) ({ cls := "LyndonBench$Word", name := "addPart", desc := "(LLyndonBench$Word;II)V" } : Jvm.MethodName) ∈ za_Ts := z_mt2 213 rfl rfl
theorem zw_571 : Jvm.Cond.methodLink "LyndonBench$Script" (143 : Nat) ({ cls := "LyndonBench$Script", name := "runJoin", desc := "()Z" } : Jvm.MethodName) ∈ za_Ts := z_mt2 214 rfl rfl
theorem zw_573 : Jvm.Cond.instanceMethod ({ cls := "LyndonBench$Script", name := "runJoin", desc := "()Z" } : Jvm.MethodName) ∈ za_Ts := z_mt2 216 rfl rfl
theorem zw_574 : Jvm.Cond.code ({ cls := "LyndonBench$Script", name := "runJoin", desc := "()Z" } : Jvm.MethodName) prog_5_method_16_code (1 : Nat) (Option.some Jvm.ClassFile.FieldType.boolean) ∈ za_Ts := z_mt2 217 rfl rfl
theorem zw_575 : Jvm.Cond.methodLink "LyndonBench$Script" (209 : Nat) ({ cls := "LyndonBench$State", name := "canJoin", desc := "()Z" } : Jvm.MethodName) ∈ za_Ts := z_mt2 218 rfl rfl
theorem zw_576 : Jvm.Cond.instanceMethod ({ cls := "LyndonBench$State", name := "canJoin", desc := "()Z" } : Jvm.MethodName) ∈ za_Ts := z_mt2 219 rfl rfl
theorem zw_577 : Jvm.Cond.selects "LyndonBench$State" ({ cls := "LyndonBench$State", name := "canJoin", desc := "()Z" } : Jvm.MethodName) ({ cls := "LyndonBench$State", name := "canJoin", desc := "()Z" } : Jvm.MethodName) ∈ za_Ts := z_mt2 220 rfl rfl
theorem zw_578 : Jvm.Cond.code ({ cls := "LyndonBench$State", name := "canJoin", desc := "()Z" } : Jvm.MethodName) prog_6_method_12_code (4 : Nat) (Option.some Jvm.ClassFile.FieldType.boolean) ∈ za_Ts := z_mt2 221 rfl rfl
theorem zw_579 : Jvm.Cond.methodLink "LyndonBench$Script" (212 : Nat) ({ cls := "LyndonBench$State", name := "joinShelf", desc := "()V" } : Jvm.MethodName) ∈ za_Ts := z_mt2 222 rfl rfl
theorem zw_580 : Jvm.Cond.instanceMethod ({ cls := "LyndonBench$State", name := "joinShelf", desc := "()V" } : Jvm.MethodName) ∈ za_Ts := z_mt2 223 rfl rfl
theorem zw_581 : Jvm.Cond.selects "LyndonBench$State" ({ cls := "LyndonBench$State", name := "joinShelf", desc := "()V" } : Jvm.MethodName) ({ cls := "LyndonBench$State", name := "joinShelf", desc := "()V" } : Jvm.MethodName) ∈ za_Ts := z_mt2 224 rfl rfl
theorem zw_582 : Jvm.Cond.code ({ cls := "LyndonBench$State", name := "joinShelf", desc := "()V" } : Jvm.MethodName) prog_6_method_13_code (5 : Nat) (Option.none : Option Jvm.ClassFile.FieldType) ∈ za_Ts := z_mt2 225 rfl rfl
theorem zw_583 : Jvm.Cond.methodLink "LyndonBench$State" (60 : Nat) ({ cls := "LyndonBench$State", name := "greatestOfShelf", desc := "(I)I" } : Jvm.MethodName) ∈ za_Ts := z_mt2 226 rfl rfl
theorem zw_584 : Jvm.Cond.instanceMethod ({ cls := "LyndonBench$State", name := "greatestOfShelf", desc := "(I)I" } : Jvm.MethodName) ∈ za_Ts := z_mt2 227 rfl rfl
theorem zw_585 : Jvm.Cond.selects "LyndonBench$State" ({ cls := "LyndonBench$State", name := "greatestOfShelf", desc := "(I)I" } : Jvm.MethodName) ({ cls := "LyndonBench$State", name := "greatestOfShelf", desc := "(I)I" } : Jvm.MethodName) ∈ za_Ts := z_mt2 228 rfl rfl
theorem zw_586 : Jvm.Cond.code ({ cls := "LyndonBench$State", name := "greatestOfShelf", desc := "(I)I" } : Jvm.MethodName) prog_6_method_11_code (6 : Nat) (Option.some Jvm.ClassFile.FieldType.int) ∈ za_Ts := z_mt2 229 rfl rfl
theorem zw_587 : Jvm.Cond.methodLink "LyndonBench$State" (56 : Nat) ({ cls := "LyndonBench$Word", name := "order", desc := "(IILLyndonBench$Word;II)I" } : Jvm.MethodName) ∈ za_Ts := z_mt2 230 rfl rfl
theorem zw_588 : Jvm.Cond.methodLink "LyndonBench" (90 : Nat) ({ cls := "LyndonBench$Word", name := "clear", desc := "()V" } : Jvm.MethodName) ∈ za_Ts := z_mt2 231 rfl rfl
theorem zw_589 : Jvm.Cond.methodLink "LyndonBench" (92 : Nat) ({ cls := "LyndonBench$History", name := "remember", desc := "(LLyndonBench$State;)V" } : Jvm.MethodName) ∈ za_Ts := z_mt2 232 rfl rfl
theorem zw_590 : Jvm.Cond.instanceMethod ({ cls := "LyndonBench$History", name := "remember", desc := "(LLyndonBench$State;)V" } : Jvm.MethodName) ∈ za_Ts := z_mt2 233 rfl rfl
theorem zw_591 : Jvm.Cond.selects "LyndonBench$History" ({ cls := "LyndonBench$History", name := "remember", desc := "(LLyndonBench$State;)V" } : Jvm.MethodName) ({ cls := "LyndonBench$History", name := "remember", desc := "(LLyndonBench$State;)V" } : Jvm.MethodName) ∈ za_Ts := z_mt2 234 rfl rfl
theorem zw_592 : Jvm.Cond.code ({ cls := "LyndonBench$History", name := "remember", desc := "(LLyndonBench$State;)V" } : Jvm.MethodName) prog_4_method_2_code (2 : Nat) (Option.none : Option Jvm.ClassFile.FieldType) ∈ za_Ts := z_mt2 235 rfl rfl
theorem zw_593 : Jvm.Cond.methodLink "LyndonBench$History" (22 : Nat) ({ cls := "LyndonBench$History", name := "forgetOldest", desc := "()V" } : Jvm.MethodName) ∈ za_Ts := z_mt2 236 rfl rfl
theorem zw_595 : Jvm.Cond.instanceMethod ({ cls := "LyndonBench$History", name := "forgetOldest", desc := "()V" } : Jvm.MethodName) ∈ za_Ts := z_mt2 238 rfl rfl
theorem zw_596 : Jvm.Cond.code ({ cls := "LyndonBench$History", name := "forgetOldest", desc := "()V" } : Jvm.MethodName) prog_4_method_3_code (3 : Nat) (Option.none : Option Jvm.ClassFile.FieldType) ∈ za_Ts := z_mt2 239 rfl rfl
theorem zw_597 : Jvm.Cond.methodLink "LyndonBench$History" (25 : Nat) ({ cls := "LyndonBench$State", name := "copyFrom", desc := "(LLyndonBench$State;)V" } : Jvm.MethodName) ∈ za_Ts := z_mt3 0 rfl rfl
theorem zw_598 : Jvm.Cond.instanceMethod ({ cls := "LyndonBench$State", name := "copyFrom", desc := "(LLyndonBench$State;)V" } : Jvm.MethodName) ∈ za_Ts := z_mt3 1 rfl rfl
theorem zw_599 : Jvm.Cond.selects "LyndonBench$State" ({ cls := "LyndonBench$State", name := "copyFrom", desc := "(LLyndonBench$State;)V" } : Jvm.MethodName) ({ cls := "LyndonBench$State", name := "copyFrom", desc := "(LLyndonBench$State;)V" } : Jvm.MethodName) ∈ za_Ts := z_mt3 2 rfl rfl
theorem zw_600 : Jvm.Cond.code ({ cls := "LyndonBench$State", name := "copyFrom", desc := "(LLyndonBench$State;)V" } : Jvm.MethodName) prog_6_method_3_code (4 : Nat) (Option.none : Option Jvm.ClassFile.FieldType) ∈ za_Ts := z_mt3 3 rfl rfl
theorem zw_601 : Jvm.Cond.methodLink "LyndonBench$State" (45 : Nat) ({ cls := "LyndonBench$State", name := "keep", desc := "(LLyndonBench$Word;II)V" } : Jvm.MethodName) ∈ za_Ts := z_mt3 4 rfl rfl
theorem zw_602 : Jvm.Cond.methodLink "LyndonBench" (99 : Nat) ({ cls := "LyndonBench$State", name := "copyFrom", desc := "(LLyndonBench$State;)V" } : Jvm.MethodName) ∈ za_Ts := z_mt3 5 rfl rfl
theorem zw_603 : Jvm.Cond.methodLink "LyndonBenchLaw" (142 : Nat) ({ cls := "LyndonBench", name := "reverse", desc := "()I" } : Jvm.MethodName) ∈ za_Ts := z_mt3 6 rfl rfl
theorem zw_604 : Jvm.Cond.instanceMethod ({ cls := "LyndonBench", name := "reverse", desc := "()I" } : Jvm.MethodName) ∈ za_Ts := z_mt3 7 rfl rfl
theorem zw_605 : Jvm.Cond.selects "LyndonBench" ({ cls := "LyndonBench", name := "reverse", desc := "()I" } : Jvm.MethodName) ({ cls := "LyndonBench", name := "reverse", desc := "()I" } : Jvm.MethodName) ∈ za_Ts := z_mt3 8 rfl rfl
theorem zw_606 : Jvm.Cond.code ({ cls := "LyndonBench", name := "reverse", desc := "()I" } : Jvm.MethodName) prog_1_method_11_code (1 : Nat) (Option.some Jvm.ClassFile.FieldType.int) ∈ za_Ts := z_mt3 9 rfl rfl
theorem zw_607 : Jvm.Cond.methodLink "LyndonBench" (151 : Nat) ({ cls := "LyndonBench$Word", name := "mirror", desc := "(II)V" } : Jvm.MethodName) ∈ za_Ts := z_mt3 10 rfl rfl
theorem zw_608 : Jvm.Cond.methodLink "LyndonBench" (134 : Nat) ({ cls := "LyndonBench$Word", name := "countFactors", desc := "()I" } : Jvm.MethodName) ∈ za_Ts := z_mt3 11 rfl rfl
theorem zw_609 : Jvm.Cond.instanceMethod ({ cls := "LyndonBench$Word", name := "countFactors", desc := "()I" } : Jvm.MethodName) ∈ za_Ts := z_mt3 12 rfl rfl
theorem zw_610 : Jvm.Cond.selects "LyndonBench$Word" ({ cls := "LyndonBench$Word", name := "countFactors", desc := "()I" } : Jvm.MethodName) ({ cls := "LyndonBench$Word", name := "countFactors", desc := "()I" } : Jvm.MethodName) ∈ za_Ts := z_mt3 13 rfl rfl
theorem zw_611 : Jvm.Cond.code ({ cls := "LyndonBench$Word", name := "countFactors", desc := "()I" } : Jvm.MethodName) prog_7_method_20_code (6 : Nat) (Option.some Jvm.ClassFile.FieldType.int) ∈ za_Ts := z_mt3 14 rfl rfl
theorem zw_612 : Jvm.Cond.methodLink "LyndonBenchLaw" (164 : Nat) ({ cls := "LyndonBench", name := "undo", desc := "()I" } : Jvm.MethodName) ∈ za_Ts := z_mt3 15 rfl rfl
theorem zw_613 : Jvm.Cond.instanceMethod ({ cls := "LyndonBench", name := "undo", desc := "()I" } : Jvm.MethodName) ∈ za_Ts := z_mt3 16 rfl rfl
theorem zw_614 : Jvm.Cond.selects "LyndonBench" ({ cls := "LyndonBench", name := "undo", desc := "()I" } : Jvm.MethodName) ({ cls := "LyndonBench", name := "undo", desc := "()I" } : Jvm.MethodName) ∈ za_Ts := z_mt3 17 rfl rfl
theorem zw_615 : Jvm.Cond.code ({ cls := "LyndonBench", name := "undo", desc := "()I" } : Jvm.MethodName) prog_1_method_18_code (1 : Nat) (Option.some Jvm.ClassFile.FieldType.int) ∈ za_Ts := z_mt3 18 rfl rfl
theorem zw_616 : Jvm.Cond.methodLink "LyndonBench" (208 : Nat) ({ cls := "LyndonBench$History", name := "bringBack", desc := "(LLyndonBench$State;)Z" } : Jvm.MethodName) ∈ za_Ts := z_mt3 19 rfl rfl
theorem zw_617 : Jvm.Cond.instanceMethod ({ cls := "LyndonBench$History", name := "bringBack", desc := "(LLyndonBench$State;)Z" } : Jvm.MethodName) ∈ za_Ts := z_mt3 20 rfl rfl
theorem zw_618 : Jvm.Cond.selects "LyndonBench$History" ({ cls := "LyndonBench$History", name := "bringBack", desc := "(LLyndonBench$State;)Z" } : Jvm.MethodName) ({ cls := "LyndonBench$History", name := "bringBack", desc := "(LLyndonBench$State;)Z" } : Jvm.MethodName) ∈ za_Ts := z_mt3 21 rfl rfl
theorem zw_619 : Jvm.Cond.code ({ cls := "LyndonBench$History", name := "bringBack", desc := "(LLyndonBench$State;)Z" } : Jvm.MethodName) prog_4_method_4_code (2 : Nat) (Option.some Jvm.ClassFile.FieldType.boolean) ∈ za_Ts := z_mt3 22 rfl rfl
theorem zw_620 : Jvm.Cond.methodLink "LyndonBenchLaw" (168 : Nat) ({ cls := "LyndonBench", name := "undoCount", desc := "()I" } : Jvm.MethodName) ∈ za_Ts := z_mt3 23 rfl rfl
theorem zw_621 : Jvm.Cond.instanceMethod ({ cls := "LyndonBench", name := "undoCount", desc := "()I" } : Jvm.MethodName) ∈ za_Ts := z_mt3 24 rfl rfl
theorem zw_622 : Jvm.Cond.selects "LyndonBench" ({ cls := "LyndonBench", name := "undoCount", desc := "()I" } : Jvm.MethodName) ({ cls := "LyndonBench", name := "undoCount", desc := "()I" } : Jvm.MethodName) ∈ za_Ts := z_mt3 25 rfl rfl
theorem zw_623 : Jvm.Cond.code ({ cls := "LyndonBench", name := "undoCount", desc := "()I" } : Jvm.MethodName) prog_1_method_19_code (1 : Nat) (Option.some Jvm.ClassFile.FieldType.int) ∈ za_Ts := z_mt3 26 rfl rfl
theorem zw_624 : Jvm.Cond.methodLink "LyndonBenchLaw" (172 : Nat) ({ cls := "LyndonBench", name := "saveSnapshot", desc := "()I" } : Jvm.MethodName) ∈ za_Ts := z_mt3 27 rfl rfl
theorem zw_625 : Jvm.Cond.instanceMethod ({ cls := "LyndonBench", name := "saveSnapshot", desc := "()I" } : Jvm.MethodName) ∈ za_Ts := z_mt3 28 rfl rfl
theorem zw_626 : Jvm.Cond.selects "LyndonBench" ({ cls := "LyndonBench", name := "saveSnapshot", desc := "()I" } : Jvm.MethodName) ({ cls := "LyndonBench", name := "saveSnapshot", desc := "()I" } : Jvm.MethodName) ∈ za_Ts := z_mt3 29 rfl rfl
theorem zw_627 : Jvm.Cond.code ({ cls := "LyndonBench", name := "saveSnapshot", desc := "()I" } : Jvm.MethodName) prog_1_method_20_code (1 : Nat) (Option.some Jvm.ClassFile.FieldType.int) ∈ za_Ts := z_mt3 30 rfl rfl
theorem zw_628 : Jvm.Cond.methodLink "LyndonBenchLaw" (179 : Nat) ({ cls := "LyndonBench", name := "scriptErrorKind", desc := "()I" } : Jvm.MethodName) ∈ za_Ts := z_mt3 31 rfl rfl
theorem zw_629 : Jvm.Cond.instanceMethod ({ cls := "LyndonBench", name := "scriptErrorKind", desc := "()I" } : Jvm.MethodName) ∈ za_Ts := z_mt3 32 rfl rfl
theorem zw_630 : Jvm.Cond.selects "LyndonBench" ({ cls := "LyndonBench", name := "scriptErrorKind", desc := "()I" } : Jvm.MethodName) ({ cls := "LyndonBench", name := "scriptErrorKind", desc := "()I" } : Jvm.MethodName) ∈ za_Ts := z_mt3 33 rfl rfl
theorem zw_631 : Jvm.Cond.code ({ cls := "LyndonBench", name := "scriptErrorKind", desc := "()I" } : Jvm.MethodName) prog_1_method_22_code (1 : Nat) (Option.some Jvm.ClassFile.FieldType.int) ∈ za_Ts := z_mt3 34 rfl rfl
theorem zw_632 : Jvm.Cond.methodLink "LyndonBenchLaw" (183 : Nat) ({ cls := "LyndonBench", name := "scriptErrorOffset", desc := "()I" } : Jvm.MethodName) ∈ za_Ts := z_mt3 35 rfl rfl
theorem zw_633 : Jvm.Cond.instanceMethod ({ cls := "LyndonBench", name := "scriptErrorOffset", desc := "()I" } : Jvm.MethodName) ∈ za_Ts := z_mt3 36 rfl rfl
theorem zw_634 : Jvm.Cond.selects "LyndonBench" ({ cls := "LyndonBench", name := "scriptErrorOffset", desc := "()I" } : Jvm.MethodName) ({ cls := "LyndonBench", name := "scriptErrorOffset", desc := "()I" } : Jvm.MethodName) ∈ za_Ts := z_mt3 37 rfl rfl
theorem zw_635 : Jvm.Cond.code ({ cls := "LyndonBench", name := "scriptErrorOffset", desc := "()I" } : Jvm.MethodName) prog_1_method_23_code (1 : Nat) (Option.some Jvm.ClassFile.FieldType.int) ∈ za_Ts := z_mt3 38 rfl rfl
theorem zw_636 : Jvm.Cond.methodLink "LyndonBenchLaw" (187 : Nat) ({ cls := "LyndonBench", name := "letters", desc := "()I" } : Jvm.MethodName) ∈ za_Ts := z_mt3 39 rfl rfl
theorem zw_637 : Jvm.Cond.instanceMethod ({ cls := "LyndonBench", name := "letters", desc := "()I" } : Jvm.MethodName) ∈ za_Ts := z_mt3 40 rfl rfl
theorem zw_638 : Jvm.Cond.selects "LyndonBench" ({ cls := "LyndonBench", name := "letters", desc := "()I" } : Jvm.MethodName) ({ cls := "LyndonBench", name := "letters", desc := "()I" } : Jvm.MethodName) ∈ za_Ts := z_mt3 41 rfl rfl
theorem zw_639 : Jvm.Cond.code ({ cls := "LyndonBench", name := "letters", desc := "()I" } : Jvm.MethodName) prog_1_method_24_code (1 : Nat) (Option.some Jvm.ClassFile.FieldType.int) ∈ za_Ts := z_mt3 42 rfl rfl
theorem zw_640 : Jvm.Cond.methodLink "LyndonBenchLaw" (191 : Nat) ({ cls := "LyndonBench", name := "length", desc := "()I" } : Jvm.MethodName) ∈ za_Ts := z_mt3 43 rfl rfl
theorem zw_641 : Jvm.Cond.instanceMethod ({ cls := "LyndonBench", name := "length", desc := "()I" } : Jvm.MethodName) ∈ za_Ts := z_mt3 44 rfl rfl
theorem zw_642 : Jvm.Cond.selects "LyndonBench" ({ cls := "LyndonBench", name := "length", desc := "()I" } : Jvm.MethodName) ({ cls := "LyndonBench", name := "length", desc := "()I" } : Jvm.MethodName) ∈ za_Ts := z_mt3 45 rfl rfl
theorem zw_643 : Jvm.Cond.code ({ cls := "LyndonBench", name := "length", desc := "()I" } : Jvm.MethodName) prog_1_method_25_code (1 : Nat) (Option.some Jvm.ClassFile.FieldType.int) ∈ za_Ts := z_mt3 46 rfl rfl
theorem zw_644 : Jvm.Cond.methodLink "LyndonBenchLaw" (195 : Nat) ({ cls := "LyndonBench", name := "letterAt", desc := "(I)I" } : Jvm.MethodName) ∈ za_Ts := z_mt3 47 rfl rfl
theorem zw_645 : Jvm.Cond.instanceMethod ({ cls := "LyndonBench", name := "letterAt", desc := "(I)I" } : Jvm.MethodName) ∈ za_Ts := z_mt3 48 rfl rfl
theorem zw_646 : Jvm.Cond.selects "LyndonBench" ({ cls := "LyndonBench", name := "letterAt", desc := "(I)I" } : Jvm.MethodName) ({ cls := "LyndonBench", name := "letterAt", desc := "(I)I" } : Jvm.MethodName) ∈ za_Ts := z_mt3 49 rfl rfl
theorem zw_647 : Jvm.Cond.code ({ cls := "LyndonBench", name := "letterAt", desc := "(I)I" } : Jvm.MethodName) prog_1_method_26_code (2 : Nat) (Option.some Jvm.ClassFile.FieldType.int) ∈ za_Ts := z_mt3 50 rfl rfl
theorem zw_648 : Jvm.Cond.methodLink "LyndonBench" (116 : Nat) ({ cls := "LyndonBench$Word", name := "at", desc := "(I)I" } : Jvm.MethodName) ∈ za_Ts := z_mt3 51 rfl rfl
theorem zw_649 : Jvm.Cond.methodLink "LyndonBenchLaw" (203 : Nat) ({ cls := "LyndonBench", name := "factorCount", desc := "()I" } : Jvm.MethodName) ∈ za_Ts := z_mt3 52 rfl rfl
theorem zw_650 : Jvm.Cond.instanceMethod ({ cls := "LyndonBench", name := "factorCount", desc := "()I" } : Jvm.MethodName) ∈ za_Ts := z_mt3 53 rfl rfl
theorem zw_651 : Jvm.Cond.selects "LyndonBench" ({ cls := "LyndonBench", name := "factorCount", desc := "()I" } : Jvm.MethodName) ({ cls := "LyndonBench", name := "factorCount", desc := "()I" } : Jvm.MethodName) ∈ za_Ts := z_mt3 54 rfl rfl
theorem zw_652 : Jvm.Cond.code ({ cls := "LyndonBench", name := "factorCount", desc := "()I" } : Jvm.MethodName) prog_1_method_28_code (1 : Nat) (Option.some Jvm.ClassFile.FieldType.int) ∈ za_Ts := z_mt3 55 rfl rfl
theorem zw_653 : Jvm.Cond.methodLink "LyndonBenchLaw" (216 : Nat) ({ cls := "LyndonBench", name := "factorOf", desc := "(I)I" } : Jvm.MethodName) ∈ za_Ts := z_mt3 56 rfl rfl
theorem zw_654 : Jvm.Cond.instanceMethod ({ cls := "LyndonBench", name := "factorOf", desc := "(I)I" } : Jvm.MethodName) ∈ za_Ts := z_mt3 57 rfl rfl
theorem zw_655 : Jvm.Cond.selects "LyndonBench" ({ cls := "LyndonBench", name := "factorOf", desc := "(I)I" } : Jvm.MethodName) ({ cls := "LyndonBench", name := "factorOf", desc := "(I)I" } : Jvm.MethodName) ∈ za_Ts := z_mt3 58 rfl rfl
theorem zw_656 : Jvm.Cond.code ({ cls := "LyndonBench", name := "factorOf", desc := "(I)I" } : Jvm.MethodName) prog_1_method_32_code (2 : Nat) (Option.some Jvm.ClassFile.FieldType.int) ∈ za_Ts := z_mt3 59 rfl rfl
theorem zw_657 : Jvm.Cond.methodLink "LyndonBench" (234 : Nat) ({ cls := "LyndonBench$Word", name := "factorWith", desc := "(I)I" } : Jvm.MethodName) ∈ za_Ts := z_mt3 60 rfl rfl
theorem zw_658 : Jvm.Cond.instanceMethod ({ cls := "LyndonBench$Word", name := "factorWith", desc := "(I)I" } : Jvm.MethodName) ∈ za_Ts := z_mt3 61 rfl rfl
theorem zw_659 : Jvm.Cond.selects "LyndonBench$Word" ({ cls := "LyndonBench$Word", name := "factorWith", desc := "(I)I" } : Jvm.MethodName) ({ cls := "LyndonBench$Word", name := "factorWith", desc := "(I)I" } : Jvm.MethodName) ∈ za_Ts := z_mt3 62 rfl rfl
theorem zw_660 : Jvm.Cond.code ({ cls := "LyndonBench$Word", name := "factorWith", desc := "(I)I" } : Jvm.MethodName) prog_7_method_23_code (7 : Nat) (Option.some Jvm.ClassFile.FieldType.int) ∈ za_Ts := z_mt3 63 rfl rfl
theorem zw_661 : Jvm.Cond.methodLink "LyndonBenchLaw" (220 : Nat) ({ cls := "LyndonBench", name := "longestFactor", desc := "()I" } : Jvm.MethodName) ∈ za_Ts := z_mt3 64 rfl rfl
theorem zw_662 : Jvm.Cond.instanceMethod ({ cls := "LyndonBench", name := "longestFactor", desc := "()I" } : Jvm.MethodName) ∈ za_Ts := z_mt3 65 rfl rfl
theorem zw_663 : Jvm.Cond.selects "LyndonBench" ({ cls := "LyndonBench", name := "longestFactor", desc := "()I" } : Jvm.MethodName) ({ cls := "LyndonBench", name := "longestFactor", desc := "()I" } : Jvm.MethodName) ∈ za_Ts := z_mt3 66 rfl rfl
theorem zw_664 : Jvm.Cond.code ({ cls := "LyndonBench", name := "longestFactor", desc := "()I" } : Jvm.MethodName) prog_1_method_33_code (1 : Nat) (Option.some Jvm.ClassFile.FieldType.int) ∈ za_Ts := z_mt3 67 rfl rfl
theorem zw_665 : Jvm.Cond.methodLink "LyndonBench" (237 : Nat) ({ cls := "LyndonBench$Word", name := "firstLongestFactor", desc := "()I" } : Jvm.MethodName) ∈ za_Ts := z_mt3 68 rfl rfl
theorem zw_666 : Jvm.Cond.instanceMethod ({ cls := "LyndonBench$Word", name := "firstLongestFactor", desc := "()I" } : Jvm.MethodName) ∈ za_Ts := z_mt3 69 rfl rfl
theorem zw_667 : Jvm.Cond.selects "LyndonBench$Word" ({ cls := "LyndonBench$Word", name := "firstLongestFactor", desc := "()I" } : Jvm.MethodName) ({ cls := "LyndonBench$Word", name := "firstLongestFactor", desc := "()I" } : Jvm.MethodName) ∈ za_Ts := z_mt3 70 rfl rfl
theorem zw_668 : Jvm.Cond.code ({ cls := "LyndonBench$Word", name := "firstLongestFactor", desc := "()I" } : Jvm.MethodName) prog_7_method_24_code (7 : Nat) (Option.some Jvm.ClassFile.FieldType.int) ∈ za_Ts := z_mt3 71 rfl rfl
theorem zw_669 : Jvm.Cond.methodLink "LyndonBenchLaw" (233 : Nat) ({ cls := "LyndonBench", name := "isLyndon", desc := "()Z" } : Jvm.MethodName) ∈ za_Ts := z_mt3 72 rfl rfl
theorem zw_670 : Jvm.Cond.instanceMethod ({ cls := "LyndonBench", name := "isLyndon", desc := "()Z" } : Jvm.MethodName) ∈ za_Ts := z_mt3 73 rfl rfl
theorem zw_671 : Jvm.Cond.selects "LyndonBench" ({ cls := "LyndonBench", name := "isLyndon", desc := "()Z" } : Jvm.MethodName) ({ cls := "LyndonBench", name := "isLyndon", desc := "()Z" } : Jvm.MethodName) ∈ za_Ts := z_mt3 74 rfl rfl
theorem zw_672 : Jvm.Cond.code ({ cls := "LyndonBench", name := "isLyndon", desc := "()Z" } : Jvm.MethodName) prog_1_method_37_code (1 : Nat) (Option.some Jvm.ClassFile.FieldType.boolean) ∈ za_Ts := z_mt3 75 rfl rfl
theorem zw_673 : Jvm.Cond.methodLink "LyndonBench" (250 : Nat) ({ cls := "LyndonBench$Word", name := "isOneFactor", desc := "()Z" } : Jvm.MethodName) ∈ za_Ts := z_mt3 76 rfl rfl
theorem zw_674 : Jvm.Cond.methodLink "LyndonBenchLaw" (238 : Nat) ({ cls := "LyndonBench", name := "whyNotLyndon", desc := "()I" } : Jvm.MethodName) ∈ za_Ts := z_mt3 77 rfl rfl
theorem zw_675 : Jvm.Cond.instanceMethod ({ cls := "LyndonBench", name := "whyNotLyndon", desc := "()I" } : Jvm.MethodName) ∈ za_Ts := z_mt3 78 rfl rfl
theorem zw_676 : Jvm.Cond.selects "LyndonBench" ({ cls := "LyndonBench", name := "whyNotLyndon", desc := "()I" } : Jvm.MethodName) ({ cls := "LyndonBench", name := "whyNotLyndon", desc := "()I" } : Jvm.MethodName) ∈ za_Ts := z_mt3 79 rfl rfl
theorem zw_677 : Jvm.Cond.code ({ cls := "LyndonBench", name := "whyNotLyndon", desc := "()I" } : Jvm.MethodName) prog_1_method_38_code (1 : Nat) (Option.some Jvm.ClassFile.FieldType.int) ∈ za_Ts := z_mt3 80 rfl rfl
theorem zw_678 : Jvm.Cond.methodLink "LyndonBench" (253 : Nat) ({ cls := "LyndonBench$Word", name := "countTurns", desc := "()I" } : Jvm.MethodName) ∈ za_Ts := z_mt3 81 rfl rfl
theorem zw_679 : Jvm.Cond.instanceMethod ({ cls := "LyndonBench$Word", name := "countTurns", desc := "()I" } : Jvm.MethodName) ∈ za_Ts := z_mt3 82 rfl rfl
theorem zw_680 : Jvm.Cond.selects "LyndonBench$Word" ({ cls := "LyndonBench$Word", name := "countTurns", desc := "()I" } : Jvm.MethodName) ({ cls := "LyndonBench$Word", name := "countTurns", desc := "()I" } : Jvm.MethodName) ∈ za_Ts := z_mt3 83 rfl rfl
theorem zw_681 : Jvm.Cond.code ({ cls := "LyndonBench$Word", name := "countTurns", desc := "()I" } : Jvm.MethodName) prog_7_method_30_code (2 : Nat) (Option.some Jvm.ClassFile.FieldType.int) ∈ za_Ts := z_mt3 84 rfl rfl
theorem zw_682 : Jvm.Cond.methodLink "LyndonBench$Word" (74 : Nat) ({ cls := "LyndonBench$Word", name := "leastPeriod", desc := "()I" } : Jvm.MethodName) ∈ za_Ts := z_mt3 85 rfl rfl
theorem zw_683 : Jvm.Cond.instanceMethod ({ cls := "LyndonBench$Word", name := "leastPeriod", desc := "()I" } : Jvm.MethodName) ∈ za_Ts := z_mt3 86 rfl rfl
theorem zw_684 : Jvm.Cond.selects "LyndonBench$Word" ({ cls := "LyndonBench$Word", name := "leastPeriod", desc := "()I" } : Jvm.MethodName) ({ cls := "LyndonBench$Word", name := "leastPeriod", desc := "()I" } : Jvm.MethodName) ∈ za_Ts := z_mt3 87 rfl rfl
theorem zw_685 : Jvm.Cond.code ({ cls := "LyndonBench$Word", name := "leastPeriod", desc := "()I" } : Jvm.MethodName) prog_7_method_29_code (2 : Nat) (Option.some Jvm.ClassFile.FieldType.int) ∈ za_Ts := z_mt3 88 rfl rfl
theorem zw_686 : Jvm.Cond.methodLink "LyndonBench$Word" (70 : Nat) ({ cls := "LyndonBench$Word", name := "hasPeriod", desc := "(I)Z" } : Jvm.MethodName) ∈ za_Ts := z_mt3 89 rfl rfl
theorem zw_688 : Jvm.Cond.instanceMethod ({ cls := "LyndonBench$Word", name := "hasPeriod", desc := "(I)Z" } : Jvm.MethodName) ∈ za_Ts := z_mt3 91 rfl rfl
theorem zw_689 : Jvm.Cond.code ({ cls := "LyndonBench$Word", name := "hasPeriod", desc := "(I)Z" } : Jvm.MethodName) prog_7_method_28_code (3 : Nat) (Option.some Jvm.ClassFile.FieldType.boolean) ∈ za_Ts := z_mt3 92 rfl rfl
theorem zw_690 : Jvm.Cond.methodLink "LyndonBench" (156 : Nat) ({ cls := "LyndonBench$Word", name := "leastTurn", desc := "()I" } : Jvm.MethodName) ∈ za_Ts := z_mt3 93 rfl rfl
theorem zw_691 : Jvm.Cond.methodLink "LyndonBenchLaw" (242 : Nat) ({ cls := "LyndonBench", name := "isNecklace", desc := "()Z" } : Jvm.MethodName) ∈ za_Ts := z_mt3 94 rfl rfl
theorem zw_692 : Jvm.Cond.instanceMethod ({ cls := "LyndonBench", name := "isNecklace", desc := "()Z" } : Jvm.MethodName) ∈ za_Ts := z_mt3 95 rfl rfl
theorem zw_693 : Jvm.Cond.selects "LyndonBench" ({ cls := "LyndonBench", name := "isNecklace", desc := "()Z" } : Jvm.MethodName) ({ cls := "LyndonBench", name := "isNecklace", desc := "()Z" } : Jvm.MethodName) ∈ za_Ts := z_mt3 96 rfl rfl
theorem zw_694 : Jvm.Cond.code ({ cls := "LyndonBench", name := "isNecklace", desc := "()Z" } : Jvm.MethodName) prog_1_method_39_code (1 : Nat) (Option.some Jvm.ClassFile.FieldType.boolean) ∈ za_Ts := z_mt3 97 rfl rfl
theorem zw_695 : Jvm.Cond.methodLink "LyndonBenchLaw" (246 : Nat) ({ cls := "LyndonBench", name := "isPrenecklace", desc := "()Z" } : Jvm.MethodName) ∈ za_Ts := z_mt3 98 rfl rfl
theorem zw_696 : Jvm.Cond.instanceMethod ({ cls := "LyndonBench", name := "isPrenecklace", desc := "()Z" } : Jvm.MethodName) ∈ za_Ts := z_mt3 99 rfl rfl
theorem zw_697 : Jvm.Cond.selects "LyndonBench" ({ cls := "LyndonBench", name := "isPrenecklace", desc := "()Z" } : Jvm.MethodName) ({ cls := "LyndonBench", name := "isPrenecklace", desc := "()Z" } : Jvm.MethodName) ∈ za_Ts := z_mt3 100 rfl rfl
theorem zw_698 : Jvm.Cond.code ({ cls := "LyndonBench", name := "isPrenecklace", desc := "()Z" } : Jvm.MethodName) prog_1_method_40_code (1 : Nat) (Option.some Jvm.ClassFile.FieldType.boolean) ∈ za_Ts := z_mt3 101 rfl rfl
theorem zw_699 : Jvm.Cond.methodLink "LyndonBench" (256 : Nat) ({ cls := "LyndonBench$Word", name := "beginsNecklace", desc := "()Z" } : Jvm.MethodName) ∈ za_Ts := z_mt3 102 rfl rfl
theorem zw_700 : Jvm.Cond.instanceMethod ({ cls := "LyndonBench$Word", name := "beginsNecklace", desc := "()Z" } : Jvm.MethodName) ∈ za_Ts := z_mt3 103 rfl rfl
theorem zw_701 : Jvm.Cond.selects "LyndonBench$Word" ({ cls := "LyndonBench$Word", name := "beginsNecklace", desc := "()Z" } : Jvm.MethodName) ({ cls := "LyndonBench$Word", name := "beginsNecklace", desc := "()Z" } : Jvm.MethodName) ∈ za_Ts := z_mt3 104 rfl rfl
theorem zw_702 : Jvm.Cond.code ({ cls := "LyndonBench$Word", name := "beginsNecklace", desc := "()Z" } : Jvm.MethodName) prog_7_method_27_code (1 : Nat) (Option.some Jvm.ClassFile.FieldType.boolean) ∈ za_Ts := z_mt3 105 rfl rfl
theorem zw_703 : Jvm.Cond.methodLink "LyndonBenchLaw" (250 : Nat) ({ cls := "LyndonBench", name := "keepingLetter", desc := "()I" } : Jvm.MethodName) ∈ za_Ts := z_mt3 106 rfl rfl
theorem zw_704 : Jvm.Cond.instanceMethod ({ cls := "LyndonBench", name := "keepingLetter", desc := "()I" } : Jvm.MethodName) ∈ za_Ts := z_mt3 107 rfl rfl
theorem zw_705 : Jvm.Cond.selects "LyndonBench" ({ cls := "LyndonBench", name := "keepingLetter", desc := "()I" } : Jvm.MethodName) ({ cls := "LyndonBench", name := "keepingLetter", desc := "()I" } : Jvm.MethodName) ∈ za_Ts := z_mt3 108 rfl rfl
theorem zw_706 : Jvm.Cond.code ({ cls := "LyndonBench", name := "keepingLetter", desc := "()I" } : Jvm.MethodName) prog_1_method_41_code (1 : Nat) (Option.some Jvm.ClassFile.FieldType.int) ∈ za_Ts := z_mt3 109 rfl rfl
theorem zw_707 : Jvm.Cond.methodLink "LyndonBench" (175 : Nat) ({ cls := "LyndonBench$Word", name := "lyndonEnd", desc := "(I)I" } : Jvm.MethodName) ∈ za_Ts := z_mt3 110 rfl rfl
theorem zw_708 : Jvm.Cond.methodLink "LyndonBenchLaw" (254 : Nat) ({ cls := "LyndonBench", name := "leastRotation", desc := "()I" } : Jvm.MethodName) ∈ za_Ts := z_mt3 111 rfl rfl
theorem zw_709 : Jvm.Cond.instanceMethod ({ cls := "LyndonBench", name := "leastRotation", desc := "()I" } : Jvm.MethodName) ∈ za_Ts := z_mt3 112 rfl rfl
theorem zw_710 : Jvm.Cond.selects "LyndonBench" ({ cls := "LyndonBench", name := "leastRotation", desc := "()I" } : Jvm.MethodName) ({ cls := "LyndonBench", name := "leastRotation", desc := "()I" } : Jvm.MethodName) ∈ za_Ts := z_mt3 113 rfl rfl
theorem zw_711 : Jvm.Cond.code ({ cls := "LyndonBench", name := "leastRotation", desc := "()I" } : Jvm.MethodName) prog_1_method_42_code (1 : Nat) (Option.some Jvm.ClassFile.FieldType.int) ∈ za_Ts := z_mt3 114 rfl rfl
theorem zw_712 : Jvm.Cond.methodLink "LyndonBenchLaw" (258 : Nat) ({ cls := "LyndonBench", name := "rotationCount", desc := "()I" } : Jvm.MethodName) ∈ za_Ts := z_mt3 115 rfl rfl
theorem zw_713 : Jvm.Cond.instanceMethod ({ cls := "LyndonBench", name := "rotationCount", desc := "()I" } : Jvm.MethodName) ∈ za_Ts := z_mt3 116 rfl rfl
theorem zw_714 : Jvm.Cond.selects "LyndonBench" ({ cls := "LyndonBench", name := "rotationCount", desc := "()I" } : Jvm.MethodName) ({ cls := "LyndonBench", name := "rotationCount", desc := "()I" } : Jvm.MethodName) ∈ za_Ts := z_mt3 117 rfl rfl
theorem zw_715 : Jvm.Cond.code ({ cls := "LyndonBench", name := "rotationCount", desc := "()I" } : Jvm.MethodName) prog_1_method_43_code (1 : Nat) (Option.some Jvm.ClassFile.FieldType.int) ∈ za_Ts := z_mt3 118 rfl rfl
theorem zw_716 : Jvm.Cond.methodLink "LyndonBenchLaw" (262 : Nat) ({ cls := "LyndonBench", name := "smallestPeriod", desc := "()I" } : Jvm.MethodName) ∈ za_Ts := z_mt3 119 rfl rfl
theorem zw_717 : Jvm.Cond.instanceMethod ({ cls := "LyndonBench", name := "smallestPeriod", desc := "()I" } : Jvm.MethodName) ∈ za_Ts := z_mt3 120 rfl rfl
theorem zw_718 : Jvm.Cond.selects "LyndonBench" ({ cls := "LyndonBench", name := "smallestPeriod", desc := "()I" } : Jvm.MethodName) ({ cls := "LyndonBench", name := "smallestPeriod", desc := "()I" } : Jvm.MethodName) ∈ za_Ts := z_mt3 121 rfl rfl
theorem zw_719 : Jvm.Cond.code ({ cls := "LyndonBench", name := "smallestPeriod", desc := "()I" } : Jvm.MethodName) prog_1_method_44_code (1 : Nat) (Option.some Jvm.ClassFile.FieldType.int) ∈ za_Ts := z_mt3 122 rfl rfl
theorem zw_720 : Jvm.Cond.methodLink "LyndonBench" (259 : Nat) ({ cls := "LyndonBench$Word", name := "leastPeriod", desc := "()I" } : Jvm.MethodName) ∈ za_Ts := z_mt3 123 rfl rfl
theorem zw_721 : Jvm.Cond.methodLink "LyndonBenchLaw" (266 : Nat) ({ cls := "LyndonBench", name := "longestBorder", desc := "()I" } : Jvm.MethodName) ∈ za_Ts := z_mt3 124 rfl rfl
theorem zw_722 : Jvm.Cond.instanceMethod ({ cls := "LyndonBench", name := "longestBorder", desc := "()I" } : Jvm.MethodName) ∈ za_Ts := z_mt3 125 rfl rfl
theorem zw_723 : Jvm.Cond.selects "LyndonBench" ({ cls := "LyndonBench", name := "longestBorder", desc := "()I" } : Jvm.MethodName) ({ cls := "LyndonBench", name := "longestBorder", desc := "()I" } : Jvm.MethodName) ∈ za_Ts := z_mt3 126 rfl rfl
theorem zw_724 : Jvm.Cond.code ({ cls := "LyndonBench", name := "longestBorder", desc := "()I" } : Jvm.MethodName) prog_1_method_45_code (1 : Nat) (Option.some Jvm.ClassFile.FieldType.int) ∈ za_Ts := z_mt3 127 rfl rfl
theorem zw_725 : Jvm.Cond.methodLink "LyndonBenchLaw" (270 : Nat) ({ cls := "LyndonBench", name := "leastSuffix", desc := "()I" } : Jvm.MethodName) ∈ za_Ts := z_mt3 128 rfl rfl
theorem zw_726 : Jvm.Cond.instanceMethod ({ cls := "LyndonBench", name := "leastSuffix", desc := "()I" } : Jvm.MethodName) ∈ za_Ts := z_mt3 129 rfl rfl
theorem zw_727 : Jvm.Cond.selects "LyndonBench" ({ cls := "LyndonBench", name := "leastSuffix", desc := "()I" } : Jvm.MethodName) ({ cls := "LyndonBench", name := "leastSuffix", desc := "()I" } : Jvm.MethodName) ∈ za_Ts := z_mt3 130 rfl rfl
theorem zw_728 : Jvm.Cond.code ({ cls := "LyndonBench", name := "leastSuffix", desc := "()I" } : Jvm.MethodName) prog_1_method_46_code (1 : Nat) (Option.some Jvm.ClassFile.FieldType.int) ∈ za_Ts := z_mt3 131 rfl rfl
theorem zw_729 : Jvm.Cond.methodLink "LyndonBench" (262 : Nat) ({ cls := "LyndonBench$Word", name := "extremeEnding", desc := "(I)I" } : Jvm.MethodName) ∈ za_Ts := z_mt3 132 rfl rfl
theorem zw_730 : Jvm.Cond.instanceMethod ({ cls := "LyndonBench$Word", name := "extremeEnding", desc := "(I)I" } : Jvm.MethodName) ∈ za_Ts := z_mt3 133 rfl rfl
theorem zw_731 : Jvm.Cond.selects "LyndonBench$Word" ({ cls := "LyndonBench$Word", name := "extremeEnding", desc := "(I)I" } : Jvm.MethodName) ({ cls := "LyndonBench$Word", name := "extremeEnding", desc := "(I)I" } : Jvm.MethodName) ∈ za_Ts := z_mt3 134 rfl rfl
theorem zw_732 : Jvm.Cond.code ({ cls := "LyndonBench$Word", name := "extremeEnding", desc := "(I)I" } : Jvm.MethodName) prog_7_method_33_code (4 : Nat) (Option.some Jvm.ClassFile.FieldType.int) ∈ za_Ts := z_mt3 135 rfl rfl
theorem zw_733 : Jvm.Cond.methodLink "LyndonBenchLaw" (274 : Nat) ({ cls := "LyndonBench", name := "greatestSuffix", desc := "()I" } : Jvm.MethodName) ∈ za_Ts := z_mt3 136 rfl rfl
theorem zw_734 : Jvm.Cond.instanceMethod ({ cls := "LyndonBench", name := "greatestSuffix", desc := "()I" } : Jvm.MethodName) ∈ za_Ts := z_mt3 137 rfl rfl
theorem zw_735 : Jvm.Cond.selects "LyndonBench" ({ cls := "LyndonBench", name := "greatestSuffix", desc := "()I" } : Jvm.MethodName) ({ cls := "LyndonBench", name := "greatestSuffix", desc := "()I" } : Jvm.MethodName) ∈ za_Ts := z_mt3 138 rfl rfl
theorem zw_736 : Jvm.Cond.code ({ cls := "LyndonBench", name := "greatestSuffix", desc := "()I" } : Jvm.MethodName) prog_1_method_47_code (1 : Nat) (Option.some Jvm.ClassFile.FieldType.int) ∈ za_Ts := z_mt3 139 rfl rfl
theorem zw_737 : Jvm.Cond.methodLink "LyndonBenchLaw" (287 : Nat) ({ cls := "LyndonBench", name := "keptCount", desc := "()I" } : Jvm.MethodName) ∈ za_Ts := z_mt3 140 rfl rfl
theorem zw_738 : Jvm.Cond.instanceMethod ({ cls := "LyndonBench", name := "keptCount", desc := "()I" } : Jvm.MethodName) ∈ za_Ts := z_mt3 141 rfl rfl
theorem zw_739 : Jvm.Cond.selects "LyndonBench" ({ cls := "LyndonBench", name := "keptCount", desc := "()I" } : Jvm.MethodName) ({ cls := "LyndonBench", name := "keptCount", desc := "()I" } : Jvm.MethodName) ∈ za_Ts := z_mt3 142 rfl rfl
theorem zw_740 : Jvm.Cond.code ({ cls := "LyndonBench", name := "keptCount", desc := "()I" } : Jvm.MethodName) prog_1_method_51_code (1 : Nat) (Option.some Jvm.ClassFile.FieldType.int) ∈ za_Ts := z_mt3 143 rfl rfl
theorem zw_741 : Jvm.Cond.methodLink "LyndonBenchLaw" (297 : Nat) ({ cls := "LyndonBench", name := "isShelfFalling", desc := "()Z" } : Jvm.MethodName) ∈ za_Ts := z_mt3 144 rfl rfl
theorem zw_742 : Jvm.Cond.instanceMethod ({ cls := "LyndonBench", name := "isShelfFalling", desc := "()Z" } : Jvm.MethodName) ∈ za_Ts := z_mt3 145 rfl rfl
theorem zw_743 : Jvm.Cond.selects "LyndonBench" ({ cls := "LyndonBench", name := "isShelfFalling", desc := "()Z" } : Jvm.MethodName) ({ cls := "LyndonBench", name := "isShelfFalling", desc := "()Z" } : Jvm.MethodName) ∈ za_Ts := z_mt3 146 rfl rfl
theorem zw_744 : Jvm.Cond.code ({ cls := "LyndonBench", name := "isShelfFalling", desc := "()Z" } : Jvm.MethodName) prog_1_method_54_code (4 : Nat) (Option.some Jvm.ClassFile.FieldType.boolean) ∈ za_Ts := z_mt3 147 rfl rfl
theorem zw_745 : Jvm.Cond.methodLink "LyndonBench" (188 : Nat) ({ cls := "LyndonBench$State", name := "keptAt", desc := "(I)LLyndonBench$Word;" } : Jvm.MethodName) ∈ za_Ts := z_mt3 148 rfl rfl
theorem zw_746 : Jvm.Cond.methodLink "LyndonBench" (226 : Nat) ({ cls := "LyndonBench$Word", name := "order", desc := "(IILLyndonBench$Word;II)I" } : Jvm.MethodName) ∈ za_Ts := z_mt3 149 rfl rfl
theorem zw_747 : Jvm.Cond.methodLink "LyndonBenchLaw" (301 : Nat) ({ cls := "LyndonBench", name := "greatestKept", desc := "()I" } : Jvm.MethodName) ∈ za_Ts := z_mt3 150 rfl rfl
theorem zw_748 : Jvm.Cond.instanceMethod ({ cls := "LyndonBench", name := "greatestKept", desc := "()I" } : Jvm.MethodName) ∈ za_Ts := z_mt3 151 rfl rfl
theorem zw_749 : Jvm.Cond.selects "LyndonBench" ({ cls := "LyndonBench", name := "greatestKept", desc := "()I" } : Jvm.MethodName) ({ cls := "LyndonBench", name := "greatestKept", desc := "()I" } : Jvm.MethodName) ∈ za_Ts := z_mt3 152 rfl rfl
theorem zw_750 : Jvm.Cond.code ({ cls := "LyndonBench", name := "greatestKept", desc := "()I" } : Jvm.MethodName) prog_1_method_55_code (1 : Nat) (Option.some Jvm.ClassFile.FieldType.int) ∈ za_Ts := z_mt3 153 rfl rfl
theorem zw_751 : Jvm.Cond.methodLink "LyndonBench" (286 : Nat) ({ cls := "LyndonBench$State", name := "greatestOfShelf", desc := "(I)I" } : Jvm.MethodName) ∈ za_Ts := z_mt3 154 rfl rfl
theorem zw_752 : Jvm.Cond.methodLink "LyndonBenchLaw" (305 : Nat) ({ cls := "LyndonBench", name := "meanFactor", desc := "()D" } : Jvm.MethodName) ∈ za_Ts := z_mt3 155 rfl rfl
theorem zw_753 : Jvm.Cond.instanceMethod ({ cls := "LyndonBench", name := "meanFactor", desc := "()D" } : Jvm.MethodName) ∈ za_Ts := z_mt3 156 rfl rfl
theorem zw_754 : Jvm.Cond.selects "LyndonBench" ({ cls := "LyndonBench", name := "meanFactor", desc := "()D" } : Jvm.MethodName) ({ cls := "LyndonBench", name := "meanFactor", desc := "()D" } : Jvm.MethodName) ∈ za_Ts := z_mt3 157 rfl rfl
theorem zw_755 : Jvm.Cond.code ({ cls := "LyndonBench", name := "meanFactor", desc := "()D" } : Jvm.MethodName) prog_1_method_56_code (2 : Nat) (Option.some Jvm.ClassFile.FieldType.double) ∈ za_Ts := z_mt3 158 rfl rfl
theorem zw_756 : Jvm.Cond.methodLink "LyndonBenchLaw" (310 : Nat) ({ cls := "LyndonBench", name := "lyndonShare", desc := "()F" } : Jvm.MethodName) ∈ za_Ts := z_mt3 159 rfl rfl
theorem zw_757 : Jvm.Cond.instanceMethod ({ cls := "LyndonBench", name := "lyndonShare", desc := "()F" } : Jvm.MethodName) ∈ za_Ts := z_mt3 160 rfl rfl
theorem zw_758 : Jvm.Cond.selects "LyndonBench" ({ cls := "LyndonBench", name := "lyndonShare", desc := "()F" } : Jvm.MethodName) ({ cls := "LyndonBench", name := "lyndonShare", desc := "()F" } : Jvm.MethodName) ∈ za_Ts := z_mt3 161 rfl rfl
theorem zw_759 : Jvm.Cond.code ({ cls := "LyndonBench", name := "lyndonShare", desc := "()F" } : Jvm.MethodName) prog_1_method_57_code (3 : Nat) (Option.some Jvm.ClassFile.FieldType.float) ∈ za_Ts := z_mt3 162 rfl rfl
theorem zw_760 : Jvm.Cond.fieldLink "LyndonBench" (268 : Nat) "LyndonBench" "MOEBIUS" "[I" ∈ za_Ts := z_mt3 163 rfl rfl
theorem zw_762 : Jvm.Cond.methodLink "LyndonBench" (272 : Nat) ({ cls := "LyndonBench", name := "weighPowers", desc := "(II[I)J" } : Jvm.MethodName) ∈ za_Ts := z_mt3 165 rfl rfl
theorem zw_763 : Jvm.Cond.static ({ cls := "LyndonBench", name := "weighPowers", desc := "(II[I)J" } : Jvm.MethodName) ∈ za_Ts := z_mt3 166 rfl rfl
theorem zw_764 : Jvm.Cond.code ({ cls := "LyndonBench", name := "weighPowers", desc := "(II[I)J" } : Jvm.MethodName) prog_1_method_67_code (6 : Nat) (Option.some Jvm.ClassFile.FieldType.long) ∈ za_Ts := z_mt3 167 rfl rfl
theorem zw_765 : Jvm.Cond.methodLink "LyndonBench" (310 : Nat) ({ cls := "LyndonBench", name := "power", desc := "(II)J" } : Jvm.MethodName) ∈ za_Ts := z_mt3 168 rfl rfl
theorem zw_766 : Jvm.Cond.static ({ cls := "LyndonBench", name := "power", desc := "(II)J" } : Jvm.MethodName) ∈ za_Ts := z_mt3 169 rfl rfl
theorem zw_767 : Jvm.Cond.code ({ cls := "LyndonBench", name := "power", desc := "(II)J" } : Jvm.MethodName) prog_1_method_68_code (5 : Nat) (Option.some Jvm.ClassFile.FieldType.long) ∈ za_Ts := z_mt3 170 rfl rfl
theorem zw_768 : Jvm.Cond.fieldLink "LyndonBench" (276 : Nat) "LyndonBench" "TOTIENT" "[I" ∈ za_Ts := z_mt3 171 rfl rfl
theorem zw_770 : Jvm.Cond.methodLink "LyndonBenchLaw" (315 : Nat) ({ cls := "LyndonBench", name := "violations", desc := "()I" } : Jvm.MethodName) ∈ za_Ts := z_mt3 173 rfl rfl
theorem zw_771 : Jvm.Cond.instanceMethod ({ cls := "LyndonBench", name := "violations", desc := "()I" } : Jvm.MethodName) ∈ za_Ts := z_mt3 174 rfl rfl
theorem zw_772 : Jvm.Cond.selects "LyndonBench" ({ cls := "LyndonBench", name := "violations", desc := "()I" } : Jvm.MethodName) ({ cls := "LyndonBench", name := "violations", desc := "()I" } : Jvm.MethodName) ∈ za_Ts := z_mt3 175 rfl rfl
theorem zw_773 : Jvm.Cond.code ({ cls := "LyndonBench", name := "violations", desc := "()I" } : Jvm.MethodName) prog_1_method_58_code (7 : Nat) (Option.some Jvm.ClassFile.FieldType.int) ∈ za_Ts := z_mt3 176 rfl rfl
theorem zw_774 : Jvm.Cond.methodLink "LyndonBench" (289 : Nat) ({ cls := "LyndonBench$Word", name := "isLyndonPart", desc := "(II)Z" } : Jvm.MethodName) ∈ za_Ts := z_mt3 177 rfl rfl
theorem zw_775 : Jvm.Cond.instanceMethod ({ cls := "LyndonBench$Word", name := "isLyndonPart", desc := "(II)Z" } : Jvm.MethodName) ∈ za_Ts := z_mt3 178 rfl rfl
theorem zw_776 : Jvm.Cond.selects "LyndonBench$Word" ({ cls := "LyndonBench$Word", name := "isLyndonPart", desc := "(II)Z" } : Jvm.MethodName) ({ cls := "LyndonBench$Word", name := "isLyndonPart", desc := "(II)Z" } : Jvm.MethodName) ∈ za_Ts := z_mt3 179 rfl rfl
theorem zw_777 : Jvm.Cond.code ({ cls := "LyndonBench$Word", name := "isLyndonPart", desc := "(II)Z" } : Jvm.MethodName) prog_7_method_26_code (4 : Nat) (Option.some Jvm.ClassFile.FieldType.boolean) ∈ za_Ts := z_mt3 180 rfl rfl
theorem zw_778 : Jvm.Cond.methodLink "LyndonBenchLaw" (319 : Nat) ({ cls := "LyndonBench", name := "writeFactors", desc := "()I" } : Jvm.MethodName) ∈ za_Ts := z_mt3 181 rfl rfl
theorem zw_779 : Jvm.Cond.instanceMethod ({ cls := "LyndonBench", name := "writeFactors", desc := "()I" } : Jvm.MethodName) ∈ za_Ts := z_mt3 182 rfl rfl
theorem zw_780 : Jvm.Cond.selects "LyndonBench" ({ cls := "LyndonBench", name := "writeFactors", desc := "()I" } : Jvm.MethodName) ({ cls := "LyndonBench", name := "writeFactors", desc := "()I" } : Jvm.MethodName) ∈ za_Ts := z_mt3 183 rfl rfl
theorem zw_781 : Jvm.Cond.code ({ cls := "LyndonBench", name := "writeFactors", desc := "()I" } : Jvm.MethodName) prog_1_method_59_code (6 : Nat) (Option.some Jvm.ClassFile.FieldType.int) ∈ za_Ts := z_mt3 184 rfl rfl
theorem zw_782 : Jvm.Cond.methodLink "LyndonBench" (230 : Nat) ({ cls := "LyndonBench$Word", name := "countFactorsLike", desc := "(II)I" } : Jvm.MethodName) ∈ za_Ts := z_mt3 185 rfl rfl
theorem zw_783 : Jvm.Cond.instanceMethod ({ cls := "LyndonBench$Word", name := "countFactorsLike", desc := "(II)I" } : Jvm.MethodName) ∈ za_Ts := z_mt3 186 rfl rfl
theorem zw_784 : Jvm.Cond.selects "LyndonBench$Word" ({ cls := "LyndonBench$Word", name := "countFactorsLike", desc := "(II)I" } : Jvm.MethodName) ({ cls := "LyndonBench$Word", name := "countFactorsLike", desc := "(II)I" } : Jvm.MethodName) ∈ za_Ts := z_mt3 187 rfl rfl
theorem zw_785 : Jvm.Cond.code ({ cls := "LyndonBench$Word", name := "countFactorsLike", desc := "(II)I" } : Jvm.MethodName) prog_7_method_25_code (8 : Nat) (Option.some Jvm.ClassFile.FieldType.int) ∈ za_Ts := z_mt3 188 rfl rfl
theorem zw_786 : Jvm.Cond.methodLink "LyndonBench" (131 : Nat) ({ cls := "LyndonBench$Word", name := "add", desc := "(I)V" } : Jvm.MethodName) ∈ za_Ts := z_mt3 189 rfl rfl
theorem zw_787 : Jvm.Cond.methodLink "LyndonBench" (125 : Nat) ({ cls := "LyndonBench$Word", name := "addPart", desc := "(LLyndonBench$Word;II)V" } : Jvm.MethodName) ∈ za_Ts := z_mt3 190 rfl rfl
theorem zw_788 : Jvm.Cond.methodLink "LyndonBench" (292 : Nat) ({ cls := "LyndonBench$Word", name := "addNumber", desc := "(I)V" } : Jvm.MethodName) ∈ za_Ts := z_mt3 191 rfl rfl
theorem zw_789 : Jvm.Cond.instanceMethod ({ cls := "LyndonBench$Word", name := "addNumber", desc := "(I)V" } : Jvm.MethodName) ∈ za_Ts := z_mt3 192 rfl rfl
theorem zw_790 : Jvm.Cond.selects "LyndonBench$Word" ({ cls := "LyndonBench$Word", name := "addNumber", desc := "(I)V" } : Jvm.MethodName) ({ cls := "LyndonBench$Word", name := "addNumber", desc := "(I)V" } : Jvm.MethodName) ∈ za_Ts := z_mt3 193 rfl rfl
theorem zw_791 : Jvm.Cond.code ({ cls := "LyndonBench$Word", name := "addNumber", desc := "(I)V" } : Jvm.MethodName) prog_7_method_9_code (2 : Nat) (Option.none : Option Jvm.ClassFile.FieldType) ∈ za_Ts := z_mt3 194 rfl rfl
theorem zw_792 : Jvm.Cond.methodLink "LyndonBenchLaw" (323 : Nat) ({ cls := "LyndonBench", name := "reportByte", desc := "(I)I" } : Jvm.MethodName) ∈ za_Ts := z_mt3 195 rfl rfl
theorem zw_793 : Jvm.Cond.instanceMethod ({ cls := "LyndonBench", name := "reportByte", desc := "(I)I" } : Jvm.MethodName) ∈ za_Ts := z_mt3 196 rfl rfl
theorem zw_794 : Jvm.Cond.selects "LyndonBench" ({ cls := "LyndonBench", name := "reportByte", desc := "(I)I" } : Jvm.MethodName) ({ cls := "LyndonBench", name := "reportByte", desc := "(I)I" } : Jvm.MethodName) ∈ za_Ts := z_mt3 197 rfl rfl
theorem zw_795 : Jvm.Cond.code ({ cls := "LyndonBench", name := "reportByte", desc := "(I)I" } : Jvm.MethodName) prog_1_method_60_code (2 : Nat) (Option.some Jvm.ClassFile.FieldType.int) ∈ za_Ts := z_mt3 198 rfl rfl
theorem zw_796 : Jvm.Cond.methodLink "LyndonBenchLaw" (109 : Nat) ({ cls := "LyndonBenchLaw", name := "truncateInput", desc := "(LLyndonBench;I[J)I" } : Jvm.MethodName) ∈ za_Ts := z_mt3 199 rfl rfl
theorem zw_797 : Jvm.Cond.static ({ cls := "LyndonBenchLaw", name := "truncateInput", desc := "(LLyndonBench;I[J)I" } : Jvm.MethodName) ∈ za_Ts := z_mt3 200 rfl rfl
theorem zw_798 : Jvm.Cond.codeWith ({ cls := "LyndonBenchLaw", name := "truncateInput", desc := "(LLyndonBench;I[J)I" } : Jvm.MethodName) method_3_code (4 : Nat) (Option.some Jvm.ClassFile.FieldType.int) [((0 : Nat), (9 : Nat), (12 : Nat), (13 : Nat))] ∈ za_Ts := z_mt3 201 rfl rfl
theorem zw_799 : Jvm.Cond.classLink "LyndonBenchLaw" (13 : Nat) "java/lang/IllegalArgumentException" ∈ za_Ts := z_mt3 202 rfl rfl
theorem zw_800 : Jvm.Cond.methodLink "LyndonBenchLaw" (7 : Nat) ({ cls := "LyndonBench", name := "truncateInput", desc := "(I)I" } : Jvm.MethodName) ∈ za_Ts := z_mt3 203 rfl rfl
theorem zw_801 : Jvm.Cond.instanceMethod ({ cls := "LyndonBench", name := "truncateInput", desc := "(I)I" } : Jvm.MethodName) ∈ za_Ts := z_mt3 204 rfl rfl
theorem zw_802 : Jvm.Cond.selects "LyndonBench" ({ cls := "LyndonBench", name := "truncateInput", desc := "(I)I" } : Jvm.MethodName) ({ cls := "LyndonBench", name := "truncateInput", desc := "(I)I" } : Jvm.MethodName) ∈ za_Ts := z_mt3 205 rfl rfl
theorem zw_803 : Jvm.Cond.code ({ cls := "LyndonBench", name := "truncateInput", desc := "(I)I" } : Jvm.MethodName) prog_1_method_3_code (2 : Nat) (Option.some Jvm.ClassFile.FieldType.int) ∈ za_Ts := z_mt3 206 rfl rfl
theorem zw_804 : Jvm.Cond.classLink "LyndonBench" (77 : Nat) "java/lang/IllegalArgumentException" ∈ za_Ts := z_mt3 207 rfl rfl
theorem zw_872 : Jvm.Cond.methodLink "LyndonBench" (83 : Nat) ({ cls := "LyndonBench$Word", name := "shortenTo", desc := "(I)V" } : Jvm.MethodName) ∈ za_Ts := z_mt4 35 rfl rfl
theorem zw_873 : Jvm.Cond.methodLink "LyndonBenchLaw" (119 : Nat) ({ cls := "LyndonBenchLaw", name := "setLetters", desc := "(LLyndonBench;I[J)I" } : Jvm.MethodName) ∈ za_Ts := z_mt4 36 rfl rfl
theorem zw_874 : Jvm.Cond.static ({ cls := "LyndonBenchLaw", name := "setLetters", desc := "(LLyndonBench;I[J)I" } : Jvm.MethodName) ∈ za_Ts := z_mt4 37 rfl rfl
theorem zw_875 : Jvm.Cond.codeWith ({ cls := "LyndonBenchLaw", name := "setLetters", desc := "(LLyndonBench;I[J)I" } : Jvm.MethodName) method_4_code (4 : Nat) (Option.some Jvm.ClassFile.FieldType.int) [((0 : Nat), (9 : Nat), (12 : Nat), (13 : Nat)), ((0 : Nat), (9 : Nat), (15 : Nat), (18 : Nat))] ∈ za_Ts := z_mt4 38 rfl rfl
theorem zw_876 : Jvm.Cond.classLink "LyndonBenchLaw" (18 : Nat) "java/lang/IllegalStateException" ∈ za_Ts := z_mt4 39 rfl rfl
theorem zw_877 : Jvm.Cond.methodLink "LyndonBenchLaw" (15 : Nat) ({ cls := "LyndonBench", name := "setLetters", desc := "(I)I" } : Jvm.MethodName) ∈ za_Ts := z_mt4 40 rfl rfl
theorem zw_878 : Jvm.Cond.instanceMethod ({ cls := "LyndonBench", name := "setLetters", desc := "(I)I" } : Jvm.MethodName) ∈ za_Ts := z_mt4 41 rfl rfl
theorem zw_879 : Jvm.Cond.selects "LyndonBench" ({ cls := "LyndonBench", name := "setLetters", desc := "(I)I" } : Jvm.MethodName) ({ cls := "LyndonBench", name := "setLetters", desc := "(I)I" } : Jvm.MethodName) ∈ za_Ts := z_mt4 42 rfl rfl
theorem zw_880 : Jvm.Cond.code ({ cls := "LyndonBench", name := "setLetters", desc := "(I)I" } : Jvm.MethodName) prog_1_method_5_code (3 : Nat) (Option.some Jvm.ClassFile.FieldType.int) ∈ za_Ts := z_mt4 43 rfl rfl
theorem zw_882 : Jvm.Cond.methodLink "LyndonBench" (104 : Nat) ({ cls := "LyndonBench$State", name := "fitsLetters", desc := "(I)Z" } : Jvm.MethodName) ∈ za_Ts := z_mt4 45 rfl rfl
theorem zw_883 : Jvm.Cond.instanceMethod ({ cls := "LyndonBench$State", name := "fitsLetters", desc := "(I)Z" } : Jvm.MethodName) ∈ za_Ts := z_mt4 46 rfl rfl
theorem zw_884 : Jvm.Cond.selects "LyndonBench$State" ({ cls := "LyndonBench$State", name := "fitsLetters", desc := "(I)Z" } : Jvm.MethodName) ({ cls := "LyndonBench$State", name := "fitsLetters", desc := "(I)Z" } : Jvm.MethodName) ∈ za_Ts := z_mt4 47 rfl rfl
theorem zw_885 : Jvm.Cond.code ({ cls := "LyndonBench$State", name := "fitsLetters", desc := "(I)Z" } : Jvm.MethodName) prog_6_method_6_code (4 : Nat) (Option.some Jvm.ClassFile.FieldType.boolean) ∈ za_Ts := z_mt4 48 rfl rfl
theorem zw_886 : Jvm.Cond.methodLink "LyndonBench$State" (49 : Nat) ({ cls := "LyndonBench$Word", name := "fitsLetters", desc := "(I)Z" } : Jvm.MethodName) ∈ za_Ts := z_mt4 49 rfl rfl
theorem zw_887 : Jvm.Cond.instanceMethod ({ cls := "LyndonBench$Word", name := "fitsLetters", desc := "(I)Z" } : Jvm.MethodName) ∈ za_Ts := z_mt4 50 rfl rfl
theorem zw_888 : Jvm.Cond.selects "LyndonBench$Word" ({ cls := "LyndonBench$Word", name := "fitsLetters", desc := "(I)Z" } : Jvm.MethodName) ({ cls := "LyndonBench$Word", name := "fitsLetters", desc := "(I)Z" } : Jvm.MethodName) ∈ za_Ts := z_mt4 51 rfl rfl
theorem zw_889 : Jvm.Cond.code ({ cls := "LyndonBench$Word", name := "fitsLetters", desc := "(I)Z" } : Jvm.MethodName) prog_7_method_15_code (3 : Nat) (Option.some Jvm.ClassFile.FieldType.boolean) ∈ za_Ts := z_mt4 52 rfl rfl
theorem zw_890 : Jvm.Cond.classLink "LyndonBench" (108 : Nat) "java/lang/IllegalStateException" ∈ za_Ts := z_mt4 53 rfl rfl
theorem zw_906 : Jvm.Cond.methodLink "LyndonBenchLaw" (125 : Nat) ({ cls := "LyndonBenchLaw", name := "readText", desc := "(LLyndonBench;[J)I" } : Jvm.MethodName) ∈ za_Ts := z_mt4 69 rfl rfl
theorem zw_907 : Jvm.Cond.static ({ cls := "LyndonBenchLaw", name := "readText", desc := "(LLyndonBench;[J)I" } : Jvm.MethodName) ∈ za_Ts := z_mt4 70 rfl rfl
theorem zw_908 : Jvm.Cond.codeWith ({ cls := "LyndonBenchLaw", name := "readText", desc := "(LLyndonBench;[J)I" } : Jvm.MethodName) method_5_code (3 : Nat) (Option.some Jvm.ClassFile.FieldType.int) [((0 : Nat), (8 : Nat), (11 : Nat), (18 : Nat))] ∈ za_Ts := z_mt4 71 rfl rfl
theorem zw_909 : Jvm.Cond.methodLink "LyndonBenchLaw" (20 : Nat) ({ cls := "LyndonBench", name := "readText", desc := "()I" } : Jvm.MethodName) ∈ za_Ts := z_mt4 72 rfl rfl
theorem zw_910 : Jvm.Cond.instanceMethod ({ cls := "LyndonBench", name := "readText", desc := "()I" } : Jvm.MethodName) ∈ za_Ts := z_mt4 73 rfl rfl
theorem zw_911 : Jvm.Cond.selects "LyndonBench" ({ cls := "LyndonBench", name := "readText", desc := "()I" } : Jvm.MethodName) ({ cls := "LyndonBench", name := "readText", desc := "()I" } : Jvm.MethodName) ∈ za_Ts := z_mt4 74 rfl rfl
theorem zw_912 : Jvm.Cond.code ({ cls := "LyndonBench", name := "readText", desc := "()I" } : Jvm.MethodName) prog_1_method_6_code (4 : Nat) (Option.some Jvm.ClassFile.FieldType.int) ∈ za_Ts := z_mt4 75 rfl rfl
theorem zw_913 : Jvm.Cond.methodLink "LyndonBench" (120 : Nat) ({ cls := "LyndonBench$State", name := "isLetter", desc := "(I)Z" } : Jvm.MethodName) ∈ za_Ts := z_mt4 76 rfl rfl
theorem zw_915 : Jvm.Cond.methodLink "LyndonBenchLaw" (129 : Nat) ({ cls := "LyndonBenchLaw", name := "appendLetter", desc := "(LLyndonBench;I[J)I" } : Jvm.MethodName) ∈ za_Ts := z_mt4 78 rfl rfl
theorem zw_916 : Jvm.Cond.static ({ cls := "LyndonBenchLaw", name := "appendLetter", desc := "(LLyndonBench;I[J)I" } : Jvm.MethodName) ∈ za_Ts := z_mt4 79 rfl rfl
theorem zw_917 : Jvm.Cond.codeWith ({ cls := "LyndonBenchLaw", name := "appendLetter", desc := "(LLyndonBench;I[J)I" } : Jvm.MethodName) method_6_code (4 : Nat) (Option.some Jvm.ClassFile.FieldType.int) [((0 : Nat), (9 : Nat), (12 : Nat), (13 : Nat)), ((0 : Nat), (9 : Nat), (15 : Nat), (18 : Nat))] ∈ za_Ts := z_mt4 80 rfl rfl
theorem zw_918 : Jvm.Cond.methodLink "LyndonBenchLaw" (24 : Nat) ({ cls := "LyndonBench", name := "appendLetter", desc := "(I)I" } : Jvm.MethodName) ∈ za_Ts := z_mt4 81 rfl rfl
theorem zw_919 : Jvm.Cond.instanceMethod ({ cls := "LyndonBench", name := "appendLetter", desc := "(I)I" } : Jvm.MethodName) ∈ za_Ts := z_mt4 82 rfl rfl
theorem zw_920 : Jvm.Cond.selects "LyndonBench" ({ cls := "LyndonBench", name := "appendLetter", desc := "(I)I" } : Jvm.MethodName) ({ cls := "LyndonBench", name := "appendLetter", desc := "(I)I" } : Jvm.MethodName) ∈ za_Ts := z_mt4 83 rfl rfl
theorem zw_921 : Jvm.Cond.code ({ cls := "LyndonBench", name := "appendLetter", desc := "(I)I" } : Jvm.MethodName) prog_1_method_7_code (2 : Nat) (Option.some Jvm.ClassFile.FieldType.int) ∈ za_Ts := z_mt4 84 rfl rfl
theorem zw_922 : Jvm.Cond.methodLink "LyndonBench" (128 : Nat) ({ cls := "LyndonBench", name := "checkLetter", desc := "(I)V" } : Jvm.MethodName) ∈ za_Ts := z_mt4 85 rfl rfl
theorem zw_924 : Jvm.Cond.instanceMethod ({ cls := "LyndonBench", name := "checkLetter", desc := "(I)V" } : Jvm.MethodName) ∈ za_Ts := z_mt4 87 rfl rfl
theorem zw_925 : Jvm.Cond.code ({ cls := "LyndonBench", name := "checkLetter", desc := "(I)V" } : Jvm.MethodName) prog_1_method_61_code (2 : Nat) (Option.none : Option Jvm.ClassFile.FieldType) ∈ za_Ts := z_mt4 88 rfl rfl
theorem zw_927 : Jvm.Cond.methodLink "LyndonBenchLaw" (132 : Nat) ({ cls := "LyndonBenchLaw", name := "dropLast", desc := "(LLyndonBench;I[J)I" } : Jvm.MethodName) ∈ za_Ts := z_mt4 90 rfl rfl
theorem zw_928 : Jvm.Cond.static ({ cls := "LyndonBenchLaw", name := "dropLast", desc := "(LLyndonBench;I[J)I" } : Jvm.MethodName) ∈ za_Ts := z_mt4 91 rfl rfl
theorem zw_929 : Jvm.Cond.codeWith ({ cls := "LyndonBenchLaw", name := "dropLast", desc := "(LLyndonBench;I[J)I" } : Jvm.MethodName) method_7_code (4 : Nat) (Option.some Jvm.ClassFile.FieldType.int) [((0 : Nat), (9 : Nat), (12 : Nat), (13 : Nat))] ∈ za_Ts := z_mt4 92 rfl rfl
theorem zw_930 : Jvm.Cond.methodLink "LyndonBenchLaw" (27 : Nat) ({ cls := "LyndonBench", name := "dropLast", desc := "(I)I" } : Jvm.MethodName) ∈ za_Ts := z_mt4 93 rfl rfl
theorem zw_931 : Jvm.Cond.instanceMethod ({ cls := "LyndonBench", name := "dropLast", desc := "(I)I" } : Jvm.MethodName) ∈ za_Ts := z_mt4 94 rfl rfl
theorem zw_932 : Jvm.Cond.selects "LyndonBench" ({ cls := "LyndonBench", name := "dropLast", desc := "(I)I" } : Jvm.MethodName) ({ cls := "LyndonBench", name := "dropLast", desc := "(I)I" } : Jvm.MethodName) ∈ za_Ts := z_mt4 95 rfl rfl
theorem zw_933 : Jvm.Cond.code ({ cls := "LyndonBench", name := "dropLast", desc := "(I)I" } : Jvm.MethodName) prog_1_method_8_code (2 : Nat) (Option.some Jvm.ClassFile.FieldType.int) ∈ za_Ts := z_mt4 96 rfl rfl
theorem zw_934 : Jvm.Cond.methodLink "LyndonBench" (138 : Nat) ({ cls := "LyndonBench", name := "checkCount", desc := "(I)V" } : Jvm.MethodName) ∈ za_Ts := z_mt4 97 rfl rfl
theorem zw_936 : Jvm.Cond.instanceMethod ({ cls := "LyndonBench", name := "checkCount", desc := "(I)V" } : Jvm.MethodName) ∈ za_Ts := z_mt4 99 rfl rfl
theorem zw_937 : Jvm.Cond.code ({ cls := "LyndonBench", name := "checkCount", desc := "(I)V" } : Jvm.MethodName) prog_1_method_62_code (2 : Nat) (Option.none : Option Jvm.ClassFile.FieldType) ∈ za_Ts := z_mt4 100 rfl rfl
theorem zw_939 : Jvm.Cond.methodLink "LyndonBenchLaw" (135 : Nat) ({ cls := "LyndonBenchLaw", name := "cutPart", desc := "(LLyndonBench;II[J)I" } : Jvm.MethodName) ∈ za_Ts := z_mt4 102 rfl rfl
theorem zw_940 : Jvm.Cond.static ({ cls := "LyndonBenchLaw", name := "cutPart", desc := "(LLyndonBench;II[J)I" } : Jvm.MethodName) ∈ za_Ts := z_mt4 103 rfl rfl
theorem zw_941 : Jvm.Cond.codeWith ({ cls := "LyndonBenchLaw", name := "cutPart", desc := "(LLyndonBench;II[J)I" } : Jvm.MethodName) method_8_code (5 : Nat) (Option.some Jvm.ClassFile.FieldType.int) [((0 : Nat), (10 : Nat), (13 : Nat), (13 : Nat))] ∈ za_Ts := z_mt4 104 rfl rfl
theorem zw_942 : Jvm.Cond.methodLink "LyndonBenchLaw" (30 : Nat) ({ cls := "LyndonBench", name := "cutPart", desc := "(II)I" } : Jvm.MethodName) ∈ za_Ts := z_mt4 105 rfl rfl
theorem zw_943 : Jvm.Cond.instanceMethod ({ cls := "LyndonBench", name := "cutPart", desc := "(II)I" } : Jvm.MethodName) ∈ za_Ts := z_mt4 106 rfl rfl
theorem zw_944 : Jvm.Cond.selects "LyndonBench" ({ cls := "LyndonBench", name := "cutPart", desc := "(II)I" } : Jvm.MethodName) ({ cls := "LyndonBench", name := "cutPart", desc := "(II)I" } : Jvm.MethodName) ∈ za_Ts := z_mt4 107 rfl rfl
theorem zw_945 : Jvm.Cond.code ({ cls := "LyndonBench", name := "cutPart", desc := "(II)I" } : Jvm.MethodName) prog_1_method_9_code (3 : Nat) (Option.some Jvm.ClassFile.FieldType.int) ∈ za_Ts := z_mt4 108 rfl rfl
theorem zw_946 : Jvm.Cond.methodLink "LyndonBench" (141 : Nat) ({ cls := "LyndonBench", name := "checkPart", desc := "(II)V" } : Jvm.MethodName) ∈ za_Ts := z_mt4 109 rfl rfl
theorem zw_948 : Jvm.Cond.instanceMethod ({ cls := "LyndonBench", name := "checkPart", desc := "(II)V" } : Jvm.MethodName) ∈ za_Ts := z_mt4 111 rfl rfl
theorem zw_949 : Jvm.Cond.code ({ cls := "LyndonBench", name := "checkPart", desc := "(II)V" } : Jvm.MethodName) prog_1_method_63_code (3 : Nat) (Option.none : Option Jvm.ClassFile.FieldType) ∈ za_Ts := z_mt4 112 rfl rfl
theorem zw_951 : Jvm.Cond.methodLink "LyndonBench" (145 : Nat) ({ cls := "LyndonBench$Word", name := "cutTo", desc := "(II)V" } : Jvm.MethodName) ∈ za_Ts := z_mt4 114 rfl rfl
theorem zw_952 : Jvm.Cond.methodLink "LyndonBenchLaw" (139 : Nat) ({ cls := "LyndonBenchLaw", name := "rotate", desc := "(LLyndonBench;I[J)I" } : Jvm.MethodName) ∈ za_Ts := z_mt4 115 rfl rfl
theorem zw_953 : Jvm.Cond.static ({ cls := "LyndonBenchLaw", name := "rotate", desc := "(LLyndonBench;I[J)I" } : Jvm.MethodName) ∈ za_Ts := z_mt4 116 rfl rfl
theorem zw_954 : Jvm.Cond.codeWith ({ cls := "LyndonBenchLaw", name := "rotate", desc := "(LLyndonBench;I[J)I" } : Jvm.MethodName) method_9_code (4 : Nat) (Option.some Jvm.ClassFile.FieldType.int) [((0 : Nat), (9 : Nat), (12 : Nat), (13 : Nat))] ∈ za_Ts := z_mt4 117 rfl rfl
theorem zw_955 : Jvm.Cond.methodLink "LyndonBenchLaw" (34 : Nat) ({ cls := "LyndonBench", name := "rotate", desc := "(I)I" } : Jvm.MethodName) ∈ za_Ts := z_mt4 118 rfl rfl
theorem zw_956 : Jvm.Cond.instanceMethod ({ cls := "LyndonBench", name := "rotate", desc := "(I)I" } : Jvm.MethodName) ∈ za_Ts := z_mt4 119 rfl rfl
theorem zw_957 : Jvm.Cond.selects "LyndonBench" ({ cls := "LyndonBench", name := "rotate", desc := "(I)I" } : Jvm.MethodName) ({ cls := "LyndonBench", name := "rotate", desc := "(I)I" } : Jvm.MethodName) ∈ za_Ts := z_mt4 120 rfl rfl
theorem zw_958 : Jvm.Cond.code ({ cls := "LyndonBench", name := "rotate", desc := "(I)I" } : Jvm.MethodName) prog_1_method_10_code (2 : Nat) (Option.some Jvm.ClassFile.FieldType.int) ∈ za_Ts := z_mt4 121 rfl rfl
theorem zw_959 : Jvm.Cond.methodLink "LyndonBench" (148 : Nat) ({ cls := "LyndonBench$Word", name := "turn", desc := "(I)V" } : Jvm.MethodName) ∈ za_Ts := z_mt4 122 rfl rfl
theorem zw_960 : Jvm.Cond.methodLink "LyndonBenchLaw" (146 : Nat) ({ cls := "LyndonBenchLaw", name := "rotateToLeast", desc := "(LLyndonBench;[J)I" } : Jvm.MethodName) ∈ za_Ts := z_mt4 123 rfl rfl
theorem zw_961 : Jvm.Cond.static ({ cls := "LyndonBenchLaw", name := "rotateToLeast", desc := "(LLyndonBench;[J)I" } : Jvm.MethodName) ∈ za_Ts := z_mt4 124 rfl rfl
theorem zw_962 : Jvm.Cond.codeWith ({ cls := "LyndonBenchLaw", name := "rotateToLeast", desc := "(LLyndonBench;[J)I" } : Jvm.MethodName) method_10_code (3 : Nat) (Option.some Jvm.ClassFile.FieldType.int) [((0 : Nat), (8 : Nat), (11 : Nat), (18 : Nat))] ∈ za_Ts := z_mt4 125 rfl rfl
theorem zw_963 : Jvm.Cond.methodLink "LyndonBenchLaw" (37 : Nat) ({ cls := "LyndonBench", name := "rotateToLeast", desc := "()I" } : Jvm.MethodName) ∈ za_Ts := z_mt4 126 rfl rfl
theorem zw_964 : Jvm.Cond.instanceMethod ({ cls := "LyndonBench", name := "rotateToLeast", desc := "()I" } : Jvm.MethodName) ∈ za_Ts := z_mt4 127 rfl rfl
theorem zw_965 : Jvm.Cond.selects "LyndonBench" ({ cls := "LyndonBench", name := "rotateToLeast", desc := "()I" } : Jvm.MethodName) ({ cls := "LyndonBench", name := "rotateToLeast", desc := "()I" } : Jvm.MethodName) ∈ za_Ts := z_mt4 128 rfl rfl
theorem zw_966 : Jvm.Cond.code ({ cls := "LyndonBench", name := "rotateToLeast", desc := "()I" } : Jvm.MethodName) prog_1_method_12_code (2 : Nat) (Option.some Jvm.ClassFile.FieldType.int) ∈ za_Ts := z_mt4 129 rfl rfl
theorem zw_968 : Jvm.Cond.methodLink "LyndonBenchLaw" (149 : Nat) ({ cls := "LyndonBenchLaw", name := "nextLyndon", desc := "(LLyndonBench;I[J)I" } : Jvm.MethodName) ∈ za_Ts := z_mt4 131 rfl rfl
theorem zw_969 : Jvm.Cond.static ({ cls := "LyndonBenchLaw", name := "nextLyndon", desc := "(LLyndonBench;I[J)I" } : Jvm.MethodName) ∈ za_Ts := z_mt4 132 rfl rfl
theorem zw_970 : Jvm.Cond.codeWith ({ cls := "LyndonBenchLaw", name := "nextLyndon", desc := "(LLyndonBench;I[J)I" } : Jvm.MethodName) method_11_code (4 : Nat) (Option.some Jvm.ClassFile.FieldType.int) [((0 : Nat), (9 : Nat), (12 : Nat), (13 : Nat)), ((0 : Nat), (9 : Nat), (15 : Nat), (18 : Nat))] ∈ za_Ts := z_mt4 133 rfl rfl
theorem zw_971 : Jvm.Cond.methodLink "LyndonBenchLaw" (40 : Nat) ({ cls := "LyndonBench", name := "nextLyndon", desc := "(I)I" } : Jvm.MethodName) ∈ za_Ts := z_mt4 134 rfl rfl
theorem zw_972 : Jvm.Cond.instanceMethod ({ cls := "LyndonBench", name := "nextLyndon", desc := "(I)I" } : Jvm.MethodName) ∈ za_Ts := z_mt4 135 rfl rfl
theorem zw_973 : Jvm.Cond.selects "LyndonBench" ({ cls := "LyndonBench", name := "nextLyndon", desc := "(I)I" } : Jvm.MethodName) ({ cls := "LyndonBench", name := "nextLyndon", desc := "(I)I" } : Jvm.MethodName) ∈ za_Ts := z_mt4 136 rfl rfl
theorem zw_974 : Jvm.Cond.code ({ cls := "LyndonBench", name := "nextLyndon", desc := "(I)I" } : Jvm.MethodName) prog_1_method_13_code (2 : Nat) (Option.some Jvm.ClassFile.FieldType.int) ∈ za_Ts := z_mt4 137 rfl rfl
theorem zw_976 : Jvm.Cond.methodLink "LyndonBench" (161 : Nat) ({ cls := "LyndonBench$State", name := "hasNext", desc := "(I)Z" } : Jvm.MethodName) ∈ za_Ts := z_mt4 139 rfl rfl
theorem zw_978 : Jvm.Cond.methodLink "LyndonBench" (166 : Nat) ({ cls := "LyndonBench$State", name := "greatestLetter", desc := "()I" } : Jvm.MethodName) ∈ za_Ts := z_mt4 141 rfl rfl
theorem zw_979 : Jvm.Cond.methodLink "LyndonBench" (169 : Nat) ({ cls := "LyndonBench$Word", name := "stepLyndon", desc := "(II)V" } : Jvm.MethodName) ∈ za_Ts := z_mt4 142 rfl rfl
theorem zw_980 : Jvm.Cond.methodLink "LyndonBenchLaw" (152 : Nat) ({ cls := "LyndonBenchLaw", name := "keepFactor", desc := "(LLyndonBench;I[J)I" } : Jvm.MethodName) ∈ za_Ts := z_mt4 143 rfl rfl
theorem zw_981 : Jvm.Cond.static ({ cls := "LyndonBenchLaw", name := "keepFactor", desc := "(LLyndonBench;I[J)I" } : Jvm.MethodName) ∈ za_Ts := z_mt4 144 rfl rfl
theorem zw_982 : Jvm.Cond.codeWith ({ cls := "LyndonBenchLaw", name := "keepFactor", desc := "(LLyndonBench;I[J)I" } : Jvm.MethodName) method_12_code (4 : Nat) (Option.some Jvm.ClassFile.FieldType.int) [((0 : Nat), (9 : Nat), (12 : Nat), (46 : Nat)), ((0 : Nat), (9 : Nat), (15 : Nat), (18 : Nat))] ∈ za_Ts := z_mt4 145 rfl rfl
theorem zw_983 : Jvm.Cond.classLink "LyndonBenchLaw" (46 : Nat) "java/lang/IndexOutOfBoundsException" ∈ za_Ts := z_mt4 146 rfl rfl
theorem zw_984 : Jvm.Cond.methodLink "LyndonBenchLaw" (43 : Nat) ({ cls := "LyndonBench", name := "keepFactor", desc := "(I)I" } : Jvm.MethodName) ∈ za_Ts := z_mt4 147 rfl rfl
theorem zw_985 : Jvm.Cond.instanceMethod ({ cls := "LyndonBench", name := "keepFactor", desc := "(I)I" } : Jvm.MethodName) ∈ za_Ts := z_mt4 148 rfl rfl
theorem zw_986 : Jvm.Cond.selects "LyndonBench" ({ cls := "LyndonBench", name := "keepFactor", desc := "(I)I" } : Jvm.MethodName) ({ cls := "LyndonBench", name := "keepFactor", desc := "(I)I" } : Jvm.MethodName) ∈ za_Ts := z_mt4 149 rfl rfl
theorem zw_987 : Jvm.Cond.code ({ cls := "LyndonBench", name := "keepFactor", desc := "(I)I" } : Jvm.MethodName) prog_1_method_14_code (4 : Nat) (Option.some Jvm.ClassFile.FieldType.int) ∈ za_Ts := z_mt4 150 rfl rfl
theorem zw_988 : Jvm.Cond.methodLink "LyndonBench" (172 : Nat) ({ cls := "LyndonBench", name := "checkedBegin", desc := "(I)I" } : Jvm.MethodName) ∈ za_Ts := z_mt4 151 rfl rfl
theorem zw_990 : Jvm.Cond.instanceMethod ({ cls := "LyndonBench", name := "checkedBegin", desc := "(I)I" } : Jvm.MethodName) ∈ za_Ts := z_mt4 153 rfl rfl
theorem zw_991 : Jvm.Cond.code ({ cls := "LyndonBench", name := "checkedBegin", desc := "(I)I" } : Jvm.MethodName) prog_1_method_65_code (3 : Nat) (Option.some Jvm.ClassFile.FieldType.int) ∈ za_Ts := z_mt4 154 rfl rfl
theorem zw_992 : Jvm.Cond.methodLink "LyndonBench" (303 : Nat) ({ cls := "LyndonBench$Word", name := "beginOfFactor", desc := "(I)I" } : Jvm.MethodName) ∈ za_Ts := z_mt4 155 rfl rfl
theorem zw_993 : Jvm.Cond.classLink "LyndonBench" (192 : Nat) "java/lang/IndexOutOfBoundsException" ∈ za_Ts := z_mt4 156 rfl rfl
theorem zw_1009 : Jvm.Cond.methodLink "LyndonBench" (178 : Nat) ({ cls := "LyndonBench$State", name := "canKeep", desc := "(I)Z" } : Jvm.MethodName) ∈ za_Ts := z_mt4 172 rfl rfl
theorem zw_1011 : Jvm.Cond.methodLink "LyndonBenchLaw" (155 : Nat) ({ cls := "LyndonBenchLaw", name := "keepText", desc := "(LLyndonBench;[J)I" } : Jvm.MethodName) ∈ za_Ts := z_mt4 174 rfl rfl
theorem zw_1012 : Jvm.Cond.static ({ cls := "LyndonBenchLaw", name := "keepText", desc := "(LLyndonBench;[J)I" } : Jvm.MethodName) ∈ za_Ts := z_mt4 175 rfl rfl
theorem zw_1013 : Jvm.Cond.codeWith ({ cls := "LyndonBenchLaw", name := "keepText", desc := "(LLyndonBench;[J)I" } : Jvm.MethodName) method_13_code (3 : Nat) (Option.some Jvm.ClassFile.FieldType.int) [((0 : Nat), (8 : Nat), (11 : Nat), (18 : Nat))] ∈ za_Ts := z_mt4 176 rfl rfl
theorem zw_1014 : Jvm.Cond.methodLink "LyndonBenchLaw" (48 : Nat) ({ cls := "LyndonBench", name := "keepText", desc := "()I" } : Jvm.MethodName) ∈ za_Ts := z_mt4 177 rfl rfl
theorem zw_1015 : Jvm.Cond.instanceMethod ({ cls := "LyndonBench", name := "keepText", desc := "()I" } : Jvm.MethodName) ∈ za_Ts := z_mt4 178 rfl rfl
theorem zw_1016 : Jvm.Cond.selects "LyndonBench" ({ cls := "LyndonBench", name := "keepText", desc := "()I" } : Jvm.MethodName) ({ cls := "LyndonBench", name := "keepText", desc := "()I" } : Jvm.MethodName) ∈ za_Ts := z_mt4 179 rfl rfl
theorem zw_1017 : Jvm.Cond.code ({ cls := "LyndonBench", name := "keepText", desc := "()I" } : Jvm.MethodName) prog_1_method_15_code (1 : Nat) (Option.some Jvm.ClassFile.FieldType.int) ∈ za_Ts := z_mt4 180 rfl rfl
theorem zw_1019 : Jvm.Cond.methodLink "LyndonBenchLaw" (158 : Nat) ({ cls := "LyndonBenchLaw", name := "removeKept", desc := "(LLyndonBench;I[J)I" } : Jvm.MethodName) ∈ za_Ts := z_mt4 182 rfl rfl
theorem zw_1020 : Jvm.Cond.static ({ cls := "LyndonBenchLaw", name := "removeKept", desc := "(LLyndonBench;I[J)I" } : Jvm.MethodName) ∈ za_Ts := z_mt4 183 rfl rfl
theorem zw_1021 : Jvm.Cond.codeWith ({ cls := "LyndonBenchLaw", name := "removeKept", desc := "(LLyndonBench;I[J)I" } : Jvm.MethodName) method_14_code (4 : Nat) (Option.some Jvm.ClassFile.FieldType.int) [((0 : Nat), (9 : Nat), (12 : Nat), (46 : Nat))] ∈ za_Ts := z_mt4 184 rfl rfl
theorem zw_1022 : Jvm.Cond.methodLink "LyndonBenchLaw" (51 : Nat) ({ cls := "LyndonBench", name := "removeKept", desc := "(I)I" } : Jvm.MethodName) ∈ za_Ts := z_mt4 185 rfl rfl
theorem zw_1023 : Jvm.Cond.instanceMethod ({ cls := "LyndonBench", name := "removeKept", desc := "(I)I" } : Jvm.MethodName) ∈ za_Ts := z_mt4 186 rfl rfl
theorem zw_1024 : Jvm.Cond.selects "LyndonBench" ({ cls := "LyndonBench", name := "removeKept", desc := "(I)I" } : Jvm.MethodName) ({ cls := "LyndonBench", name := "removeKept", desc := "(I)I" } : Jvm.MethodName) ∈ za_Ts := z_mt4 187 rfl rfl
theorem zw_1025 : Jvm.Cond.code ({ cls := "LyndonBench", name := "removeKept", desc := "(I)I" } : Jvm.MethodName) prog_1_method_16_code (2 : Nat) (Option.some Jvm.ClassFile.FieldType.int) ∈ za_Ts := z_mt4 188 rfl rfl
theorem zw_1027 : Jvm.Cond.methodLink "LyndonBench" (197 : Nat) ({ cls := "LyndonBench$State", name := "takeFromShelf", desc := "(I)V" } : Jvm.MethodName) ∈ za_Ts := z_mt4 190 rfl rfl
theorem zw_1028 : Jvm.Cond.methodLink "LyndonBenchLaw" (161 : Nat) ({ cls := "LyndonBenchLaw", name := "joinKept", desc := "(LLyndonBench;[J)I" } : Jvm.MethodName) ∈ za_Ts := z_mt4 191 rfl rfl
theorem zw_1029 : Jvm.Cond.static ({ cls := "LyndonBenchLaw", name := "joinKept", desc := "(LLyndonBench;[J)I" } : Jvm.MethodName) ∈ za_Ts := z_mt4 192 rfl rfl
theorem zw_1030 : Jvm.Cond.codeWith ({ cls := "LyndonBenchLaw", name := "joinKept", desc := "(LLyndonBench;[J)I" } : Jvm.MethodName) method_15_code (3 : Nat) (Option.some Jvm.ClassFile.FieldType.int) [((0 : Nat), (8 : Nat), (11 : Nat), (18 : Nat))] ∈ za_Ts := z_mt4 193 rfl rfl
theorem zw_1031 : Jvm.Cond.methodLink "LyndonBenchLaw" (54 : Nat) ({ cls := "LyndonBench", name := "joinKept", desc := "()I" } : Jvm.MethodName) ∈ za_Ts := z_mt4 194 rfl rfl
theorem zw_1032 : Jvm.Cond.instanceMethod ({ cls := "LyndonBench", name := "joinKept", desc := "()I" } : Jvm.MethodName) ∈ za_Ts := z_mt4 195 rfl rfl
theorem zw_1033 : Jvm.Cond.selects "LyndonBench" ({ cls := "LyndonBench", name := "joinKept", desc := "()I" } : Jvm.MethodName) ({ cls := "LyndonBench", name := "joinKept", desc := "()I" } : Jvm.MethodName) ∈ za_Ts := z_mt4 196 rfl rfl
theorem zw_1034 : Jvm.Cond.code ({ cls := "LyndonBench", name := "joinKept", desc := "()I" } : Jvm.MethodName) prog_1_method_17_code (1 : Nat) (Option.some Jvm.ClassFile.FieldType.int) ∈ za_Ts := z_mt4 197 rfl rfl
theorem zw_1035 : Jvm.Cond.methodLink "LyndonBench" (200 : Nat) ({ cls := "LyndonBench$State", name := "canJoin", desc := "()Z" } : Jvm.MethodName) ∈ za_Ts := z_mt4 198 rfl rfl
theorem zw_1037 : Jvm.Cond.methodLink "LyndonBench" (205 : Nat) ({ cls := "LyndonBench$State", name := "joinShelf", desc := "()V" } : Jvm.MethodName) ∈ za_Ts := z_mt4 200 rfl rfl
theorem zw_1038 : Jvm.Cond.methodLink "LyndonBenchLaw" (176 : Nat) ({ cls := "LyndonBenchLaw", name := "restoreSnapshot", desc := "(LLyndonBench;[J)I" } : Jvm.MethodName) ∈ za_Ts := z_mt4 201 rfl rfl
theorem zw_1039 : Jvm.Cond.static ({ cls := "LyndonBenchLaw", name := "restoreSnapshot", desc := "(LLyndonBench;[J)I" } : Jvm.MethodName) ∈ za_Ts := z_mt4 202 rfl rfl
theorem zw_1040 : Jvm.Cond.codeWith ({ cls := "LyndonBenchLaw", name := "restoreSnapshot", desc := "(LLyndonBench;[J)I" } : Jvm.MethodName) method_16_code (3 : Nat) (Option.some Jvm.ClassFile.FieldType.int) [((0 : Nat), (8 : Nat), (11 : Nat), (60 : Nat))] ∈ za_Ts := z_mt4 203 rfl rfl
theorem zw_1041 : Jvm.Cond.classLink "LyndonBenchLaw" (60 : Nat) "java/util/NoSuchElementException" ∈ za_Ts := z_mt4 204 rfl rfl
theorem zw_1042 : Jvm.Cond.methodLink "LyndonBenchLaw" (57 : Nat) ({ cls := "LyndonBench", name := "restoreSnapshot", desc := "()I" } : Jvm.MethodName) ∈ za_Ts := z_mt4 205 rfl rfl
theorem zw_1043 : Jvm.Cond.instanceMethod ({ cls := "LyndonBench", name := "restoreSnapshot", desc := "()I" } : Jvm.MethodName) ∈ za_Ts := z_mt4 206 rfl rfl
theorem zw_1044 : Jvm.Cond.selects "LyndonBench" ({ cls := "LyndonBench", name := "restoreSnapshot", desc := "()I" } : Jvm.MethodName) ({ cls := "LyndonBench", name := "restoreSnapshot", desc := "()I" } : Jvm.MethodName) ∈ za_Ts := z_mt4 207 rfl rfl
theorem zw_1045 : Jvm.Cond.code ({ cls := "LyndonBench", name := "restoreSnapshot", desc := "()I" } : Jvm.MethodName) prog_1_method_21_code (1 : Nat) (Option.some Jvm.ClassFile.FieldType.int) ∈ za_Ts := z_mt4 208 rfl rfl
theorem zw_1046 : Jvm.Cond.classLink "LyndonBench" (215 : Nat) "java/util/NoSuchElementException" ∈ za_Ts := z_mt4 209 rfl rfl
theorem zw_1062 : Jvm.Cond.methodLink "LyndonBenchLaw" (199 : Nat) ({ cls := "LyndonBenchLaw", name := "compareParts", desc := "(LLyndonBench;IIII[J)I" } : Jvm.MethodName) ∈ za_Ts := z_mt4 225 rfl rfl
theorem zw_1063 : Jvm.Cond.static ({ cls := "LyndonBenchLaw", name := "compareParts", desc := "(LLyndonBench;IIII[J)I" } : Jvm.MethodName) ∈ za_Ts := z_mt4 226 rfl rfl
theorem zw_1064 : Jvm.Cond.codeWith ({ cls := "LyndonBenchLaw", name := "compareParts", desc := "(LLyndonBench;IIII[J)I" } : Jvm.MethodName) method_17_code (7 : Nat) (Option.some Jvm.ClassFile.FieldType.int) [((0 : Nat), (14 : Nat), (17 : Nat), (13 : Nat))] ∈ za_Ts := z_mt4 227 rfl rfl
theorem zw_1065 : Jvm.Cond.methodLink "LyndonBenchLaw" (62 : Nat) ({ cls := "LyndonBench", name := "compareParts", desc := "(IIII)I" } : Jvm.MethodName) ∈ za_Ts := z_mt4 228 rfl rfl
theorem zw_1066 : Jvm.Cond.instanceMethod ({ cls := "LyndonBench", name := "compareParts", desc := "(IIII)I" } : Jvm.MethodName) ∈ za_Ts := z_mt4 229 rfl rfl
theorem zw_1067 : Jvm.Cond.selects "LyndonBench" ({ cls := "LyndonBench", name := "compareParts", desc := "(IIII)I" } : Jvm.MethodName) ({ cls := "LyndonBench", name := "compareParts", desc := "(IIII)I" } : Jvm.MethodName) ∈ za_Ts := z_mt4 230 rfl rfl
theorem zw_1068 : Jvm.Cond.code ({ cls := "LyndonBench", name := "compareParts", desc := "(IIII)I" } : Jvm.MethodName) prog_1_method_27_code (5 : Nat) (Option.some Jvm.ClassFile.FieldType.int) ∈ za_Ts := z_mt4 231 rfl rfl
theorem zw_1069 : Jvm.Cond.methodLink "LyndonBenchLaw" (207 : Nat) ({ cls := "LyndonBenchLaw", name := "factorStart", desc := "(LLyndonBench;I[J)I" } : Jvm.MethodName) ∈ za_Ts := z_mt4 232 rfl rfl
theorem zw_1070 : Jvm.Cond.static ({ cls := "LyndonBenchLaw", name := "factorStart", desc := "(LLyndonBench;I[J)I" } : Jvm.MethodName) ∈ za_Ts := z_mt4 233 rfl rfl
theorem zw_1071 : Jvm.Cond.codeWith ({ cls := "LyndonBenchLaw", name := "factorStart", desc := "(LLyndonBench;I[J)I" } : Jvm.MethodName) method_18_code (4 : Nat) (Option.some Jvm.ClassFile.FieldType.int) [((0 : Nat), (9 : Nat), (12 : Nat), (46 : Nat))] ∈ za_Ts := z_mt4 234 rfl rfl
theorem zw_1072 : Jvm.Cond.methodLink "LyndonBenchLaw" (66 : Nat) ({ cls := "LyndonBench", name := "factorStart", desc := "(I)I" } : Jvm.MethodName) ∈ za_Ts := z_mt4 235 rfl rfl
theorem zw_1073 : Jvm.Cond.instanceMethod ({ cls := "LyndonBench", name := "factorStart", desc := "(I)I" } : Jvm.MethodName) ∈ za_Ts := z_mt4 236 rfl rfl
theorem zw_1074 : Jvm.Cond.selects "LyndonBench" ({ cls := "LyndonBench", name := "factorStart", desc := "(I)I" } : Jvm.MethodName) ({ cls := "LyndonBench", name := "factorStart", desc := "(I)I" } : Jvm.MethodName) ∈ za_Ts := z_mt4 237 rfl rfl
theorem zw_1075 : Jvm.Cond.code ({ cls := "LyndonBench", name := "factorStart", desc := "(I)I" } : Jvm.MethodName) prog_1_method_29_code (2 : Nat) (Option.some Jvm.ClassFile.FieldType.int) ∈ za_Ts := z_mt4 238 rfl rfl
theorem zw_1076 : Jvm.Cond.methodLink "LyndonBenchLaw" (210 : Nat) ({ cls := "LyndonBenchLaw", name := "factorLength", desc := "(LLyndonBench;I[J)I" } : Jvm.MethodName) ∈ za_Ts := z_mt4 239 rfl rfl
theorem zw_1077 : Jvm.Cond.static ({ cls := "LyndonBenchLaw", name := "factorLength", desc := "(LLyndonBench;I[J)I" } : Jvm.MethodName) ∈ za_Ts := z_mt5 0 rfl rfl
theorem zw_1078 : Jvm.Cond.codeWith ({ cls := "LyndonBenchLaw", name := "factorLength", desc := "(LLyndonBench;I[J)I" } : Jvm.MethodName) method_19_code (4 : Nat) (Option.some Jvm.ClassFile.FieldType.int) [((0 : Nat), (9 : Nat), (12 : Nat), (46 : Nat))] ∈ za_Ts := z_mt5 1 rfl rfl
theorem zw_1079 : Jvm.Cond.methodLink "LyndonBenchLaw" (69 : Nat) ({ cls := "LyndonBench", name := "factorLength", desc := "(I)I" } : Jvm.MethodName) ∈ za_Ts := z_mt5 2 rfl rfl
theorem zw_1080 : Jvm.Cond.instanceMethod ({ cls := "LyndonBench", name := "factorLength", desc := "(I)I" } : Jvm.MethodName) ∈ za_Ts := z_mt5 3 rfl rfl
theorem zw_1081 : Jvm.Cond.selects "LyndonBench" ({ cls := "LyndonBench", name := "factorLength", desc := "(I)I" } : Jvm.MethodName) ({ cls := "LyndonBench", name := "factorLength", desc := "(I)I" } : Jvm.MethodName) ∈ za_Ts := z_mt5 4 rfl rfl
theorem zw_1082 : Jvm.Cond.code ({ cls := "LyndonBench", name := "factorLength", desc := "(I)I" } : Jvm.MethodName) prog_1_method_30_code (3 : Nat) (Option.some Jvm.ClassFile.FieldType.int) ∈ za_Ts := z_mt5 5 rfl rfl
theorem zw_1083 : Jvm.Cond.methodLink "LyndonBenchLaw" (213 : Nat) ({ cls := "LyndonBenchLaw", name := "factorPower", desc := "(LLyndonBench;I[J)I" } : Jvm.MethodName) ∈ za_Ts := z_mt5 6 rfl rfl
theorem zw_1084 : Jvm.Cond.static ({ cls := "LyndonBenchLaw", name := "factorPower", desc := "(LLyndonBench;I[J)I" } : Jvm.MethodName) ∈ za_Ts := z_mt5 7 rfl rfl
theorem zw_1085 : Jvm.Cond.codeWith ({ cls := "LyndonBenchLaw", name := "factorPower", desc := "(LLyndonBench;I[J)I" } : Jvm.MethodName) method_20_code (4 : Nat) (Option.some Jvm.ClassFile.FieldType.int) [((0 : Nat), (9 : Nat), (12 : Nat), (46 : Nat))] ∈ za_Ts := z_mt5 8 rfl rfl
theorem zw_1086 : Jvm.Cond.methodLink "LyndonBenchLaw" (72 : Nat) ({ cls := "LyndonBench", name := "factorPower", desc := "(I)I" } : Jvm.MethodName) ∈ za_Ts := z_mt5 9 rfl rfl
theorem zw_1087 : Jvm.Cond.instanceMethod ({ cls := "LyndonBench", name := "factorPower", desc := "(I)I" } : Jvm.MethodName) ∈ za_Ts := z_mt5 10 rfl rfl
theorem zw_1088 : Jvm.Cond.selects "LyndonBench" ({ cls := "LyndonBench", name := "factorPower", desc := "(I)I" } : Jvm.MethodName) ({ cls := "LyndonBench", name := "factorPower", desc := "(I)I" } : Jvm.MethodName) ∈ za_Ts := z_mt5 11 rfl rfl
theorem zw_1089 : Jvm.Cond.code ({ cls := "LyndonBench", name := "factorPower", desc := "(I)I" } : Jvm.MethodName) prog_1_method_31_code (3 : Nat) (Option.some Jvm.ClassFile.FieldType.int) ∈ za_Ts := z_mt5 12 rfl rfl
theorem zw_1090 : Jvm.Cond.methodLink "LyndonBenchLaw" (224 : Nat) ({ cls := "LyndonBenchLaw", name := "factorsIfAppended", desc := "(LLyndonBench;I[J)I" } : Jvm.MethodName) ∈ za_Ts := z_mt5 13 rfl rfl
theorem zw_1091 : Jvm.Cond.static ({ cls := "LyndonBenchLaw", name := "factorsIfAppended", desc := "(LLyndonBench;I[J)I" } : Jvm.MethodName) ∈ za_Ts := z_mt5 14 rfl rfl
theorem zw_1092 : Jvm.Cond.codeWith ({ cls := "LyndonBenchLaw", name := "factorsIfAppended", desc := "(LLyndonBench;I[J)I" } : Jvm.MethodName) method_21_code (4 : Nat) (Option.some Jvm.ClassFile.FieldType.int) [((0 : Nat), (9 : Nat), (12 : Nat), (13 : Nat))] ∈ za_Ts := z_mt5 15 rfl rfl
theorem zw_1093 : Jvm.Cond.methodLink "LyndonBenchLaw" (75 : Nat) ({ cls := "LyndonBench", name := "factorsIfAppended", desc := "(I)I" } : Jvm.MethodName) ∈ za_Ts := z_mt5 16 rfl rfl
theorem zw_1094 : Jvm.Cond.instanceMethod ({ cls := "LyndonBench", name := "factorsIfAppended", desc := "(I)I" } : Jvm.MethodName) ∈ za_Ts := z_mt5 17 rfl rfl
theorem zw_1095 : Jvm.Cond.selects "LyndonBench" ({ cls := "LyndonBench", name := "factorsIfAppended", desc := "(I)I" } : Jvm.MethodName) ({ cls := "LyndonBench", name := "factorsIfAppended", desc := "(I)I" } : Jvm.MethodName) ∈ za_Ts := z_mt5 18 rfl rfl
theorem zw_1096 : Jvm.Cond.code ({ cls := "LyndonBench", name := "factorsIfAppended", desc := "(I)I" } : Jvm.MethodName) prog_1_method_34_code (2 : Nat) (Option.some Jvm.ClassFile.FieldType.int) ∈ za_Ts := z_mt5 19 rfl rfl
theorem zw_1097 : Jvm.Cond.methodLink "LyndonBench" (240 : Nat) ({ cls := "LyndonBench$Word", name := "copyFrom", desc := "(LLyndonBench$Word;)V" } : Jvm.MethodName) ∈ za_Ts := z_mt5 20 rfl rfl
theorem zw_1098 : Jvm.Cond.methodLink "LyndonBenchLaw" (227 : Nat) ({ cls := "LyndonBenchLaw", name := "factorsIfRotated", desc := "(LLyndonBench;I[J)I" } : Jvm.MethodName) ∈ za_Ts := z_mt5 21 rfl rfl
theorem zw_1099 : Jvm.Cond.static ({ cls := "LyndonBenchLaw", name := "factorsIfRotated", desc := "(LLyndonBench;I[J)I" } : Jvm.MethodName) ∈ za_Ts := z_mt5 22 rfl rfl
theorem zw_1100 : Jvm.Cond.codeWith ({ cls := "LyndonBenchLaw", name := "factorsIfRotated", desc := "(LLyndonBench;I[J)I" } : Jvm.MethodName) method_22_code (4 : Nat) (Option.some Jvm.ClassFile.FieldType.int) [((0 : Nat), (9 : Nat), (12 : Nat), (13 : Nat))] ∈ za_Ts := z_mt5 23 rfl rfl
theorem zw_1101 : Jvm.Cond.methodLink "LyndonBenchLaw" (78 : Nat) ({ cls := "LyndonBench", name := "factorsIfRotated", desc := "(I)I" } : Jvm.MethodName) ∈ za_Ts := z_mt5 24 rfl rfl
theorem zw_1102 : Jvm.Cond.instanceMethod ({ cls := "LyndonBench", name := "factorsIfRotated", desc := "(I)I" } : Jvm.MethodName) ∈ za_Ts := z_mt5 25 rfl rfl
theorem zw_1103 : Jvm.Cond.selects "LyndonBench" ({ cls := "LyndonBench", name := "factorsIfRotated", desc := "(I)I" } : Jvm.MethodName) ({ cls := "LyndonBench", name := "factorsIfRotated", desc := "(I)I" } : Jvm.MethodName) ∈ za_Ts := z_mt5 26 rfl rfl
theorem zw_1104 : Jvm.Cond.code ({ cls := "LyndonBench", name := "factorsIfRotated", desc := "(I)I" } : Jvm.MethodName) prog_1_method_35_code (2 : Nat) (Option.some Jvm.ClassFile.FieldType.int) ∈ za_Ts := z_mt5 27 rfl rfl
theorem zw_1105 : Jvm.Cond.methodLink "LyndonBenchLaw" (230 : Nat) ({ cls := "LyndonBenchLaw", name := "rankOf", desc := "(LLyndonBench;I[J)I" } : Jvm.MethodName) ∈ za_Ts := z_mt5 28 rfl rfl
theorem zw_1106 : Jvm.Cond.static ({ cls := "LyndonBenchLaw", name := "rankOf", desc := "(LLyndonBench;I[J)I" } : Jvm.MethodName) ∈ za_Ts := z_mt5 29 rfl rfl
theorem zw_1107 : Jvm.Cond.codeWith ({ cls := "LyndonBenchLaw", name := "rankOf", desc := "(LLyndonBench;I[J)I" } : Jvm.MethodName) method_23_code (4 : Nat) (Option.some Jvm.ClassFile.FieldType.int) [((0 : Nat), (9 : Nat), (12 : Nat), (46 : Nat))] ∈ za_Ts := z_mt5 30 rfl rfl
theorem zw_1108 : Jvm.Cond.methodLink "LyndonBenchLaw" (81 : Nat) ({ cls := "LyndonBench", name := "rankOf", desc := "(I)I" } : Jvm.MethodName) ∈ za_Ts := z_mt5 31 rfl rfl
theorem zw_1109 : Jvm.Cond.instanceMethod ({ cls := "LyndonBench", name := "rankOf", desc := "(I)I" } : Jvm.MethodName) ∈ za_Ts := z_mt5 32 rfl rfl
theorem zw_1110 : Jvm.Cond.selects "LyndonBench" ({ cls := "LyndonBench", name := "rankOf", desc := "(I)I" } : Jvm.MethodName) ({ cls := "LyndonBench", name := "rankOf", desc := "(I)I" } : Jvm.MethodName) ∈ za_Ts := z_mt5 33 rfl rfl
theorem zw_1111 : Jvm.Cond.code ({ cls := "LyndonBench", name := "rankOf", desc := "(I)I" } : Jvm.MethodName) prog_1_method_36_code (4 : Nat) (Option.some Jvm.ClassFile.FieldType.int) ∈ za_Ts := z_mt5 34 rfl rfl
theorem zw_1112 : Jvm.Cond.methodLink "LyndonBench" (243 : Nat) ({ cls := "LyndonBench", name := "fitsRow", desc := "(II)Z" } : Jvm.MethodName) ∈ za_Ts := z_mt5 35 rfl rfl
theorem zw_1113 : Jvm.Cond.static ({ cls := "LyndonBench", name := "fitsRow", desc := "(II)Z" } : Jvm.MethodName) ∈ za_Ts := z_mt5 36 rfl rfl
theorem zw_1114 : Jvm.Cond.code ({ cls := "LyndonBench", name := "fitsRow", desc := "(II)Z" } : Jvm.MethodName) prog_1_method_66_code (5 : Nat) (Option.some Jvm.ClassFile.FieldType.boolean) ∈ za_Ts := z_mt5 37 rfl rfl
theorem zw_1115 : Jvm.Cond.constantLong "LyndonBench" (308 : Nat) (4096 : Int64) ∈ za_Ts := z_mt5 38 rfl rfl
theorem zw_1116 : Jvm.Cond.methodLink "LyndonBench" (247 : Nat) ({ cls := "LyndonBench", name := "countSmaller", desc := "(II)I" } : Jvm.MethodName) ∈ za_Ts := z_mt5 39 rfl rfl
theorem zw_1118 : Jvm.Cond.instanceMethod ({ cls := "LyndonBench", name := "countSmaller", desc := "(II)I" } : Jvm.MethodName) ∈ za_Ts := z_mt5 41 rfl rfl
theorem zw_1119 : Jvm.Cond.code ({ cls := "LyndonBench", name := "countSmaller", desc := "(II)I" } : Jvm.MethodName) prog_1_method_70_code (6 : Nat) (Option.some Jvm.ClassFile.FieldType.int) ∈ za_Ts := z_mt5 42 rfl rfl
theorem zw_1120 : Jvm.Cond.methodLink "LyndonBench" (314 : Nat) ({ cls := "LyndonBench", name := "startListing", desc := "()V" } : Jvm.MethodName) ∈ za_Ts := z_mt5 43 rfl rfl
theorem zw_1122 : Jvm.Cond.instanceMethod ({ cls := "LyndonBench", name := "startListing", desc := "()V" } : Jvm.MethodName) ∈ za_Ts := z_mt5 45 rfl rfl
theorem zw_1123 : Jvm.Cond.code ({ cls := "LyndonBench", name := "startListing", desc := "()V" } : Jvm.MethodName) prog_1_method_69_code (1 : Nat) (Option.none : Option Jvm.ClassFile.FieldType) ∈ za_Ts := z_mt5 46 rfl rfl
theorem zw_1124 : Jvm.Cond.methodLink "LyndonBenchLaw" (278 : Nat) ({ cls := "LyndonBenchLaw", name := "lyndonWords", desc := "(LLyndonBench;I[J)I" } : Jvm.MethodName) ∈ za_Ts := z_mt5 47 rfl rfl
theorem zw_1125 : Jvm.Cond.static ({ cls := "LyndonBenchLaw", name := "lyndonWords", desc := "(LLyndonBench;I[J)I" } : Jvm.MethodName) ∈ za_Ts := z_mt5 48 rfl rfl
theorem zw_1126 : Jvm.Cond.codeWith ({ cls := "LyndonBenchLaw", name := "lyndonWords", desc := "(LLyndonBench;I[J)I" } : Jvm.MethodName) method_24_code (4 : Nat) (Option.some Jvm.ClassFile.FieldType.int) [((0 : Nat), (8 : Nat), (11 : Nat), (13 : Nat))] ∈ za_Ts := z_mt5 49 rfl rfl
theorem zw_1127 : Jvm.Cond.methodLink "LyndonBenchLaw" (84 : Nat) ({ cls := "LyndonBench", name := "lyndonWords", desc := "(I)J" } : Jvm.MethodName) ∈ za_Ts := z_mt5 50 rfl rfl
theorem zw_1128 : Jvm.Cond.instanceMethod ({ cls := "LyndonBench", name := "lyndonWords", desc := "(I)J" } : Jvm.MethodName) ∈ za_Ts := z_mt5 51 rfl rfl
theorem zw_1129 : Jvm.Cond.selects "LyndonBench" ({ cls := "LyndonBench", name := "lyndonWords", desc := "(I)J" } : Jvm.MethodName) ({ cls := "LyndonBench", name := "lyndonWords", desc := "(I)J" } : Jvm.MethodName) ∈ za_Ts := z_mt5 52 rfl rfl
theorem zw_1130 : Jvm.Cond.code ({ cls := "LyndonBench", name := "lyndonWords", desc := "(I)J" } : Jvm.MethodName) prog_1_method_48_code (2 : Nat) (Option.some Jvm.ClassFile.FieldType.long) ∈ za_Ts := z_mt5 53 rfl rfl
theorem zw_1131 : Jvm.Cond.methodLink "LyndonBench" (265 : Nat) ({ cls := "LyndonBench", name := "checkCountedLength", desc := "(I)V" } : Jvm.MethodName) ∈ za_Ts := z_mt5 54 rfl rfl
theorem zw_1133 : Jvm.Cond.instanceMethod ({ cls := "LyndonBench", name := "checkCountedLength", desc := "(I)V" } : Jvm.MethodName) ∈ za_Ts := z_mt5 56 rfl rfl
theorem zw_1134 : Jvm.Cond.code ({ cls := "LyndonBench", name := "checkCountedLength", desc := "(I)V" } : Jvm.MethodName) prog_1_method_64_code (2 : Nat) (Option.none : Option Jvm.ClassFile.FieldType) ∈ za_Ts := z_mt5 57 rfl rfl
theorem zw_1136 : Jvm.Cond.methodLink "LyndonBenchLaw" (281 : Nat) ({ cls := "LyndonBenchLaw", name := "necklaces", desc := "(LLyndonBench;I[J)I" } : Jvm.MethodName) ∈ za_Ts := z_mt5 59 rfl rfl
theorem zw_1137 : Jvm.Cond.static ({ cls := "LyndonBenchLaw", name := "necklaces", desc := "(LLyndonBench;I[J)I" } : Jvm.MethodName) ∈ za_Ts := z_mt5 60 rfl rfl
theorem zw_1138 : Jvm.Cond.codeWith ({ cls := "LyndonBenchLaw", name := "necklaces", desc := "(LLyndonBench;I[J)I" } : Jvm.MethodName) method_25_code (4 : Nat) (Option.some Jvm.ClassFile.FieldType.int) [((0 : Nat), (8 : Nat), (11 : Nat), (13 : Nat))] ∈ za_Ts := z_mt5 61 rfl rfl
theorem zw_1139 : Jvm.Cond.methodLink "LyndonBenchLaw" (88 : Nat) ({ cls := "LyndonBench", name := "necklaces", desc := "(I)J" } : Jvm.MethodName) ∈ za_Ts := z_mt5 62 rfl rfl
theorem zw_1140 : Jvm.Cond.instanceMethod ({ cls := "LyndonBench", name := "necklaces", desc := "(I)J" } : Jvm.MethodName) ∈ za_Ts := z_mt5 63 rfl rfl
theorem zw_1141 : Jvm.Cond.selects "LyndonBench" ({ cls := "LyndonBench", name := "necklaces", desc := "(I)J" } : Jvm.MethodName) ({ cls := "LyndonBench", name := "necklaces", desc := "(I)J" } : Jvm.MethodName) ∈ za_Ts := z_mt5 64 rfl rfl
theorem zw_1142 : Jvm.Cond.code ({ cls := "LyndonBench", name := "necklaces", desc := "(I)J" } : Jvm.MethodName) prog_1_method_49_code (2 : Nat) (Option.some Jvm.ClassFile.FieldType.long) ∈ za_Ts := z_mt5 65 rfl rfl
theorem zw_1143 : Jvm.Cond.methodLink "LyndonBenchLaw" (284 : Nat) ({ cls := "LyndonBenchLaw", name := "bruijnLetter", desc := "(LLyndonBench;II[J)I" } : Jvm.MethodName) ∈ za_Ts := z_mt5 66 rfl rfl
theorem zw_1144 : Jvm.Cond.static ({ cls := "LyndonBenchLaw", name := "bruijnLetter", desc := "(LLyndonBench;II[J)I" } : Jvm.MethodName) ∈ za_Ts := z_mt5 67 rfl rfl
theorem zw_1145 : Jvm.Cond.codeWith ({ cls := "LyndonBenchLaw", name := "bruijnLetter", desc := "(LLyndonBench;II[J)I" } : Jvm.MethodName) method_26_code (5 : Nat) (Option.some Jvm.ClassFile.FieldType.int) [((0 : Nat), (10 : Nat), (13 : Nat), (13 : Nat)), ((0 : Nat), (10 : Nat), (17 : Nat), (46 : Nat))] ∈ za_Ts := z_mt5 68 rfl rfl
theorem zw_1146 : Jvm.Cond.methodLink "LyndonBenchLaw" (91 : Nat) ({ cls := "LyndonBench", name := "bruijnLetter", desc := "(II)I" } : Jvm.MethodName) ∈ za_Ts := z_mt5 69 rfl rfl
theorem zw_1147 : Jvm.Cond.instanceMethod ({ cls := "LyndonBench", name := "bruijnLetter", desc := "(II)I" } : Jvm.MethodName) ∈ za_Ts := z_mt5 70 rfl rfl
theorem zw_1148 : Jvm.Cond.selects "LyndonBench" ({ cls := "LyndonBench", name := "bruijnLetter", desc := "(II)I" } : Jvm.MethodName) ({ cls := "LyndonBench", name := "bruijnLetter", desc := "(II)I" } : Jvm.MethodName) ∈ za_Ts := z_mt5 71 rfl rfl
theorem zw_1149 : Jvm.Cond.code ({ cls := "LyndonBench", name := "bruijnLetter", desc := "(II)I" } : Jvm.MethodName) prog_1_method_50_code (4 : Nat) (Option.some Jvm.ClassFile.FieldType.int) ∈ za_Ts := z_mt5 72 rfl rfl
theorem zw_1151 : Jvm.Cond.methodLink "LyndonBench" (281 : Nat) ({ cls := "LyndonBench", name := "findRowLetter", desc := "(II)I" } : Jvm.MethodName) ∈ za_Ts := z_mt5 74 rfl rfl
theorem zw_1153 : Jvm.Cond.instanceMethod ({ cls := "LyndonBench", name := "findRowLetter", desc := "(II)I" } : Jvm.MethodName) ∈ za_Ts := z_mt5 76 rfl rfl
theorem zw_1154 : Jvm.Cond.code ({ cls := "LyndonBench", name := "findRowLetter", desc := "(II)I" } : Jvm.MethodName) prog_1_method_71_code (5 : Nat) (Option.some Jvm.ClassFile.FieldType.int) ∈ za_Ts := z_mt5 77 rfl rfl
theorem zw_1156 : Jvm.Cond.methodLink "LyndonBenchLaw" (291 : Nat) ({ cls := "LyndonBenchLaw", name := "keptLength", desc := "(LLyndonBench;I[J)I" } : Jvm.MethodName) ∈ za_Ts := z_mt5 79 rfl rfl
theorem zw_1157 : Jvm.Cond.static ({ cls := "LyndonBenchLaw", name := "keptLength", desc := "(LLyndonBench;I[J)I" } : Jvm.MethodName) ∈ za_Ts := z_mt5 80 rfl rfl
theorem zw_1158 : Jvm.Cond.codeWith ({ cls := "LyndonBenchLaw", name := "keptLength", desc := "(LLyndonBench;I[J)I" } : Jvm.MethodName) method_27_code (4 : Nat) (Option.some Jvm.ClassFile.FieldType.int) [((0 : Nat), (9 : Nat), (12 : Nat), (46 : Nat))] ∈ za_Ts := z_mt5 81 rfl rfl
theorem zw_1159 : Jvm.Cond.methodLink "LyndonBenchLaw" (94 : Nat) ({ cls := "LyndonBench", name := "keptLength", desc := "(I)I" } : Jvm.MethodName) ∈ za_Ts := z_mt5 82 rfl rfl
theorem zw_1160 : Jvm.Cond.instanceMethod ({ cls := "LyndonBench", name := "keptLength", desc := "(I)I" } : Jvm.MethodName) ∈ za_Ts := z_mt5 83 rfl rfl
theorem zw_1161 : Jvm.Cond.selects "LyndonBench" ({ cls := "LyndonBench", name := "keptLength", desc := "(I)I" } : Jvm.MethodName) ({ cls := "LyndonBench", name := "keptLength", desc := "(I)I" } : Jvm.MethodName) ∈ za_Ts := z_mt5 84 rfl rfl
theorem zw_1162 : Jvm.Cond.code ({ cls := "LyndonBench", name := "keptLength", desc := "(I)I" } : Jvm.MethodName) prog_1_method_52_code (3 : Nat) (Option.some Jvm.ClassFile.FieldType.int) ∈ za_Ts := z_mt5 85 rfl rfl
theorem zw_1163 : Jvm.Cond.methodLink "LyndonBenchLaw" (294 : Nat) ({ cls := "LyndonBenchLaw", name := "keptLetter", desc := "(LLyndonBench;II[J)I" } : Jvm.MethodName) ∈ za_Ts := z_mt5 86 rfl rfl
theorem zw_1164 : Jvm.Cond.static ({ cls := "LyndonBenchLaw", name := "keptLetter", desc := "(LLyndonBench;II[J)I" } : Jvm.MethodName) ∈ za_Ts := z_mt5 87 rfl rfl
theorem zw_1165 : Jvm.Cond.codeWith ({ cls := "LyndonBenchLaw", name := "keptLetter", desc := "(LLyndonBench;II[J)I" } : Jvm.MethodName) method_28_code (5 : Nat) (Option.some Jvm.ClassFile.FieldType.int) [((0 : Nat), (10 : Nat), (13 : Nat), (46 : Nat))] ∈ za_Ts := z_mt5 88 rfl rfl
theorem zw_1166 : Jvm.Cond.methodLink "LyndonBenchLaw" (97 : Nat) ({ cls := "LyndonBench", name := "keptLetter", desc := "(II)I" } : Jvm.MethodName) ∈ za_Ts := z_mt5 89 rfl rfl
theorem zw_1167 : Jvm.Cond.instanceMethod ({ cls := "LyndonBench", name := "keptLetter", desc := "(II)I" } : Jvm.MethodName) ∈ za_Ts := z_mt5 90 rfl rfl
theorem zw_1168 : Jvm.Cond.selects "LyndonBench" ({ cls := "LyndonBench", name := "keptLetter", desc := "(II)I" } : Jvm.MethodName) ({ cls := "LyndonBench", name := "keptLetter", desc := "(II)I" } : Jvm.MethodName) ∈ za_Ts := z_mt5 91 rfl rfl
theorem zw_1169 : Jvm.Cond.code ({ cls := "LyndonBench", name := "keptLetter", desc := "(II)I" } : Jvm.MethodName) prog_1_method_53_code (4 : Nat) (Option.some Jvm.ClassFile.FieldType.int) ∈ za_Ts := z_mt5 92 rfl rfl
theorem zw_1170 : Jvm.Cond.classLink "LyndonBenchLaw" (101 : Nat) "LyndonBenchModel" ∈ za_Ts := z_mt5 93 rfl rfl
theorem zw_1171 : Jvm.Cond.instantiable "LyndonBenchModel" (24 : Nat) ∈ za_Ts := z_mt5 94 rfl rfl
theorem zw_1172 : Jvm.Cond.methodLink "LyndonBenchLaw" (103 : Nat) ({ cls := "LyndonBenchModel", name := "<init>", desc := "()V" } : Jvm.MethodName) ∈ za_Ts := z_mt5 95 rfl rfl
theorem zw_1173 : Jvm.Cond.instanceMethod ({ cls := "LyndonBenchModel", name := "<init>", desc := "()V" } : Jvm.MethodName) ∈ za_Ts := z_mt5 96 rfl rfl
theorem zw_1174 : Jvm.Cond.code ({ cls := "LyndonBenchModel", name := "<init>", desc := "()V" } : Jvm.MethodName) prog_9_method_1_code (1 : Nat) (Option.none : Option Jvm.ClassFile.FieldType) ∈ za_Ts := z_mt5 97 rfl rfl
theorem zw_1175 : Jvm.Cond.methodLink "LyndonBenchModel" (1 : Nat) ({ cls := "java/lang/Object", name := "<init>", desc := "()V" } : Jvm.MethodName) ∈ za_Ts := z_mt5 98 rfl rfl
theorem zw_1177 : Jvm.Cond.methodLink "LyndonBenchModel" (47 : Nat) ({ cls := "LyndonBenchModel", name := "tell", desc := "(Ljava/lang/String;)V" } : Jvm.MethodName) ∈ za_Ts := z_mt5 100 rfl rfl
theorem zw_1179 : Jvm.Cond.instanceMethod ({ cls := "LyndonBenchModel", name := "tell", desc := "(Ljava/lang/String;)V" } : Jvm.MethodName) ∈ za_Ts := z_mt5 102 rfl rfl
theorem zw_1180 : Jvm.Cond.code ({ cls := "LyndonBenchModel", name := "tell", desc := "(Ljava/lang/String;)V" } : Jvm.MethodName) prog_9_method_50_code (3 : Nat) (Option.none : Option Jvm.ClassFile.FieldType) ∈ za_Ts := z_mt5 103 rfl rfl
theorem zw_1181 : Jvm.Cond.methodLink "LyndonBenchModel" (140 : Nat) ({ cls := "java/lang/String", name := "length", desc := "()I" } : Jvm.MethodName) ∈ za_Ts := z_mt5 104 rfl rfl
theorem zw_1182 : Jvm.Cond.methodLink "LyndonBenchModel" (148 : Nat) ({ cls := "java/lang/String", name := "charAt", desc := "(I)C" } : Jvm.MethodName) ∈ za_Ts := z_mt5 105 rfl rfl
theorem zw_1183 : Jvm.Cond.methodLink "LyndonBenchModel" (51 : Nat) ({ cls := "LyndonBenchModel", name := "parses", desc := "()Z" } : Jvm.MethodName) ∈ za_Ts := z_mt5 106 rfl rfl
theorem zw_1185 : Jvm.Cond.instanceMethod ({ cls := "LyndonBenchModel", name := "parses", desc := "()Z" } : Jvm.MethodName) ∈ za_Ts := z_mt5 108 rfl rfl
theorem zw_1186 : Jvm.Cond.code ({ cls := "LyndonBenchModel", name := "parses", desc := "()Z" } : Jvm.MethodName) prog_9_method_76_code (2 : Nat) (Option.some Jvm.ClassFile.FieldType.boolean) ∈ za_Ts := z_mt5 109 rfl rfl
theorem zw_1187 : Jvm.Cond.methodLink "LyndonBenchModel" (177 : Nat) ({ cls := "LyndonBenchModel", name := "next", desc := "()V" } : Jvm.MethodName) ∈ za_Ts := z_mt5 110 rfl rfl
theorem zw_1189 : Jvm.Cond.instanceMethod ({ cls := "LyndonBenchModel", name := "next", desc := "()V" } : Jvm.MethodName) ∈ za_Ts := z_mt5 112 rfl rfl
theorem zw_1190 : Jvm.Cond.code ({ cls := "LyndonBenchModel", name := "next", desc := "()V" } : Jvm.MethodName) prog_9_method_52_code (2 : Nat) (Option.none : Option Jvm.ClassFile.FieldType) ∈ za_Ts := z_mt5 113 rfl rfl
theorem zw_1191 : Jvm.Cond.methodLink "LyndonBenchModel" (161 : Nat) ({ cls := "LyndonBenchModel", name := "sortOf", desc := "(I)I" } : Jvm.MethodName) ∈ za_Ts := z_mt5 114 rfl rfl
theorem zw_1192 : Jvm.Cond.static ({ cls := "LyndonBenchModel", name := "sortOf", desc := "(I)I" } : Jvm.MethodName) ∈ za_Ts := z_mt5 115 rfl rfl
theorem zw_1193 : Jvm.Cond.code ({ cls := "LyndonBenchModel", name := "sortOf", desc := "(I)I" } : Jvm.MethodName) prog_9_method_51_code (1 : Nat) (Option.some Jvm.ClassFile.FieldType.int) ∈ za_Ts := z_mt5 116 rfl rfl
theorem zw_1194 : Jvm.Cond.methodLink "LyndonBenchModel" (307 : Nat) ({ cls := "LyndonBenchModel", name := "readsAll", desc := "()Z" } : Jvm.MethodName) ∈ za_Ts := z_mt5 117 rfl rfl
theorem zw_1196 : Jvm.Cond.instanceMethod ({ cls := "LyndonBenchModel", name := "readsAll", desc := "()Z" } : Jvm.MethodName) ∈ za_Ts := z_mt5 119 rfl rfl
theorem zw_1197 : Jvm.Cond.code ({ cls := "LyndonBenchModel", name := "readsAll", desc := "()Z" } : Jvm.MethodName) prog_9_method_75_code (1 : Nat) (Option.some Jvm.ClassFile.FieldType.boolean) ∈ za_Ts := z_mt5 120 rfl rfl
theorem zw_1199 : Jvm.Cond.methodLink "LyndonBenchModel" (233 : Nat) ({ cls := "LyndonBenchModel", name := "says", desc := "(Ljava/lang/String;)Z" } : Jvm.MethodName) ∈ za_Ts := z_mt5 122 rfl rfl
theorem zw_1201 : Jvm.Cond.instanceMethod ({ cls := "LyndonBenchModel", name := "says", desc := "(Ljava/lang/String;)Z" } : Jvm.MethodName) ∈ za_Ts := z_mt5 124 rfl rfl
theorem zw_1202 : Jvm.Cond.code ({ cls := "LyndonBenchModel", name := "says", desc := "(Ljava/lang/String;)Z" } : Jvm.MethodName) prog_9_method_53_code (3 : Nat) (Option.some Jvm.ClassFile.FieldType.boolean) ∈ za_Ts := z_mt5 125 rfl rfl
theorem zw_1203 : Jvm.Cond.methodLink "LyndonBenchModel" (170 : Nat) ({ cls := "LyndonBenchModel", name := "fail", desc := "(I)Z" } : Jvm.MethodName) ∈ za_Ts := z_mt5 126 rfl rfl
theorem zw_1205 : Jvm.Cond.instanceMethod ({ cls := "LyndonBenchModel", name := "fail", desc := "(I)Z" } : Jvm.MethodName) ∈ za_Ts := z_mt5 128 rfl rfl
theorem zw_1206 : Jvm.Cond.code ({ cls := "LyndonBenchModel", name := "fail", desc := "(I)Z" } : Jvm.MethodName) prog_9_method_54_code (2 : Nat) (Option.some Jvm.ClassFile.FieldType.boolean) ∈ za_Ts := z_mt5 129 rfl rfl
theorem zw_1207 : Jvm.Cond.methodLink "LyndonBenchModel" (190 : Nat) ({ cls := "LyndonBenchModel", name := "number", desc := "(III)Z" } : Jvm.MethodName) ∈ za_Ts := z_mt5 130 rfl rfl
theorem zw_1209 : Jvm.Cond.instanceMethod ({ cls := "LyndonBenchModel", name := "number", desc := "(III)Z" } : Jvm.MethodName) ∈ za_Ts := z_mt5 132 rfl rfl
theorem zw_1210 : Jvm.Cond.code ({ cls := "LyndonBenchModel", name := "number", desc := "(III)Z" } : Jvm.MethodName) prog_9_method_56_code (4 : Nat) (Option.some Jvm.ClassFile.FieldType.boolean) ∈ za_Ts := z_mt5 133 rfl rfl
theorem zw_1211 : Jvm.Cond.methodLink "LyndonBenchModel" (174 : Nat) ({ cls := "LyndonBenchModel", name := "is", desc := "(I)Z" } : Jvm.MethodName) ∈ za_Ts := z_mt5 134 rfl rfl
theorem zw_1213 : Jvm.Cond.instanceMethod ({ cls := "LyndonBenchModel", name := "is", desc := "(I)Z" } : Jvm.MethodName) ∈ za_Ts := z_mt5 136 rfl rfl
theorem zw_1214 : Jvm.Cond.code ({ cls := "LyndonBenchModel", name := "is", desc := "(I)Z" } : Jvm.MethodName) prog_9_method_55_code (2 : Nat) (Option.some Jvm.ClassFile.FieldType.boolean) ∈ za_Ts := z_mt5 137 rfl rfl
theorem zw_1215 : Jvm.Cond.methodLink "LyndonBenchModel" (58 : Nat) ({ cls := "LyndonBenchModel", name := "in", desc := "(III)Z" } : Jvm.MethodName) ∈ za_Ts := z_mt5 138 rfl rfl
theorem zw_1216 : Jvm.Cond.static ({ cls := "LyndonBenchModel", name := "in", desc := "(III)Z" } : Jvm.MethodName) ∈ za_Ts := z_mt5 139 rfl rfl
theorem zw_1217 : Jvm.Cond.code ({ cls := "LyndonBenchModel", name := "in", desc := "(III)Z" } : Jvm.MethodName) prog_9_method_3_code (3 : Nat) (Option.some Jvm.ClassFile.FieldType.boolean) ∈ za_Ts := z_mt5 140 rfl rfl
theorem zw_1218 : Jvm.Cond.methodLink "LyndonBenchModel" (229 : Nat) ({ cls := "LyndonBenchModel", name := "readsCommand", desc := "(I)Z" } : Jvm.MethodName) ∈ za_Ts := z_mt5 141 rfl rfl
theorem zw_1220 : Jvm.Cond.instanceMethod ({ cls := "LyndonBenchModel", name := "readsCommand", desc := "(I)Z" } : Jvm.MethodName) ∈ za_Ts := z_mt5 143 rfl rfl
theorem zw_1221 : Jvm.Cond.code ({ cls := "LyndonBenchModel", name := "readsCommand", desc := "(I)Z" } : Jvm.MethodName) prog_9_method_73_code (3 : Nat) (Option.some Jvm.ClassFile.FieldType.boolean) ∈ za_Ts := z_mt5 144 rfl rfl
theorem zw_1222 : Jvm.Cond.methodLink "LyndonBenchModel" (260 : Nat) ({ cls := "LyndonBenchModel", name := "wordAhead", desc := "()I" } : Jvm.MethodName) ∈ za_Ts := z_mt5 145 rfl rfl
theorem zw_1224 : Jvm.Cond.instanceMethod ({ cls := "LyndonBenchModel", name := "wordAhead", desc := "()I" } : Jvm.MethodName) ∈ za_Ts := z_mt5 147 rfl rfl
theorem zw_1225 : Jvm.Cond.code ({ cls := "LyndonBenchModel", name := "wordAhead", desc := "()I" } : Jvm.MethodName) prog_9_method_71_code (1 : Nat) (Option.some Jvm.ClassFile.FieldType.int) ∈ za_Ts := z_mt5 148 rfl rfl
theorem zw_1232 : Jvm.Cond.methodLink "LyndonBenchModel" (247 : Nat) ({ cls := "LyndonBenchModel", name := "laterWord", desc := "()I" } : Jvm.MethodName) ∈ za_Ts := z_mt5 155 rfl rfl
theorem zw_1234 : Jvm.Cond.instanceMethod ({ cls := "LyndonBenchModel", name := "laterWord", desc := "()I" } : Jvm.MethodName) ∈ za_Ts := z_mt5 157 rfl rfl
theorem zw_1235 : Jvm.Cond.code ({ cls := "LyndonBenchModel", name := "laterWord", desc := "()I" } : Jvm.MethodName) prog_9_method_72_code (1 : Nat) (Option.some Jvm.ClassFile.FieldType.int) ∈ za_Ts := z_mt5 158 rfl rfl
theorem zw_1242 : Jvm.Cond.methodLink "LyndonBenchModel" (263 : Nat) ({ cls := "LyndonBenchModel", name := "readsRepeat", desc := "(I)Z" } : Jvm.MethodName) ∈ za_Ts := z_mt5 165 rfl rfl
theorem zw_1244 : Jvm.Cond.instanceMethod ({ cls := "LyndonBenchModel", name := "readsRepeat", desc := "(I)Z" } : Jvm.MethodName) ∈ za_Ts := z_mt5 167 rfl rfl
theorem zw_1245 : Jvm.Cond.code ({ cls := "LyndonBenchModel", name := "readsRepeat", desc := "(I)Z" } : Jvm.MethodName) prog_9_method_70_code (5 : Nat) (Option.some Jvm.ClassFile.FieldType.boolean) ∈ za_Ts := z_mt5 168 rfl rfl
theorem zw_1246 : Jvm.Cond.methodLink "LyndonBenchModel" (269 : Nat) ({ cls := "LyndonBenchModel", name := "readsWord", desc := "(I)Z" } : Jvm.MethodName) ∈ za_Ts := z_mt5 169 rfl rfl
theorem zw_1248 : Jvm.Cond.instanceMethod ({ cls := "LyndonBenchModel", name := "readsWord", desc := "(I)Z" } : Jvm.MethodName) ∈ za_Ts := z_mt5 171 rfl rfl
theorem zw_1249 : Jvm.Cond.code ({ cls := "LyndonBenchModel", name := "readsWord", desc := "(I)Z" } : Jvm.MethodName) prog_9_method_74_code (2 : Nat) (Option.some Jvm.ClassFile.FieldType.boolean) ∈ za_Ts := z_mt5 172 rfl rfl
theorem zw_1250 : Jvm.Cond.methodLink "LyndonBenchModel" (272 : Nat) ({ cls := "LyndonBenchModel", name := "readsText", desc := "()Z" } : Jvm.MethodName) ∈ za_Ts := z_mt5 173 rfl rfl
theorem zw_1252 : Jvm.Cond.instanceMethod ({ cls := "LyndonBenchModel", name := "readsText", desc := "()Z" } : Jvm.MethodName) ∈ za_Ts := z_mt5 175 rfl rfl
theorem zw_1253 : Jvm.Cond.code ({ cls := "LyndonBenchModel", name := "readsText", desc := "()Z" } : Jvm.MethodName) prog_9_method_59_code (1 : Nat) (Option.some Jvm.ClassFile.FieldType.boolean) ∈ za_Ts := z_mt5 176 rfl rfl
theorem zw_1254 : Jvm.Cond.methodLink "LyndonBenchModel" (183 : Nat) ({ cls := "LyndonBenchModel", name := "readsWordInto", desc := "(I)Z" } : Jvm.MethodName) ∈ za_Ts := z_mt5 177 rfl rfl
theorem zw_1256 : Jvm.Cond.instanceMethod ({ cls := "LyndonBenchModel", name := "readsWordInto", desc := "(I)Z" } : Jvm.MethodName) ∈ za_Ts := z_mt5 179 rfl rfl
theorem zw_1257 : Jvm.Cond.code ({ cls := "LyndonBenchModel", name := "readsWordInto", desc := "(I)Z" } : Jvm.MethodName) prog_9_method_58_code (4 : Nat) (Option.some Jvm.ClassFile.FieldType.boolean) ∈ za_Ts := z_mt5 180 rfl rfl
theorem zw_1258 : Jvm.Cond.methodLink "LyndonBenchModel" (180 : Nat) ({ cls := "LyndonBenchModel", name := "isLetter", desc := "(I)Z" } : Jvm.MethodName) ∈ za_Ts := z_mt5 181 rfl rfl
theorem zw_1260 : Jvm.Cond.instanceMethod ({ cls := "LyndonBenchModel", name := "isLetter", desc := "(I)Z" } : Jvm.MethodName) ∈ za_Ts := z_mt5 183 rfl rfl
theorem zw_1261 : Jvm.Cond.code ({ cls := "LyndonBenchModel", name := "isLetter", desc := "(I)Z" } : Jvm.MethodName) prog_9_method_6_code (2 : Nat) (Option.some Jvm.ClassFile.FieldType.boolean) ∈ za_Ts := z_mt5 184 rfl rfl
theorem zw_1262 : Jvm.Cond.methodLink "LyndonBenchModel" (186 : Nat) ({ cls := "LyndonBenchModel", name := "stops", desc := "(Z)Z" } : Jvm.MethodName) ∈ za_Ts := z_mt5 185 rfl rfl
theorem zw_1264 : Jvm.Cond.instanceMethod ({ cls := "LyndonBenchModel", name := "stops", desc := "(Z)Z" } : Jvm.MethodName) ∈ za_Ts := z_mt5 187 rfl rfl
theorem zw_1265 : Jvm.Cond.code ({ cls := "LyndonBenchModel", name := "stops", desc := "(Z)Z" } : Jvm.MethodName) prog_9_method_57_code (2 : Nat) (Option.some Jvm.ClassFile.FieldType.boolean) ∈ za_Ts := z_mt5 188 rfl rfl
theorem zw_1266 : Jvm.Cond.methodLink "LyndonBenchModel" (102 : Nat) ({ cls := "LyndonBenchModel", name := "takes", desc := "()I" } : Jvm.MethodName) ∈ za_Ts := z_mt5 189 rfl rfl
theorem zw_1268 : Jvm.Cond.instanceMethod ({ cls := "LyndonBenchModel", name := "takes", desc := "()I" } : Jvm.MethodName) ∈ za_Ts := z_mt5 191 rfl rfl
theorem zw_1269 : Jvm.Cond.code ({ cls := "LyndonBenchModel", name := "takes", desc := "()I" } : Jvm.MethodName) prog_9_method_30_code (2 : Nat) (Option.some Jvm.ClassFile.FieldType.int) ∈ za_Ts := z_mt5 192 rfl rfl
theorem zw_1270 : Jvm.Cond.methodLink "LyndonBenchModel" (275 : Nat) ({ cls := "LyndonBenchModel", name := "readsAppend", desc := "()Z" } : Jvm.MethodName) ∈ za_Ts := z_mt5 193 rfl rfl
theorem zw_1272 : Jvm.Cond.instanceMethod ({ cls := "LyndonBenchModel", name := "readsAppend", desc := "()Z" } : Jvm.MethodName) ∈ za_Ts := z_mt5 195 rfl rfl
theorem zw_1273 : Jvm.Cond.code ({ cls := "LyndonBenchModel", name := "readsAppend", desc := "()Z" } : Jvm.MethodName) prog_9_method_60_code (1 : Nat) (Option.some Jvm.ClassFile.FieldType.boolean) ∈ za_Ts := z_mt5 196 rfl rfl
theorem zw_1274 : Jvm.Cond.methodLink "LyndonBenchModel" (73 : Nat) ({ cls := "LyndonBenchModel", name := "loads", desc := "()V" } : Jvm.MethodName) ∈ za_Ts := z_mt5 197 rfl rfl
theorem zw_1276 : Jvm.Cond.instanceMethod ({ cls := "LyndonBenchModel", name := "loads", desc := "()V" } : Jvm.MethodName) ∈ za_Ts := z_mt5 199 rfl rfl
theorem zw_1277 : Jvm.Cond.code ({ cls := "LyndonBenchModel", name := "loads", desc := "()V" } : Jvm.MethodName) prog_9_method_10_code (2 : Nat) (Option.none : Option Jvm.ClassFile.FieldType) ∈ za_Ts := z_mt5 200 rfl rfl
theorem zw_1278 : Jvm.Cond.methodLink "LyndonBenchModel" (278 : Nat) ({ cls := "LyndonBenchModel", name := "readsDrop", desc := "()Z" } : Jvm.MethodName) ∈ za_Ts := z_mt5 201 rfl rfl
theorem zw_1280 : Jvm.Cond.instanceMethod ({ cls := "LyndonBenchModel", name := "readsDrop", desc := "()Z" } : Jvm.MethodName) ∈ za_Ts := z_mt5 203 rfl rfl
theorem zw_1281 : Jvm.Cond.code ({ cls := "LyndonBenchModel", name := "readsDrop", desc := "()Z" } : Jvm.MethodName) prog_9_method_61_code (1 : Nat) (Option.some Jvm.ClassFile.FieldType.boolean) ∈ za_Ts := z_mt5 204 rfl rfl
theorem zw_1282 : Jvm.Cond.methodLink "LyndonBenchModel" (193 : Nat) ({ cls := "LyndonBenchModel", name := "drops", desc := "(I)I" } : Jvm.MethodName) ∈ za_Ts := z_mt5 205 rfl rfl
theorem zw_1284 : Jvm.Cond.instanceMethod ({ cls := "LyndonBenchModel", name := "drops", desc := "(I)I" } : Jvm.MethodName) ∈ za_Ts := z_mt5 207 rfl rfl
theorem zw_1285 : Jvm.Cond.code ({ cls := "LyndonBenchModel", name := "drops", desc := "(I)I" } : Jvm.MethodName) prog_9_method_32_code (2 : Nat) (Option.some Jvm.ClassFile.FieldType.int) ∈ za_Ts := z_mt5 208 rfl rfl
theorem zw_1286 : Jvm.Cond.methodLink "LyndonBenchModel" (105 : Nat) ({ cls := "LyndonBenchModel", name := "factors", desc := "()I" } : Jvm.MethodName) ∈ za_Ts := z_mt5 209 rfl rfl
theorem zw_1288 : Jvm.Cond.instanceMethod ({ cls := "LyndonBenchModel", name := "factors", desc := "()I" } : Jvm.MethodName) ∈ za_Ts := z_mt5 211 rfl rfl
theorem zw_1289 : Jvm.Cond.code ({ cls := "LyndonBenchModel", name := "factors", desc := "()I" } : Jvm.MethodName) prog_9_method_15_code (1 : Nat) (Option.some Jvm.ClassFile.FieldType.int) ∈ za_Ts := z_mt5 212 rfl rfl
theorem zw_1290 : Jvm.Cond.methodLink "LyndonBenchModel" (76 : Nat) ({ cls := "LyndonBenchModel", name := "cuts", desc := "()I" } : Jvm.MethodName) ∈ za_Ts := z_mt5 213 rfl rfl
theorem zw_1292 : Jvm.Cond.instanceMethod ({ cls := "LyndonBenchModel", name := "cuts", desc := "()I" } : Jvm.MethodName) ∈ za_Ts := z_mt5 215 rfl rfl
theorem zw_1293 : Jvm.Cond.code ({ cls := "LyndonBenchModel", name := "cuts", desc := "()I" } : Jvm.MethodName) prog_9_method_14_code (3 : Nat) (Option.some Jvm.ClassFile.FieldType.int) ∈ za_Ts := z_mt5 216 rfl rfl
theorem zw_1294 : Jvm.Cond.methodLink "LyndonBenchModel" (69 : Nat) ({ cls := "LyndonBenchModel", name := "isLess", desc := "(II)Z" } : Jvm.MethodName) ∈ za_Ts := z_mt5 217 rfl rfl
theorem zw_1296 : Jvm.Cond.instanceMethod ({ cls := "LyndonBenchModel", name := "isLess", desc := "(II)Z" } : Jvm.MethodName) ∈ za_Ts := z_mt5 219 rfl rfl
theorem zw_1297 : Jvm.Cond.code ({ cls := "LyndonBenchModel", name := "isLess", desc := "(II)Z" } : Jvm.MethodName) prog_9_method_13_code (5 : Nat) (Option.some Jvm.ClassFile.FieldType.boolean) ∈ za_Ts := z_mt5 220 rfl rfl
theorem zw_1298 : Jvm.Cond.methodLink "LyndonBenchModel" (281 : Nat) ({ cls := "LyndonBenchModel", name := "readsPart", desc := "()Z" } : Jvm.MethodName) ∈ za_Ts := z_mt5 221 rfl rfl
theorem zw_1300 : Jvm.Cond.instanceMethod ({ cls := "LyndonBenchModel", name := "readsPart", desc := "()Z" } : Jvm.MethodName) ∈ za_Ts := z_mt5 223 rfl rfl
theorem zw_1301 : Jvm.Cond.code ({ cls := "LyndonBenchModel", name := "readsPart", desc := "()Z" } : Jvm.MethodName) prog_9_method_62_code (1 : Nat) (Option.some Jvm.ClassFile.FieldType.boolean) ∈ za_Ts := z_mt5 224 rfl rfl
theorem zw_1302 : Jvm.Cond.methodLink "LyndonBenchModel" (196 : Nat) ({ cls := "LyndonBenchModel", name := "parts", desc := "(II)I" } : Jvm.MethodName) ∈ za_Ts := z_mt5 225 rfl rfl
theorem zw_1304 : Jvm.Cond.instanceMethod ({ cls := "LyndonBenchModel", name := "parts", desc := "(II)I" } : Jvm.MethodName) ∈ za_Ts := z_mt5 227 rfl rfl
theorem zw_1305 : Jvm.Cond.code ({ cls := "LyndonBenchModel", name := "parts", desc := "(II)I" } : Jvm.MethodName) prog_9_method_33_code (4 : Nat) (Option.some Jvm.ClassFile.FieldType.int) ∈ za_Ts := z_mt5 228 rfl rfl
theorem zw_1306 : Jvm.Cond.methodLink "LyndonBenchModel" (284 : Nat) ({ cls := "LyndonBenchModel", name := "readsRotate", desc := "()Z" } : Jvm.MethodName) ∈ za_Ts := z_mt5 229 rfl rfl
theorem zw_1308 : Jvm.Cond.instanceMethod ({ cls := "LyndonBenchModel", name := "readsRotate", desc := "()Z" } : Jvm.MethodName) ∈ za_Ts := z_mt5 231 rfl rfl
theorem zw_1309 : Jvm.Cond.code ({ cls := "LyndonBenchModel", name := "readsRotate", desc := "()Z" } : Jvm.MethodName) prog_9_method_63_code (1 : Nat) (Option.some Jvm.ClassFile.FieldType.boolean) ∈ za_Ts := z_mt5 232 rfl rfl
theorem zw_1310 : Jvm.Cond.methodLink "LyndonBenchModel" (114 : Nat) ({ cls := "LyndonBenchModel", name := "turns", desc := "(I)I" } : Jvm.MethodName) ∈ za_Ts := z_mt5 233 rfl rfl
theorem zw_1312 : Jvm.Cond.instanceMethod ({ cls := "LyndonBenchModel", name := "turns", desc := "(I)I" } : Jvm.MethodName) ∈ za_Ts := z_mt5 235 rfl rfl
theorem zw_1313 : Jvm.Cond.code ({ cls := "LyndonBenchModel", name := "turns", desc := "(I)I" } : Jvm.MethodName) prog_9_method_34_code (2 : Nat) (Option.some Jvm.ClassFile.FieldType.int) ∈ za_Ts := z_mt5 236 rfl rfl
theorem zw_1314 : Jvm.Cond.methodLink "LyndonBenchModel" (108 : Nat) ({ cls := "LyndonBenchModel", name := "loadsRotated", desc := "(I)V" } : Jvm.MethodName) ∈ za_Ts := z_mt5 237 rfl rfl
theorem zw_1316 : Jvm.Cond.instanceMethod ({ cls := "LyndonBenchModel", name := "loadsRotated", desc := "(I)V" } : Jvm.MethodName) ∈ za_Ts := z_mt5 239 rfl rfl
theorem zw_1317 : Jvm.Cond.code ({ cls := "LyndonBenchModel", name := "loadsRotated", desc := "(I)V" } : Jvm.MethodName) prog_9_method_12_code (3 : Nat) (Option.none : Option Jvm.ClassFile.FieldType) ∈ za_Ts := z_mt6 0 rfl rfl
theorem zw_1318 : Jvm.Cond.methodLink "LyndonBenchModel" (287 : Nat) ({ cls := "LyndonBenchModel", name := "readsReverse", desc := "()Z" } : Jvm.MethodName) ∈ za_Ts := z_mt6 1 rfl rfl
theorem zw_1320 : Jvm.Cond.instanceMethod ({ cls := "LyndonBenchModel", name := "readsReverse", desc := "()Z" } : Jvm.MethodName) ∈ za_Ts := z_mt6 3 rfl rfl
theorem zw_1321 : Jvm.Cond.code ({ cls := "LyndonBenchModel", name := "readsReverse", desc := "()Z" } : Jvm.MethodName) prog_9_method_64_code (1 : Nat) (Option.some Jvm.ClassFile.FieldType.boolean) ∈ za_Ts := z_mt6 4 rfl rfl
theorem zw_1322 : Jvm.Cond.methodLink "LyndonBenchModel" (199 : Nat) ({ cls := "LyndonBenchModel", name := "mirrors", desc := "()I" } : Jvm.MethodName) ∈ za_Ts := z_mt6 5 rfl rfl
theorem zw_1324 : Jvm.Cond.instanceMethod ({ cls := "LyndonBenchModel", name := "mirrors", desc := "()I" } : Jvm.MethodName) ∈ za_Ts := z_mt6 7 rfl rfl
theorem zw_1325 : Jvm.Cond.code ({ cls := "LyndonBenchModel", name := "mirrors", desc := "()I" } : Jvm.MethodName) prog_9_method_35_code (2 : Nat) (Option.some Jvm.ClassFile.FieldType.int) ∈ za_Ts := z_mt6 8 rfl rfl
theorem zw_1326 : Jvm.Cond.methodLink "LyndonBenchModel" (290 : Nat) ({ cls := "LyndonBenchModel", name := "readsLeast", desc := "()Z" } : Jvm.MethodName) ∈ za_Ts := z_mt6 9 rfl rfl
theorem zw_1328 : Jvm.Cond.instanceMethod ({ cls := "LyndonBenchModel", name := "readsLeast", desc := "()Z" } : Jvm.MethodName) ∈ za_Ts := z_mt6 11 rfl rfl
theorem zw_1329 : Jvm.Cond.code ({ cls := "LyndonBenchModel", name := "readsLeast", desc := "()Z" } : Jvm.MethodName) prog_9_method_65_code (1 : Nat) (Option.some Jvm.ClassFile.FieldType.boolean) ∈ za_Ts := z_mt6 12 rfl rfl
theorem zw_1330 : Jvm.Cond.methodLink "LyndonBenchModel" (202 : Nat) ({ cls := "LyndonBenchModel", name := "turnsToLeast", desc := "()I" } : Jvm.MethodName) ∈ za_Ts := z_mt6 13 rfl rfl
theorem zw_1332 : Jvm.Cond.instanceMethod ({ cls := "LyndonBenchModel", name := "turnsToLeast", desc := "()I" } : Jvm.MethodName) ∈ za_Ts := z_mt6 15 rfl rfl
theorem zw_1333 : Jvm.Cond.code ({ cls := "LyndonBenchModel", name := "turnsToLeast", desc := "()I" } : Jvm.MethodName) prog_9_method_36_code (2 : Nat) (Option.some Jvm.ClassFile.FieldType.int) ∈ za_Ts := z_mt6 16 rfl rfl
theorem zw_1334 : Jvm.Cond.methodLink "LyndonBenchModel" (111 : Nat) ({ cls := "LyndonBenchModel", name := "least", desc := "()I" } : Jvm.MethodName) ∈ za_Ts := z_mt6 17 rfl rfl
theorem zw_1336 : Jvm.Cond.instanceMethod ({ cls := "LyndonBenchModel", name := "least", desc := "()I" } : Jvm.MethodName) ∈ za_Ts := z_mt6 19 rfl rfl
theorem zw_1337 : Jvm.Cond.code ({ cls := "LyndonBenchModel", name := "least", desc := "()I" } : Jvm.MethodName) prog_9_method_23_code (3 : Nat) (Option.some Jvm.ClassFile.FieldType.int) ∈ za_Ts := z_mt6 20 rfl rfl
theorem zw_1338 : Jvm.Cond.methodLink "LyndonBenchModel" (90 : Nat) ({ cls := "LyndonBenchModel", name := "rotations", desc := "(II)I" } : Jvm.MethodName) ∈ za_Ts := z_mt6 21 rfl rfl
theorem zw_1340 : Jvm.Cond.instanceMethod ({ cls := "LyndonBenchModel", name := "rotations", desc := "(II)I" } : Jvm.MethodName) ∈ za_Ts := z_mt6 23 rfl rfl
theorem zw_1341 : Jvm.Cond.code ({ cls := "LyndonBenchModel", name := "rotations", desc := "(II)I" } : Jvm.MethodName) prog_9_method_22_code (5 : Nat) (Option.some Jvm.ClassFile.FieldType.int) ∈ za_Ts := z_mt6 24 rfl rfl
theorem zw_1342 : Jvm.Cond.methodLink "LyndonBenchModel" (293 : Nat) ({ cls := "LyndonBenchModel", name := "readsNext", desc := "()Z" } : Jvm.MethodName) ∈ za_Ts := z_mt6 25 rfl rfl
theorem zw_1344 : Jvm.Cond.instanceMethod ({ cls := "LyndonBenchModel", name := "readsNext", desc := "()Z" } : Jvm.MethodName) ∈ za_Ts := z_mt6 27 rfl rfl
theorem zw_1345 : Jvm.Cond.code ({ cls := "LyndonBenchModel", name := "readsNext", desc := "()Z" } : Jvm.MethodName) prog_9_method_66_code (1 : Nat) (Option.some Jvm.ClassFile.FieldType.boolean) ∈ za_Ts := z_mt6 28 rfl rfl
theorem zw_1346 : Jvm.Cond.methodLink "LyndonBenchModel" (205 : Nat) ({ cls := "LyndonBenchModel", name := "hasNext", desc := "(I)Z" } : Jvm.MethodName) ∈ za_Ts := z_mt6 29 rfl rfl
theorem zw_1348 : Jvm.Cond.instanceMethod ({ cls := "LyndonBenchModel", name := "hasNext", desc := "(I)Z" } : Jvm.MethodName) ∈ za_Ts := z_mt6 31 rfl rfl
theorem zw_1349 : Jvm.Cond.code ({ cls := "LyndonBenchModel", name := "hasNext", desc := "(I)Z" } : Jvm.MethodName) prog_9_method_38_code (2 : Nat) (Option.some Jvm.ClassFile.FieldType.boolean) ∈ za_Ts := z_mt6 32 rfl rfl
theorem zw_1350 : Jvm.Cond.methodLink "LyndonBenchModel" (117 : Nat) ({ cls := "LyndonBenchModel", name := "why", desc := "()I" } : Jvm.MethodName) ∈ za_Ts := z_mt6 33 rfl rfl
theorem zw_1352 : Jvm.Cond.instanceMethod ({ cls := "LyndonBenchModel", name := "why", desc := "()I" } : Jvm.MethodName) ∈ za_Ts := z_mt6 35 rfl rfl
theorem zw_1353 : Jvm.Cond.code ({ cls := "LyndonBenchModel", name := "why", desc := "()I" } : Jvm.MethodName) prog_9_method_20_code (1 : Nat) (Option.some Jvm.ClassFile.FieldType.int) ∈ za_Ts := z_mt6 36 rfl rfl
theorem zw_1354 : Jvm.Cond.methodLink "LyndonBenchModel" (84 : Nat) ({ cls := "LyndonBenchModel", name := "isPrimitiveRow", desc := "()Z" } : Jvm.MethodName) ∈ za_Ts := z_mt6 37 rfl rfl
theorem zw_1356 : Jvm.Cond.instanceMethod ({ cls := "LyndonBenchModel", name := "isPrimitiveRow", desc := "()Z" } : Jvm.MethodName) ∈ za_Ts := z_mt6 39 rfl rfl
theorem zw_1357 : Jvm.Cond.code ({ cls := "LyndonBenchModel", name := "isPrimitiveRow", desc := "()Z" } : Jvm.MethodName) prog_9_method_17_code (2 : Nat) (Option.some Jvm.ClassFile.FieldType.boolean) ∈ za_Ts := z_mt6 40 rfl rfl
theorem zw_1358 : Jvm.Cond.methodLink "LyndonBenchModel" (80 : Nat) ({ cls := "LyndonBenchModel", name := "turned", desc := "(I)I" } : Jvm.MethodName) ∈ za_Ts := z_mt6 41 rfl rfl
theorem zw_1360 : Jvm.Cond.instanceMethod ({ cls := "LyndonBenchModel", name := "turned", desc := "(I)I" } : Jvm.MethodName) ∈ za_Ts := z_mt6 43 rfl rfl
theorem zw_1361 : Jvm.Cond.code ({ cls := "LyndonBenchModel", name := "turned", desc := "(I)I" } : Jvm.MethodName) prog_9_method_16_code (4 : Nat) (Option.some Jvm.ClassFile.FieldType.int) ∈ za_Ts := z_mt6 44 rfl rfl
theorem zw_1362 : Jvm.Cond.methodLink "LyndonBenchModel" (87 : Nat) ({ cls := "LyndonBenchModel", name := "isLeastRow", desc := "()Z" } : Jvm.MethodName) ∈ za_Ts := z_mt6 45 rfl rfl
theorem zw_1364 : Jvm.Cond.instanceMethod ({ cls := "LyndonBenchModel", name := "isLeastRow", desc := "()Z" } : Jvm.MethodName) ∈ za_Ts := z_mt6 47 rfl rfl
theorem zw_1365 : Jvm.Cond.code ({ cls := "LyndonBenchModel", name := "isLeastRow", desc := "()Z" } : Jvm.MethodName) prog_9_method_18_code (2 : Nat) (Option.some Jvm.ClassFile.FieldType.boolean) ∈ za_Ts := z_mt6 48 rfl rfl
theorem zw_1366 : Jvm.Cond.methodLink "LyndonBenchModel" (120 : Nat) ({ cls := "LyndonBenchModel", name := "nexts", desc := "(I)V" } : Jvm.MethodName) ∈ za_Ts := z_mt6 49 rfl rfl
theorem zw_1368 : Jvm.Cond.instanceMethod ({ cls := "LyndonBenchModel", name := "nexts", desc := "(I)V" } : Jvm.MethodName) ∈ za_Ts := z_mt6 51 rfl rfl
theorem zw_1369 : Jvm.Cond.code ({ cls := "LyndonBenchModel", name := "nexts", desc := "(I)V" } : Jvm.MethodName) prog_9_method_37_code (3 : Nat) (Option.none : Option Jvm.ClassFile.FieldType) ∈ za_Ts := z_mt6 52 rfl rfl
theorem zw_1370 : Jvm.Cond.methodLink "LyndonBenchModel" (208 : Nat) ({ cls := "LyndonBenchModel", name := "goesOn", desc := "(I)I" } : Jvm.MethodName) ∈ za_Ts := z_mt6 53 rfl rfl
theorem zw_1372 : Jvm.Cond.instanceMethod ({ cls := "LyndonBenchModel", name := "goesOn", desc := "(I)I" } : Jvm.MethodName) ∈ za_Ts := z_mt6 55 rfl rfl
theorem zw_1373 : Jvm.Cond.code ({ cls := "LyndonBenchModel", name := "goesOn", desc := "(I)I" } : Jvm.MethodName) prog_9_method_39_code (2 : Nat) (Option.some Jvm.ClassFile.FieldType.int) ∈ za_Ts := z_mt6 56 rfl rfl
theorem zw_1374 : Jvm.Cond.methodLink "LyndonBenchModel" (296 : Nat) ({ cls := "LyndonBenchModel", name := "readsKeep", desc := "()Z" } : Jvm.MethodName) ∈ za_Ts := z_mt6 57 rfl rfl
theorem zw_1376 : Jvm.Cond.instanceMethod ({ cls := "LyndonBenchModel", name := "readsKeep", desc := "()Z" } : Jvm.MethodName) ∈ za_Ts := z_mt6 59 rfl rfl
theorem zw_1377 : Jvm.Cond.code ({ cls := "LyndonBenchModel", name := "readsKeep", desc := "()Z" } : Jvm.MethodName) prog_9_method_67_code (2 : Nat) (Option.some Jvm.ClassFile.FieldType.boolean) ∈ za_Ts := z_mt6 60 rfl rfl
theorem zw_1378 : Jvm.Cond.methodLink "LyndonBenchModel" (211 : Nat) ({ cls := "LyndonBenchModel", name := "canKeepText", desc := "()Z" } : Jvm.MethodName) ∈ za_Ts := z_mt6 61 rfl rfl
theorem zw_1380 : Jvm.Cond.instanceMethod ({ cls := "LyndonBenchModel", name := "canKeepText", desc := "()Z" } : Jvm.MethodName) ∈ za_Ts := z_mt6 63 rfl rfl
theorem zw_1381 : Jvm.Cond.code ({ cls := "LyndonBenchModel", name := "canKeepText", desc := "()Z" } : Jvm.MethodName) prog_9_method_42_code (1 : Nat) (Option.some Jvm.ClassFile.FieldType.boolean) ∈ za_Ts := z_mt6 64 rfl rfl
theorem zw_1382 : Jvm.Cond.methodLink "LyndonBenchModel" (123 : Nat) ({ cls := "LyndonBenchModel", name := "shelves", desc := "(II)I" } : Jvm.MethodName) ∈ za_Ts := z_mt6 65 rfl rfl
theorem zw_1384 : Jvm.Cond.instanceMethod ({ cls := "LyndonBenchModel", name := "shelves", desc := "(II)I" } : Jvm.MethodName) ∈ za_Ts := z_mt6 67 rfl rfl
theorem zw_1385 : Jvm.Cond.code ({ cls := "LyndonBenchModel", name := "shelves", desc := "(II)I" } : Jvm.MethodName) prog_9_method_40_code (5 : Nat) (Option.some Jvm.ClassFile.FieldType.int) ∈ za_Ts := z_mt6 68 rfl rfl
theorem zw_1386 : Jvm.Cond.methodLink "LyndonBenchModel" (214 : Nat) ({ cls := "LyndonBenchModel", name := "canKeepFactor", desc := "(I)Z" } : Jvm.MethodName) ∈ za_Ts := z_mt6 69 rfl rfl
theorem zw_1388 : Jvm.Cond.instanceMethod ({ cls := "LyndonBenchModel", name := "canKeepFactor", desc := "(I)Z" } : Jvm.MethodName) ∈ za_Ts := z_mt6 71 rfl rfl
theorem zw_1389 : Jvm.Cond.code ({ cls := "LyndonBenchModel", name := "canKeepFactor", desc := "(I)Z" } : Jvm.MethodName) prog_9_method_41_code (2 : Nat) (Option.some Jvm.ClassFile.FieldType.boolean) ∈ za_Ts := z_mt6 72 rfl rfl
theorem zw_1390 : Jvm.Cond.methodLink "LyndonBenchModel" (217 : Nat) ({ cls := "LyndonBenchModel", name := "keepsFactor", desc := "(I)I" } : Jvm.MethodName) ∈ za_Ts := z_mt6 73 rfl rfl
theorem zw_1392 : Jvm.Cond.instanceMethod ({ cls := "LyndonBenchModel", name := "keepsFactor", desc := "(I)I" } : Jvm.MethodName) ∈ za_Ts := z_mt6 75 rfl rfl
theorem zw_1393 : Jvm.Cond.code ({ cls := "LyndonBenchModel", name := "keepsFactor", desc := "(I)I" } : Jvm.MethodName) prog_9_method_43_code (2 : Nat) (Option.some Jvm.ClassFile.FieldType.int) ∈ za_Ts := z_mt6 76 rfl rfl
theorem zw_1394 : Jvm.Cond.methodLink "LyndonBenchModel" (299 : Nat) ({ cls := "LyndonBenchModel", name := "readsRemove", desc := "()Z" } : Jvm.MethodName) ∈ za_Ts := z_mt6 77 rfl rfl
theorem zw_1396 : Jvm.Cond.instanceMethod ({ cls := "LyndonBenchModel", name := "readsRemove", desc := "()Z" } : Jvm.MethodName) ∈ za_Ts := z_mt6 79 rfl rfl
theorem zw_1397 : Jvm.Cond.code ({ cls := "LyndonBenchModel", name := "readsRemove", desc := "()Z" } : Jvm.MethodName) prog_9_method_68_code (1 : Nat) (Option.some Jvm.ClassFile.FieldType.boolean) ∈ za_Ts := z_mt6 80 rfl rfl
theorem zw_1398 : Jvm.Cond.methodLink "LyndonBenchModel" (220 : Nat) ({ cls := "LyndonBenchModel", name := "removes", desc := "(I)I" } : Jvm.MethodName) ∈ za_Ts := z_mt6 81 rfl rfl
theorem zw_1400 : Jvm.Cond.instanceMethod ({ cls := "LyndonBenchModel", name := "removes", desc := "(I)I" } : Jvm.MethodName) ∈ za_Ts := z_mt6 83 rfl rfl
theorem zw_1401 : Jvm.Cond.code ({ cls := "LyndonBenchModel", name := "removes", desc := "(I)I" } : Jvm.MethodName) prog_9_method_44_code (4 : Nat) (Option.some Jvm.ClassFile.FieldType.int) ∈ za_Ts := z_mt6 84 rfl rfl
theorem zw_1402 : Jvm.Cond.methodLink "LyndonBenchModel" (302 : Nat) ({ cls := "LyndonBenchModel", name := "readsJoin", desc := "()Z" } : Jvm.MethodName) ∈ za_Ts := z_mt6 85 rfl rfl
theorem zw_1404 : Jvm.Cond.instanceMethod ({ cls := "LyndonBenchModel", name := "readsJoin", desc := "()Z" } : Jvm.MethodName) ∈ za_Ts := z_mt6 87 rfl rfl
theorem zw_1405 : Jvm.Cond.code ({ cls := "LyndonBenchModel", name := "readsJoin", desc := "()Z" } : Jvm.MethodName) prog_9_method_69_code (1 : Nat) (Option.some Jvm.ClassFile.FieldType.boolean) ∈ za_Ts := z_mt6 88 rfl rfl
theorem zw_1406 : Jvm.Cond.methodLink "LyndonBenchModel" (223 : Nat) ({ cls := "LyndonBenchModel", name := "canJoin", desc := "()Z" } : Jvm.MethodName) ∈ za_Ts := z_mt6 89 rfl rfl
theorem zw_1408 : Jvm.Cond.instanceMethod ({ cls := "LyndonBenchModel", name := "canJoin", desc := "()Z" } : Jvm.MethodName) ∈ za_Ts := z_mt6 91 rfl rfl
theorem zw_1409 : Jvm.Cond.code ({ cls := "LyndonBenchModel", name := "canJoin", desc := "()Z" } : Jvm.MethodName) prog_9_method_46_code (1 : Nat) (Option.some Jvm.ClassFile.FieldType.boolean) ∈ za_Ts := z_mt6 92 rfl rfl
theorem zw_1410 : Jvm.Cond.methodLink "LyndonBenchModel" (126 : Nat) ({ cls := "LyndonBenchModel", name := "shelfLength", desc := "()I" } : Jvm.MethodName) ∈ za_Ts := z_mt6 93 rfl rfl
theorem zw_1412 : Jvm.Cond.instanceMethod ({ cls := "LyndonBenchModel", name := "shelfLength", desc := "()I" } : Jvm.MethodName) ∈ za_Ts := z_mt6 95 rfl rfl
theorem zw_1413 : Jvm.Cond.code ({ cls := "LyndonBenchModel", name := "shelfLength", desc := "()I" } : Jvm.MethodName) prog_9_method_45_code (3 : Nat) (Option.some Jvm.ClassFile.FieldType.int) ∈ za_Ts := z_mt6 96 rfl rfl
theorem zw_1414 : Jvm.Cond.methodLink "LyndonBenchModel" (226 : Nat) ({ cls := "LyndonBenchModel", name := "joins", desc := "()I" } : Jvm.MethodName) ∈ za_Ts := z_mt6 97 rfl rfl
theorem zw_1416 : Jvm.Cond.instanceMethod ({ cls := "LyndonBenchModel", name := "joins", desc := "()I" } : Jvm.MethodName) ∈ za_Ts := z_mt6 99 rfl rfl
theorem zw_1417 : Jvm.Cond.code ({ cls := "LyndonBenchModel", name := "joins", desc := "()I" } : Jvm.MethodName) prog_9_method_48_code (5 : Nat) (Option.some Jvm.ClassFile.FieldType.int) ∈ za_Ts := z_mt6 100 rfl rfl
theorem zw_1418 : Jvm.Cond.methodLink "LyndonBenchModel" (132 : Nat) ({ cls := "LyndonBenchModel", name := "greatestBeside", desc := "(I)I" } : Jvm.MethodName) ∈ za_Ts := z_mt6 101 rfl rfl
theorem zw_1420 : Jvm.Cond.instanceMethod ({ cls := "LyndonBenchModel", name := "greatestBeside", desc := "(I)I" } : Jvm.MethodName) ∈ za_Ts := z_mt6 103 rfl rfl
theorem zw_1421 : Jvm.Cond.code ({ cls := "LyndonBenchModel", name := "greatestBeside", desc := "(I)I" } : Jvm.MethodName) prog_9_method_47_code (4 : Nat) (Option.some Jvm.ClassFile.FieldType.int) ∈ za_Ts := z_mt6 104 rfl rfl
theorem zw_1422 : Jvm.Cond.methodLink "LyndonBenchModel" (129 : Nat) ({ cls := "LyndonBenchModel", name := "shelved", desc := "(II)I" } : Jvm.MethodName) ∈ za_Ts := z_mt6 105 rfl rfl
theorem zw_1424 : Jvm.Cond.instanceMethod ({ cls := "LyndonBenchModel", name := "shelved", desc := "(II)I" } : Jvm.MethodName) ∈ za_Ts := z_mt6 107 rfl rfl
theorem zw_1425 : Jvm.Cond.code ({ cls := "LyndonBenchModel", name := "shelved", desc := "(II)I" } : Jvm.MethodName) prog_9_method_9_code (3 : Nat) (Option.some Jvm.ClassFile.FieldType.int) ∈ za_Ts := z_mt6 108 rfl rfl
theorem zw_1426 : Jvm.Cond.methodLink "LyndonBenchModel" (62 : Nat) ({ cls := "LyndonBenchModel", name := "compares", desc := "(IIII)I" } : Jvm.MethodName) ∈ za_Ts := z_mt6 109 rfl rfl
theorem zw_1428 : Jvm.Cond.instanceMethod ({ cls := "LyndonBenchModel", name := "compares", desc := "(IIII)I" } : Jvm.MethodName) ∈ za_Ts := z_mt6 111 rfl rfl
theorem zw_1429 : Jvm.Cond.code ({ cls := "LyndonBenchModel", name := "compares", desc := "(IIII)I" } : Jvm.MethodName) prog_9_method_8_code (6 : Nat) (Option.some Jvm.ClassFile.FieldType.int) ∈ za_Ts := z_mt6 112 rfl rfl
theorem zw_1430 : Jvm.Cond.methodLink "LyndonBenchModel" (98 : Nat) ({ cls := "LyndonBenchModel", name := "adds", desc := "(I)V" } : Jvm.MethodName) ∈ za_Ts := z_mt6 113 rfl rfl
theorem zw_1432 : Jvm.Cond.instanceMethod ({ cls := "LyndonBenchModel", name := "adds", desc := "(I)V" } : Jvm.MethodName) ∈ za_Ts := z_mt6 115 rfl rfl
theorem zw_1433 : Jvm.Cond.code ({ cls := "LyndonBenchModel", name := "adds", desc := "(I)V" } : Jvm.MethodName) prog_9_method_11_code (2 : Nat) (Option.none : Option Jvm.ClassFile.FieldType) ∈ za_Ts := z_mt6 116 rfl rfl
theorem zw_1434 : Jvm.Cond.fieldLink "LyndonBenchModel" (7 : Nat) "LyndonBenchModel" "w" "[I" ∈ za_Ts := z_mt6 117 rfl rfl
theorem zw_1435 : Jvm.Cond.fieldLink "LyndonBenchModel" (13 : Nat) "LyndonBenchModel" "before" "[I" ∈ za_Ts := z_mt6 118 rfl rfl
theorem zw_1436 : Jvm.Cond.fieldLink "LyndonBenchModel" (16 : Nat) "LyndonBenchModel" "past" "[I" ∈ za_Ts := z_mt6 119 rfl rfl
theorem zw_1437 : Jvm.Cond.fieldLink "LyndonBenchModel" (19 : Nat) "LyndonBenchModel" "kept" "[I" ∈ za_Ts := z_mt6 120 rfl rfl
theorem zw_1438 : Jvm.Cond.fieldLink "LyndonBenchModel" (319 : Nat) "LyndonBenchModel" "pastMany" "I" ∈ za_Ts := z_mt6 121 rfl rfl
theorem zw_1439 : Jvm.Cond.fieldLink "LyndonBenchModel" (340 : Nat) "LyndonBenchModel" "isKept" "Z" ∈ za_Ts := z_mt6 122 rfl rfl
theorem zw_1440 : Jvm.Cond.fieldLink "LyndonBenchModel" (22 : Nat) "LyndonBenchModel" "buffer" "[I" ∈ za_Ts := z_mt6 123 rfl rfl
theorem zw_1441 : Jvm.Cond.fieldLink "LyndonBenchModel" (25 : Nat) "LyndonBenchModel" "text" "[I" ∈ za_Ts := z_mt6 124 rfl rfl
theorem zw_1442 : Jvm.Cond.fieldLink "LyndonBenchModel" (28 : Nat) "LyndonBenchModel" "row" "[I" ∈ za_Ts := z_mt6 125 rfl rfl
theorem zw_1443 : Jvm.Cond.fieldLink "LyndonBenchModel" (31 : Nat) "LyndonBenchModel" "starts" "[I" ∈ za_Ts := z_mt6 126 rfl rfl
theorem zw_1444 : Jvm.Cond.fieldLink "LyndonBenchModel" (310 : Nat) "LyndonBenchModel" "typed" "I" ∈ za_Ts := z_mt6 127 rfl rfl
theorem zw_1445 : Jvm.Cond.fieldLink "LyndonBenchModel" (145 : Nat) "LyndonBenchModel" "textLength" "I" ∈ za_Ts := z_mt6 128 rfl rfl
theorem zw_1446 : Jvm.Cond.fieldLink "LyndonBenchModel" (167 : Nat) "LyndonBenchModel" "errorKind" "I" ∈ za_Ts := z_mt6 129 rfl rfl
theorem zw_1447 : Jvm.Cond.fieldLink "LyndonBenchModel" (34 : Nat) "LyndonBenchModel" "errorOffset" "I" ∈ za_Ts := z_mt6 130 rfl rfl
theorem zw_1448 : Jvm.Cond.fieldLink "LyndonBenchModel" (66 : Nat) "LyndonBenchModel" "rowLength" "I" ∈ za_Ts := z_mt6 131 rfl rfl
theorem zw_1449 : Jvm.Cond.fieldLink "LyndonBenchModel" (38 : Nat) "LyndonBenchModel" "report" "[C" ∈ za_Ts := z_mt6 132 rfl rfl
theorem zw_1450 : Jvm.Cond.fieldLink "LyndonBenchModel" (386 : Nat) "LyndonBenchModel" "reportLength" "I" ∈ za_Ts := z_mt6 133 rfl rfl
theorem zw_1451 : Jvm.Cond.fieldLink "LyndonBenchModel" (55 : Nat) "LyndonBenchModel" "thrown" "I" ∈ za_Ts := z_mt6 134 rfl rfl
theorem zw_1452 : Jvm.Cond.fieldLink "LyndonBenchModel" (158 : Nat) "LyndonBenchModel" "kind" "I" ∈ za_Ts := z_mt6 135 rfl rfl
theorem zw_1453 : Jvm.Cond.fieldLink "LyndonBenchModel" (155 : Nat) "LyndonBenchModel" "offset" "I" ∈ za_Ts := z_mt6 136 rfl rfl
theorem zw_1454 : Jvm.Cond.fieldLink "LyndonBenchModel" (152 : Nat) "LyndonBenchModel" "tokenEnd" "I" ∈ za_Ts := z_mt6 137 rfl rfl
theorem zw_1455 : Jvm.Cond.fieldLink "LyndonBenchModel" (164 : Nat) "LyndonBenchModel" "value" "I" ∈ za_Ts := z_mt6 138 rfl rfl
theorem zw_1456 : Jvm.Cond.fieldLink "LyndonBenchModel" (266 : Nat) "LyndonBenchModel" "executed" "I" ∈ za_Ts := z_mt6 139 rfl rfl
theorem zw_1457 : Jvm.Cond.fieldLink "LyndonBenchModel" (42 : Nat) "LyndonBenchModel" "numbers" "[I" ∈ za_Ts := z_mt6 140 rfl rfl
theorem zw_1507 : Jvm.Cond.arrayClass Jvm.ClassFile.FieldType.char ∈ za_Ts := z_mt6 190 rfl rfl
theorem zw_1508 : Jvm.Cond.methodLink "LyndonBenchLaw" (122 : Nat) ({ cls := "LyndonBenchModel", name := "thrown", desc := "()I" } : Jvm.MethodName) ∈ za_Ts := z_mt6 191 rfl rfl
theorem zw_1509 : Jvm.Cond.instanceMethod ({ cls := "LyndonBenchModel", name := "thrown", desc := "()I" } : Jvm.MethodName) ∈ za_Ts := z_mt6 192 rfl rfl
theorem zw_1510 : Jvm.Cond.selects "LyndonBenchModel" ({ cls := "LyndonBenchModel", name := "thrown", desc := "()I" } : Jvm.MethodName) ({ cls := "LyndonBenchModel", name := "thrown", desc := "()I" } : Jvm.MethodName) ∈ za_Ts := z_mt6 193 rfl rfl
theorem zw_1511 : Jvm.Cond.code ({ cls := "LyndonBenchModel", name := "thrown", desc := "()I" } : Jvm.MethodName) prog_9_method_2_code (1 : Nat) (Option.some Jvm.ClassFile.FieldType.int) ∈ za_Ts := z_mt6 194 rfl rfl
theorem zw_1512 : Jvm.Cond.methodLink "LyndonBenchLaw" (108 : Nat) ({ cls := "LyndonBenchModel", name := "append", desc := "(IIIII)I" } : Jvm.MethodName) ∈ za_Ts := z_mt6 195 rfl rfl
theorem zw_1513 : Jvm.Cond.instanceMethod ({ cls := "LyndonBenchModel", name := "append", desc := "(IIIII)I" } : Jvm.MethodName) ∈ za_Ts := z_mt6 196 rfl rfl
theorem zw_1514 : Jvm.Cond.selects "LyndonBenchModel" ({ cls := "LyndonBenchModel", name := "append", desc := "(IIIII)I" } : Jvm.MethodName) ({ cls := "LyndonBenchModel", name := "append", desc := "(IIIII)I" } : Jvm.MethodName) ∈ za_Ts := z_mt6 197 rfl rfl
theorem zw_1515 : Jvm.Cond.code ({ cls := "LyndonBenchModel", name := "append", desc := "(IIIII)I" } : Jvm.MethodName) prog_9_method_77_code (6 : Nat) (Option.some Jvm.ClassFile.FieldType.int) ∈ za_Ts := z_mt6 198 rfl rfl
theorem zw_1516 : Jvm.Cond.methodLink "LyndonBenchModel" (313 : Nat) ({ cls := "LyndonBenchModel", name := "type", desc := "(I)V" } : Jvm.MethodName) ∈ za_Ts := z_mt6 199 rfl rfl
theorem zw_1518 : Jvm.Cond.instanceMethod ({ cls := "LyndonBenchModel", name := "type", desc := "(I)V" } : Jvm.MethodName) ∈ za_Ts := z_mt6 201 rfl rfl
theorem zw_1519 : Jvm.Cond.code ({ cls := "LyndonBenchModel", name := "type", desc := "(I)V" } : Jvm.MethodName) prog_9_method_78_code (3 : Nat) (Option.none : Option Jvm.ClassFile.FieldType) ∈ za_Ts := z_mt6 202 rfl rfl
theorem zw_1520 : Jvm.Cond.methodLink "LyndonBenchLaw" (114 : Nat) ({ cls := "LyndonBenchModel", name := "truncateInput", desc := "(I)I" } : Jvm.MethodName) ∈ za_Ts := z_mt6 203 rfl rfl
theorem zw_1521 : Jvm.Cond.instanceMethod ({ cls := "LyndonBenchModel", name := "truncateInput", desc := "(I)I" } : Jvm.MethodName) ∈ za_Ts := z_mt6 204 rfl rfl
theorem zw_1522 : Jvm.Cond.selects "LyndonBenchModel" ({ cls := "LyndonBenchModel", name := "truncateInput", desc := "(I)I" } : Jvm.MethodName) ({ cls := "LyndonBenchModel", name := "truncateInput", desc := "(I)I" } : Jvm.MethodName) ∈ za_Ts := z_mt6 205 rfl rfl
theorem zw_1523 : Jvm.Cond.code ({ cls := "LyndonBenchModel", name := "truncateInput", desc := "(I)I" } : Jvm.MethodName) prog_9_method_79_code (2 : Nat) (Option.some Jvm.ClassFile.FieldType.int) ∈ za_Ts := z_mt6 206 rfl rfl
theorem zw_1524 : Jvm.Cond.methodLink "LyndonBenchModel" (316 : Nat) ({ cls := "LyndonBenchModel", name := "throwsOne", desc := "(Z)Z" } : Jvm.MethodName) ∈ za_Ts := z_mt6 207 rfl rfl
theorem zw_1526 : Jvm.Cond.instanceMethod ({ cls := "LyndonBenchModel", name := "throwsOne", desc := "(Z)Z" } : Jvm.MethodName) ∈ za_Ts := z_mt6 209 rfl rfl
theorem zw_1527 : Jvm.Cond.code ({ cls := "LyndonBenchModel", name := "throwsOne", desc := "(Z)Z" } : Jvm.MethodName) prog_9_method_4_code (2 : Nat) (Option.some Jvm.ClassFile.FieldType.boolean) ∈ za_Ts := z_mt6 210 rfl rfl
theorem zw_1528 : Jvm.Cond.methodLink "LyndonBenchLaw" (118 : Nat) ({ cls := "LyndonBenchModel", name := "runScript", desc := "()I" } : Jvm.MethodName) ∈ za_Ts := z_mt6 211 rfl rfl
theorem zw_1529 : Jvm.Cond.instanceMethod ({ cls := "LyndonBenchModel", name := "runScript", desc := "()I" } : Jvm.MethodName) ∈ za_Ts := z_mt6 212 rfl rfl
theorem zw_1530 : Jvm.Cond.selects "LyndonBenchModel" ({ cls := "LyndonBenchModel", name := "runScript", desc := "()I" } : Jvm.MethodName) ({ cls := "LyndonBenchModel", name := "runScript", desc := "()I" } : Jvm.MethodName) ∈ za_Ts := z_mt6 213 rfl rfl
theorem zw_1531 : Jvm.Cond.code ({ cls := "LyndonBenchModel", name := "runScript", desc := "()I" } : Jvm.MethodName) prog_9_method_82_code (2 : Nat) (Option.some Jvm.ClassFile.FieldType.int) ∈ za_Ts := z_mt6 214 rfl rfl
theorem zw_1532 : Jvm.Cond.methodLink "LyndonBenchModel" (322 : Nat) ({ cls := "LyndonBenchModel", name := "begins", desc := "()V" } : Jvm.MethodName) ∈ za_Ts := z_mt6 215 rfl rfl
theorem zw_1534 : Jvm.Cond.instanceMethod ({ cls := "LyndonBenchModel", name := "begins", desc := "()V" } : Jvm.MethodName) ∈ za_Ts := z_mt6 217 rfl rfl
theorem zw_1535 : Jvm.Cond.code ({ cls := "LyndonBenchModel", name := "begins", desc := "()V" } : Jvm.MethodName) prog_9_method_80_code (2 : Nat) (Option.none : Option Jvm.ClassFile.FieldType) ∈ za_Ts := z_mt6 218 rfl rfl
theorem zw_1536 : Jvm.Cond.methodLink "LyndonBenchModel" (325 : Nat) ({ cls := "LyndonBenchModel", name := "remember", desc := "(I)I" } : Jvm.MethodName) ∈ za_Ts := z_mt6 219 rfl rfl
theorem zw_1538 : Jvm.Cond.instanceMethod ({ cls := "LyndonBenchModel", name := "remember", desc := "(I)I" } : Jvm.MethodName) ∈ za_Ts := z_mt6 221 rfl rfl
theorem zw_1539 : Jvm.Cond.code ({ cls := "LyndonBenchModel", name := "remember", desc := "(I)I" } : Jvm.MethodName) prog_9_method_81_code (3 : Nat) (Option.some Jvm.ClassFile.FieldType.int) ∈ za_Ts := z_mt6 222 rfl rfl
theorem zw_1540 : Jvm.Cond.methodLink "LyndonBenchLaw" (121 : Nat) ({ cls := "LyndonBenchModel", name := "setLetters", desc := "(I)I" } : Jvm.MethodName) ∈ za_Ts := z_mt6 223 rfl rfl
theorem zw_1541 : Jvm.Cond.instanceMethod ({ cls := "LyndonBenchModel", name := "setLetters", desc := "(I)I" } : Jvm.MethodName) ∈ za_Ts := z_mt6 224 rfl rfl
theorem zw_1542 : Jvm.Cond.selects "LyndonBenchModel" ({ cls := "LyndonBenchModel", name := "setLetters", desc := "(I)I" } : Jvm.MethodName) ({ cls := "LyndonBenchModel", name := "setLetters", desc := "(I)I" } : Jvm.MethodName) ∈ za_Ts := z_mt6 225 rfl rfl
theorem zw_1543 : Jvm.Cond.code ({ cls := "LyndonBenchModel", name := "setLetters", desc := "(I)I" } : Jvm.MethodName) prog_9_method_83_code (4 : Nat) (Option.some Jvm.ClassFile.FieldType.int) ∈ za_Ts := z_mt6 226 rfl rfl
theorem zw_1544 : Jvm.Cond.methodLink "LyndonBenchModel" (328 : Nat) ({ cls := "LyndonBenchModel", name := "canHave", desc := "(I)Z" } : Jvm.MethodName) ∈ za_Ts := z_mt6 227 rfl rfl
theorem zw_1546 : Jvm.Cond.instanceMethod ({ cls := "LyndonBenchModel", name := "canHave", desc := "(I)Z" } : Jvm.MethodName) ∈ za_Ts := z_mt6 229 rfl rfl
theorem zw_1547 : Jvm.Cond.code ({ cls := "LyndonBenchModel", name := "canHave", desc := "(I)Z" } : Jvm.MethodName) prog_9_method_49_code (4 : Nat) (Option.some Jvm.ClassFile.FieldType.boolean) ∈ za_Ts := z_mt6 230 rfl rfl
theorem zw_1548 : Jvm.Cond.methodLink "LyndonBenchModel" (135 : Nat) ({ cls := "java/lang/Math", name := "max", desc := "(II)I" } : Jvm.MethodName) ∈ za_Ts := z_mt6 231 rfl rfl
theorem zw_1549 : Jvm.Cond.methodLink "LyndonBenchModel" (331 : Nat) ({ cls := "LyndonBenchModel", name := "throwsOne", desc := "(ZZ)Z" } : Jvm.MethodName) ∈ za_Ts := z_mt6 232 rfl rfl
theorem zw_1551 : Jvm.Cond.instanceMethod ({ cls := "LyndonBenchModel", name := "throwsOne", desc := "(ZZ)Z" } : Jvm.MethodName) ∈ za_Ts := z_mt6 234 rfl rfl
theorem zw_1552 : Jvm.Cond.code ({ cls := "LyndonBenchModel", name := "throwsOne", desc := "(ZZ)Z" } : Jvm.MethodName) prog_9_method_5_code (3 : Nat) (Option.some Jvm.ClassFile.FieldType.boolean) ∈ za_Ts := z_mt6 235 rfl rfl
theorem zw_1553 : Jvm.Cond.methodLink "LyndonBenchLaw" (128 : Nat) ({ cls := "LyndonBenchModel", name := "readText", desc := "()I" } : Jvm.MethodName) ∈ za_Ts := z_mt6 236 rfl rfl
theorem zw_1554 : Jvm.Cond.instanceMethod ({ cls := "LyndonBenchModel", name := "readText", desc := "()I" } : Jvm.MethodName) ∈ za_Ts := z_mt6 237 rfl rfl
theorem zw_1555 : Jvm.Cond.selects "LyndonBenchModel" ({ cls := "LyndonBenchModel", name := "readText", desc := "()I" } : Jvm.MethodName) ({ cls := "LyndonBenchModel", name := "readText", desc := "()I" } : Jvm.MethodName) ∈ za_Ts := z_mt6 238 rfl rfl
theorem zw_1556 : Jvm.Cond.code ({ cls := "LyndonBenchModel", name := "readText", desc := "()I" } : Jvm.MethodName) prog_9_method_84_code (3 : Nat) (Option.some Jvm.ClassFile.FieldType.int) ∈ za_Ts := z_mt6 239 rfl rfl
theorem zw_1557 : Jvm.Cond.methodLink "LyndonBenchLaw" (131 : Nat) ({ cls := "LyndonBenchModel", name := "appendLetter", desc := "(I)I" } : Jvm.MethodName) ∈ za_Ts := z_mt7 0 rfl rfl
theorem zw_1558 : Jvm.Cond.instanceMethod ({ cls := "LyndonBenchModel", name := "appendLetter", desc := "(I)I" } : Jvm.MethodName) ∈ za_Ts := z_mt7 1 rfl rfl
theorem zw_1559 : Jvm.Cond.selects "LyndonBenchModel" ({ cls := "LyndonBenchModel", name := "appendLetter", desc := "(I)I" } : Jvm.MethodName) ({ cls := "LyndonBenchModel", name := "appendLetter", desc := "(I)I" } : Jvm.MethodName) ∈ za_Ts := z_mt7 2 rfl rfl
theorem zw_1560 : Jvm.Cond.code ({ cls := "LyndonBenchModel", name := "appendLetter", desc := "(I)I" } : Jvm.MethodName) prog_9_method_85_code (2 : Nat) (Option.some Jvm.ClassFile.FieldType.int) ∈ za_Ts := z_mt7 3 rfl rfl
theorem zw_1561 : Jvm.Cond.methodLink "LyndonBenchModel" (334 : Nat) ({ cls := "LyndonBenchModel", name := "appends", desc := "(I)I" } : Jvm.MethodName) ∈ za_Ts := z_mt7 4 rfl rfl
theorem zw_1563 : Jvm.Cond.instanceMethod ({ cls := "LyndonBenchModel", name := "appends", desc := "(I)I" } : Jvm.MethodName) ∈ za_Ts := z_mt7 6 rfl rfl
theorem zw_1564 : Jvm.Cond.code ({ cls := "LyndonBenchModel", name := "appends", desc := "(I)I" } : Jvm.MethodName) prog_9_method_31_code (2 : Nat) (Option.some Jvm.ClassFile.FieldType.int) ∈ za_Ts := z_mt7 7 rfl rfl
theorem zw_1565 : Jvm.Cond.methodLink "LyndonBenchLaw" (134 : Nat) ({ cls := "LyndonBenchModel", name := "dropLast", desc := "(I)I" } : Jvm.MethodName) ∈ za_Ts := z_mt7 8 rfl rfl
theorem zw_1566 : Jvm.Cond.instanceMethod ({ cls := "LyndonBenchModel", name := "dropLast", desc := "(I)I" } : Jvm.MethodName) ∈ za_Ts := z_mt7 9 rfl rfl
theorem zw_1567 : Jvm.Cond.selects "LyndonBenchModel" ({ cls := "LyndonBenchModel", name := "dropLast", desc := "(I)I" } : Jvm.MethodName) ({ cls := "LyndonBenchModel", name := "dropLast", desc := "(I)I" } : Jvm.MethodName) ∈ za_Ts := z_mt7 10 rfl rfl
theorem zw_1568 : Jvm.Cond.code ({ cls := "LyndonBenchModel", name := "dropLast", desc := "(I)I" } : Jvm.MethodName) prog_9_method_86_code (2 : Nat) (Option.some Jvm.ClassFile.FieldType.int) ∈ za_Ts := z_mt7 11 rfl rfl
theorem zw_1569 : Jvm.Cond.methodLink "LyndonBenchLaw" (138 : Nat) ({ cls := "LyndonBenchModel", name := "cutPart", desc := "(II)I" } : Jvm.MethodName) ∈ za_Ts := z_mt7 12 rfl rfl
theorem zw_1570 : Jvm.Cond.instanceMethod ({ cls := "LyndonBenchModel", name := "cutPart", desc := "(II)I" } : Jvm.MethodName) ∈ za_Ts := z_mt7 13 rfl rfl
theorem zw_1571 : Jvm.Cond.selects "LyndonBenchModel" ({ cls := "LyndonBenchModel", name := "cutPart", desc := "(II)I" } : Jvm.MethodName) ({ cls := "LyndonBenchModel", name := "cutPart", desc := "(II)I" } : Jvm.MethodName) ∈ za_Ts := z_mt7 14 rfl rfl
theorem zw_1572 : Jvm.Cond.code ({ cls := "LyndonBenchModel", name := "cutPart", desc := "(II)I" } : Jvm.MethodName) prog_9_method_87_code (3 : Nat) (Option.some Jvm.ClassFile.FieldType.int) ∈ za_Ts := z_mt7 15 rfl rfl
theorem zw_1573 : Jvm.Cond.methodLink "LyndonBenchLaw" (141 : Nat) ({ cls := "LyndonBenchModel", name := "rotate", desc := "(I)I" } : Jvm.MethodName) ∈ za_Ts := z_mt7 16 rfl rfl
theorem zw_1574 : Jvm.Cond.instanceMethod ({ cls := "LyndonBenchModel", name := "rotate", desc := "(I)I" } : Jvm.MethodName) ∈ za_Ts := z_mt7 17 rfl rfl
theorem zw_1575 : Jvm.Cond.selects "LyndonBenchModel" ({ cls := "LyndonBenchModel", name := "rotate", desc := "(I)I" } : Jvm.MethodName) ({ cls := "LyndonBenchModel", name := "rotate", desc := "(I)I" } : Jvm.MethodName) ∈ za_Ts := z_mt7 18 rfl rfl
theorem zw_1576 : Jvm.Cond.code ({ cls := "LyndonBenchModel", name := "rotate", desc := "(I)I" } : Jvm.MethodName) prog_9_method_88_code (2 : Nat) (Option.some Jvm.ClassFile.FieldType.int) ∈ za_Ts := z_mt7 19 rfl rfl
theorem zw_1577 : Jvm.Cond.methodLink "LyndonBenchLaw" (145 : Nat) ({ cls := "LyndonBenchModel", name := "reverse", desc := "()I" } : Jvm.MethodName) ∈ za_Ts := z_mt7 20 rfl rfl
theorem zw_1578 : Jvm.Cond.instanceMethod ({ cls := "LyndonBenchModel", name := "reverse", desc := "()I" } : Jvm.MethodName) ∈ za_Ts := z_mt7 21 rfl rfl
theorem zw_1579 : Jvm.Cond.selects "LyndonBenchModel" ({ cls := "LyndonBenchModel", name := "reverse", desc := "()I" } : Jvm.MethodName) ({ cls := "LyndonBenchModel", name := "reverse", desc := "()I" } : Jvm.MethodName) ∈ za_Ts := z_mt7 22 rfl rfl
theorem zw_1580 : Jvm.Cond.code ({ cls := "LyndonBenchModel", name := "reverse", desc := "()I" } : Jvm.MethodName) prog_9_method_89_code (1 : Nat) (Option.some Jvm.ClassFile.FieldType.int) ∈ za_Ts := z_mt7 23 rfl rfl
theorem zw_1581 : Jvm.Cond.methodLink "LyndonBenchLaw" (148 : Nat) ({ cls := "LyndonBenchModel", name := "rotateToLeast", desc := "()I" } : Jvm.MethodName) ∈ za_Ts := z_mt7 24 rfl rfl
theorem zw_1582 : Jvm.Cond.instanceMethod ({ cls := "LyndonBenchModel", name := "rotateToLeast", desc := "()I" } : Jvm.MethodName) ∈ za_Ts := z_mt7 25 rfl rfl
theorem zw_1583 : Jvm.Cond.selects "LyndonBenchModel" ({ cls := "LyndonBenchModel", name := "rotateToLeast", desc := "()I" } : Jvm.MethodName) ({ cls := "LyndonBenchModel", name := "rotateToLeast", desc := "()I" } : Jvm.MethodName) ∈ za_Ts := z_mt7 26 rfl rfl
theorem zw_1584 : Jvm.Cond.code ({ cls := "LyndonBenchModel", name := "rotateToLeast", desc := "()I" } : Jvm.MethodName) prog_9_method_90_code (1 : Nat) (Option.some Jvm.ClassFile.FieldType.int) ∈ za_Ts := z_mt7 27 rfl rfl
theorem zw_1585 : Jvm.Cond.methodLink "LyndonBenchLaw" (151 : Nat) ({ cls := "LyndonBenchModel", name := "nextLyndon", desc := "(I)I" } : Jvm.MethodName) ∈ za_Ts := z_mt7 28 rfl rfl
theorem zw_1586 : Jvm.Cond.instanceMethod ({ cls := "LyndonBenchModel", name := "nextLyndon", desc := "(I)I" } : Jvm.MethodName) ∈ za_Ts := z_mt7 29 rfl rfl
theorem zw_1587 : Jvm.Cond.selects "LyndonBenchModel" ({ cls := "LyndonBenchModel", name := "nextLyndon", desc := "(I)I" } : Jvm.MethodName) ({ cls := "LyndonBenchModel", name := "nextLyndon", desc := "(I)I" } : Jvm.MethodName) ∈ za_Ts := z_mt7 30 rfl rfl
theorem zw_1588 : Jvm.Cond.code ({ cls := "LyndonBenchModel", name := "nextLyndon", desc := "(I)I" } : Jvm.MethodName) prog_9_method_91_code (3 : Nat) (Option.some Jvm.ClassFile.FieldType.int) ∈ za_Ts := z_mt7 31 rfl rfl
theorem zw_1589 : Jvm.Cond.methodLink "LyndonBenchLaw" (154 : Nat) ({ cls := "LyndonBenchModel", name := "keepFactor", desc := "(I)I" } : Jvm.MethodName) ∈ za_Ts := z_mt7 32 rfl rfl
theorem zw_1590 : Jvm.Cond.instanceMethod ({ cls := "LyndonBenchModel", name := "keepFactor", desc := "(I)I" } : Jvm.MethodName) ∈ za_Ts := z_mt7 33 rfl rfl
theorem zw_1591 : Jvm.Cond.selects "LyndonBenchModel" ({ cls := "LyndonBenchModel", name := "keepFactor", desc := "(I)I" } : Jvm.MethodName) ({ cls := "LyndonBenchModel", name := "keepFactor", desc := "(I)I" } : Jvm.MethodName) ∈ za_Ts := z_mt7 34 rfl rfl
theorem zw_1592 : Jvm.Cond.code ({ cls := "LyndonBenchModel", name := "keepFactor", desc := "(I)I" } : Jvm.MethodName) prog_9_method_92_code (3 : Nat) (Option.some Jvm.ClassFile.FieldType.int) ∈ za_Ts := z_mt7 35 rfl rfl
theorem zw_1593 : Jvm.Cond.methodLink "LyndonBenchLaw" (157 : Nat) ({ cls := "LyndonBenchModel", name := "keepText", desc := "()I" } : Jvm.MethodName) ∈ za_Ts := z_mt7 36 rfl rfl
theorem zw_1594 : Jvm.Cond.instanceMethod ({ cls := "LyndonBenchModel", name := "keepText", desc := "()I" } : Jvm.MethodName) ∈ za_Ts := z_mt7 37 rfl rfl
theorem zw_1595 : Jvm.Cond.selects "LyndonBenchModel" ({ cls := "LyndonBenchModel", name := "keepText", desc := "()I" } : Jvm.MethodName) ({ cls := "LyndonBenchModel", name := "keepText", desc := "()I" } : Jvm.MethodName) ∈ za_Ts := z_mt7 38 rfl rfl
theorem zw_1596 : Jvm.Cond.code ({ cls := "LyndonBenchModel", name := "keepText", desc := "()I" } : Jvm.MethodName) prog_9_method_93_code (1 : Nat) (Option.some Jvm.ClassFile.FieldType.int) ∈ za_Ts := z_mt7 39 rfl rfl
theorem zw_1597 : Jvm.Cond.methodLink "LyndonBenchLaw" (160 : Nat) ({ cls := "LyndonBenchModel", name := "removeKept", desc := "(I)I" } : Jvm.MethodName) ∈ za_Ts := z_mt7 40 rfl rfl
theorem zw_1598 : Jvm.Cond.instanceMethod ({ cls := "LyndonBenchModel", name := "removeKept", desc := "(I)I" } : Jvm.MethodName) ∈ za_Ts := z_mt7 41 rfl rfl
theorem zw_1599 : Jvm.Cond.selects "LyndonBenchModel" ({ cls := "LyndonBenchModel", name := "removeKept", desc := "(I)I" } : Jvm.MethodName) ({ cls := "LyndonBenchModel", name := "removeKept", desc := "(I)I" } : Jvm.MethodName) ∈ za_Ts := z_mt7 42 rfl rfl
theorem zw_1600 : Jvm.Cond.code ({ cls := "LyndonBenchModel", name := "removeKept", desc := "(I)I" } : Jvm.MethodName) prog_9_method_94_code (2 : Nat) (Option.some Jvm.ClassFile.FieldType.int) ∈ za_Ts := z_mt7 43 rfl rfl
theorem zw_1601 : Jvm.Cond.methodLink "LyndonBenchModel" (337 : Nat) ({ cls := "LyndonBenchModel", name := "isShelved", desc := "(I)Z" } : Jvm.MethodName) ∈ za_Ts := z_mt7 44 rfl rfl
theorem zw_1603 : Jvm.Cond.instanceMethod ({ cls := "LyndonBenchModel", name := "isShelved", desc := "(I)Z" } : Jvm.MethodName) ∈ za_Ts := z_mt7 46 rfl rfl
theorem zw_1604 : Jvm.Cond.code ({ cls := "LyndonBenchModel", name := "isShelved", desc := "(I)Z" } : Jvm.MethodName) prog_9_method_7_code (2 : Nat) (Option.some Jvm.ClassFile.FieldType.boolean) ∈ za_Ts := z_mt7 47 rfl rfl
theorem zw_1605 : Jvm.Cond.methodLink "LyndonBenchLaw" (163 : Nat) ({ cls := "LyndonBenchModel", name := "joinKept", desc := "()I" } : Jvm.MethodName) ∈ za_Ts := z_mt7 48 rfl rfl
theorem zw_1606 : Jvm.Cond.instanceMethod ({ cls := "LyndonBenchModel", name := "joinKept", desc := "()I" } : Jvm.MethodName) ∈ za_Ts := z_mt7 49 rfl rfl
theorem zw_1607 : Jvm.Cond.selects "LyndonBenchModel" ({ cls := "LyndonBenchModel", name := "joinKept", desc := "()I" } : Jvm.MethodName) ({ cls := "LyndonBenchModel", name := "joinKept", desc := "()I" } : Jvm.MethodName) ∈ za_Ts := z_mt7 50 rfl rfl
theorem zw_1608 : Jvm.Cond.code ({ cls := "LyndonBenchModel", name := "joinKept", desc := "()I" } : Jvm.MethodName) prog_9_method_95_code (1 : Nat) (Option.some Jvm.ClassFile.FieldType.int) ∈ za_Ts := z_mt7 51 rfl rfl
theorem zw_1609 : Jvm.Cond.methodLink "LyndonBenchLaw" (167 : Nat) ({ cls := "LyndonBenchModel", name := "undo", desc := "()I" } : Jvm.MethodName) ∈ za_Ts := z_mt7 52 rfl rfl
theorem zw_1610 : Jvm.Cond.instanceMethod ({ cls := "LyndonBenchModel", name := "undo", desc := "()I" } : Jvm.MethodName) ∈ za_Ts := z_mt7 53 rfl rfl
theorem zw_1611 : Jvm.Cond.selects "LyndonBenchModel" ({ cls := "LyndonBenchModel", name := "undo", desc := "()I" } : Jvm.MethodName) ({ cls := "LyndonBenchModel", name := "undo", desc := "()I" } : Jvm.MethodName) ∈ za_Ts := z_mt7 54 rfl rfl
theorem zw_1612 : Jvm.Cond.code ({ cls := "LyndonBenchModel", name := "undo", desc := "()I" } : Jvm.MethodName) prog_9_method_96_code (2 : Nat) (Option.some Jvm.ClassFile.FieldType.int) ∈ za_Ts := z_mt7 55 rfl rfl
theorem zw_1613 : Jvm.Cond.methodLink "LyndonBenchLaw" (171 : Nat) ({ cls := "LyndonBenchModel", name := "undoCount", desc := "()I" } : Jvm.MethodName) ∈ za_Ts := z_mt7 56 rfl rfl
theorem zw_1614 : Jvm.Cond.instanceMethod ({ cls := "LyndonBenchModel", name := "undoCount", desc := "()I" } : Jvm.MethodName) ∈ za_Ts := z_mt7 57 rfl rfl
theorem zw_1615 : Jvm.Cond.selects "LyndonBenchModel" ({ cls := "LyndonBenchModel", name := "undoCount", desc := "()I" } : Jvm.MethodName) ({ cls := "LyndonBenchModel", name := "undoCount", desc := "()I" } : Jvm.MethodName) ∈ za_Ts := z_mt7 58 rfl rfl
theorem zw_1616 : Jvm.Cond.code ({ cls := "LyndonBenchModel", name := "undoCount", desc := "()I" } : Jvm.MethodName) prog_9_method_97_code (1 : Nat) (Option.some Jvm.ClassFile.FieldType.int) ∈ za_Ts := z_mt7 59 rfl rfl
theorem zw_1617 : Jvm.Cond.methodLink "LyndonBenchLaw" (175 : Nat) ({ cls := "LyndonBenchModel", name := "saveSnapshot", desc := "()I" } : Jvm.MethodName) ∈ za_Ts := z_mt7 60 rfl rfl
theorem zw_1618 : Jvm.Cond.instanceMethod ({ cls := "LyndonBenchModel", name := "saveSnapshot", desc := "()I" } : Jvm.MethodName) ∈ za_Ts := z_mt7 61 rfl rfl
theorem zw_1619 : Jvm.Cond.selects "LyndonBenchModel" ({ cls := "LyndonBenchModel", name := "saveSnapshot", desc := "()I" } : Jvm.MethodName) ({ cls := "LyndonBenchModel", name := "saveSnapshot", desc := "()I" } : Jvm.MethodName) ∈ za_Ts := z_mt7 62 rfl rfl
theorem zw_1620 : Jvm.Cond.code ({ cls := "LyndonBenchModel", name := "saveSnapshot", desc := "()I" } : Jvm.MethodName) prog_9_method_98_code (2 : Nat) (Option.some Jvm.ClassFile.FieldType.int) ∈ za_Ts := z_mt7 63 rfl rfl
theorem zw_1621 : Jvm.Cond.methodLink "LyndonBenchLaw" (178 : Nat) ({ cls := "LyndonBenchModel", name := "restoreSnapshot", desc := "()I" } : Jvm.MethodName) ∈ za_Ts := z_mt7 64 rfl rfl
theorem zw_1622 : Jvm.Cond.instanceMethod ({ cls := "LyndonBenchModel", name := "restoreSnapshot", desc := "()I" } : Jvm.MethodName) ∈ za_Ts := z_mt7 65 rfl rfl
theorem zw_1623 : Jvm.Cond.selects "LyndonBenchModel" ({ cls := "LyndonBenchModel", name := "restoreSnapshot", desc := "()I" } : Jvm.MethodName) ({ cls := "LyndonBenchModel", name := "restoreSnapshot", desc := "()I" } : Jvm.MethodName) ∈ za_Ts := z_mt7 66 rfl rfl
theorem zw_1624 : Jvm.Cond.code ({ cls := "LyndonBenchModel", name := "restoreSnapshot", desc := "()I" } : Jvm.MethodName) prog_9_method_99_code (2 : Nat) (Option.some Jvm.ClassFile.FieldType.int) ∈ za_Ts := z_mt7 67 rfl rfl
theorem zw_1625 : Jvm.Cond.methodLink "LyndonBenchLaw" (182 : Nat) ({ cls := "LyndonBenchModel", name := "scriptErrorKind", desc := "()I" } : Jvm.MethodName) ∈ za_Ts := z_mt7 68 rfl rfl
theorem zw_1626 : Jvm.Cond.instanceMethod ({ cls := "LyndonBenchModel", name := "scriptErrorKind", desc := "()I" } : Jvm.MethodName) ∈ za_Ts := z_mt7 69 rfl rfl
theorem zw_1627 : Jvm.Cond.selects "LyndonBenchModel" ({ cls := "LyndonBenchModel", name := "scriptErrorKind", desc := "()I" } : Jvm.MethodName) ({ cls := "LyndonBenchModel", name := "scriptErrorKind", desc := "()I" } : Jvm.MethodName) ∈ za_Ts := z_mt7 70 rfl rfl
theorem zw_1628 : Jvm.Cond.code ({ cls := "LyndonBenchModel", name := "scriptErrorKind", desc := "()I" } : Jvm.MethodName) prog_9_method_100_code (1 : Nat) (Option.some Jvm.ClassFile.FieldType.int) ∈ za_Ts := z_mt7 71 rfl rfl
theorem zw_1629 : Jvm.Cond.methodLink "LyndonBenchLaw" (186 : Nat) ({ cls := "LyndonBenchModel", name := "scriptErrorOffset", desc := "()I" } : Jvm.MethodName) ∈ za_Ts := z_mt7 72 rfl rfl
theorem zw_1630 : Jvm.Cond.instanceMethod ({ cls := "LyndonBenchModel", name := "scriptErrorOffset", desc := "()I" } : Jvm.MethodName) ∈ za_Ts := z_mt7 73 rfl rfl
theorem zw_1631 : Jvm.Cond.selects "LyndonBenchModel" ({ cls := "LyndonBenchModel", name := "scriptErrorOffset", desc := "()I" } : Jvm.MethodName) ({ cls := "LyndonBenchModel", name := "scriptErrorOffset", desc := "()I" } : Jvm.MethodName) ∈ za_Ts := z_mt7 74 rfl rfl
theorem zw_1632 : Jvm.Cond.code ({ cls := "LyndonBenchModel", name := "scriptErrorOffset", desc := "()I" } : Jvm.MethodName) prog_9_method_101_code (1 : Nat) (Option.some Jvm.ClassFile.FieldType.int) ∈ za_Ts := z_mt7 75 rfl rfl
theorem zw_1633 : Jvm.Cond.methodLink "LyndonBenchLaw" (190 : Nat) ({ cls := "LyndonBenchModel", name := "letters", desc := "()I" } : Jvm.MethodName) ∈ za_Ts := z_mt7 76 rfl rfl
theorem zw_1634 : Jvm.Cond.instanceMethod ({ cls := "LyndonBenchModel", name := "letters", desc := "()I" } : Jvm.MethodName) ∈ za_Ts := z_mt7 77 rfl rfl
theorem zw_1635 : Jvm.Cond.selects "LyndonBenchModel" ({ cls := "LyndonBenchModel", name := "letters", desc := "()I" } : Jvm.MethodName) ({ cls := "LyndonBenchModel", name := "letters", desc := "()I" } : Jvm.MethodName) ∈ za_Ts := z_mt7 78 rfl rfl
theorem zw_1636 : Jvm.Cond.code ({ cls := "LyndonBenchModel", name := "letters", desc := "()I" } : Jvm.MethodName) prog_9_method_103_code (1 : Nat) (Option.some Jvm.ClassFile.FieldType.int) ∈ za_Ts := z_mt7 79 rfl rfl
theorem zw_1637 : Jvm.Cond.methodLink "LyndonBenchModel" (344 : Nat) ({ cls := "LyndonBenchModel", name := "told", desc := "(I)I" } : Jvm.MethodName) ∈ za_Ts := z_mt7 80 rfl rfl
theorem zw_1639 : Jvm.Cond.instanceMethod ({ cls := "LyndonBenchModel", name := "told", desc := "(I)I" } : Jvm.MethodName) ∈ za_Ts := z_mt7 82 rfl rfl
theorem zw_1640 : Jvm.Cond.code ({ cls := "LyndonBenchModel", name := "told", desc := "(I)I" } : Jvm.MethodName) prog_9_method_102_code (2 : Nat) (Option.some Jvm.ClassFile.FieldType.int) ∈ za_Ts := z_mt7 83 rfl rfl
theorem zw_1641 : Jvm.Cond.methodLink "LyndonBenchLaw" (194 : Nat) ({ cls := "LyndonBenchModel", name := "length", desc := "()I" } : Jvm.MethodName) ∈ za_Ts := z_mt7 84 rfl rfl
theorem zw_1642 : Jvm.Cond.instanceMethod ({ cls := "LyndonBenchModel", name := "length", desc := "()I" } : Jvm.MethodName) ∈ za_Ts := z_mt7 85 rfl rfl
theorem zw_1643 : Jvm.Cond.selects "LyndonBenchModel" ({ cls := "LyndonBenchModel", name := "length", desc := "()I" } : Jvm.MethodName) ({ cls := "LyndonBenchModel", name := "length", desc := "()I" } : Jvm.MethodName) ∈ za_Ts := z_mt7 86 rfl rfl
theorem zw_1644 : Jvm.Cond.code ({ cls := "LyndonBenchModel", name := "length", desc := "()I" } : Jvm.MethodName) prog_9_method_104_code (1 : Nat) (Option.some Jvm.ClassFile.FieldType.int) ∈ za_Ts := z_mt7 87 rfl rfl
theorem zw_1645 : Jvm.Cond.methodLink "LyndonBenchLaw" (198 : Nat) ({ cls := "LyndonBenchModel", name := "letterAt", desc := "(I)I" } : Jvm.MethodName) ∈ za_Ts := z_mt7 88 rfl rfl
theorem zw_1646 : Jvm.Cond.instanceMethod ({ cls := "LyndonBenchModel", name := "letterAt", desc := "(I)I" } : Jvm.MethodName) ∈ za_Ts := z_mt7 89 rfl rfl
theorem zw_1647 : Jvm.Cond.selects "LyndonBenchModel" ({ cls := "LyndonBenchModel", name := "letterAt", desc := "(I)I" } : Jvm.MethodName) ({ cls := "LyndonBenchModel", name := "letterAt", desc := "(I)I" } : Jvm.MethodName) ∈ za_Ts := z_mt7 90 rfl rfl
theorem zw_1648 : Jvm.Cond.code ({ cls := "LyndonBenchModel", name := "letterAt", desc := "(I)I" } : Jvm.MethodName) prog_9_method_105_code (2 : Nat) (Option.some Jvm.ClassFile.FieldType.int) ∈ za_Ts := z_mt7 91 rfl rfl
theorem zw_1649 : Jvm.Cond.methodLink "LyndonBenchLaw" (202 : Nat) ({ cls := "LyndonBenchModel", name := "compareParts", desc := "(IIII)I" } : Jvm.MethodName) ∈ za_Ts := z_mt7 92 rfl rfl
theorem zw_1650 : Jvm.Cond.instanceMethod ({ cls := "LyndonBenchModel", name := "compareParts", desc := "(IIII)I" } : Jvm.MethodName) ∈ za_Ts := z_mt7 93 rfl rfl
theorem zw_1651 : Jvm.Cond.selects "LyndonBenchModel" ({ cls := "LyndonBenchModel", name := "compareParts", desc := "(IIII)I" } : Jvm.MethodName) ({ cls := "LyndonBenchModel", name := "compareParts", desc := "(IIII)I" } : Jvm.MethodName) ∈ za_Ts := z_mt7 94 rfl rfl
theorem zw_1652 : Jvm.Cond.code ({ cls := "LyndonBenchModel", name := "compareParts", desc := "(IIII)I" } : Jvm.MethodName) prog_9_method_107_code (6 : Nat) (Option.some Jvm.ClassFile.FieldType.int) ∈ za_Ts := z_mt7 95 rfl rfl
theorem zw_1653 : Jvm.Cond.methodLink "LyndonBenchModel" (347 : Nat) ({ cls := "LyndonBenchModel", name := "isPart", desc := "(II)Z" } : Jvm.MethodName) ∈ za_Ts := z_mt7 96 rfl rfl
theorem zw_1655 : Jvm.Cond.instanceMethod ({ cls := "LyndonBenchModel", name := "isPart", desc := "(II)Z" } : Jvm.MethodName) ∈ za_Ts := z_mt7 98 rfl rfl
theorem zw_1656 : Jvm.Cond.code ({ cls := "LyndonBenchModel", name := "isPart", desc := "(II)Z" } : Jvm.MethodName) prog_9_method_106_code (3 : Nat) (Option.some Jvm.ClassFile.FieldType.boolean) ∈ za_Ts := z_mt7 99 rfl rfl
theorem zw_1657 : Jvm.Cond.methodLink "LyndonBenchLaw" (206 : Nat) ({ cls := "LyndonBenchModel", name := "factorCount", desc := "()I" } : Jvm.MethodName) ∈ za_Ts := z_mt7 100 rfl rfl
theorem zw_1658 : Jvm.Cond.instanceMethod ({ cls := "LyndonBenchModel", name := "factorCount", desc := "()I" } : Jvm.MethodName) ∈ za_Ts := z_mt7 101 rfl rfl
theorem zw_1659 : Jvm.Cond.selects "LyndonBenchModel" ({ cls := "LyndonBenchModel", name := "factorCount", desc := "()I" } : Jvm.MethodName) ({ cls := "LyndonBenchModel", name := "factorCount", desc := "()I" } : Jvm.MethodName) ∈ za_Ts := z_mt7 102 rfl rfl
theorem zw_1660 : Jvm.Cond.code ({ cls := "LyndonBenchModel", name := "factorCount", desc := "()I" } : Jvm.MethodName) prog_9_method_108_code (1 : Nat) (Option.some Jvm.ClassFile.FieldType.int) ∈ za_Ts := z_mt7 103 rfl rfl
theorem zw_1661 : Jvm.Cond.methodLink "LyndonBenchLaw" (209 : Nat) ({ cls := "LyndonBenchModel", name := "factorStart", desc := "(I)I" } : Jvm.MethodName) ∈ za_Ts := z_mt7 104 rfl rfl
theorem zw_1662 : Jvm.Cond.instanceMethod ({ cls := "LyndonBenchModel", name := "factorStart", desc := "(I)I" } : Jvm.MethodName) ∈ za_Ts := z_mt7 105 rfl rfl
theorem zw_1663 : Jvm.Cond.selects "LyndonBenchModel" ({ cls := "LyndonBenchModel", name := "factorStart", desc := "(I)I" } : Jvm.MethodName) ({ cls := "LyndonBenchModel", name := "factorStart", desc := "(I)I" } : Jvm.MethodName) ∈ za_Ts := z_mt7 106 rfl rfl
theorem zw_1664 : Jvm.Cond.code ({ cls := "LyndonBenchModel", name := "factorStart", desc := "(I)I" } : Jvm.MethodName) prog_9_method_110_code (2 : Nat) (Option.some Jvm.ClassFile.FieldType.int) ∈ za_Ts := z_mt7 107 rfl rfl
theorem zw_1665 : Jvm.Cond.methodLink "LyndonBenchModel" (350 : Nat) ({ cls := "LyndonBenchModel", name := "throwsFactor", desc := "(I)Z" } : Jvm.MethodName) ∈ za_Ts := z_mt7 108 rfl rfl
theorem zw_1667 : Jvm.Cond.instanceMethod ({ cls := "LyndonBenchModel", name := "throwsFactor", desc := "(I)Z" } : Jvm.MethodName) ∈ za_Ts := z_mt7 110 rfl rfl
theorem zw_1668 : Jvm.Cond.code ({ cls := "LyndonBenchModel", name := "throwsFactor", desc := "(I)Z" } : Jvm.MethodName) prog_9_method_109_code (2 : Nat) (Option.some Jvm.ClassFile.FieldType.boolean) ∈ za_Ts := z_mt7 111 rfl rfl
theorem zw_1669 : Jvm.Cond.methodLink "LyndonBenchLaw" (212 : Nat) ({ cls := "LyndonBenchModel", name := "factorLength", desc := "(I)I" } : Jvm.MethodName) ∈ za_Ts := z_mt7 112 rfl rfl
theorem zw_1670 : Jvm.Cond.instanceMethod ({ cls := "LyndonBenchModel", name := "factorLength", desc := "(I)I" } : Jvm.MethodName) ∈ za_Ts := z_mt7 113 rfl rfl
theorem zw_1671 : Jvm.Cond.selects "LyndonBenchModel" ({ cls := "LyndonBenchModel", name := "factorLength", desc := "(I)I" } : Jvm.MethodName) ({ cls := "LyndonBenchModel", name := "factorLength", desc := "(I)I" } : Jvm.MethodName) ∈ za_Ts := z_mt7 114 rfl rfl
theorem zw_1672 : Jvm.Cond.code ({ cls := "LyndonBenchModel", name := "factorLength", desc := "(I)I" } : Jvm.MethodName) prog_9_method_111_code (2 : Nat) (Option.some Jvm.ClassFile.FieldType.int) ∈ za_Ts := z_mt7 115 rfl rfl
theorem zw_1673 : Jvm.Cond.methodLink "LyndonBenchLaw" (215 : Nat) ({ cls := "LyndonBenchModel", name := "factorPower", desc := "(I)I" } : Jvm.MethodName) ∈ za_Ts := z_mt7 116 rfl rfl
theorem zw_1674 : Jvm.Cond.instanceMethod ({ cls := "LyndonBenchModel", name := "factorPower", desc := "(I)I" } : Jvm.MethodName) ∈ za_Ts := z_mt7 117 rfl rfl
theorem zw_1675 : Jvm.Cond.selects "LyndonBenchModel" ({ cls := "LyndonBenchModel", name := "factorPower", desc := "(I)I" } : Jvm.MethodName) ({ cls := "LyndonBenchModel", name := "factorPower", desc := "(I)I" } : Jvm.MethodName) ∈ za_Ts := z_mt7 118 rfl rfl
theorem zw_1676 : Jvm.Cond.code ({ cls := "LyndonBenchModel", name := "factorPower", desc := "(I)I" } : Jvm.MethodName) prog_9_method_114_code (3 : Nat) (Option.some Jvm.ClassFile.FieldType.int) ∈ za_Ts := z_mt7 119 rfl rfl
theorem zw_1677 : Jvm.Cond.methodLink "LyndonBenchModel" (356 : Nat) ({ cls := "LyndonBenchModel", name := "powerOf", desc := "(II)I" } : Jvm.MethodName) ∈ za_Ts := z_mt7 120 rfl rfl
theorem zw_1679 : Jvm.Cond.instanceMethod ({ cls := "LyndonBenchModel", name := "powerOf", desc := "(II)I" } : Jvm.MethodName) ∈ za_Ts := z_mt7 122 rfl rfl
theorem zw_1680 : Jvm.Cond.code ({ cls := "LyndonBenchModel", name := "powerOf", desc := "(II)I" } : Jvm.MethodName) prog_9_method_113_code (5 : Nat) (Option.some Jvm.ClassFile.FieldType.int) ∈ za_Ts := z_mt7 123 rfl rfl
theorem zw_1681 : Jvm.Cond.methodLink "LyndonBenchModel" (353 : Nat) ({ cls := "LyndonBenchModel", name := "areAlike", desc := "(II)Z" } : Jvm.MethodName) ∈ za_Ts := z_mt7 124 rfl rfl
theorem zw_1683 : Jvm.Cond.instanceMethod ({ cls := "LyndonBenchModel", name := "areAlike", desc := "(II)Z" } : Jvm.MethodName) ∈ za_Ts := z_mt7 126 rfl rfl
theorem zw_1684 : Jvm.Cond.code ({ cls := "LyndonBenchModel", name := "areAlike", desc := "(II)Z" } : Jvm.MethodName) prog_9_method_112_code (3 : Nat) (Option.some Jvm.ClassFile.FieldType.boolean) ∈ za_Ts := z_mt7 127 rfl rfl
theorem zw_1685 : Jvm.Cond.methodLink "LyndonBenchLaw" (219 : Nat) ({ cls := "LyndonBenchModel", name := "factorOf", desc := "(I)I" } : Jvm.MethodName) ∈ za_Ts := z_mt7 128 rfl rfl
theorem zw_1686 : Jvm.Cond.instanceMethod ({ cls := "LyndonBenchModel", name := "factorOf", desc := "(I)I" } : Jvm.MethodName) ∈ za_Ts := z_mt7 129 rfl rfl
theorem zw_1687 : Jvm.Cond.selects "LyndonBenchModel" ({ cls := "LyndonBenchModel", name := "factorOf", desc := "(I)I" } : Jvm.MethodName) ({ cls := "LyndonBenchModel", name := "factorOf", desc := "(I)I" } : Jvm.MethodName) ∈ za_Ts := z_mt7 130 rfl rfl
theorem zw_1688 : Jvm.Cond.code ({ cls := "LyndonBenchModel", name := "factorOf", desc := "(I)I" } : Jvm.MethodName) prog_9_method_115_code (4 : Nat) (Option.some Jvm.ClassFile.FieldType.int) ∈ za_Ts := z_mt7 131 rfl rfl
theorem zw_1689 : Jvm.Cond.methodLink "LyndonBenchLaw" (223 : Nat) ({ cls := "LyndonBenchModel", name := "longestFactor", desc := "()I" } : Jvm.MethodName) ∈ za_Ts := z_mt7 132 rfl rfl
theorem zw_1690 : Jvm.Cond.instanceMethod ({ cls := "LyndonBenchModel", name := "longestFactor", desc := "()I" } : Jvm.MethodName) ∈ za_Ts := z_mt7 133 rfl rfl
theorem zw_1691 : Jvm.Cond.selects "LyndonBenchModel" ({ cls := "LyndonBenchModel", name := "longestFactor", desc := "()I" } : Jvm.MethodName) ({ cls := "LyndonBenchModel", name := "longestFactor", desc := "()I" } : Jvm.MethodName) ∈ za_Ts := z_mt7 134 rfl rfl
theorem zw_1692 : Jvm.Cond.code ({ cls := "LyndonBenchModel", name := "longestFactor", desc := "()I" } : Jvm.MethodName) prog_9_method_116_code (4 : Nat) (Option.some Jvm.ClassFile.FieldType.int) ∈ za_Ts := z_mt7 135 rfl rfl
theorem zw_1693 : Jvm.Cond.methodLink "LyndonBenchLaw" (226 : Nat) ({ cls := "LyndonBenchModel", name := "factorsIfAppended", desc := "(I)I" } : Jvm.MethodName) ∈ za_Ts := z_mt7 136 rfl rfl
theorem zw_1694 : Jvm.Cond.instanceMethod ({ cls := "LyndonBenchModel", name := "factorsIfAppended", desc := "(I)I" } : Jvm.MethodName) ∈ za_Ts := z_mt7 137 rfl rfl
theorem zw_1695 : Jvm.Cond.selects "LyndonBenchModel" ({ cls := "LyndonBenchModel", name := "factorsIfAppended", desc := "(I)I" } : Jvm.MethodName) ({ cls := "LyndonBenchModel", name := "factorsIfAppended", desc := "(I)I" } : Jvm.MethodName) ∈ za_Ts := z_mt7 138 rfl rfl
theorem zw_1696 : Jvm.Cond.code ({ cls := "LyndonBenchModel", name := "factorsIfAppended", desc := "(I)I" } : Jvm.MethodName) prog_9_method_117_code (2 : Nat) (Option.some Jvm.ClassFile.FieldType.int) ∈ za_Ts := z_mt7 139 rfl rfl
theorem zw_1697 : Jvm.Cond.methodLink "LyndonBenchLaw" (229 : Nat) ({ cls := "LyndonBenchModel", name := "factorsIfRotated", desc := "(I)I" } : Jvm.MethodName) ∈ za_Ts := z_mt7 140 rfl rfl
theorem zw_1698 : Jvm.Cond.instanceMethod ({ cls := "LyndonBenchModel", name := "factorsIfRotated", desc := "(I)I" } : Jvm.MethodName) ∈ za_Ts := z_mt7 141 rfl rfl
theorem zw_1699 : Jvm.Cond.selects "LyndonBenchModel" ({ cls := "LyndonBenchModel", name := "factorsIfRotated", desc := "(I)I" } : Jvm.MethodName) ({ cls := "LyndonBenchModel", name := "factorsIfRotated", desc := "(I)I" } : Jvm.MethodName) ∈ za_Ts := z_mt7 142 rfl rfl
theorem zw_1700 : Jvm.Cond.code ({ cls := "LyndonBenchModel", name := "factorsIfRotated", desc := "(I)I" } : Jvm.MethodName) prog_9_method_118_code (2 : Nat) (Option.some Jvm.ClassFile.FieldType.int) ∈ za_Ts := z_mt7 143 rfl rfl
theorem zw_1701 : Jvm.Cond.methodLink "LyndonBenchLaw" (232 : Nat) ({ cls := "LyndonBenchModel", name := "rankOf", desc := "(I)I" } : Jvm.MethodName) ∈ za_Ts := z_mt7 144 rfl rfl
theorem zw_1702 : Jvm.Cond.instanceMethod ({ cls := "LyndonBenchModel", name := "rankOf", desc := "(I)I" } : Jvm.MethodName) ∈ za_Ts := z_mt7 145 rfl rfl
theorem zw_1703 : Jvm.Cond.selects "LyndonBenchModel" ({ cls := "LyndonBenchModel", name := "rankOf", desc := "(I)I" } : Jvm.MethodName) ({ cls := "LyndonBenchModel", name := "rankOf", desc := "(I)I" } : Jvm.MethodName) ∈ za_Ts := z_mt7 146 rfl rfl
theorem zw_1704 : Jvm.Cond.code ({ cls := "LyndonBenchModel", name := "rankOf", desc := "(I)I" } : Jvm.MethodName) prog_9_method_120_code (6 : Nat) (Option.some Jvm.ClassFile.FieldType.int) ∈ za_Ts := z_mt7 147 rfl rfl
theorem zw_1705 : Jvm.Cond.methodLink "LyndonBenchModel" (359 : Nat) ({ cls := "LyndonBenchModel", name := "power", desc := "(I)I" } : Jvm.MethodName) ∈ za_Ts := z_mt7 148 rfl rfl
theorem zw_1707 : Jvm.Cond.instanceMethod ({ cls := "LyndonBenchModel", name := "power", desc := "(I)I" } : Jvm.MethodName) ∈ za_Ts := z_mt7 150 rfl rfl
theorem zw_1708 : Jvm.Cond.code ({ cls := "LyndonBenchModel", name := "power", desc := "(I)I" } : Jvm.MethodName) prog_9_method_25_code (4 : Nat) (Option.some Jvm.ClassFile.FieldType.int) ∈ za_Ts := z_mt7 151 rfl rfl
theorem zw_1709 : Jvm.Cond.methodLink "LyndonBenchModel" (362 : Nat) ({ cls := "LyndonBenchModel", name := "numberOf", desc := "(II)I" } : Jvm.MethodName) ∈ za_Ts := z_mt7 152 rfl rfl
theorem zw_1711 : Jvm.Cond.instanceMethod ({ cls := "LyndonBenchModel", name := "numberOf", desc := "(II)I" } : Jvm.MethodName) ∈ za_Ts := z_mt7 154 rfl rfl
theorem zw_1712 : Jvm.Cond.code ({ cls := "LyndonBenchModel", name := "numberOf", desc := "(II)I" } : Jvm.MethodName) prog_9_method_119_code (5 : Nat) (Option.some Jvm.ClassFile.FieldType.int) ∈ za_Ts := z_mt7 155 rfl rfl
theorem zw_1713 : Jvm.Cond.methodLink "LyndonBenchModel" (365 : Nat) ({ cls := "LyndonBenchModel", name := "spells", desc := "(II)V" } : Jvm.MethodName) ∈ za_Ts := z_mt7 156 rfl rfl
theorem zw_1715 : Jvm.Cond.instanceMethod ({ cls := "LyndonBenchModel", name := "spells", desc := "(II)V" } : Jvm.MethodName) ∈ za_Ts := z_mt7 158 rfl rfl
theorem zw_1716 : Jvm.Cond.code ({ cls := "LyndonBenchModel", name := "spells", desc := "(II)V" } : Jvm.MethodName) prog_9_method_26_code (5 : Nat) (Option.none : Option Jvm.ClassFile.FieldType) ∈ za_Ts := z_mt7 159 rfl rfl
theorem zw_1717 : Jvm.Cond.methodLink "LyndonBenchLaw" (237 : Nat) ({ cls := "LyndonBenchModel", name := "isLyndon", desc := "()Z" } : Jvm.MethodName) ∈ za_Ts := z_mt7 160 rfl rfl
theorem zw_1718 : Jvm.Cond.instanceMethod ({ cls := "LyndonBenchModel", name := "isLyndon", desc := "()Z" } : Jvm.MethodName) ∈ za_Ts := z_mt7 161 rfl rfl
theorem zw_1719 : Jvm.Cond.selects "LyndonBenchModel" ({ cls := "LyndonBenchModel", name := "isLyndon", desc := "()Z" } : Jvm.MethodName) ({ cls := "LyndonBenchModel", name := "isLyndon", desc := "()Z" } : Jvm.MethodName) ∈ za_Ts := z_mt7 162 rfl rfl
theorem zw_1720 : Jvm.Cond.code ({ cls := "LyndonBenchModel", name := "isLyndon", desc := "()Z" } : Jvm.MethodName) prog_9_method_121_code (1 : Nat) (Option.some Jvm.ClassFile.FieldType.boolean) ∈ za_Ts := z_mt7 163 rfl rfl
theorem zw_1721 : Jvm.Cond.methodLink "LyndonBenchLaw" (241 : Nat) ({ cls := "LyndonBenchModel", name := "whyNotLyndon", desc := "()I" } : Jvm.MethodName) ∈ za_Ts := z_mt7 164 rfl rfl
theorem zw_1722 : Jvm.Cond.instanceMethod ({ cls := "LyndonBenchModel", name := "whyNotLyndon", desc := "()I" } : Jvm.MethodName) ∈ za_Ts := z_mt7 165 rfl rfl
theorem zw_1723 : Jvm.Cond.selects "LyndonBenchModel" ({ cls := "LyndonBenchModel", name := "whyNotLyndon", desc := "()I" } : Jvm.MethodName) ({ cls := "LyndonBenchModel", name := "whyNotLyndon", desc := "()I" } : Jvm.MethodName) ∈ za_Ts := z_mt7 166 rfl rfl
theorem zw_1724 : Jvm.Cond.code ({ cls := "LyndonBenchModel", name := "whyNotLyndon", desc := "()I" } : Jvm.MethodName) prog_9_method_122_code (1 : Nat) (Option.some Jvm.ClassFile.FieldType.int) ∈ za_Ts := z_mt7 167 rfl rfl
theorem zw_1725 : Jvm.Cond.methodLink "LyndonBenchLaw" (245 : Nat) ({ cls := "LyndonBenchModel", name := "isNecklace", desc := "()Z" } : Jvm.MethodName) ∈ za_Ts := z_mt7 168 rfl rfl
theorem zw_1726 : Jvm.Cond.instanceMethod ({ cls := "LyndonBenchModel", name := "isNecklace", desc := "()Z" } : Jvm.MethodName) ∈ za_Ts := z_mt7 169 rfl rfl
theorem zw_1727 : Jvm.Cond.selects "LyndonBenchModel" ({ cls := "LyndonBenchModel", name := "isNecklace", desc := "()Z" } : Jvm.MethodName) ({ cls := "LyndonBenchModel", name := "isNecklace", desc := "()Z" } : Jvm.MethodName) ∈ za_Ts := z_mt7 170 rfl rfl
theorem zw_1728 : Jvm.Cond.code ({ cls := "LyndonBenchModel", name := "isNecklace", desc := "()Z" } : Jvm.MethodName) prog_9_method_123_code (1 : Nat) (Option.some Jvm.ClassFile.FieldType.boolean) ∈ za_Ts := z_mt7 171 rfl rfl
theorem zw_1729 : Jvm.Cond.methodLink "LyndonBenchLaw" (249 : Nat) ({ cls := "LyndonBenchModel", name := "isPrenecklace", desc := "()Z" } : Jvm.MethodName) ∈ za_Ts := z_mt7 172 rfl rfl
theorem zw_1730 : Jvm.Cond.instanceMethod ({ cls := "LyndonBenchModel", name := "isPrenecklace", desc := "()Z" } : Jvm.MethodName) ∈ za_Ts := z_mt7 173 rfl rfl
theorem zw_1731 : Jvm.Cond.selects "LyndonBenchModel" ({ cls := "LyndonBenchModel", name := "isPrenecklace", desc := "()Z" } : Jvm.MethodName) ({ cls := "LyndonBenchModel", name := "isPrenecklace", desc := "()Z" } : Jvm.MethodName) ∈ za_Ts := z_mt7 174 rfl rfl
theorem zw_1732 : Jvm.Cond.code ({ cls := "LyndonBenchModel", name := "isPrenecklace", desc := "()Z" } : Jvm.MethodName) prog_9_method_124_code (1 : Nat) (Option.some Jvm.ClassFile.FieldType.boolean) ∈ za_Ts := z_mt7 175 rfl rfl
theorem zw_1733 : Jvm.Cond.methodLink "LyndonBenchModel" (369 : Nat) ({ cls := "LyndonBenchModel", name := "isBeginning", desc := "()Z" } : Jvm.MethodName) ∈ za_Ts := z_mt7 176 rfl rfl
theorem zw_1735 : Jvm.Cond.instanceMethod ({ cls := "LyndonBenchModel", name := "isBeginning", desc := "()Z" } : Jvm.MethodName) ∈ za_Ts := z_mt7 178 rfl rfl
theorem zw_1736 : Jvm.Cond.code ({ cls := "LyndonBenchModel", name := "isBeginning", desc := "()Z" } : Jvm.MethodName) prog_9_method_19_code (3 : Nat) (Option.some Jvm.ClassFile.FieldType.boolean) ∈ za_Ts := z_mt7 179 rfl rfl
theorem zw_1737 : Jvm.Cond.methodLink "LyndonBenchLaw" (253 : Nat) ({ cls := "LyndonBenchModel", name := "keepingLetter", desc := "()I" } : Jvm.MethodName) ∈ za_Ts := z_mt7 180 rfl rfl
theorem zw_1738 : Jvm.Cond.instanceMethod ({ cls := "LyndonBenchModel", name := "keepingLetter", desc := "()I" } : Jvm.MethodName) ∈ za_Ts := z_mt7 181 rfl rfl
theorem zw_1739 : Jvm.Cond.selects "LyndonBenchModel" ({ cls := "LyndonBenchModel", name := "keepingLetter", desc := "()I" } : Jvm.MethodName) ({ cls := "LyndonBenchModel", name := "keepingLetter", desc := "()I" } : Jvm.MethodName) ∈ za_Ts := z_mt7 182 rfl rfl
theorem zw_1740 : Jvm.Cond.code ({ cls := "LyndonBenchModel", name := "keepingLetter", desc := "()I" } : Jvm.MethodName) prog_9_method_125_code (2 : Nat) (Option.some Jvm.ClassFile.FieldType.int) ∈ za_Ts := z_mt7 183 rfl rfl
theorem zw_1741 : Jvm.Cond.methodLink "LyndonBenchLaw" (257 : Nat) ({ cls := "LyndonBenchModel", name := "leastRotation", desc := "()I" } : Jvm.MethodName) ∈ za_Ts := z_mt7 184 rfl rfl
theorem zw_1742 : Jvm.Cond.instanceMethod ({ cls := "LyndonBenchModel", name := "leastRotation", desc := "()I" } : Jvm.MethodName) ∈ za_Ts := z_mt7 185 rfl rfl
theorem zw_1743 : Jvm.Cond.selects "LyndonBenchModel" ({ cls := "LyndonBenchModel", name := "leastRotation", desc := "()I" } : Jvm.MethodName) ({ cls := "LyndonBenchModel", name := "leastRotation", desc := "()I" } : Jvm.MethodName) ∈ za_Ts := z_mt7 186 rfl rfl
theorem zw_1744 : Jvm.Cond.code ({ cls := "LyndonBenchModel", name := "leastRotation", desc := "()I" } : Jvm.MethodName) prog_9_method_126_code (1 : Nat) (Option.some Jvm.ClassFile.FieldType.int) ∈ za_Ts := z_mt7 187 rfl rfl
theorem zw_1745 : Jvm.Cond.methodLink "LyndonBenchLaw" (261 : Nat) ({ cls := "LyndonBenchModel", name := "rotationCount", desc := "()I" } : Jvm.MethodName) ∈ za_Ts := z_mt7 188 rfl rfl
theorem zw_1746 : Jvm.Cond.instanceMethod ({ cls := "LyndonBenchModel", name := "rotationCount", desc := "()I" } : Jvm.MethodName) ∈ za_Ts := z_mt7 189 rfl rfl
theorem zw_1747 : Jvm.Cond.selects "LyndonBenchModel" ({ cls := "LyndonBenchModel", name := "rotationCount", desc := "()I" } : Jvm.MethodName) ({ cls := "LyndonBenchModel", name := "rotationCount", desc := "()I" } : Jvm.MethodName) ∈ za_Ts := z_mt7 190 rfl rfl
theorem zw_1748 : Jvm.Cond.code ({ cls := "LyndonBenchModel", name := "rotationCount", desc := "()I" } : Jvm.MethodName) prog_9_method_127_code (1 : Nat) (Option.some Jvm.ClassFile.FieldType.int) ∈ za_Ts := z_mt7 191 rfl rfl
theorem zw_1749 : Jvm.Cond.methodLink "LyndonBenchModel" (372 : Nat) ({ cls := "LyndonBenchModel", name := "rootLength", desc := "()I" } : Jvm.MethodName) ∈ za_Ts := z_mt7 192 rfl rfl
theorem zw_1751 : Jvm.Cond.instanceMethod ({ cls := "LyndonBenchModel", name := "rootLength", desc := "()I" } : Jvm.MethodName) ∈ za_Ts := z_mt7 194 rfl rfl
theorem zw_1752 : Jvm.Cond.code ({ cls := "LyndonBenchModel", name := "rootLength", desc := "()I" } : Jvm.MethodName) prog_9_method_27_code (2 : Nat) (Option.some Jvm.ClassFile.FieldType.int) ∈ za_Ts := z_mt7 195 rfl rfl
theorem zw_1753 : Jvm.Cond.methodLink "LyndonBenchLaw" (265 : Nat) ({ cls := "LyndonBenchModel", name := "smallestPeriod", desc := "()I" } : Jvm.MethodName) ∈ za_Ts := z_mt7 196 rfl rfl
theorem zw_1754 : Jvm.Cond.instanceMethod ({ cls := "LyndonBenchModel", name := "smallestPeriod", desc := "()I" } : Jvm.MethodName) ∈ za_Ts := z_mt7 197 rfl rfl
theorem zw_1755 : Jvm.Cond.selects "LyndonBenchModel" ({ cls := "LyndonBenchModel", name := "smallestPeriod", desc := "()I" } : Jvm.MethodName) ({ cls := "LyndonBenchModel", name := "smallestPeriod", desc := "()I" } : Jvm.MethodName) ∈ za_Ts := z_mt7 198 rfl rfl
theorem zw_1756 : Jvm.Cond.code ({ cls := "LyndonBenchModel", name := "smallestPeriod", desc := "()I" } : Jvm.MethodName) prog_9_method_128_code (1 : Nat) (Option.some Jvm.ClassFile.FieldType.int) ∈ za_Ts := z_mt7 199 rfl rfl
theorem zw_1757 : Jvm.Cond.methodLink "LyndonBenchModel" (375 : Nat) ({ cls := "LyndonBenchModel", name := "period", desc := "()I" } : Jvm.MethodName) ∈ za_Ts := z_mt7 200 rfl rfl
theorem zw_1759 : Jvm.Cond.instanceMethod ({ cls := "LyndonBenchModel", name := "period", desc := "()I" } : Jvm.MethodName) ∈ za_Ts := z_mt7 202 rfl rfl
theorem zw_1760 : Jvm.Cond.code ({ cls := "LyndonBenchModel", name := "period", desc := "()I" } : Jvm.MethodName) prog_9_method_21_code (3 : Nat) (Option.some Jvm.ClassFile.FieldType.int) ∈ za_Ts := z_mt7 203 rfl rfl
theorem zw_1761 : Jvm.Cond.methodLink "LyndonBenchLaw" (269 : Nat) ({ cls := "LyndonBenchModel", name := "longestBorder", desc := "()I" } : Jvm.MethodName) ∈ za_Ts := z_mt7 204 rfl rfl
theorem zw_1762 : Jvm.Cond.instanceMethod ({ cls := "LyndonBenchModel", name := "longestBorder", desc := "()I" } : Jvm.MethodName) ∈ za_Ts := z_mt7 205 rfl rfl
theorem zw_1763 : Jvm.Cond.selects "LyndonBenchModel" ({ cls := "LyndonBenchModel", name := "longestBorder", desc := "()I" } : Jvm.MethodName) ({ cls := "LyndonBenchModel", name := "longestBorder", desc := "()I" } : Jvm.MethodName) ∈ za_Ts := z_mt7 206 rfl rfl
theorem zw_1764 : Jvm.Cond.code ({ cls := "LyndonBenchModel", name := "longestBorder", desc := "()I" } : Jvm.MethodName) prog_9_method_129_code (1 : Nat) (Option.some Jvm.ClassFile.FieldType.int) ∈ za_Ts := z_mt7 207 rfl rfl
theorem zw_1765 : Jvm.Cond.methodLink "LyndonBenchLaw" (273 : Nat) ({ cls := "LyndonBenchModel", name := "leastSuffix", desc := "()I" } : Jvm.MethodName) ∈ za_Ts := z_mt7 208 rfl rfl
theorem zw_1766 : Jvm.Cond.instanceMethod ({ cls := "LyndonBenchModel", name := "leastSuffix", desc := "()I" } : Jvm.MethodName) ∈ za_Ts := z_mt7 209 rfl rfl
theorem zw_1767 : Jvm.Cond.selects "LyndonBenchModel" ({ cls := "LyndonBenchModel", name := "leastSuffix", desc := "()I" } : Jvm.MethodName) ({ cls := "LyndonBenchModel", name := "leastSuffix", desc := "()I" } : Jvm.MethodName) ∈ za_Ts := z_mt7 210 rfl rfl
theorem zw_1768 : Jvm.Cond.code ({ cls := "LyndonBenchModel", name := "leastSuffix", desc := "()I" } : Jvm.MethodName) prog_9_method_130_code (1 : Nat) (Option.some Jvm.ClassFile.FieldType.int) ∈ za_Ts := z_mt7 211 rfl rfl
theorem zw_1769 : Jvm.Cond.methodLink "LyndonBenchModel" (378 : Nat) ({ cls := "LyndonBenchModel", name := "suffix", desc := "(I)I" } : Jvm.MethodName) ∈ za_Ts := z_mt7 212 rfl rfl
theorem zw_1771 : Jvm.Cond.instanceMethod ({ cls := "LyndonBenchModel", name := "suffix", desc := "(I)I" } : Jvm.MethodName) ∈ za_Ts := z_mt7 214 rfl rfl
theorem zw_1772 : Jvm.Cond.code ({ cls := "LyndonBenchModel", name := "suffix", desc := "(I)I" } : Jvm.MethodName) prog_9_method_24_code (4 : Nat) (Option.some Jvm.ClassFile.FieldType.int) ∈ za_Ts := z_mt7 215 rfl rfl
theorem zw_1773 : Jvm.Cond.methodLink "LyndonBenchLaw" (277 : Nat) ({ cls := "LyndonBenchModel", name := "greatestSuffix", desc := "()I" } : Jvm.MethodName) ∈ za_Ts := z_mt7 216 rfl rfl
theorem zw_1774 : Jvm.Cond.instanceMethod ({ cls := "LyndonBenchModel", name := "greatestSuffix", desc := "()I" } : Jvm.MethodName) ∈ za_Ts := z_mt7 217 rfl rfl
theorem zw_1775 : Jvm.Cond.selects "LyndonBenchModel" ({ cls := "LyndonBenchModel", name := "greatestSuffix", desc := "()I" } : Jvm.MethodName) ({ cls := "LyndonBenchModel", name := "greatestSuffix", desc := "()I" } : Jvm.MethodName) ∈ za_Ts := z_mt7 218 rfl rfl
theorem zw_1776 : Jvm.Cond.code ({ cls := "LyndonBenchModel", name := "greatestSuffix", desc := "()I" } : Jvm.MethodName) prog_9_method_131_code (1 : Nat) (Option.some Jvm.ClassFile.FieldType.int) ∈ za_Ts := z_mt7 219 rfl rfl
theorem zw_1777 : Jvm.Cond.methodLink "LyndonBenchLaw" (280 : Nat) ({ cls := "LyndonBenchModel", name := "lyndonWords", desc := "(I)J" } : Jvm.MethodName) ∈ za_Ts := z_mt7 220 rfl rfl
theorem zw_1778 : Jvm.Cond.instanceMethod ({ cls := "LyndonBenchModel", name := "lyndonWords", desc := "(I)J" } : Jvm.MethodName) ∈ za_Ts := z_mt7 221 rfl rfl
theorem zw_1779 : Jvm.Cond.selects "LyndonBenchModel" ({ cls := "LyndonBenchModel", name := "lyndonWords", desc := "(I)J" } : Jvm.MethodName) ({ cls := "LyndonBenchModel", name := "lyndonWords", desc := "(I)J" } : Jvm.MethodName) ∈ za_Ts := z_mt7 222 rfl rfl
theorem zw_1780 : Jvm.Cond.code ({ cls := "LyndonBenchModel", name := "lyndonWords", desc := "(I)J" } : Jvm.MethodName) prog_9_method_132_code (2 : Nat) (Option.some Jvm.ClassFile.FieldType.long) ∈ za_Ts := z_mt7 223 rfl rfl
theorem zw_1781 : Jvm.Cond.methodLink "LyndonBenchModel" (94 : Nat) ({ cls := "LyndonBenchModel", name := "primitives", desc := "(I)J" } : Jvm.MethodName) ∈ za_Ts := z_mt7 224 rfl rfl
theorem zw_1783 : Jvm.Cond.instanceMethod ({ cls := "LyndonBenchModel", name := "primitives", desc := "(I)J" } : Jvm.MethodName) ∈ za_Ts := z_mt7 226 rfl rfl
theorem zw_1784 : Jvm.Cond.code ({ cls := "LyndonBenchModel", name := "primitives", desc := "(I)J" } : Jvm.MethodName) prog_9_method_28_code (5 : Nat) (Option.some Jvm.ClassFile.FieldType.long) ∈ za_Ts := z_mt7 227 rfl rfl
theorem zw_1785 : Jvm.Cond.methodLink "LyndonBenchLaw" (283 : Nat) ({ cls := "LyndonBenchModel", name := "necklaces", desc := "(I)J" } : Jvm.MethodName) ∈ za_Ts := z_mt7 228 rfl rfl
theorem zw_1786 : Jvm.Cond.instanceMethod ({ cls := "LyndonBenchModel", name := "necklaces", desc := "(I)J" } : Jvm.MethodName) ∈ za_Ts := z_mt7 229 rfl rfl
theorem zw_1787 : Jvm.Cond.selects "LyndonBenchModel" ({ cls := "LyndonBenchModel", name := "necklaces", desc := "(I)J" } : Jvm.MethodName) ({ cls := "LyndonBenchModel", name := "necklaces", desc := "(I)J" } : Jvm.MethodName) ∈ za_Ts := z_mt7 230 rfl rfl
theorem zw_1788 : Jvm.Cond.code ({ cls := "LyndonBenchModel", name := "necklaces", desc := "(I)J" } : Jvm.MethodName) prog_9_method_133_code (2 : Nat) (Option.some Jvm.ClassFile.FieldType.long) ∈ za_Ts := z_mt7 231 rfl rfl
theorem zw_1789 : Jvm.Cond.methodLink "LyndonBenchModel" (381 : Nat) ({ cls := "LyndonBenchModel", name := "rings", desc := "(I)J" } : Jvm.MethodName) ∈ za_Ts := z_mt7 232 rfl rfl
theorem zw_1791 : Jvm.Cond.instanceMethod ({ cls := "LyndonBenchModel", name := "rings", desc := "(I)J" } : Jvm.MethodName) ∈ za_Ts := z_mt7 234 rfl rfl
theorem zw_1792 : Jvm.Cond.code ({ cls := "LyndonBenchModel", name := "rings", desc := "(I)J" } : Jvm.MethodName) prog_9_method_29_code (5 : Nat) (Option.some Jvm.ClassFile.FieldType.long) ∈ za_Ts := z_mt7 235 rfl rfl
theorem zw_1793 : Jvm.Cond.methodLink "LyndonBenchLaw" (286 : Nat) ({ cls := "LyndonBenchModel", name := "bruijnLetter", desc := "(II)I" } : Jvm.MethodName) ∈ za_Ts := z_mt7 236 rfl rfl
theorem zw_1794 : Jvm.Cond.instanceMethod ({ cls := "LyndonBenchModel", name := "bruijnLetter", desc := "(II)I" } : Jvm.MethodName) ∈ za_Ts := z_mt7 237 rfl rfl
theorem zw_1795 : Jvm.Cond.selects "LyndonBenchModel" ({ cls := "LyndonBenchModel", name := "bruijnLetter", desc := "(II)I" } : Jvm.MethodName) ({ cls := "LyndonBenchModel", name := "bruijnLetter", desc := "(II)I" } : Jvm.MethodName) ∈ za_Ts := z_mt7 238 rfl rfl
theorem zw_1796 : Jvm.Cond.code ({ cls := "LyndonBenchModel", name := "bruijnLetter", desc := "(II)I" } : Jvm.MethodName) prog_9_method_134_code (7 : Nat) (Option.some Jvm.ClassFile.FieldType.int) ∈ za_Ts := z_mt7 239 rfl rfl
theorem zw_1797 : Jvm.Cond.methodLink "LyndonBenchLaw" (290 : Nat) ({ cls := "LyndonBenchModel", name := "keptCount", desc := "()I" } : Jvm.MethodName) ∈ za_Ts := z_mt8 0 rfl rfl
theorem zw_1798 : Jvm.Cond.instanceMethod ({ cls := "LyndonBenchModel", name := "keptCount", desc := "()I" } : Jvm.MethodName) ∈ za_Ts := z_mt8 1 rfl rfl
theorem zw_1799 : Jvm.Cond.selects "LyndonBenchModel" ({ cls := "LyndonBenchModel", name := "keptCount", desc := "()I" } : Jvm.MethodName) ({ cls := "LyndonBenchModel", name := "keptCount", desc := "()I" } : Jvm.MethodName) ∈ za_Ts := z_mt8 2 rfl rfl
theorem zw_1800 : Jvm.Cond.code ({ cls := "LyndonBenchModel", name := "keptCount", desc := "()I" } : Jvm.MethodName) prog_9_method_135_code (1 : Nat) (Option.some Jvm.ClassFile.FieldType.int) ∈ za_Ts := z_mt8 3 rfl rfl
theorem zw_1801 : Jvm.Cond.methodLink "LyndonBenchLaw" (293 : Nat) ({ cls := "LyndonBenchModel", name := "keptLength", desc := "(I)I" } : Jvm.MethodName) ∈ za_Ts := z_mt8 4 rfl rfl
theorem zw_1802 : Jvm.Cond.instanceMethod ({ cls := "LyndonBenchModel", name := "keptLength", desc := "(I)I" } : Jvm.MethodName) ∈ za_Ts := z_mt8 5 rfl rfl
theorem zw_1803 : Jvm.Cond.selects "LyndonBenchModel" ({ cls := "LyndonBenchModel", name := "keptLength", desc := "(I)I" } : Jvm.MethodName) ({ cls := "LyndonBenchModel", name := "keptLength", desc := "(I)I" } : Jvm.MethodName) ∈ za_Ts := z_mt8 6 rfl rfl
theorem zw_1804 : Jvm.Cond.code ({ cls := "LyndonBenchModel", name := "keptLength", desc := "(I)I" } : Jvm.MethodName) prog_9_method_136_code (2 : Nat) (Option.some Jvm.ClassFile.FieldType.int) ∈ za_Ts := z_mt8 7 rfl rfl
theorem zw_1805 : Jvm.Cond.methodLink "LyndonBenchLaw" (296 : Nat) ({ cls := "LyndonBenchModel", name := "keptLetter", desc := "(II)I" } : Jvm.MethodName) ∈ za_Ts := z_mt8 8 rfl rfl
theorem zw_1806 : Jvm.Cond.instanceMethod ({ cls := "LyndonBenchModel", name := "keptLetter", desc := "(II)I" } : Jvm.MethodName) ∈ za_Ts := z_mt8 9 rfl rfl
theorem zw_1807 : Jvm.Cond.selects "LyndonBenchModel" ({ cls := "LyndonBenchModel", name := "keptLetter", desc := "(II)I" } : Jvm.MethodName) ({ cls := "LyndonBenchModel", name := "keptLetter", desc := "(II)I" } : Jvm.MethodName) ∈ za_Ts := z_mt8 10 rfl rfl
theorem zw_1808 : Jvm.Cond.code ({ cls := "LyndonBenchModel", name := "keptLetter", desc := "(II)I" } : Jvm.MethodName) prog_9_method_137_code (3 : Nat) (Option.some Jvm.ClassFile.FieldType.int) ∈ za_Ts := z_mt8 11 rfl rfl
theorem zw_1809 : Jvm.Cond.methodLink "LyndonBenchLaw" (300 : Nat) ({ cls := "LyndonBenchModel", name := "isShelfFalling", desc := "()Z" } : Jvm.MethodName) ∈ za_Ts := z_mt8 12 rfl rfl
theorem zw_1810 : Jvm.Cond.instanceMethod ({ cls := "LyndonBenchModel", name := "isShelfFalling", desc := "()Z" } : Jvm.MethodName) ∈ za_Ts := z_mt8 13 rfl rfl
theorem zw_1811 : Jvm.Cond.selects "LyndonBenchModel" ({ cls := "LyndonBenchModel", name := "isShelfFalling", desc := "()Z" } : Jvm.MethodName) ({ cls := "LyndonBenchModel", name := "isShelfFalling", desc := "()Z" } : Jvm.MethodName) ∈ za_Ts := z_mt8 14 rfl rfl
theorem zw_1812 : Jvm.Cond.code ({ cls := "LyndonBenchModel", name := "isShelfFalling", desc := "()Z" } : Jvm.MethodName) prog_9_method_138_code (2 : Nat) (Option.some Jvm.ClassFile.FieldType.boolean) ∈ za_Ts := z_mt8 15 rfl rfl
theorem zw_1813 : Jvm.Cond.methodLink "LyndonBenchLaw" (304 : Nat) ({ cls := "LyndonBenchModel", name := "greatestKept", desc := "()I" } : Jvm.MethodName) ∈ za_Ts := z_mt8 16 rfl rfl
theorem zw_1814 : Jvm.Cond.instanceMethod ({ cls := "LyndonBenchModel", name := "greatestKept", desc := "()I" } : Jvm.MethodName) ∈ za_Ts := z_mt8 17 rfl rfl
theorem zw_1815 : Jvm.Cond.selects "LyndonBenchModel" ({ cls := "LyndonBenchModel", name := "greatestKept", desc := "()I" } : Jvm.MethodName) ({ cls := "LyndonBenchModel", name := "greatestKept", desc := "()I" } : Jvm.MethodName) ∈ za_Ts := z_mt8 18 rfl rfl
theorem zw_1816 : Jvm.Cond.code ({ cls := "LyndonBenchModel", name := "greatestKept", desc := "()I" } : Jvm.MethodName) prog_9_method_139_code (1 : Nat) (Option.some Jvm.ClassFile.FieldType.int) ∈ za_Ts := z_mt8 19 rfl rfl
theorem zw_1817 : Jvm.Cond.methodLink "LyndonBenchLaw" (309 : Nat) ({ cls := "LyndonBenchModel", name := "meanFactor", desc := "()D" } : Jvm.MethodName) ∈ za_Ts := z_mt8 20 rfl rfl
theorem zw_1818 : Jvm.Cond.instanceMethod ({ cls := "LyndonBenchModel", name := "meanFactor", desc := "()D" } : Jvm.MethodName) ∈ za_Ts := z_mt8 21 rfl rfl
theorem zw_1819 : Jvm.Cond.selects "LyndonBenchModel" ({ cls := "LyndonBenchModel", name := "meanFactor", desc := "()D" } : Jvm.MethodName) ({ cls := "LyndonBenchModel", name := "meanFactor", desc := "()D" } : Jvm.MethodName) ∈ za_Ts := z_mt8 22 rfl rfl
theorem zw_1820 : Jvm.Cond.code ({ cls := "LyndonBenchModel", name := "meanFactor", desc := "()D" } : Jvm.MethodName) prog_9_method_140_code (2 : Nat) (Option.some Jvm.ClassFile.FieldType.double) ∈ za_Ts := z_mt8 23 rfl rfl
theorem zw_1821 : Jvm.Cond.methodLink "LyndonBenchLaw" (314 : Nat) ({ cls := "LyndonBenchModel", name := "lyndonShare", desc := "()F" } : Jvm.MethodName) ∈ za_Ts := z_mt8 24 rfl rfl
theorem zw_1822 : Jvm.Cond.instanceMethod ({ cls := "LyndonBenchModel", name := "lyndonShare", desc := "()F" } : Jvm.MethodName) ∈ za_Ts := z_mt8 25 rfl rfl
theorem zw_1823 : Jvm.Cond.selects "LyndonBenchModel" ({ cls := "LyndonBenchModel", name := "lyndonShare", desc := "()F" } : Jvm.MethodName) ({ cls := "LyndonBenchModel", name := "lyndonShare", desc := "()F" } : Jvm.MethodName) ∈ za_Ts := z_mt8 26 rfl rfl
theorem zw_1824 : Jvm.Cond.code ({ cls := "LyndonBenchModel", name := "lyndonShare", desc := "()F" } : Jvm.MethodName) prog_9_method_141_code (1 : Nat) (Option.some Jvm.ClassFile.FieldType.float) ∈ za_Ts := z_mt8 27 rfl rfl
theorem zw_1825 : Jvm.Cond.constantLong "LyndonBenchModel" (384 : Nat) (6 : Int64) ∈ za_Ts := z_mt8 28 rfl rfl
theorem zw_1826 : Jvm.Cond.methodLink "LyndonBenchLaw" (318 : Nat) ({ cls := "LyndonBenchModel", name := "violations", desc := "()I" } : Jvm.MethodName) ∈ za_Ts := z_mt8 29 rfl rfl
theorem zw_1827 : Jvm.Cond.instanceMethod ({ cls := "LyndonBenchModel", name := "violations", desc := "()I" } : Jvm.MethodName) ∈ za_Ts := z_mt8 30 rfl rfl
theorem zw_1828 : Jvm.Cond.selects "LyndonBenchModel" ({ cls := "LyndonBenchModel", name := "violations", desc := "()I" } : Jvm.MethodName) ({ cls := "LyndonBenchModel", name := "violations", desc := "()I" } : Jvm.MethodName) ∈ za_Ts := z_mt8 31 rfl rfl
theorem zw_1829 : Jvm.Cond.code ({ cls := "LyndonBenchModel", name := "violations", desc := "()I" } : Jvm.MethodName) prog_9_method_142_code (5 : Nat) (Option.some Jvm.ClassFile.FieldType.int) ∈ za_Ts := z_mt8 32 rfl rfl
theorem zw_1830 : Jvm.Cond.methodLink "LyndonBenchLaw" (322 : Nat) ({ cls := "LyndonBenchModel", name := "writeFactors", desc := "()I" } : Jvm.MethodName) ∈ za_Ts := z_mt8 33 rfl rfl
theorem zw_1831 : Jvm.Cond.instanceMethod ({ cls := "LyndonBenchModel", name := "writeFactors", desc := "()I" } : Jvm.MethodName) ∈ za_Ts := z_mt8 34 rfl rfl
theorem zw_1832 : Jvm.Cond.selects "LyndonBenchModel" ({ cls := "LyndonBenchModel", name := "writeFactors", desc := "()I" } : Jvm.MethodName) ({ cls := "LyndonBenchModel", name := "writeFactors", desc := "()I" } : Jvm.MethodName) ∈ za_Ts := z_mt8 35 rfl rfl
theorem zw_1833 : Jvm.Cond.code ({ cls := "LyndonBenchModel", name := "writeFactors", desc := "()I" } : Jvm.MethodName) prog_9_method_146_code (3 : Nat) (Option.some Jvm.ClassFile.FieldType.int) ∈ za_Ts := z_mt8 36 rfl rfl
theorem zw_1834 : Jvm.Cond.methodLink "LyndonBenchModel" (395 : Nat) ({ cls := "LyndonBenchModel", name := "writeFactor", desc := "(II)V" } : Jvm.MethodName) ∈ za_Ts := z_mt8 37 rfl rfl
theorem zw_1836 : Jvm.Cond.instanceMethod ({ cls := "LyndonBenchModel", name := "writeFactor", desc := "(II)V" } : Jvm.MethodName) ∈ za_Ts := z_mt8 39 rfl rfl
theorem zw_1837 : Jvm.Cond.code ({ cls := "LyndonBenchModel", name := "writeFactor", desc := "(II)V" } : Jvm.MethodName) prog_9_method_145_code (4 : Nat) (Option.none : Option Jvm.ClassFile.FieldType) ∈ za_Ts := z_mt8 40 rfl rfl
theorem zw_1838 : Jvm.Cond.methodLink "LyndonBenchModel" (392 : Nat) ({ cls := "LyndonBenchModel", name := "write", desc := "(I)V" } : Jvm.MethodName) ∈ za_Ts := z_mt8 41 rfl rfl
theorem zw_1840 : Jvm.Cond.instanceMethod ({ cls := "LyndonBenchModel", name := "write", desc := "(I)V" } : Jvm.MethodName) ∈ za_Ts := z_mt8 43 rfl rfl
theorem zw_1841 : Jvm.Cond.code ({ cls := "LyndonBenchModel", name := "write", desc := "(I)V" } : Jvm.MethodName) prog_9_method_143_code (2 : Nat) (Option.none : Option Jvm.ClassFile.FieldType) ∈ za_Ts := z_mt8 44 rfl rfl
theorem zw_1842 : Jvm.Cond.methodLink "LyndonBenchModel" (389 : Nat) ({ cls := "LyndonBenchModel", name := "writeNumber", desc := "(I)V" } : Jvm.MethodName) ∈ za_Ts := z_mt8 45 rfl rfl
theorem zw_1844 : Jvm.Cond.instanceMethod ({ cls := "LyndonBenchModel", name := "writeNumber", desc := "(I)V" } : Jvm.MethodName) ∈ za_Ts := z_mt8 47 rfl rfl
theorem zw_1845 : Jvm.Cond.code ({ cls := "LyndonBenchModel", name := "writeNumber", desc := "(I)V" } : Jvm.MethodName) prog_9_method_144_code (2 : Nat) (Option.none : Option Jvm.ClassFile.FieldType) ∈ za_Ts := z_mt8 48 rfl rfl
theorem zw_1846 : Jvm.Cond.methodLink "LyndonBenchLaw" (326 : Nat) ({ cls := "LyndonBenchModel", name := "reportByte", desc := "(I)I" } : Jvm.MethodName) ∈ za_Ts := z_mt8 49 rfl rfl
theorem zw_1847 : Jvm.Cond.instanceMethod ({ cls := "LyndonBenchModel", name := "reportByte", desc := "(I)I" } : Jvm.MethodName) ∈ za_Ts := z_mt8 50 rfl rfl
theorem zw_1848 : Jvm.Cond.selects "LyndonBenchModel" ({ cls := "LyndonBenchModel", name := "reportByte", desc := "(I)I" } : Jvm.MethodName) ({ cls := "LyndonBenchModel", name := "reportByte", desc := "(I)I" } : Jvm.MethodName) ∈ za_Ts := z_mt8 51 rfl rfl
theorem zw_1849 : Jvm.Cond.code ({ cls := "LyndonBenchModel", name := "reportByte", desc := "(I)I" } : Jvm.MethodName) prog_9_method_147_code (2 : Nat) (Option.some Jvm.ClassFile.FieldType.int) ∈ za_Ts := z_mt8 52 rfl rfl
theorem zw_1850 : Jvm.Cond.arrayClass Jvm.ClassFile.FieldType.long ∈ za_Ts := z_mt8 53 rfl rfl
theorem zw_1865 : Jvm.Cond.fieldLink "java/lang/String" (9 : Nat) "java/lang/String" "value" "[B" ∈ za_Ts := z_mt8 68 rfl rfl
theorem zw_1866 : Jvm.Cond.fieldLink "java/lang/String" (15 : Nat) "java/lang/String" "coder" "B" ∈ za_Ts := z_mt8 69 rfl rfl
theorem zw_1867 : Jvm.Cond.fieldLink "LyndonBench$Command" (59 : Nat) "LyndonBench$Command" "word" "Ljava/lang/String;" ∈ za_Ts := z_mt8 70 rfl rfl
theorem zw_1868 : Jvm.Cond.fieldLink "java/lang/Enum" (7 : Nat) "java/lang/Enum" "ordinal" "I" ∈ za_Ts := z_mt8 71 rfl rfl
theorem z_atg {ws : List Cond} (h : (ws.filter goodWord).all (fun w => lw_tbl.contains w) = true) : ∀ w ∈ ws.filter goodWord, w ∈ za_Ts := fun w hw => List.mem_filter.mpr ⟨List.contains_iff_mem.mp (List.all_eq_true.mp h w hw), (List.mem_filter.mp hw).2⟩
theorem zd_0 : z_okd za_P za_M 0 3 := ⟨⟨by decide +kernel, by decide +kernel, by decide +kernel⟩, zw_424, zw_134, Nat.le_of_ble_eq_true rfl⟩
theorem zd_1 : z_okd za_P za_M 1 0 := ⟨⟨by decide +kernel, by decide +kernel, by decide +kernel⟩, zw_196, zw_122, Nat.le_of_ble_eq_true rfl⟩
theorem zd_2 : z_okd za_P za_M 2 1 := ⟨⟨by decide +kernel, by decide +kernel, by decide +kernel⟩, zw_592, zw_122, Nat.le_of_ble_eq_true rfl⟩
theorem zd_3 : z_okd za_P za_M 3 0 := ⟨⟨by decide +kernel, by decide +kernel, by decide +kernel⟩, zw_596, zw_122, Nat.le_of_ble_eq_true rfl⟩
theorem zd_4 : z_okd za_P za_M 4 1 := ⟨⟨by decide +kernel, by decide +kernel, by decide +kernel⟩, zw_619, zw_122, Nat.le_of_ble_eq_true rfl⟩
theorem zd_5 : z_okd za_P za_M 5 0 := ⟨⟨by decide +kernel, by decide +kernel, by decide +kernel⟩, zw_213, zw_123, Nat.le_of_ble_eq_true rfl⟩
theorem zd_6 : z_okd za_P za_M 6 0 := ⟨⟨by decide +kernel, by decide +kernel, by decide +kernel⟩, zw_378, zw_123, Nat.le_of_ble_eq_true rfl⟩
theorem zd_7 : z_okd za_P za_M 7 0 := ⟨⟨by decide +kernel, by decide +kernel, by decide +kernel⟩, zw_382, zw_123, Nat.le_of_ble_eq_true rfl⟩
theorem zd_8 : z_okd za_P za_M 8 0 := ⟨⟨by decide +kernel, by decide +kernel, by decide +kernel⟩, zw_421, zw_123, Nat.le_of_ble_eq_true rfl⟩
theorem zd_9 : z_okd za_P za_M 9 0 := ⟨⟨by decide +kernel, by decide +kernel, by decide +kernel⟩, zw_433, zw_123, Nat.le_of_ble_eq_true rfl⟩
theorem zd_10 : z_okd za_P za_M 10 0 := ⟨⟨by decide +kernel, by decide +kernel, by decide +kernel⟩, zw_417, zw_123, Nat.le_of_ble_eq_true rfl⟩
theorem zd_11 : z_okd za_P za_M 11 1 := ⟨⟨by decide +kernel, by decide +kernel, by decide +kernel⟩, zw_445, zw_123, Nat.le_of_ble_eq_true rfl⟩
theorem zd_12 : z_okd za_P za_M 12 0 := ⟨⟨by decide +kernel, by decide +kernel, by decide +kernel⟩, zw_462, zw_123, Nat.le_of_ble_eq_true rfl⟩
theorem zd_13 : z_okd za_P za_M 13 0 := ⟨⟨by decide +kernel, by decide +kernel, by decide +kernel⟩, zw_466, zw_123, Nat.le_of_ble_eq_true rfl⟩
theorem zd_14 : z_okd za_P za_M 14 0 := ⟨⟨by decide +kernel, by decide +kernel, by decide +kernel⟩, zw_479, zw_123, Nat.le_of_ble_eq_true rfl⟩
theorem zd_15 : z_okd za_P za_M 15 0 := ⟨⟨by decide +kernel, by decide +kernel, by decide +kernel⟩, zw_491, zw_123, Nat.le_of_ble_eq_true rfl⟩
theorem zd_16 : z_okd za_P za_M 16 0 := ⟨⟨by decide +kernel, by decide +kernel, by decide +kernel⟩, zw_496, zw_123, Nat.le_of_ble_eq_true rfl⟩
theorem zd_17 : z_okd za_P za_M 17 0 := ⟨⟨by decide +kernel, by decide +kernel, by decide +kernel⟩, zw_508, zw_123, Nat.le_of_ble_eq_true rfl⟩
theorem zd_18 : z_okd za_P za_M 18 0 := ⟨⟨by decide +kernel, by decide +kernel, by decide +kernel⟩, zw_534, zw_123, Nat.le_of_ble_eq_true rfl⟩
theorem zd_19 : z_okd za_P za_M 19 0 := ⟨⟨by decide +kernel, by decide +kernel, by decide +kernel⟩, zw_556, zw_123, Nat.le_of_ble_eq_true rfl⟩
theorem zd_20 : z_okd za_P za_M 20 0 := ⟨⟨by decide +kernel, by decide +kernel, by decide +kernel⟩, zw_574, zw_123, Nat.le_of_ble_eq_true rfl⟩
theorem zd_21 : z_okd za_P za_M 21 1 := ⟨⟨by decide +kernel, by decide +kernel, by decide +kernel⟩, zw_411, zw_123, Nat.le_of_ble_eq_true rfl⟩
theorem zd_22 : z_okd za_P za_M 22 2 := ⟨⟨by decide +kernel, by decide +kernel, by decide +kernel⟩, zw_407, zw_123, Nat.le_of_ble_eq_true rfl⟩
theorem zd_23 : z_okd za_P za_M 23 1 := ⟨⟨by decide +kernel, by decide +kernel, by decide +kernel⟩, zw_453, zw_123, Nat.le_of_ble_eq_true rfl⟩
theorem zd_24 : z_okd za_P za_M 24 1 := ⟨⟨by decide +kernel, by decide +kernel, by decide +kernel⟩, zw_403, zw_123, Nat.le_of_ble_eq_true rfl⟩
theorem zd_25 : z_okd za_P za_M 25 0 := ⟨⟨by decide +kernel, by decide +kernel, by decide +kernel⟩, zw_386, zw_123, Nat.le_of_ble_eq_true rfl⟩
theorem zd_26 : z_okd za_P za_M 26 0 := ⟨⟨by decide +kernel, by decide +kernel, by decide +kernel⟩, zw_394, zw_123, Nat.le_of_ble_eq_true rfl⟩
theorem zd_27 : z_okd za_P za_M 27 1 := ⟨⟨by decide +kernel, by decide +kernel, by decide +kernel⟩, zw_390, zw_123, Nat.le_of_ble_eq_true rfl⟩
theorem zd_28 : z_okd za_P za_M 28 0 := ⟨⟨by decide +kernel, by decide +kernel, by decide +kernel⟩, zw_151, zw_119, Nat.le_of_ble_eq_true rfl⟩
theorem zd_29 : z_okd za_P za_M 29 1 := ⟨⟨by decide +kernel, by decide +kernel, by decide +kernel⟩, zw_266, zw_119, Nat.le_of_ble_eq_true rfl⟩
theorem zd_30 : z_okd za_P za_M 30 1 := ⟨⟨by decide +kernel, by decide +kernel, by decide +kernel⟩, zw_600, zw_119, Nat.le_of_ble_eq_true rfl⟩
theorem zd_31 : z_okd za_P za_M 31 1 := ⟨⟨by decide +kernel, by decide +kernel, by decide +kernel⟩, zw_449, zw_119, Nat.le_of_ble_eq_true rfl⟩
theorem zd_32 : z_okd za_P za_M 32 0 := ⟨⟨by decide +kernel, by decide +kernel, by decide +kernel⟩, zw_525, zw_119, Nat.le_of_ble_eq_true rfl⟩
theorem zd_33 : z_okd za_P za_M 33 1 := ⟨⟨by decide +kernel, by decide +kernel, by decide +kernel⟩, zw_885, zw_119, Nat.le_of_ble_eq_true rfl⟩
theorem zd_34 : z_okd za_P za_M 34 1 := ⟨⟨by decide +kernel, by decide +kernel, by decide +kernel⟩, zw_564, zw_119, Nat.le_of_ble_eq_true rfl⟩
theorem zd_35 : z_okd za_P za_M 35 1 := ⟨⟨by decide +kernel, by decide +kernel, by decide +kernel⟩, zw_551, zw_119, Nat.le_of_ble_eq_true rfl⟩
theorem zd_36 : z_okd za_P za_M 36 3 := ⟨⟨by decide +kernel, by decide +kernel, by decide +kernel⟩, zw_332, zw_119, Nat.le_of_ble_eq_true rfl⟩
theorem zd_37 : z_okd za_P za_M 37 1 := ⟨⟨by decide +kernel, by decide +kernel, by decide +kernel⟩, zw_560, zw_119, Nat.le_of_ble_eq_true rfl⟩
theorem zd_38 : z_okd za_P za_M 38 1 := ⟨⟨by decide +kernel, by decide +kernel, by decide +kernel⟩, zw_586, zw_119, Nat.le_of_ble_eq_true rfl⟩
theorem zd_39 : z_okd za_P za_M 39 0 := ⟨⟨by decide +kernel, by decide +kernel, by decide +kernel⟩, zw_578, zw_119, Nat.le_of_ble_eq_true rfl⟩
theorem zd_40 : z_okd za_P za_M 40 0 := ⟨⟨by decide +kernel, by decide +kernel, by decide +kernel⟩, zw_582, zw_119, Nat.le_of_ble_eq_true rfl⟩
theorem zd_41 : z_okd za_P za_M 41 1 := ⟨⟨by decide +kernel, by decide +kernel, by decide +kernel⟩, zw_512, zw_119, Nat.le_of_ble_eq_true rfl⟩
theorem zd_42 : z_okd za_P za_M 42 1 := ⟨⟨by decide +kernel, by decide +kernel, by decide +kernel⟩, zw_157, zw_120, Nat.le_of_ble_eq_true rfl⟩
theorem zd_43 : z_okd za_P za_M 43 1 := ⟨⟨by decide +kernel, by decide +kernel, by decide +kernel⟩, zw_340, zw_120, Nat.le_of_ble_eq_true rfl⟩
theorem zd_44 : z_okd za_P za_M 44 2 := ⟨⟨by decide +kernel, by decide +kernel, by decide +kernel⟩, zw_474, zw_120, Nat.le_of_ble_eq_true rfl⟩
theorem zd_45 : z_okd za_P za_M 45 0 := ⟨⟨by decide +kernel, by decide +kernel, by decide +kernel⟩, zw_270, zw_120, Nat.le_of_ble_eq_true rfl⟩
theorem zd_46 : z_okd za_P za_M 46 1 := ⟨⟨by decide +kernel, by decide +kernel, by decide +kernel⟩, zw_327, zw_120, Nat.le_of_ble_eq_true rfl⟩
theorem zd_47 : z_okd za_P za_M 47 1 := ⟨⟨by decide +kernel, by decide +kernel, by decide +kernel⟩, zw_370, zw_120, Nat.le_of_ble_eq_true rfl⟩
theorem zd_48 : z_okd za_P za_M 48 1 := ⟨⟨by decide +kernel, by decide +kernel, by decide +kernel⟩, zw_275, zw_120, Nat.le_of_ble_eq_true rfl⟩
theorem zd_49 : z_okd za_P za_M 49 3 := ⟨⟨by decide +kernel, by decide +kernel, by decide +kernel⟩, zw_336, zw_120, Nat.le_of_ble_eq_true rfl⟩
theorem zd_50 : z_okd za_P za_M 50 1 := ⟨⟨by decide +kernel, by decide +kernel, by decide +kernel⟩, zw_791, zw_120, Nat.le_of_ble_eq_true rfl⟩
theorem zd_51 : z_okd za_P za_M 51 1 := ⟨⟨by decide +kernel, by decide +kernel, by decide +kernel⟩, zw_568, zw_120, Nat.le_of_ble_eq_true rfl⟩
theorem zd_52 : z_okd za_P za_M 52 1 := ⟨⟨by decide +kernel, by decide +kernel, by decide +kernel⟩, zw_457, zw_120, Nat.le_of_ble_eq_true rfl⟩
theorem zd_53 : z_okd za_P za_M 53 2 := ⟨⟨by decide +kernel, by decide +kernel, by decide +kernel⟩, zw_470, zw_120, Nat.le_of_ble_eq_true rfl⟩
theorem zd_54 : z_okd za_P za_M 54 2 := ⟨⟨by decide +kernel, by decide +kernel, by decide +kernel⟩, zw_487, zw_120, Nat.le_of_ble_eq_true rfl⟩
theorem zd_55 : z_okd za_P za_M 55 1 := ⟨⟨by decide +kernel, by decide +kernel, by decide +kernel⟩, zw_483, zw_120, Nat.le_of_ble_eq_true rfl⟩
theorem zd_56 : z_okd za_P za_M 56 1 := ⟨⟨by decide +kernel, by decide +kernel, by decide +kernel⟩, zw_889, zw_120, Nat.le_of_ble_eq_true rfl⟩
theorem zd_57 : z_okd za_P za_M 57 3 := ⟨⟨by decide +kernel, by decide +kernel, by decide +kernel⟩, zw_399, zw_120, Nat.le_of_ble_eq_true rfl⟩
theorem zd_58 : z_okd za_P za_M 58 5 := ⟨⟨by decide +kernel, by decide +kernel, by decide +kernel⟩, zw_546, zw_120, Nat.le_of_ble_eq_true rfl⟩
theorem zd_59 : z_okd za_P za_M 59 1 := ⟨⟨by decide +kernel, by decide +kernel, by decide +kernel⟩, zw_520, zw_120, Nat.le_of_ble_eq_true rfl⟩
theorem zd_60 : z_okd za_P za_M 60 2 := ⟨⟨by decide +kernel, by decide +kernel, by decide +kernel⟩, zw_542, zw_120, Nat.le_of_ble_eq_true rfl⟩
theorem zd_61 : z_okd za_P za_M 61 0 := ⟨⟨by decide +kernel, by decide +kernel, by decide +kernel⟩, zw_611, zw_120, Nat.le_of_ble_eq_true rfl⟩
theorem zd_62 : z_okd za_P za_M 62 0 := ⟨⟨by decide +kernel, by decide +kernel, by decide +kernel⟩, zw_516, zw_120, Nat.le_of_ble_eq_true rfl⟩
theorem zd_63 : z_okd za_P za_M 63 1 := ⟨⟨by decide +kernel, by decide +kernel, by decide +kernel⟩, zw_538, zw_120, Nat.le_of_ble_eq_true rfl⟩
theorem zd_64 : z_okd za_P za_M 64 1 := ⟨⟨by decide +kernel, by decide +kernel, by decide +kernel⟩, zw_660, zw_120, Nat.le_of_ble_eq_true rfl⟩
theorem zd_65 : z_okd za_P za_M 65 0 := ⟨⟨by decide +kernel, by decide +kernel, by decide +kernel⟩, zw_668, zw_120, Nat.le_of_ble_eq_true rfl⟩
theorem zd_66 : z_okd za_P za_M 66 2 := ⟨⟨by decide +kernel, by decide +kernel, by decide +kernel⟩, zw_785, zw_120, Nat.le_of_ble_eq_true rfl⟩
theorem zd_67 : z_okd za_P za_M 67 2 := ⟨⟨by decide +kernel, by decide +kernel, by decide +kernel⟩, zw_777, zw_120, Nat.le_of_ble_eq_true rfl⟩
theorem zd_68 : z_okd za_P za_M 68 0 := ⟨⟨by decide +kernel, by decide +kernel, by decide +kernel⟩, zw_702, zw_120, Nat.le_of_ble_eq_true rfl⟩
theorem zd_69 : z_okd za_P za_M 69 1 := ⟨⟨by decide +kernel, by decide +kernel, by decide +kernel⟩, zw_689, zw_120, Nat.le_of_ble_eq_true rfl⟩
theorem zd_70 : z_okd za_P za_M 70 0 := ⟨⟨by decide +kernel, by decide +kernel, by decide +kernel⟩, zw_685, zw_120, Nat.le_of_ble_eq_true rfl⟩
theorem zd_71 : z_okd za_P za_M 71 0 := ⟨⟨by decide +kernel, by decide +kernel, by decide +kernel⟩, zw_681, zw_120, Nat.le_of_ble_eq_true rfl⟩
theorem zd_72 : z_okd za_P za_M 72 0 := ⟨⟨by decide +kernel, by decide +kernel, by decide +kernel⟩, zw_500, zw_120, Nat.le_of_ble_eq_true rfl⟩
theorem zd_73 : z_okd za_P za_M 73 1 := ⟨⟨by decide +kernel, by decide +kernel, by decide +kernel⟩, zw_504, zw_120, Nat.le_of_ble_eq_true rfl⟩
theorem zd_74 : z_okd za_P za_M 74 1 := ⟨⟨by decide +kernel, by decide +kernel, by decide +kernel⟩, zw_732, zw_120, Nat.le_of_ble_eq_true rfl⟩
theorem zd_75 : z_okd za_P za_M 75 2 := ⟨⟨by decide +kernel, by decide +kernel, by decide +kernel⟩, zw_530, zw_120, Nat.le_of_ble_eq_true rfl⟩
theorem zd_76 : z_okd za_P za_M 76 0 := ⟨⟨by decide +kernel, by decide +kernel, by decide +kernel⟩, zw_143, zw_118, Nat.le_of_ble_eq_true rfl⟩
theorem zd_77 : z_okd za_P za_M 77 5 := ⟨⟨by decide +kernel, by decide +kernel, by decide +kernel⟩, zw_366, zw_118, Nat.le_of_ble_eq_true rfl⟩
theorem zd_78 : z_okd za_P za_M 78 1 := ⟨⟨by decide +kernel, by decide +kernel, by decide +kernel⟩, zw_803, zw_118, Nat.le_of_ble_eq_true rfl⟩
theorem zd_79 : z_okd za_P za_M 79 0 := ⟨⟨by decide +kernel, by decide +kernel, by decide +kernel⟩, zw_374, zw_118, Nat.le_of_ble_eq_true rfl⟩
theorem zd_80 : z_okd za_P za_M 80 1 := ⟨⟨by decide +kernel, by decide +kernel, by decide +kernel⟩, zw_880, zw_118, Nat.le_of_ble_eq_true rfl⟩
theorem zd_81 : z_okd za_P za_M 81 0 := ⟨⟨by decide +kernel, by decide +kernel, by decide +kernel⟩, zw_912, zw_118, Nat.le_of_ble_eq_true rfl⟩
theorem zd_82 : z_okd za_P za_M 82 1 := ⟨⟨by decide +kernel, by decide +kernel, by decide +kernel⟩, zw_921, zw_118, Nat.le_of_ble_eq_true rfl⟩
theorem zd_83 : z_okd za_P za_M 83 1 := ⟨⟨by decide +kernel, by decide +kernel, by decide +kernel⟩, zw_933, zw_118, Nat.le_of_ble_eq_true rfl⟩
theorem zd_84 : z_okd za_P za_M 84 2 := ⟨⟨by decide +kernel, by decide +kernel, by decide +kernel⟩, zw_945, zw_118, Nat.le_of_ble_eq_true rfl⟩
theorem zd_85 : z_okd za_P za_M 85 1 := ⟨⟨by decide +kernel, by decide +kernel, by decide +kernel⟩, zw_958, zw_118, Nat.le_of_ble_eq_true rfl⟩
theorem zd_86 : z_okd za_P za_M 86 0 := ⟨⟨by decide +kernel, by decide +kernel, by decide +kernel⟩, zw_606, zw_118, Nat.le_of_ble_eq_true rfl⟩
theorem zd_87 : z_okd za_P za_M 87 0 := ⟨⟨by decide +kernel, by decide +kernel, by decide +kernel⟩, zw_966, zw_118, Nat.le_of_ble_eq_true rfl⟩
theorem zd_88 : z_okd za_P za_M 88 1 := ⟨⟨by decide +kernel, by decide +kernel, by decide +kernel⟩, zw_974, zw_118, Nat.le_of_ble_eq_true rfl⟩
theorem zd_89 : z_okd za_P za_M 89 1 := ⟨⟨by decide +kernel, by decide +kernel, by decide +kernel⟩, zw_987, zw_118, Nat.le_of_ble_eq_true rfl⟩
theorem zd_90 : z_okd za_P za_M 90 0 := ⟨⟨by decide +kernel, by decide +kernel, by decide +kernel⟩, zw_1017, zw_118, Nat.le_of_ble_eq_true rfl⟩
theorem zd_91 : z_okd za_P za_M 91 1 := ⟨⟨by decide +kernel, by decide +kernel, by decide +kernel⟩, zw_1025, zw_118, Nat.le_of_ble_eq_true rfl⟩
theorem zd_92 : z_okd za_P za_M 92 0 := ⟨⟨by decide +kernel, by decide +kernel, by decide +kernel⟩, zw_1034, zw_118, Nat.le_of_ble_eq_true rfl⟩
theorem zd_93 : z_okd za_P za_M 93 0 := ⟨⟨by decide +kernel, by decide +kernel, by decide +kernel⟩, zw_615, zw_118, Nat.le_of_ble_eq_true rfl⟩
theorem zd_94 : z_okd za_P za_M 94 0 := ⟨⟨by decide +kernel, by decide +kernel, by decide +kernel⟩, zw_623, zw_118, Nat.le_of_ble_eq_true rfl⟩
theorem zd_95 : z_okd za_P za_M 95 0 := ⟨⟨by decide +kernel, by decide +kernel, by decide +kernel⟩, zw_627, zw_118, Nat.le_of_ble_eq_true rfl⟩
theorem zd_96 : z_okd za_P za_M 96 0 := ⟨⟨by decide +kernel, by decide +kernel, by decide +kernel⟩, zw_1045, zw_118, Nat.le_of_ble_eq_true rfl⟩
theorem zd_97 : z_okd za_P za_M 97 0 := ⟨⟨by decide +kernel, by decide +kernel, by decide +kernel⟩, zw_631, zw_118, Nat.le_of_ble_eq_true rfl⟩
theorem zd_98 : z_okd za_P za_M 98 0 := ⟨⟨by decide +kernel, by decide +kernel, by decide +kernel⟩, zw_635, zw_118, Nat.le_of_ble_eq_true rfl⟩
theorem zd_99 : z_okd za_P za_M 99 0 := ⟨⟨by decide +kernel, by decide +kernel, by decide +kernel⟩, zw_639, zw_118, Nat.le_of_ble_eq_true rfl⟩
theorem zd_100 : z_okd za_P za_M 100 0 := ⟨⟨by decide +kernel, by decide +kernel, by decide +kernel⟩, zw_643, zw_118, Nat.le_of_ble_eq_true rfl⟩
theorem zd_101 : z_okd za_P za_M 101 1 := ⟨⟨by decide +kernel, by decide +kernel, by decide +kernel⟩, zw_647, zw_118, Nat.le_of_ble_eq_true rfl⟩
theorem zd_102 : z_okd za_P za_M 102 4 := ⟨⟨by decide +kernel, by decide +kernel, by decide +kernel⟩, zw_1068, zw_118, Nat.le_of_ble_eq_true rfl⟩
theorem zd_103 : z_okd za_P za_M 103 0 := ⟨⟨by decide +kernel, by decide +kernel, by decide +kernel⟩, zw_652, zw_118, Nat.le_of_ble_eq_true rfl⟩
theorem zd_104 : z_okd za_P za_M 104 1 := ⟨⟨by decide +kernel, by decide +kernel, by decide +kernel⟩, zw_1075, zw_118, Nat.le_of_ble_eq_true rfl⟩
theorem zd_105 : z_okd za_P za_M 105 1 := ⟨⟨by decide +kernel, by decide +kernel, by decide +kernel⟩, zw_1082, zw_118, Nat.le_of_ble_eq_true rfl⟩
theorem zd_106 : z_okd za_P za_M 106 1 := ⟨⟨by decide +kernel, by decide +kernel, by decide +kernel⟩, zw_1089, zw_118, Nat.le_of_ble_eq_true rfl⟩
theorem zd_107 : z_okd za_P za_M 107 1 := ⟨⟨by decide +kernel, by decide +kernel, by decide +kernel⟩, zw_656, zw_118, Nat.le_of_ble_eq_true rfl⟩
theorem zd_108 : z_okd za_P za_M 108 0 := ⟨⟨by decide +kernel, by decide +kernel, by decide +kernel⟩, zw_664, zw_118, Nat.le_of_ble_eq_true rfl⟩
theorem zd_109 : z_okd za_P za_M 109 1 := ⟨⟨by decide +kernel, by decide +kernel, by decide +kernel⟩, zw_1096, zw_118, Nat.le_of_ble_eq_true rfl⟩
theorem zd_110 : z_okd za_P za_M 110 1 := ⟨⟨by decide +kernel, by decide +kernel, by decide +kernel⟩, zw_1104, zw_118, Nat.le_of_ble_eq_true rfl⟩
theorem zd_111 : z_okd za_P za_M 111 1 := ⟨⟨by decide +kernel, by decide +kernel, by decide +kernel⟩, zw_1111, zw_118, Nat.le_of_ble_eq_true rfl⟩
theorem zd_112 : z_okd za_P za_M 112 0 := ⟨⟨by decide +kernel, by decide +kernel, by decide +kernel⟩, zw_672, zw_118, Nat.le_of_ble_eq_true rfl⟩
theorem zd_113 : z_okd za_P za_M 113 0 := ⟨⟨by decide +kernel, by decide +kernel, by decide +kernel⟩, zw_677, zw_118, Nat.le_of_ble_eq_true rfl⟩
theorem zd_114 : z_okd za_P za_M 114 0 := ⟨⟨by decide +kernel, by decide +kernel, by decide +kernel⟩, zw_694, zw_118, Nat.le_of_ble_eq_true rfl⟩
theorem zd_115 : z_okd za_P za_M 115 0 := ⟨⟨by decide +kernel, by decide +kernel, by decide +kernel⟩, zw_698, zw_118, Nat.le_of_ble_eq_true rfl⟩
theorem zd_116 : z_okd za_P za_M 116 0 := ⟨⟨by decide +kernel, by decide +kernel, by decide +kernel⟩, zw_706, zw_118, Nat.le_of_ble_eq_true rfl⟩
theorem zd_117 : z_okd za_P za_M 117 0 := ⟨⟨by decide +kernel, by decide +kernel, by decide +kernel⟩, zw_711, zw_118, Nat.le_of_ble_eq_true rfl⟩
theorem zd_118 : z_okd za_P za_M 118 0 := ⟨⟨by decide +kernel, by decide +kernel, by decide +kernel⟩, zw_715, zw_118, Nat.le_of_ble_eq_true rfl⟩
theorem zd_119 : z_okd za_P za_M 119 0 := ⟨⟨by decide +kernel, by decide +kernel, by decide +kernel⟩, zw_719, zw_118, Nat.le_of_ble_eq_true rfl⟩
theorem zd_120 : z_okd za_P za_M 120 0 := ⟨⟨by decide +kernel, by decide +kernel, by decide +kernel⟩, zw_724, zw_118, Nat.le_of_ble_eq_true rfl⟩
theorem zd_121 : z_okd za_P za_M 121 0 := ⟨⟨by decide +kernel, by decide +kernel, by decide +kernel⟩, zw_728, zw_118, Nat.le_of_ble_eq_true rfl⟩
theorem zd_122 : z_okd za_P za_M 122 0 := ⟨⟨by decide +kernel, by decide +kernel, by decide +kernel⟩, zw_736, zw_118, Nat.le_of_ble_eq_true rfl⟩
theorem zd_123 : z_okd za_P za_M 123 1 := ⟨⟨by decide +kernel, by decide +kernel, by decide +kernel⟩, zw_1130, zw_118, Nat.le_of_ble_eq_true rfl⟩
theorem zd_124 : z_okd za_P za_M 124 1 := ⟨⟨by decide +kernel, by decide +kernel, by decide +kernel⟩, zw_1142, zw_118, Nat.le_of_ble_eq_true rfl⟩
theorem zd_125 : z_okd za_P za_M 125 2 := ⟨⟨by decide +kernel, by decide +kernel, by decide +kernel⟩, zw_1149, zw_118, Nat.le_of_ble_eq_true rfl⟩
theorem zd_126 : z_okd za_P za_M 126 0 := ⟨⟨by decide +kernel, by decide +kernel, by decide +kernel⟩, zw_740, zw_118, Nat.le_of_ble_eq_true rfl⟩
theorem zd_127 : z_okd za_P za_M 127 1 := ⟨⟨by decide +kernel, by decide +kernel, by decide +kernel⟩, zw_1162, zw_118, Nat.le_of_ble_eq_true rfl⟩
theorem zd_128 : z_okd za_P za_M 128 2 := ⟨⟨by decide +kernel, by decide +kernel, by decide +kernel⟩, zw_1169, zw_118, Nat.le_of_ble_eq_true rfl⟩
theorem zd_129 : z_okd za_P za_M 129 0 := ⟨⟨by decide +kernel, by decide +kernel, by decide +kernel⟩, zw_744, zw_118, Nat.le_of_ble_eq_true rfl⟩
theorem zd_130 : z_okd za_P za_M 130 0 := ⟨⟨by decide +kernel, by decide +kernel, by decide +kernel⟩, zw_750, zw_118, Nat.le_of_ble_eq_true rfl⟩
theorem zd_131 : z_okd za_P za_M 131 0 := ⟨⟨by decide +kernel, by decide +kernel, by decide +kernel⟩, zw_755, zw_118, Nat.le_of_ble_eq_true rfl⟩
theorem zd_132 : z_okd za_P za_M 132 0 := ⟨⟨by decide +kernel, by decide +kernel, by decide +kernel⟩, zw_759, zw_118, Nat.le_of_ble_eq_true rfl⟩
theorem zd_133 : z_okd za_P za_M 133 0 := ⟨⟨by decide +kernel, by decide +kernel, by decide +kernel⟩, zw_773, zw_118, Nat.le_of_ble_eq_true rfl⟩
theorem zd_134 : z_okd za_P za_M 134 0 := ⟨⟨by decide +kernel, by decide +kernel, by decide +kernel⟩, zw_781, zw_118, Nat.le_of_ble_eq_true rfl⟩
theorem zd_135 : z_okd za_P za_M 135 1 := ⟨⟨by decide +kernel, by decide +kernel, by decide +kernel⟩, zw_795, zw_118, Nat.le_of_ble_eq_true rfl⟩
theorem zd_136 : z_okd za_P za_M 136 1 := ⟨⟨by decide +kernel, by decide +kernel, by decide +kernel⟩, zw_925, zw_118, Nat.le_of_ble_eq_true rfl⟩
theorem zd_137 : z_okd za_P za_M 137 1 := ⟨⟨by decide +kernel, by decide +kernel, by decide +kernel⟩, zw_937, zw_118, Nat.le_of_ble_eq_true rfl⟩
theorem zd_138 : z_okd za_P za_M 138 2 := ⟨⟨by decide +kernel, by decide +kernel, by decide +kernel⟩, zw_949, zw_118, Nat.le_of_ble_eq_true rfl⟩
theorem zd_139 : z_okd za_P za_M 139 1 := ⟨⟨by decide +kernel, by decide +kernel, by decide +kernel⟩, zw_1134, zw_118, Nat.le_of_ble_eq_true rfl⟩
theorem zd_140 : z_okd za_P za_M 140 1 := ⟨⟨by decide +kernel, by decide +kernel, by decide +kernel⟩, zw_991, zw_118, Nat.le_of_ble_eq_true rfl⟩
theorem zd_141 : z_okd za_P za_M 141 2 := ⟨⟨by decide +kernel, by decide +kernel, by decide +kernel⟩, zw_1114, zw_118, Nat.le_of_ble_eq_true rfl⟩
theorem zd_142 : z_okd za_P za_M 142 3 := ⟨⟨by decide +kernel, by decide +kernel, by decide +kernel⟩, zw_764, zw_118, Nat.le_of_ble_eq_true rfl⟩
theorem zd_143 : z_okd za_P za_M 143 2 := ⟨⟨by decide +kernel, by decide +kernel, by decide +kernel⟩, zw_767, zw_118, Nat.le_of_ble_eq_true rfl⟩
theorem zd_144 : z_okd za_P za_M 144 0 := ⟨⟨by decide +kernel, by decide +kernel, by decide +kernel⟩, zw_1123, zw_118, Nat.le_of_ble_eq_true rfl⟩
theorem zd_145 : z_okd za_P za_M 145 2 := ⟨⟨by decide +kernel, by decide +kernel, by decide +kernel⟩, zw_1119, zw_118, Nat.le_of_ble_eq_true rfl⟩
theorem zd_146 : z_okd za_P za_M 146 2 := ⟨⟨by decide +kernel, by decide +kernel, by decide +kernel⟩, zw_1154, zw_118, Nat.le_of_ble_eq_true rfl⟩
theorem zd_147 : z_okd za_P za_M 147 0 := ⟨⟨by decide +kernel, by decide +kernel, by decide +kernel⟩, zw_1174, zw_128, Nat.le_of_ble_eq_true rfl⟩
theorem zd_148 : z_okd za_P za_M 148 0 := ⟨⟨by decide +kernel, by decide +kernel, by decide +kernel⟩, zw_1511, zw_128, Nat.le_of_ble_eq_true rfl⟩
theorem zd_149 : z_okd za_P za_M 149 3 := ⟨⟨by decide +kernel, by decide +kernel, by decide +kernel⟩, zw_1217, zw_128, Nat.le_of_ble_eq_true rfl⟩
theorem zd_150 : z_okd za_P za_M 150 1 := ⟨⟨by decide +kernel, by decide +kernel, by decide +kernel⟩, zw_1527, zw_128, Nat.le_of_ble_eq_true rfl⟩
theorem zd_151 : z_okd za_P za_M 151 2 := ⟨⟨by decide +kernel, by decide +kernel, by decide +kernel⟩, zw_1552, zw_128, Nat.le_of_ble_eq_true rfl⟩
theorem zd_152 : z_okd za_P za_M 152 1 := ⟨⟨by decide +kernel, by decide +kernel, by decide +kernel⟩, zw_1261, zw_128, Nat.le_of_ble_eq_true rfl⟩
theorem zd_153 : z_okd za_P za_M 153 1 := ⟨⟨by decide +kernel, by decide +kernel, by decide +kernel⟩, zw_1604, zw_128, Nat.le_of_ble_eq_true rfl⟩
theorem zd_154 : z_okd za_P za_M 154 4 := ⟨⟨by decide +kernel, by decide +kernel, by decide +kernel⟩, zw_1429, zw_128, Nat.le_of_ble_eq_true rfl⟩
theorem zd_155 : z_okd za_P za_M 155 2 := ⟨⟨by decide +kernel, by decide +kernel, by decide +kernel⟩, zw_1425, zw_128, Nat.le_of_ble_eq_true rfl⟩
theorem zd_156 : z_okd za_P za_M 156 0 := ⟨⟨by decide +kernel, by decide +kernel, by decide +kernel⟩, zw_1277, zw_128, Nat.le_of_ble_eq_true rfl⟩
theorem zd_157 : z_okd za_P za_M 157 1 := ⟨⟨by decide +kernel, by decide +kernel, by decide +kernel⟩, zw_1433, zw_128, Nat.le_of_ble_eq_true rfl⟩
theorem zd_158 : z_okd za_P za_M 158 1 := ⟨⟨by decide +kernel, by decide +kernel, by decide +kernel⟩, zw_1317, zw_128, Nat.le_of_ble_eq_true rfl⟩
theorem zd_159 : z_okd za_P za_M 159 2 := ⟨⟨by decide +kernel, by decide +kernel, by decide +kernel⟩, zw_1297, zw_128, Nat.le_of_ble_eq_true rfl⟩
theorem zd_160 : z_okd za_P za_M 160 0 := ⟨⟨by decide +kernel, by decide +kernel, by decide +kernel⟩, zw_1293, zw_128, Nat.le_of_ble_eq_true rfl⟩
theorem zd_161 : z_okd za_P za_M 161 0 := ⟨⟨by decide +kernel, by decide +kernel, by decide +kernel⟩, zw_1289, zw_128, Nat.le_of_ble_eq_true rfl⟩
theorem zd_162 : z_okd za_P za_M 162 1 := ⟨⟨by decide +kernel, by decide +kernel, by decide +kernel⟩, zw_1361, zw_128, Nat.le_of_ble_eq_true rfl⟩
theorem zd_163 : z_okd za_P za_M 163 0 := ⟨⟨by decide +kernel, by decide +kernel, by decide +kernel⟩, zw_1357, zw_128, Nat.le_of_ble_eq_true rfl⟩
theorem zd_164 : z_okd za_P za_M 164 0 := ⟨⟨by decide +kernel, by decide +kernel, by decide +kernel⟩, zw_1365, zw_128, Nat.le_of_ble_eq_true rfl⟩
theorem zd_165 : z_okd za_P za_M 165 0 := ⟨⟨by decide +kernel, by decide +kernel, by decide +kernel⟩, zw_1736, zw_128, Nat.le_of_ble_eq_true rfl⟩
theorem zd_166 : z_okd za_P za_M 166 0 := ⟨⟨by decide +kernel, by decide +kernel, by decide +kernel⟩, zw_1353, zw_128, Nat.le_of_ble_eq_true rfl⟩
theorem zd_167 : z_okd za_P za_M 167 0 := ⟨⟨by decide +kernel, by decide +kernel, by decide +kernel⟩, zw_1760, zw_128, Nat.le_of_ble_eq_true rfl⟩
theorem zd_168 : z_okd za_P za_M 168 2 := ⟨⟨by decide +kernel, by decide +kernel, by decide +kernel⟩, zw_1341, zw_128, Nat.le_of_ble_eq_true rfl⟩
theorem zd_169 : z_okd za_P za_M 169 0 := ⟨⟨by decide +kernel, by decide +kernel, by decide +kernel⟩, zw_1337, zw_128, Nat.le_of_ble_eq_true rfl⟩
theorem zd_170 : z_okd za_P za_M 170 1 := ⟨⟨by decide +kernel, by decide +kernel, by decide +kernel⟩, zw_1772, zw_128, Nat.le_of_ble_eq_true rfl⟩
theorem zd_171 : z_okd za_P za_M 171 1 := ⟨⟨by decide +kernel, by decide +kernel, by decide +kernel⟩, zw_1708, zw_128, Nat.le_of_ble_eq_true rfl⟩
theorem zd_172 : z_okd za_P za_M 172 2 := ⟨⟨by decide +kernel, by decide +kernel, by decide +kernel⟩, zw_1716, zw_128, Nat.le_of_ble_eq_true rfl⟩
theorem zd_173 : z_okd za_P za_M 173 0 := ⟨⟨by decide +kernel, by decide +kernel, by decide +kernel⟩, zw_1752, zw_128, Nat.le_of_ble_eq_true rfl⟩
theorem zd_174 : z_okd za_P za_M 174 1 := ⟨⟨by decide +kernel, by decide +kernel, by decide +kernel⟩, zw_1784, zw_128, Nat.le_of_ble_eq_true rfl⟩
theorem zd_175 : z_okd za_P za_M 175 1 := ⟨⟨by decide +kernel, by decide +kernel, by decide +kernel⟩, zw_1792, zw_128, Nat.le_of_ble_eq_true rfl⟩
theorem zd_176 : z_okd za_P za_M 176 0 := ⟨⟨by decide +kernel, by decide +kernel, by decide +kernel⟩, zw_1269, zw_128, Nat.le_of_ble_eq_true rfl⟩
theorem zd_177 : z_okd za_P za_M 177 1 := ⟨⟨by decide +kernel, by decide +kernel, by decide +kernel⟩, zw_1564, zw_128, Nat.le_of_ble_eq_true rfl⟩
theorem zd_178 : z_okd za_P za_M 178 1 := ⟨⟨by decide +kernel, by decide +kernel, by decide +kernel⟩, zw_1285, zw_128, Nat.le_of_ble_eq_true rfl⟩
theorem zd_179 : z_okd za_P za_M 179 2 := ⟨⟨by decide +kernel, by decide +kernel, by decide +kernel⟩, zw_1305, zw_128, Nat.le_of_ble_eq_true rfl⟩
theorem zd_180 : z_okd za_P za_M 180 1 := ⟨⟨by decide +kernel, by decide +kernel, by decide +kernel⟩, zw_1313, zw_128, Nat.le_of_ble_eq_true rfl⟩
theorem zd_181 : z_okd za_P za_M 181 0 := ⟨⟨by decide +kernel, by decide +kernel, by decide +kernel⟩, zw_1325, zw_128, Nat.le_of_ble_eq_true rfl⟩
theorem zd_182 : z_okd za_P za_M 182 0 := ⟨⟨by decide +kernel, by decide +kernel, by decide +kernel⟩, zw_1333, zw_128, Nat.le_of_ble_eq_true rfl⟩
theorem zd_183 : z_okd za_P za_M 183 1 := ⟨⟨by decide +kernel, by decide +kernel, by decide +kernel⟩, zw_1369, zw_128, Nat.le_of_ble_eq_true rfl⟩
theorem zd_184 : z_okd za_P za_M 184 1 := ⟨⟨by decide +kernel, by decide +kernel, by decide +kernel⟩, zw_1349, zw_128, Nat.le_of_ble_eq_true rfl⟩
theorem zd_185 : z_okd za_P za_M 185 1 := ⟨⟨by decide +kernel, by decide +kernel, by decide +kernel⟩, zw_1373, zw_128, Nat.le_of_ble_eq_true rfl⟩
theorem zd_186 : z_okd za_P za_M 186 2 := ⟨⟨by decide +kernel, by decide +kernel, by decide +kernel⟩, zw_1385, zw_128, Nat.le_of_ble_eq_true rfl⟩
theorem zd_187 : z_okd za_P za_M 187 1 := ⟨⟨by decide +kernel, by decide +kernel, by decide +kernel⟩, zw_1389, zw_128, Nat.le_of_ble_eq_true rfl⟩
theorem zd_188 : z_okd za_P za_M 188 0 := ⟨⟨by decide +kernel, by decide +kernel, by decide +kernel⟩, zw_1381, zw_128, Nat.le_of_ble_eq_true rfl⟩
theorem zd_189 : z_okd za_P za_M 189 1 := ⟨⟨by decide +kernel, by decide +kernel, by decide +kernel⟩, zw_1393, zw_128, Nat.le_of_ble_eq_true rfl⟩
theorem zd_190 : z_okd za_P za_M 190 1 := ⟨⟨by decide +kernel, by decide +kernel, by decide +kernel⟩, zw_1401, zw_128, Nat.le_of_ble_eq_true rfl⟩
theorem zd_191 : z_okd za_P za_M 191 0 := ⟨⟨by decide +kernel, by decide +kernel, by decide +kernel⟩, zw_1413, zw_128, Nat.le_of_ble_eq_true rfl⟩
theorem zd_192 : z_okd za_P za_M 192 0 := ⟨⟨by decide +kernel, by decide +kernel, by decide +kernel⟩, zw_1409, zw_128, Nat.le_of_ble_eq_true rfl⟩
theorem zd_193 : z_okd za_P za_M 193 1 := ⟨⟨by decide +kernel, by decide +kernel, by decide +kernel⟩, zw_1421, zw_128, Nat.le_of_ble_eq_true rfl⟩
theorem zd_194 : z_okd za_P za_M 194 0 := ⟨⟨by decide +kernel, by decide +kernel, by decide +kernel⟩, zw_1417, zw_128, Nat.le_of_ble_eq_true rfl⟩
theorem zd_195 : z_okd za_P za_M 195 1 := ⟨⟨by decide +kernel, by decide +kernel, by decide +kernel⟩, zw_1547, zw_128, Nat.le_of_ble_eq_true rfl⟩
theorem zd_196 : z_okd za_P za_M 196 1 := ⟨⟨by decide +kernel, by decide +kernel, by decide +kernel⟩, zw_1180, zw_128, Nat.le_of_ble_eq_true rfl⟩
theorem zd_197 : z_okd za_P za_M 197 1 := ⟨⟨by decide +kernel, by decide +kernel, by decide +kernel⟩, zw_1193, zw_128, Nat.le_of_ble_eq_true rfl⟩
theorem zd_198 : z_okd za_P za_M 198 0 := ⟨⟨by decide +kernel, by decide +kernel, by decide +kernel⟩, zw_1190, zw_128, Nat.le_of_ble_eq_true rfl⟩
theorem zd_199 : z_okd za_P za_M 199 1 := ⟨⟨by decide +kernel, by decide +kernel, by decide +kernel⟩, zw_1202, zw_128, Nat.le_of_ble_eq_true rfl⟩
theorem zd_200 : z_okd za_P za_M 200 1 := ⟨⟨by decide +kernel, by decide +kernel, by decide +kernel⟩, zw_1206, zw_128, Nat.le_of_ble_eq_true rfl⟩
theorem zd_201 : z_okd za_P za_M 201 1 := ⟨⟨by decide +kernel, by decide +kernel, by decide +kernel⟩, zw_1214, zw_128, Nat.le_of_ble_eq_true rfl⟩
theorem zd_202 : z_okd za_P za_M 202 3 := ⟨⟨by decide +kernel, by decide +kernel, by decide +kernel⟩, zw_1210, zw_128, Nat.le_of_ble_eq_true rfl⟩
theorem zd_203 : z_okd za_P za_M 203 1 := ⟨⟨by decide +kernel, by decide +kernel, by decide +kernel⟩, zw_1265, zw_128, Nat.le_of_ble_eq_true rfl⟩
theorem zd_204 : z_okd za_P za_M 204 1 := ⟨⟨by decide +kernel, by decide +kernel, by decide +kernel⟩, zw_1257, zw_128, Nat.le_of_ble_eq_true rfl⟩
theorem zd_205 : z_okd za_P za_M 205 0 := ⟨⟨by decide +kernel, by decide +kernel, by decide +kernel⟩, zw_1253, zw_128, Nat.le_of_ble_eq_true rfl⟩
theorem zd_206 : z_okd za_P za_M 206 0 := ⟨⟨by decide +kernel, by decide +kernel, by decide +kernel⟩, zw_1273, zw_128, Nat.le_of_ble_eq_true rfl⟩
theorem zd_207 : z_okd za_P za_M 207 0 := ⟨⟨by decide +kernel, by decide +kernel, by decide +kernel⟩, zw_1281, zw_128, Nat.le_of_ble_eq_true rfl⟩
theorem zd_208 : z_okd za_P za_M 208 0 := ⟨⟨by decide +kernel, by decide +kernel, by decide +kernel⟩, zw_1301, zw_128, Nat.le_of_ble_eq_true rfl⟩
theorem zd_209 : z_okd za_P za_M 209 0 := ⟨⟨by decide +kernel, by decide +kernel, by decide +kernel⟩, zw_1309, zw_128, Nat.le_of_ble_eq_true rfl⟩
theorem zd_210 : z_okd za_P za_M 210 0 := ⟨⟨by decide +kernel, by decide +kernel, by decide +kernel⟩, zw_1321, zw_128, Nat.le_of_ble_eq_true rfl⟩
theorem zd_211 : z_okd za_P za_M 211 0 := ⟨⟨by decide +kernel, by decide +kernel, by decide +kernel⟩, zw_1329, zw_128, Nat.le_of_ble_eq_true rfl⟩
theorem zd_212 : z_okd za_P za_M 212 0 := ⟨⟨by decide +kernel, by decide +kernel, by decide +kernel⟩, zw_1345, zw_128, Nat.le_of_ble_eq_true rfl⟩
theorem zd_213 : z_okd za_P za_M 213 0 := ⟨⟨by decide +kernel, by decide +kernel, by decide +kernel⟩, zw_1377, zw_128, Nat.le_of_ble_eq_true rfl⟩
theorem zd_214 : z_okd za_P za_M 214 0 := ⟨⟨by decide +kernel, by decide +kernel, by decide +kernel⟩, zw_1397, zw_128, Nat.le_of_ble_eq_true rfl⟩
theorem zd_215 : z_okd za_P za_M 215 0 := ⟨⟨by decide +kernel, by decide +kernel, by decide +kernel⟩, zw_1405, zw_128, Nat.le_of_ble_eq_true rfl⟩
theorem zd_216 : z_okd za_P za_M 216 1 := ⟨⟨by decide +kernel, by decide +kernel, by decide +kernel⟩, zw_1245, zw_128, Nat.le_of_ble_eq_true rfl⟩
theorem zd_217 : z_okd za_P za_M 217 0 := ⟨⟨by decide +kernel, by decide +kernel, by decide +kernel⟩, zw_1225, zw_128, Nat.le_of_ble_eq_true rfl⟩
theorem zd_218 : z_okd za_P za_M 218 0 := ⟨⟨by decide +kernel, by decide +kernel, by decide +kernel⟩, zw_1235, zw_128, Nat.le_of_ble_eq_true rfl⟩
theorem zd_219 : z_okd za_P za_M 219 1 := ⟨⟨by decide +kernel, by decide +kernel, by decide +kernel⟩, zw_1221, zw_128, Nat.le_of_ble_eq_true rfl⟩
theorem zd_220 : z_okd za_P za_M 220 1 := ⟨⟨by decide +kernel, by decide +kernel, by decide +kernel⟩, zw_1249, zw_128, Nat.le_of_ble_eq_true rfl⟩
theorem zd_221 : z_okd za_P za_M 221 0 := ⟨⟨by decide +kernel, by decide +kernel, by decide +kernel⟩, zw_1197, zw_128, Nat.le_of_ble_eq_true rfl⟩
theorem zd_222 : z_okd za_P za_M 222 0 := ⟨⟨by decide +kernel, by decide +kernel, by decide +kernel⟩, zw_1186, zw_128, Nat.le_of_ble_eq_true rfl⟩
theorem zd_223 : z_okd za_P za_M 223 5 := ⟨⟨by decide +kernel, by decide +kernel, by decide +kernel⟩, zw_1515, zw_128, Nat.le_of_ble_eq_true rfl⟩
theorem zd_224 : z_okd za_P za_M 224 1 := ⟨⟨by decide +kernel, by decide +kernel, by decide +kernel⟩, zw_1519, zw_128, Nat.le_of_ble_eq_true rfl⟩
theorem zd_225 : z_okd za_P za_M 225 1 := ⟨⟨by decide +kernel, by decide +kernel, by decide +kernel⟩, zw_1523, zw_128, Nat.le_of_ble_eq_true rfl⟩
theorem zd_226 : z_okd za_P za_M 226 0 := ⟨⟨by decide +kernel, by decide +kernel, by decide +kernel⟩, zw_1535, zw_128, Nat.le_of_ble_eq_true rfl⟩
theorem zd_227 : z_okd za_P za_M 227 1 := ⟨⟨by decide +kernel, by decide +kernel, by decide +kernel⟩, zw_1539, zw_128, Nat.le_of_ble_eq_true rfl⟩
theorem zd_228 : z_okd za_P za_M 228 0 := ⟨⟨by decide +kernel, by decide +kernel, by decide +kernel⟩, zw_1531, zw_128, Nat.le_of_ble_eq_true rfl⟩
theorem zd_229 : z_okd za_P za_M 229 1 := ⟨⟨by decide +kernel, by decide +kernel, by decide +kernel⟩, zw_1543, zw_128, Nat.le_of_ble_eq_true rfl⟩
theorem zd_230 : z_okd za_P za_M 230 0 := ⟨⟨by decide +kernel, by decide +kernel, by decide +kernel⟩, zw_1556, zw_128, Nat.le_of_ble_eq_true rfl⟩
theorem zd_231 : z_okd za_P za_M 231 1 := ⟨⟨by decide +kernel, by decide +kernel, by decide +kernel⟩, zw_1560, zw_128, Nat.le_of_ble_eq_true rfl⟩
theorem zd_232 : z_okd za_P za_M 232 1 := ⟨⟨by decide +kernel, by decide +kernel, by decide +kernel⟩, zw_1568, zw_128, Nat.le_of_ble_eq_true rfl⟩
theorem zd_233 : z_okd za_P za_M 233 2 := ⟨⟨by decide +kernel, by decide +kernel, by decide +kernel⟩, zw_1572, zw_128, Nat.le_of_ble_eq_true rfl⟩
theorem zd_234 : z_okd za_P za_M 234 1 := ⟨⟨by decide +kernel, by decide +kernel, by decide +kernel⟩, zw_1576, zw_128, Nat.le_of_ble_eq_true rfl⟩
theorem zd_235 : z_okd za_P za_M 235 0 := ⟨⟨by decide +kernel, by decide +kernel, by decide +kernel⟩, zw_1580, zw_128, Nat.le_of_ble_eq_true rfl⟩
theorem zd_236 : z_okd za_P za_M 236 0 := ⟨⟨by decide +kernel, by decide +kernel, by decide +kernel⟩, zw_1584, zw_128, Nat.le_of_ble_eq_true rfl⟩
theorem zd_237 : z_okd za_P za_M 237 1 := ⟨⟨by decide +kernel, by decide +kernel, by decide +kernel⟩, zw_1588, zw_128, Nat.le_of_ble_eq_true rfl⟩
theorem zd_238 : z_okd za_P za_M 238 1 := ⟨⟨by decide +kernel, by decide +kernel, by decide +kernel⟩, zw_1592, zw_128, Nat.le_of_ble_eq_true rfl⟩
theorem zd_239 : z_okd za_P za_M 239 0 := ⟨⟨by decide +kernel, by decide +kernel, by decide +kernel⟩, zw_1596, zw_128, Nat.le_of_ble_eq_true rfl⟩
theorem zd_240 : z_okd za_P za_M 240 1 := ⟨⟨by decide +kernel, by decide +kernel, by decide +kernel⟩, zw_1600, zw_128, Nat.le_of_ble_eq_true rfl⟩
theorem zd_241 : z_okd za_P za_M 241 0 := ⟨⟨by decide +kernel, by decide +kernel, by decide +kernel⟩, zw_1608, zw_128, Nat.le_of_ble_eq_true rfl⟩
theorem zd_242 : z_okd za_P za_M 242 0 := ⟨⟨by decide +kernel, by decide +kernel, by decide +kernel⟩, zw_1612, zw_128, Nat.le_of_ble_eq_true rfl⟩
theorem zd_243 : z_okd za_P za_M 243 0 := ⟨⟨by decide +kernel, by decide +kernel, by decide +kernel⟩, zw_1616, zw_128, Nat.le_of_ble_eq_true rfl⟩
theorem zd_244 : z_okd za_P za_M 244 0 := ⟨⟨by decide +kernel, by decide +kernel, by decide +kernel⟩, zw_1620, zw_128, Nat.le_of_ble_eq_true rfl⟩
theorem zd_245 : z_okd za_P za_M 245 0 := ⟨⟨by decide +kernel, by decide +kernel, by decide +kernel⟩, zw_1624, zw_128, Nat.le_of_ble_eq_true rfl⟩
theorem zd_246 : z_okd za_P za_M 246 0 := ⟨⟨by decide +kernel, by decide +kernel, by decide +kernel⟩, zw_1628, zw_128, Nat.le_of_ble_eq_true rfl⟩
theorem zd_247 : z_okd za_P za_M 247 0 := ⟨⟨by decide +kernel, by decide +kernel, by decide +kernel⟩, zw_1632, zw_128, Nat.le_of_ble_eq_true rfl⟩
theorem zd_248 : z_okd za_P za_M 248 1 := ⟨⟨by decide +kernel, by decide +kernel, by decide +kernel⟩, zw_1640, zw_128, Nat.le_of_ble_eq_true rfl⟩
theorem zd_249 : z_okd za_P za_M 249 0 := ⟨⟨by decide +kernel, by decide +kernel, by decide +kernel⟩, zw_1636, zw_128, Nat.le_of_ble_eq_true rfl⟩
theorem zd_250 : z_okd za_P za_M 250 0 := ⟨⟨by decide +kernel, by decide +kernel, by decide +kernel⟩, zw_1644, zw_128, Nat.le_of_ble_eq_true rfl⟩
theorem zd_251 : z_okd za_P za_M 251 1 := ⟨⟨by decide +kernel, by decide +kernel, by decide +kernel⟩, zw_1648, zw_128, Nat.le_of_ble_eq_true rfl⟩
theorem zd_252 : z_okd za_P za_M 252 2 := ⟨⟨by decide +kernel, by decide +kernel, by decide +kernel⟩, zw_1656, zw_128, Nat.le_of_ble_eq_true rfl⟩
theorem zd_253 : z_okd za_P za_M 253 4 := ⟨⟨by decide +kernel, by decide +kernel, by decide +kernel⟩, zw_1652, zw_128, Nat.le_of_ble_eq_true rfl⟩
theorem zd_254 : z_okd za_P za_M 254 0 := ⟨⟨by decide +kernel, by decide +kernel, by decide +kernel⟩, zw_1660, zw_128, Nat.le_of_ble_eq_true rfl⟩
theorem zd_255 : z_okd za_P za_M 255 1 := ⟨⟨by decide +kernel, by decide +kernel, by decide +kernel⟩, zw_1668, zw_128, Nat.le_of_ble_eq_true rfl⟩
theorem zd_256 : z_okd za_P za_M 256 1 := ⟨⟨by decide +kernel, by decide +kernel, by decide +kernel⟩, zw_1664, zw_128, Nat.le_of_ble_eq_true rfl⟩
theorem zd_257 : z_okd za_P za_M 257 1 := ⟨⟨by decide +kernel, by decide +kernel, by decide +kernel⟩, zw_1672, zw_128, Nat.le_of_ble_eq_true rfl⟩
theorem zd_258 : z_okd za_P za_M 258 2 := ⟨⟨by decide +kernel, by decide +kernel, by decide +kernel⟩, zw_1684, zw_128, Nat.le_of_ble_eq_true rfl⟩
theorem zd_259 : z_okd za_P za_M 259 2 := ⟨⟨by decide +kernel, by decide +kernel, by decide +kernel⟩, zw_1680, zw_128, Nat.le_of_ble_eq_true rfl⟩
theorem zd_260 : z_okd za_P za_M 260 1 := ⟨⟨by decide +kernel, by decide +kernel, by decide +kernel⟩, zw_1676, zw_128, Nat.le_of_ble_eq_true rfl⟩
theorem zd_261 : z_okd za_P za_M 261 1 := ⟨⟨by decide +kernel, by decide +kernel, by decide +kernel⟩, zw_1688, zw_128, Nat.le_of_ble_eq_true rfl⟩
theorem zd_262 : z_okd za_P za_M 262 0 := ⟨⟨by decide +kernel, by decide +kernel, by decide +kernel⟩, zw_1692, zw_128, Nat.le_of_ble_eq_true rfl⟩
theorem zd_263 : z_okd za_P za_M 263 1 := ⟨⟨by decide +kernel, by decide +kernel, by decide +kernel⟩, zw_1696, zw_128, Nat.le_of_ble_eq_true rfl⟩
theorem zd_264 : z_okd za_P za_M 264 1 := ⟨⟨by decide +kernel, by decide +kernel, by decide +kernel⟩, zw_1700, zw_128, Nat.le_of_ble_eq_true rfl⟩
theorem zd_265 : z_okd za_P za_M 265 2 := ⟨⟨by decide +kernel, by decide +kernel, by decide +kernel⟩, zw_1712, zw_128, Nat.le_of_ble_eq_true rfl⟩
theorem zd_266 : z_okd za_P za_M 266 1 := ⟨⟨by decide +kernel, by decide +kernel, by decide +kernel⟩, zw_1704, zw_128, Nat.le_of_ble_eq_true rfl⟩
theorem zd_267 : z_okd za_P za_M 267 0 := ⟨⟨by decide +kernel, by decide +kernel, by decide +kernel⟩, zw_1720, zw_128, Nat.le_of_ble_eq_true rfl⟩
theorem zd_268 : z_okd za_P za_M 268 0 := ⟨⟨by decide +kernel, by decide +kernel, by decide +kernel⟩, zw_1724, zw_128, Nat.le_of_ble_eq_true rfl⟩
theorem zd_269 : z_okd za_P za_M 269 0 := ⟨⟨by decide +kernel, by decide +kernel, by decide +kernel⟩, zw_1728, zw_128, Nat.le_of_ble_eq_true rfl⟩
theorem zd_270 : z_okd za_P za_M 270 0 := ⟨⟨by decide +kernel, by decide +kernel, by decide +kernel⟩, zw_1732, zw_128, Nat.le_of_ble_eq_true rfl⟩
theorem zd_271 : z_okd za_P za_M 271 0 := ⟨⟨by decide +kernel, by decide +kernel, by decide +kernel⟩, zw_1740, zw_128, Nat.le_of_ble_eq_true rfl⟩
theorem zd_272 : z_okd za_P za_M 272 0 := ⟨⟨by decide +kernel, by decide +kernel, by decide +kernel⟩, zw_1744, zw_128, Nat.le_of_ble_eq_true rfl⟩
theorem zd_273 : z_okd za_P za_M 273 0 := ⟨⟨by decide +kernel, by decide +kernel, by decide +kernel⟩, zw_1748, zw_128, Nat.le_of_ble_eq_true rfl⟩
theorem zd_274 : z_okd za_P za_M 274 0 := ⟨⟨by decide +kernel, by decide +kernel, by decide +kernel⟩, zw_1756, zw_128, Nat.le_of_ble_eq_true rfl⟩
theorem zd_275 : z_okd za_P za_M 275 0 := ⟨⟨by decide +kernel, by decide +kernel, by decide +kernel⟩, zw_1764, zw_128, Nat.le_of_ble_eq_true rfl⟩
theorem zd_276 : z_okd za_P za_M 276 0 := ⟨⟨by decide +kernel, by decide +kernel, by decide +kernel⟩, zw_1768, zw_128, Nat.le_of_ble_eq_true rfl⟩
theorem zd_277 : z_okd za_P za_M 277 0 := ⟨⟨by decide +kernel, by decide +kernel, by decide +kernel⟩, zw_1776, zw_128, Nat.le_of_ble_eq_true rfl⟩
theorem zd_278 : z_okd za_P za_M 278 1 := ⟨⟨by decide +kernel, by decide +kernel, by decide +kernel⟩, zw_1780, zw_128, Nat.le_of_ble_eq_true rfl⟩
theorem zd_279 : z_okd za_P za_M 279 1 := ⟨⟨by decide +kernel, by decide +kernel, by decide +kernel⟩, zw_1788, zw_128, Nat.le_of_ble_eq_true rfl⟩
theorem zd_280 : z_okd za_P za_M 280 2 := ⟨⟨by decide +kernel, by decide +kernel, by decide +kernel⟩, zw_1796, zw_128, Nat.le_of_ble_eq_true rfl⟩
theorem zd_281 : z_okd za_P za_M 281 0 := ⟨⟨by decide +kernel, by decide +kernel, by decide +kernel⟩, zw_1800, zw_128, Nat.le_of_ble_eq_true rfl⟩
theorem zd_282 : z_okd za_P za_M 282 1 := ⟨⟨by decide +kernel, by decide +kernel, by decide +kernel⟩, zw_1804, zw_128, Nat.le_of_ble_eq_true rfl⟩
theorem zd_283 : z_okd za_P za_M 283 2 := ⟨⟨by decide +kernel, by decide +kernel, by decide +kernel⟩, zw_1808, zw_128, Nat.le_of_ble_eq_true rfl⟩
theorem zd_284 : z_okd za_P za_M 284 0 := ⟨⟨by decide +kernel, by decide +kernel, by decide +kernel⟩, zw_1812, zw_128, Nat.le_of_ble_eq_true rfl⟩
theorem zd_285 : z_okd za_P za_M 285 0 := ⟨⟨by decide +kernel, by decide +kernel, by decide +kernel⟩, zw_1816, zw_128, Nat.le_of_ble_eq_true rfl⟩
theorem zd_286 : z_okd za_P za_M 286 0 := ⟨⟨by decide +kernel, by decide +kernel, by decide +kernel⟩, zw_1820, zw_128, Nat.le_of_ble_eq_true rfl⟩
theorem zd_287 : z_okd za_P za_M 287 0 := ⟨⟨by decide +kernel, by decide +kernel, by decide +kernel⟩, zw_1824, zw_128, Nat.le_of_ble_eq_true rfl⟩
theorem zd_288 : z_okd za_P za_M 288 0 := ⟨⟨by decide +kernel, by decide +kernel, by decide +kernel⟩, zw_1829, zw_128, Nat.le_of_ble_eq_true rfl⟩
theorem zd_289 : z_okd za_P za_M 289 1 := ⟨⟨by decide +kernel, by decide +kernel, by decide +kernel⟩, zw_1841, zw_128, Nat.le_of_ble_eq_true rfl⟩
theorem zd_290 : z_okd za_P za_M 290 1 := ⟨⟨by decide +kernel, by decide +kernel, by decide +kernel⟩, zw_1845, zw_128, Nat.le_of_ble_eq_true rfl⟩
theorem zd_291 : z_okd za_P za_M 291 2 := ⟨⟨by decide +kernel, by decide +kernel, by decide +kernel⟩, zw_1837, zw_128, Nat.le_of_ble_eq_true rfl⟩
theorem zd_292 : z_okd za_P za_M 292 0 := ⟨⟨by decide +kernel, by decide +kernel, by decide +kernel⟩, zw_1833, zw_128, Nat.le_of_ble_eq_true rfl⟩
theorem zd_293 : z_okd za_P za_M 293 1 := ⟨⟨by decide +kernel, by decide +kernel, by decide +kernel⟩, zw_1849, zw_128, Nat.le_of_ble_eq_true rfl⟩
theorem zd_294 : z_okd za_P za_M 294 0 := ⟨⟨by decide +kernel, by decide +kernel, by decide +kernel⟩, zw_441, zw_133, Nat.le_of_ble_eq_true rfl⟩
theorem zd_295 : z_okd za_P za_M 295 0 := ⟨⟨by decide +kernel, by decide +kernel, by decide +kernel⟩, zw_279, zw_124, Nat.le_of_ble_eq_true rfl⟩
theorem zd_296 : z_okd za_P za_M 296 1 := ⟨⟨by decide +kernel, by decide +kernel, by decide +kernel⟩, zw_289, zw_124, Nat.le_of_ble_eq_true rfl⟩
theorem zd_297 : z_okd za_P za_M 297 0 := ⟨⟨by decide +kernel, by decide +kernel, by decide +kernel⟩, zw_283, zw_124, Nat.le_of_ble_eq_true rfl⟩
theorem zd_298 : z_okd za_P za_M 298 0 := ⟨⟨by decide +kernel, by decide +kernel, by decide +kernel⟩, zw_293, zw_124, Nat.le_of_ble_eq_true rfl⟩
theorem zd_299 : z_okd za_P za_M 299 2 := ⟨⟨by decide +kernel, by decide +kernel, by decide +kernel⟩, zw_299, zw_124, Nat.le_of_ble_eq_true rfl⟩
theorem zd_300 : z_okd za_P za_M 300 2 := ⟨⟨by decide +kernel, by decide +kernel, by decide +kernel⟩, zw_296, zw_125, Nat.le_of_ble_eq_true rfl⟩
theorem zd_301 : z_okd za_P za_M 301 3 := ⟨⟨by decide +kernel, by decide +kernel, by decide +kernel⟩, zw_304, zw_126, Nat.le_of_ble_eq_true rfl⟩
theorem zd_302 : z_okd za_P za_M 302 3 := ⟨⟨by decide +kernel, by decide +kernel, by decide +kernel⟩, zw_798, zw_117, Nat.le_of_ble_eq_true rfl⟩
theorem zd_303 : z_okd za_P za_M 303 3 := ⟨⟨by decide +kernel, by decide +kernel, by decide +kernel⟩, zw_875, zw_117, Nat.le_of_ble_eq_true rfl⟩
theorem zd_304 : z_okd za_P za_M 304 2 := ⟨⟨by decide +kernel, by decide +kernel, by decide +kernel⟩, zw_908, zw_117, Nat.le_of_ble_eq_true rfl⟩
theorem zd_305 : z_okd za_P za_M 305 3 := ⟨⟨by decide +kernel, by decide +kernel, by decide +kernel⟩, zw_917, zw_117, Nat.le_of_ble_eq_true rfl⟩
theorem zd_306 : z_okd za_P za_M 306 3 := ⟨⟨by decide +kernel, by decide +kernel, by decide +kernel⟩, zw_929, zw_117, Nat.le_of_ble_eq_true rfl⟩
theorem zd_307 : z_okd za_P za_M 307 4 := ⟨⟨by decide +kernel, by decide +kernel, by decide +kernel⟩, zw_941, zw_117, Nat.le_of_ble_eq_true rfl⟩
theorem zd_308 : z_okd za_P za_M 308 3 := ⟨⟨by decide +kernel, by decide +kernel, by decide +kernel⟩, zw_954, zw_117, Nat.le_of_ble_eq_true rfl⟩
theorem zd_309 : z_okd za_P za_M 309 2 := ⟨⟨by decide +kernel, by decide +kernel, by decide +kernel⟩, zw_962, zw_117, Nat.le_of_ble_eq_true rfl⟩
theorem zd_310 : z_okd za_P za_M 310 3 := ⟨⟨by decide +kernel, by decide +kernel, by decide +kernel⟩, zw_970, zw_117, Nat.le_of_ble_eq_true rfl⟩
theorem zd_311 : z_okd za_P za_M 311 3 := ⟨⟨by decide +kernel, by decide +kernel, by decide +kernel⟩, zw_982, zw_117, Nat.le_of_ble_eq_true rfl⟩
theorem zd_312 : z_okd za_P za_M 312 2 := ⟨⟨by decide +kernel, by decide +kernel, by decide +kernel⟩, zw_1013, zw_117, Nat.le_of_ble_eq_true rfl⟩
theorem zd_313 : z_okd za_P za_M 313 3 := ⟨⟨by decide +kernel, by decide +kernel, by decide +kernel⟩, zw_1021, zw_117, Nat.le_of_ble_eq_true rfl⟩
theorem zd_314 : z_okd za_P za_M 314 2 := ⟨⟨by decide +kernel, by decide +kernel, by decide +kernel⟩, zw_1030, zw_117, Nat.le_of_ble_eq_true rfl⟩
theorem zd_315 : z_okd za_P za_M 315 2 := ⟨⟨by decide +kernel, by decide +kernel, by decide +kernel⟩, zw_1040, zw_117, Nat.le_of_ble_eq_true rfl⟩
theorem zd_316 : z_okd za_P za_M 316 6 := ⟨⟨by decide +kernel, by decide +kernel, by decide +kernel⟩, zw_1064, zw_117, Nat.le_of_ble_eq_true rfl⟩
theorem zd_317 : z_okd za_P za_M 317 3 := ⟨⟨by decide +kernel, by decide +kernel, by decide +kernel⟩, zw_1071, zw_117, Nat.le_of_ble_eq_true rfl⟩
theorem zd_318 : z_okd za_P za_M 318 3 := ⟨⟨by decide +kernel, by decide +kernel, by decide +kernel⟩, zw_1078, zw_117, Nat.le_of_ble_eq_true rfl⟩
theorem zd_319 : z_okd za_P za_M 319 3 := ⟨⟨by decide +kernel, by decide +kernel, by decide +kernel⟩, zw_1085, zw_117, Nat.le_of_ble_eq_true rfl⟩
theorem zd_320 : z_okd za_P za_M 320 3 := ⟨⟨by decide +kernel, by decide +kernel, by decide +kernel⟩, zw_1092, zw_117, Nat.le_of_ble_eq_true rfl⟩
theorem zd_321 : z_okd za_P za_M 321 3 := ⟨⟨by decide +kernel, by decide +kernel, by decide +kernel⟩, zw_1100, zw_117, Nat.le_of_ble_eq_true rfl⟩
theorem zd_322 : z_okd za_P za_M 322 3 := ⟨⟨by decide +kernel, by decide +kernel, by decide +kernel⟩, zw_1107, zw_117, Nat.le_of_ble_eq_true rfl⟩
theorem zd_323 : z_okd za_P za_M 323 3 := ⟨⟨by decide +kernel, by decide +kernel, by decide +kernel⟩, zw_1126, zw_117, Nat.le_of_ble_eq_true rfl⟩
theorem zd_324 : z_okd za_P za_M 324 3 := ⟨⟨by decide +kernel, by decide +kernel, by decide +kernel⟩, zw_1138, zw_117, Nat.le_of_ble_eq_true rfl⟩
theorem zd_325 : z_okd za_P za_M 325 4 := ⟨⟨by decide +kernel, by decide +kernel, by decide +kernel⟩, zw_1145, zw_117, Nat.le_of_ble_eq_true rfl⟩
theorem zd_326 : z_okd za_P za_M 326 3 := ⟨⟨by decide +kernel, by decide +kernel, by decide +kernel⟩, zw_1158, zw_117, Nat.le_of_ble_eq_true rfl⟩
theorem zd_327 : z_okd za_P za_M 327 4 := ⟨⟨by decide +kernel, by decide +kernel, by decide +kernel⟩, zw_1165, zw_117, Nat.le_of_ble_eq_true rfl⟩
theorem zt_0a : ∀ w ∈ (zq_sel none "LyndonBench" 81 "java/lang/IllegalArgumentException" ["java/lang/RuntimeException", "java/lang/Exception"]).filter goodWord, w ∈ za_Ts := z_atg (by decide +kernel)
theorem zt_0b : ∀ w ∈ (zq_sel none "LyndonBench" 81 "java/lang/IllegalArgumentException" ["java/lang/RuntimeException", "java/lang/Exception"]).filter (fun w => !goodWord w), w ∈ za_nw ∧ w.onTables = true := by decide +kernel
theorem zt_2a : ∀ w ∈ (zq_sel none "LyndonBench" 112 "java/lang/IllegalStateException" ["java/lang/RuntimeException", "java/lang/Exception"]).filter goodWord, w ∈ za_Ts := z_atg (by decide +kernel)
theorem zt_2b : ∀ w ∈ (zq_sel none "LyndonBench" 112 "java/lang/IllegalStateException" ["java/lang/RuntimeException", "java/lang/Exception"]).filter (fun w => !goodWord w), w ∈ za_nw ∧ w.onTables = true := by decide +kernel
theorem zt_4a : ∀ w ∈ (zq_sel none "LyndonBench" 196 "java/lang/IndexOutOfBoundsException" ["java/lang/RuntimeException", "java/lang/Exception"]).filter goodWord, w ∈ za_Ts := z_atg (by decide +kernel)
theorem zt_4b : ∀ w ∈ (zq_sel none "LyndonBench" 196 "java/lang/IndexOutOfBoundsException" ["java/lang/RuntimeException", "java/lang/Exception"]).filter (fun w => !goodWord w), w ∈ za_nw ∧ w.onTables = true := by decide +kernel
theorem zt_6a : ∀ w ∈ (zq_sel (some ("java/lang/RuntimeException", 13, prog_26_method_4_code)) "LyndonBench" 219 "java/util/NoSuchElementException" ["java/lang/Exception"]).filter goodWord, w ∈ za_Ts := z_atg (by decide +kernel)
theorem zt_6b : ∀ w ∈ (zq_sel (some ("java/lang/RuntimeException", 13, prog_26_method_4_code)) "LyndonBench" 219 "java/util/NoSuchElementException" ["java/lang/Exception"]).filter (fun w => !goodWord w), w ∈ za_nw ∧ w.onTables = true := by decide +kernel
theorem zt_0c_77 : ∀ w ∈ Cond.classLink "LyndonBench" 77 "java/lang/IllegalArgumentException" :: Cond.initialized "java/lang/IllegalArgumentException" :: zq_sel none "LyndonBench" 81 "java/lang/IllegalArgumentException" ["java/lang/RuntimeException", "java/lang/Exception"], vx_ot w = true := by decide +kernel
theorem zt_2c_108 : ∀ w ∈ Cond.classLink "LyndonBench" 108 "java/lang/IllegalStateException" :: Cond.initialized "java/lang/IllegalStateException" :: zq_sel none "LyndonBench" 112 "java/lang/IllegalStateException" ["java/lang/RuntimeException", "java/lang/Exception"], vx_ot w = true := by decide +kernel
theorem zt_4c_192 : ∀ w ∈ Cond.classLink "LyndonBench" 192 "java/lang/IndexOutOfBoundsException" :: Cond.initialized "java/lang/IndexOutOfBoundsException" :: zq_sel none "LyndonBench" 196 "java/lang/IndexOutOfBoundsException" ["java/lang/RuntimeException", "java/lang/Exception"], vx_ot w = true := by decide +kernel
theorem zt_6c_215 : ∀ w ∈ Cond.classLink "LyndonBench" 215 "java/util/NoSuchElementException" :: Cond.initialized "java/util/NoSuchElementException" :: zq_sel (some ("java/lang/RuntimeException", 13, prog_26_method_4_code)) "LyndonBench" 219 "java/util/NoSuchElementException" ["java/lang/Exception"], vx_ot w = true := by decide +kernel
