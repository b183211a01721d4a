/-! F functions, by program. -/
/-- java/lang/String.coder()B -/
theorem mfJ_coder : z_me 297 zc_297 1 [] (some .byte) := ⟨z_me0 rfl, rfl, rfl, rfl⟩
def fJ_coder_14 (N : Nat)  (s0 : Int32) (h : zH) : Option (Int32 × zH) := cond (z_rok .ireturn (some .byte) (.int s0)) (some (s0, h)) none
theorem sfJ_coder_14 {xs : List Int32} (N : Nat)   (s0 : Int32) (h : zH) (r : Int32 × zH) (e : fJ_coder_14 N  s0 h = some r) : zt xs (1) 297 14 [] [.int s0] h 0 0 (zQ cI r) := by
  have hy := mfJ_coder
  unfold fJ_coder_14 at e
  exact zx_ret hy rfl rfl (cond_some e).1 rfl (cond_some e).2
def fJ_coder (N : Nat) (l0 : Nat) (h : zH) : Option (Int32 × zH) := cond (fT h l0 50) (cond (z_cmp .eq (Int32.ofInt 1) (Int32.ofInt 0)) (fJ_coder_14 N  (Int32.ofInt 1) h) (b1 (fI h l0 50 1) fun x1 => fJ_coder_14 N  x1 h)) none
theorem sfJ_coder {xs : List Int32} (N : Nat) (l0 : Nat) (h : zH) (r : Int32 × zH) (e : fJ_coder N l0 h = some r) : zt xs (1) 297 0 [(0, .ref l0)] [] h 0 0 (zQ cI r) := by
  have hy := mfJ_coder
  unfold fJ_coder at e
  replace e := (cond_some e).2
  exact zx_gs hy (v := .int (Int32.ofInt 1)) rfl rfl rfl <| zx_c0 hy rfl e (fun _ e => zl hy 1 (pc2 := 14) (lv2 := [(0, .ref l0)]) (st2 := [.int (Int32.ofInt 1)]) rfl <| zt_sub (z_fn) <| sfJ_coder_14 N   (Int32.ofInt 1) h _ e) (fun _ e => zl hy 1 (pc2 := 7) (lv2 := [(0, .ref l0)]) (st2 := [.ref l0]) rfl <| zx_gI hy rfl e fun x1 _ e => zl hy 1 (pc2 := 14) (lv2 := [(0, .ref l0)]) (st2 := [.int x1]) rfl <| zt_sub (z_fn) <| sfJ_coder_14 N   x1 h _ e)
theorem rfJ_coder (N : Nat) (l0 : Nat) (h : zH) (r : Int32 × zH) (e : fJ_coder N l0 h = some r) : fT h l0 50 = true := by
  unfold fJ_coder at e
  exact (cond_some e).1
/-- java/lang/String.length()I -/
theorem mfJ_length : z_me 295 zc_295 1 [] (some .int) := ⟨z_me0 rfl, rfl, rfl, rfl⟩
def fJ_length (N : Nat) (l0 : Nat) (h : zH) : Option (Int32 × zH) := cond (fT h l0 50) (b1 (fR h l0 50 0) fun x1 => b1 (fN h x1 101) fun x2 => b2 (fJ_coder N l0 h) fun x3 h4 => some ((x2 >>> (x3 &&& 31)), h4)) none
theorem sfJ_length {xs : List Int32} (N : Nat) (l0 : Nat) (h : zH) (r : Int32 × zH) (e : fJ_length N l0 h = some r) : zt xs (2) 295 0 [(0, .ref l0)] [] h 0 0 (zQ cI r) := by
  have hy := mfJ_length
  unfold fJ_length at e
  replace e := (cond_some e).2
  exact zl hy 1 (pc2 := 1) (lv2 := [(0, .ref l0)]) (st2 := [.ref l0]) rfl <| zx_gR hy rfl e fun x1 _ e => zx_len hy (Nat.le_of_ble_eq_true rfl) rfl e fun x2 _ e => zl hy 1 (pc2 := 6) (lv2 := [(0, .ref l0)]) (st2 := [.ref l0, .int x2]) rfl <| zx_call hy (as := [.ref l0]) (rest := [.int x2]) (ov := (fun v => some (.int v))) (fun _ => rfl) rfl rfl (Or.inl rfl) rfl rfl (Nat.le_of_ble_eq_true rfl) (Nat.le_of_ble_eq_true rfl) (fun _ e _ => z_rcvT (rfJ_coder N l0 h _ e)) (fun _ e => zt_deep (Nat.le_of_ble_eq_true rfl) (sfJ_coder N l0 h _ e)) e fun x3 h4 _ e => zl hy 1 (pc2 := 10) (lv2 := [(0, .ref l0)]) (st2 := [.int (x2 >>> (x3 &&& 31))]) rfl <| zx_ret hy rfl rfl rfl rfl e
theorem rfJ_length (N : Nat) (l0 : Nat) (h : zH) (r : Int32 × zH) (e : fJ_length N l0 h = some r) : fT h l0 50 = true := by
  unfold fJ_length at e
  exact (cond_some e).1
/-- LyndonBench$Word.at(I)I -/
theorem mfW_at : z_me 43 zc_43 2 [] (some .int) := ⟨z_me0 rfl, rfl, rfl, rfl⟩
def fW_at_35 (N : Nat)  (s0 : Int32) (h : zH) : Option (Int32 × zH) := some (s0, h)
theorem sfW_at_35 {xs : List Int32} (N : Nat)   (s0 : Int32) (h : zH) (r : Int32 × zH) (e : fW_at_35 N  s0 h = some r) : zt xs (1) 43 35 [] [.int s0] h 0 0 (zQ cI r) := by
  have hy := mfW_at
  unfold fW_at_35 at e
  exact zx_ret hy rfl rfl rfl rfl e
def fW_at_34 (N : Nat)   (h : zH) : Option (Int32 × zH) := fW_at_35 N  (Int32.ofInt (-1)) h
theorem sfW_at_34 {xs : List Int32} (N : Nat)    (h : zH) (r : Int32 × zH) (e : fW_at_34 N   h = some r) : zt xs (1) 43 34 [] [] h 0 0 (zQ cI r) := by
  have hy := mfW_at
  unfold fW_at_34 at e
  exact zl hy 1 (pc2 := 35) (lv2 := []) (st2 := [.int (Int32.ofInt (-1))]) rfl <| zt_sub (z_fn) <| sfW_at_35 N   (Int32.ofInt (-1)) h _ e
def fW_at (N : Nat) (l0 : Nat) (l1 : Int32) (h : zH) : Option (Int32 × zH) := cond (fT h l0 4) (cond (z_cmp .lt l1 (Int32.ofInt 0)) (fW_at_34 N   h) (b1 (fI h l0 4 1) fun x1 => cond (z_cmp .ge l1 x1) (fW_at_34 N   h) (b1 (fR h l0 4 0) fun x2 => b1 (fN h x2 101) fun x3 => cond (z_cmp .ge l1 x3) (fW_at_34 N   h) (b1 (fR h l0 4 0) fun x4 => b1 (fAI h x4 101 l1) fun x5 => fW_at_35 N  (x5 &&& (Int32.ofInt 255)) h)))) none
theorem sfW_at {xs : List Int32} (N : Nat) (l0 : Nat) (l1 : Int32) (h : zH) (r : Int32 × zH) (e : fW_at N l0 l1 h = some r) : zt xs (1) 43 0 [(0, .ref l0), (1, .int l1)] [] h 0 0 (zQ cI r) := by
  have hy := mfW_at
  unfold fW_at at e
  replace e := (cond_some e).2
  exact zl hy 1 (pc2 := 1) (lv2 := [(0, .ref l0), (1, .int l1)]) (st2 := [.int l1]) rfl <| zx_c0 hy rfl e (fun _ e => zt_sub (z_fn) <| sfW_at_34 N    h _ e) (fun _ e => zl hy 2 (pc2 := 6) (lv2 := [(0, .ref l0), (1, .int l1)]) (st2 := [.ref l0, .int l1]) rfl <| zx_gI hy rfl e fun x1 _ e => zx_c hy rfl e (fun _ e => zt_sub (z_fn) <| sfW_at_34 N    h _ e) (fun _ e => zl hy 2 (pc2 := 14) (lv2 := [(0, .ref l0), (1, .int l1)]) (st2 := [.ref l0, .int l1]) rfl <| zx_gR hy rfl e fun x2 _ e => zx_len hy (Nat.le_of_ble_eq_true rfl) rfl e fun x3 _ e => zx_c hy rfl e (fun _ e => zt_sub (z_fn) <| sfW_at_34 N    h _ e) (fun _ e => zl hy 1 (pc2 := 22) (lv2 := [(0, .ref l0), (1, .int l1)]) (st2 := [.ref l0]) rfl <| zx_gR hy rfl e fun x4 _ e => zl hy 1 (pc2 := 26) (lv2 := [(0, .ref l0), (1, .int l1)]) (st2 := [.int l1, .ref x4]) rfl <| zx_aI hy (j := .baload) (Or.inr (Or.inl ⟨rfl, rfl⟩)) rfl e fun x5 _ e => zx_sip hy (c := 255) rfl (by decide) <| zl hy 2 (pc2 := 35) (lv2 := [(0, .ref l0), (1, .int l1)]) (st2 := [.int (x5 &&& (Int32.ofInt 255))]) rfl <| zt_sub (z_fn) <| sfW_at_35 N   (x5 &&& (Int32.ofInt 255)) h _ e)))
theorem rfW_at (N : Nat) (l0 : Nat) (l1 : Int32) (h : zH) (r : Int32 × zH) (e : fW_at N l0 l1 h = some r) : fT h l0 4 = true := by
  unfold fW_at at e
  exact (cond_some e).1
/-- java/lang/String.isLatin1()Z -/
theorem mfJ_isLatin1 : z_me 298 zc_298 1 [] (some .boolean) := ⟨z_me0 rfl, rfl, rfl, rfl⟩
def fJ_isLatin1_18 (N : Nat)  (s0 : Int32) (h : zH) : Option (Int32 × zH) := cond (decide (s0 = Int32.ofInt 0) || decide (s0 = Int32.ofInt 1)) (some (s0, h)) none
theorem sfJ_isLatin1_18 {xs : List Int32} (N : Nat)   (s0 : Int32) (h : zH) (r : Int32 × zH) (e : fJ_isLatin1_18 N  s0 h = some r) : zt xs (1) 298 18 [] [.int s0] h 0 0 (zQ cI r) := by
  have hy := mfJ_isLatin1
  unfold fJ_isLatin1_18 at e
  exact zx_retB hy rfl rfl e
def fJ_isLatin1_17 (N : Nat)   (h : zH) : Option (Int32 × zH) := fJ_isLatin1_18 N  (Int32.ofInt 0) h
theorem sfJ_isLatin1_17 {xs : List Int32} (N : Nat)    (h : zH) (r : Int32 × zH) (e : fJ_isLatin1_17 N   h = some r) : zt xs (1) 298 17 [] [] h 0 0 (zQ cI r) := by
  have hy := mfJ_isLatin1
  unfold fJ_isLatin1_17 at e
  exact zl hy 1 (pc2 := 18) (lv2 := []) (st2 := [.int (Int32.ofInt 0)]) rfl <| zt_sub (z_fn) <| sfJ_isLatin1_18 N   (Int32.ofInt 0) h _ e
def fJ_isLatin1 (N : Nat) (l0 : Nat) (h : zH) : Option (Int32 × zH) := cond (fT h l0 50) (cond (z_cmp .eq (Int32.ofInt 1) (Int32.ofInt 0)) (fJ_isLatin1_17 N   h) (b1 (fI h l0 50 1) fun x1 => cond (z_cmp .ne x1 (Int32.ofInt 0)) (fJ_isLatin1_17 N   h) (fJ_isLatin1_18 N  (Int32.ofInt 1) h))) none
theorem sfJ_isLatin1 {xs : List Int32} (N : Nat) (l0 : Nat) (h : zH) (r : Int32 × zH) (e : fJ_isLatin1 N l0 h = some r) : zt xs (1) 298 0 [(0, .ref l0)] [] h 0 0 (zQ cI r) := by
  have hy := mfJ_isLatin1
  unfold fJ_isLatin1 at e
  replace e := (cond_some e).2
  exact zx_gs hy (v := .int (Int32.ofInt 1)) rfl rfl rfl <| zx_c0 hy rfl e (fun _ e => zt_sub (z_fn) <| sfJ_isLatin1_17 N    h _ e) (fun _ e => zl hy 1 (pc2 := 7) (lv2 := [(0, .ref l0)]) (st2 := [.ref l0]) rfl <| zx_gI hy rfl e fun x1 _ e => zx_c0 hy rfl e (fun _ e => zt_sub (z_fn) <| sfJ_isLatin1_17 N    h _ e) (fun _ e => zl hy 2 (pc2 := 18) (lv2 := [(0, .ref l0)]) (st2 := [.int (Int32.ofInt 1)]) rfl <| zt_sub (z_fn) <| sfJ_isLatin1_18 N   (Int32.ofInt 1) h _ e))
theorem rfJ_isLatin1 (N : Nat) (l0 : Nat) (h : zH) (r : Int32 × zH) (e : fJ_isLatin1 N l0 h = some r) : fT h l0 50 = true := by
  unfold fJ_isLatin1 at e
  exact (cond_some e).1
/-- jdk/internal/util/Preconditions.checkIndex(IILjava/util/function/BiFunction;)I -/
theorem mfJP_checkIndex : z_me 301 zc_301 3 [] (some .int) := ⟨z_me0 rfl, rfl, rfl, rfl⟩
def fJP_checkIndex_9 (N : Nat)  (l0 : Int32) (l1 : Int32) (l2 : Nat) (h : zH) : Option (Int32 × zH) := none
theorem sfJP_checkIndex_9 {xs : List Int32} (N : Nat)   (l0 : Int32) (l1 : Int32) (l2 : Nat) (h : zH) (r : Int32 × zH) (e : fJP_checkIndex_9 N  l0 l1 l2 h = some r) : zt xs (1) 301 9 [(0, .int l0), (1, .int l1), (2, .ref l2)] [] h 0 0 (zQ cI r) := by
  have hy := mfJP_checkIndex
  unfold fJP_checkIndex_9 at e
  exact (by cases e)
def fJP_checkIndex (N : Nat) (l0 : Int32) (l1 : Int32) (l2 : Nat) (h : zH) : Option (Int32 × zH) := cond (z_cmp .lt l0 (Int32.ofInt 0)) (fJP_checkIndex_9 N  l0 l1 l2 h) (cond (z_cmp .lt l0 l1) (some (l0, h)) (fJP_checkIndex_9 N  l0 l1 l2 h))
theorem sfJP_checkIndex {xs : List Int32} (N : Nat) (l0 : Int32) (l1 : Int32) (l2 : Nat) (h : zH) (r : Int32 × zH) (e : fJP_checkIndex N l0 l1 l2 h = some r) : zt xs (1) 301 0 [(0, .int l0), (1, .int l1), (2, .ref l2)] [] h 0 0 (zQ cI r) := by
  have hy := mfJP_checkIndex
  unfold fJP_checkIndex at e
  exact zl hy 1 (pc2 := 1) (lv2 := [(0, .int l0), (1, .int l1), (2, .ref l2)]) (st2 := [.int l0]) rfl <| zx_c0 hy rfl e (fun _ e => zt_sub (z_fc rfl (z_fc rfl (z_fc rfl (z_fn)))) <| sfJP_checkIndex_9 N   l0 l1 l2 h _ e) (fun _ e => zl hy 2 (pc2 := 6) (lv2 := [(0, .int l0), (1, .int l1), (2, .ref l2)]) (st2 := [.int l1, .int l0]) rfl <| zx_c hy rfl e (fun _ e => zl hy 1 (pc2 := 17) (lv2 := [(0, .int l0), (1, .int l1), (2, .ref l2)]) (st2 := [.int l0]) rfl <| zx_ret hy rfl rfl rfl rfl e) (fun _ e => zt_sub (z_fc rfl (z_fc rfl (z_fc rfl (z_fn)))) <| sfJP_checkIndex_9 N   l0 l1 l2 h _ e))
/-- java/lang/String.checkIndex(II)V -/
theorem mfJ_checkIndex : z_me 299 zc_299 2 [] none := ⟨z_me0 rfl, rfl, rfl, rfl⟩
def fJ_checkIndex (N : Nat) (l0 : Int32) (l1 : Int32) (h : zH) : Option (Unit × zH) := b2 (fJP_checkIndex N l0 l1 2000000 h) fun x1 h2 => some ((), h2)
theorem sfJ_checkIndex {xs : List Int32} (N : Nat) (l0 : Int32) (l1 : Int32) (h : zH) (r : Unit × zH) (e : fJ_checkIndex N l0 l1 h = some r) : zt xs (2) 299 0 [(0, .int l0), (1, .int l1)] [] h 0 0 (zQ cV r) := by
  have hy := mfJ_checkIndex
  unfold fJ_checkIndex at e
  exact zl hy 2 (pc2 := 2) (lv2 := [(0, .int l0), (1, .int l1)]) (st2 := [.int l1, .int l0]) rfl <| zx_gs hy (v := .ref 2000000) rfl rfl rfl <| zx_call hy (as := [.int l0, .int l1, .ref 2000000]) (rest := []) (ov := (fun v => some (.int v))) (fun _ => rfl) rfl rfl (Or.inr (Or.inl rfl)) rfl rfl (Nat.le_of_ble_eq_true rfl) (Nat.le_of_ble_eq_true rfl) (fun _ _ hz => absurd rfl hz) (fun _ e => zt_deep (Nat.le_of_ble_eq_true rfl) (sfJP_checkIndex N l0 l1 2000000 h _ e)) e fun x1 h2 _ e => zl hy 1 (pc2 := 9) (lv2 := [(0, .int l0), (1, .int l1)]) (st2 := []) rfl <| zx_retV hy rfl rfl e
/-- java/lang/StringLatin1.charAt([BI)C -/
theorem mfJL_charAt : z_me 300 zc_300 2 [] (some .char) := ⟨z_me0 rfl, rfl, rfl, rfl⟩
def fJL_charAt (N : Nat) (l0 : Nat) (l1 : Int32) (h : zH) : Option (Int32 × zH) := b1 (fN h l0 101) fun x1 => b2 (fJ_checkIndex N l1 x1 h) fun _ h3 => b1 (fAI h3 l0 101 l1) fun x4 => cond (z_rok .ireturn (some .char) (.int (((x4 &&& (Int32.ofInt 255))).toUInt32 % 65536).toInt32)) (some ((((x4 &&& (Int32.ofInt 255))).toUInt32 % 65536).toInt32, h3)) none
theorem sfJL_charAt {xs : List Int32} (N : Nat) (l0 : Nat) (l1 : Int32) (h : zH) (r : Int32 × zH) (e : fJL_charAt N l0 l1 h = some r) : zt xs (3) 300 0 [(0, .ref l0), (1, .int l1)] [] h 0 0 (zQ cI r) := by
  have hy := mfJL_charAt
  unfold fJL_charAt at e
  exact zl hy 2 (pc2 := 2) (lv2 := [(0, .ref l0), (1, .int l1)]) (st2 := [.ref l0, .int l1]) rfl <| zx_len hy (Nat.le_of_ble_eq_true rfl) rfl e fun x1 _ e => zx_call hy (as := [.int l1, .int x1]) (rest := []) (ov := (fun _ => none)) (fun _ => rfl) rfl rfl (Or.inr (Or.inl rfl)) rfl rfl (Nat.le_of_ble_eq_true rfl) (Nat.le_of_ble_eq_true rfl) (fun _ _ hz => absurd rfl hz) (fun _ e => zt_deep (Nat.le_of_ble_eq_true rfl) (sfJ_checkIndex N l1 x1 h _ e)) e fun _ h3 _ e => zl hy 2 (pc2 := 8) (lv2 := [(0, .ref l0), (1, .int l1)]) (st2 := [.int l1, .ref l0]) rfl <| zx_aI hy (j := .baload) (Or.inr (Or.inl ⟨rfl, rfl⟩)) rfl e fun x4 _ e => zx_sip hy (c := 255) rfl (by decide) <| zl hy 2 (pc2 := 14) (lv2 := [(0, .ref l0), (1, .int l1)]) (st2 := [.int (((x4 &&& (Int32.ofInt 255))).toUInt32 % 65536).toInt32]) rfl <| zx_ret hy rfl rfl (cond_some e).1 rfl (cond_some e).2
/-- java/lang/String.charAt(I)C -/
theorem mfJ_charAt : z_me 296 zc_296 2 [] (some .char) := ⟨z_me0 rfl, rfl, rfl, rfl⟩
def fJ_charAt (N : Nat) (l0 : Nat) (l1 : Int32) (h : zH) : Option (Int32 × zH) := cond (fT h l0 50) (b2 (fJ_isLatin1 N l0 h) fun x1 h2 => cond (z_cmp .eq x1 (Int32.ofInt 0)) (b1 (fR h2 l0 50 0) fun x3 => none) (b1 (fR h2 l0 50 0) fun x4 => b2 (fJL_charAt N x4 l1 h2) fun x5 h6 => cond (z_rok .ireturn (some .char) (.int x5)) (some (x5, h6)) none)) none
theorem sfJ_charAt {xs : List Int32} (N : Nat) (l0 : Nat) (l1 : Int32) (h : zH) (r : Int32 × zH) (e : fJ_charAt N l0 l1 h = some r) : zt xs (4) 296 0 [(0, .ref l0), (1, .int l1)] [] h 0 0 (zQ cI r) := by
  have hy := mfJ_charAt
  unfold fJ_charAt at e
  replace e := (cond_some e).2
  exact zl hy 1 (pc2 := 1) (lv2 := [(0, .ref l0), (1, .int l1)]) (st2 := [.ref l0]) rfl <| zx_call hy (as := [.ref l0]) (rest := []) (ov := (fun v => some (.int v))) (fun _ => rfl) rfl rfl (Or.inl rfl) rfl rfl (Nat.le_of_ble_eq_true rfl) (Nat.le_of_ble_eq_true rfl) (fun _ e _ => z_rcvT (rfJ_isLatin1 N l0 h _ e)) (fun _ e => zt_deep (Nat.le_of_ble_eq_true rfl) (sfJ_isLatin1 N l0 h _ e)) e fun x1 h2 _ e => zx_c0 hy rfl e (fun _ e => zl hy 1 (pc2 := 17) (lv2 := [(0, .ref l0), (1, .int l1)]) (st2 := [.ref l0]) rfl <| zx_gR hy rfl e fun x3 _ e => (by cases e)) (fun _ e => zl hy 1 (pc2 := 8) (lv2 := [(0, .ref l0), (1, .int l1)]) (st2 := [.ref l0]) rfl <| zx_gR hy rfl e fun x4 _ e => zl hy 1 (pc2 := 12) (lv2 := [(0, .ref l0), (1, .int l1)]) (st2 := [.int l1, .ref x4]) rfl <| zx_call hy (as := [.ref x4, .int l1]) (rest := []) (ov := (fun v => some (.int v))) (fun _ => rfl) rfl rfl (Or.inr (Or.inl rfl)) rfl rfl (Nat.le_of_ble_eq_true rfl) (Nat.le_of_ble_eq_true rfl) (fun _ _ hz => absurd rfl hz) (fun _ e => zt_deep (Nat.le_of_ble_eq_true rfl) (sfJL_charAt N x4 l1 h2 _ e)) e fun x5 h6 _ e => zx_ret hy rfl rfl (cond_some e).1 rfl (cond_some e).2)
theorem rfJ_charAt (N : Nat) (l0 : Nat) (l1 : Int32) (h : zH) (r : Int32 × zH) (e : fJ_charAt N l0 l1 h = some r) : fT h l0 50 = true := by
  unfold fJ_charAt at e
  exact (cond_some e).1
/-- LyndonBench$Word.equalsString(IILjava/lang/String;)Z -/
theorem mfW_equalsString : z_me 57 zc_57 5 [] (some .boolean) := ⟨z_me0 rfl, rfl, rfl, rfl⟩
def fW_equalsString_15 (N : Nat) : Nat → Nat → Int32 → Nat → Int32 → zH → Option (Int32 × zH)
  | 0, _, _, _, _, _ => none
  | n + 1, l0, l1, l3, l4, h => b2 (fJ_length N l3 h) fun x3 h4 => cond (z_cmp .ge l4 x3) (some ((Int32.ofInt 1), h4)) (b2 (fW_at N l0 (l1 + l4) h4) fun x5 h6 => b2 (fJ_charAt N l3 l4 h6) fun x7 h8 => cond (z_cmp .eq x5 x7) (fW_equalsString_15 N n  l0 l1 l3 (l4 + Int32.ofInt 1) h8) (some ((Int32.ofInt 0), h8)))
theorem sfW_equalsString_15 {xs : List Int32} (N : Nat)   : ∀ (n : Nat) (l0 : Nat) (l1 : Int32) (l3 : Nat) (l4 : Int32) (h : zH) (r : Int32 × zH), fW_equalsString_15 N n  l0 l1 l3 l4 h = some r → zt xs (5) 57 15 [(0, .ref l0), (1, .int l1), (3, .ref l3), (4, .int l4)] [] h 0 0 (zQ cI r) := by
  have hy := mfW_equalsString
  intro n
  induction n with
  | zero =>
    intro l0 l1 l3 l4 h r e
    rw [fW_equalsString_15] at e
    cases e
  | succ n ih =>
    intro l0 l1 l3 l4 h r e
    rw [fW_equalsString_15] at e
    exact zl hy 2 (pc2 := 18) (lv2 := [(0, .ref l0), (1, .int l1), (3, .ref l3), (4, .int l4)]) (st2 := [.ref l3, .int l4]) rfl <| zx_call hy (as := [.ref l3]) (rest := [.int l4]) (ov := (fun v => some (.int v))) (fun _ => rfl) rfl rfl (Or.inl rfl) rfl rfl (Nat.le_of_ble_eq_true rfl) (Nat.le_of_ble_eq_true rfl) (fun _ e _ => z_rcvT (rfJ_length N l3 h _ e)) (fun _ e => zt_deep (Nat.le_of_ble_eq_true rfl) (sfJ_length N l3 h _ e)) e fun x3 h4 _ e => zx_c hy rfl e (fun _ e => zl hy 1 (pc2 := 50) (lv2 := [(0, .ref l0), (1, .int l1), (3, .ref l3), (4, .int l4)]) (st2 := [.int (Int32.ofInt 1)]) rfl <| zx_ret hy (v := .int (Int32.ofInt 1)) rfl rfl (by decide) rfl e) (fun _ e => zl hy 4 (pc2 := 29) (lv2 := [(0, .ref l0), (1, .int l1), (3, .ref l3), (4, .int l4)]) (st2 := [.int (l1 + l4), .ref l0]) rfl <| zx_call hy (as := [.ref l0, .int (l1 + l4)]) (rest := []) (ov := (fun v => some (.int v))) (fun _ => rfl) rfl rfl (Or.inl rfl) rfl rfl (Nat.le_of_ble_eq_true rfl) (Nat.le_of_ble_eq_true rfl) (fun _ e _ => z_rcvT (rfW_at N l0 (l1 + l4) h4 _ e)) (fun _ e => zt_deep (Nat.le_of_ble_eq_true rfl) (sfW_at N l0 (l1 + l4) h4 _ e)) e fun x5 h6 _ e => zl hy 2 (pc2 := 35) (lv2 := [(0, .ref l0), (1, .int l1), (3, .ref l3), (4, .int l4)]) (st2 := [.int l4, .ref l3, .int x5]) rfl <| zx_call hy (as := [.ref l3, .int l4]) (rest := [.int x5]) (ov := (fun v => some (.int v))) (fun _ => rfl) rfl rfl (Or.inl rfl) rfl rfl (Nat.le_of_ble_eq_true rfl) (Nat.le_of_ble_eq_true rfl) (fun _ e _ => z_rcvT (rfJ_charAt N l3 l4 h6 _ e)) (fun _ e => zt_deep (Nat.le_of_ble_eq_true rfl) (sfJ_charAt N l3 l4 h6 _ e)) e fun x7 h8 _ e => zx_c hy rfl e (fun _ e => zl hy 2 (pc2 := 15) (lv2 := [(4, .int (l4 + Int32.ofInt 1)), (0, .ref l0), (1, .int l1), (3, .ref l3)]) (st2 := []) rfl <| zt_sub (z_fc rfl (z_fc rfl (z_fc rfl (z_fc rfl (z_fn))))) <| ih l0 l1 l3 (l4 + Int32.ofInt 1) h8 _ e) (fun _ e => zl hy 1 (pc2 := 42) (lv2 := [(0, .ref l0), (1, .int l1), (3, .ref l3), (4, .int l4)]) (st2 := [.int (Int32.ofInt 0)]) rfl <| zx_ret hy (v := .int (Int32.ofInt 0)) rfl rfl (by decide) rfl e))
def fW_equalsString (N : Nat) (l0 : Nat) (l1 : Int32) (l2 : Int32) (l3 : Nat) (h : zH) : Option (Int32 × zH) := cond (fT h l0 4) (b2 (fJ_length N l3 h) fun x1 h2 => cond (z_cmp .eq (l2 - l1) x1) (fW_equalsString_15 N N  l0 l1 l3 (Int32.ofInt 0) h2) (some ((Int32.ofInt 0), h2))) none
theorem sfW_equalsString {xs : List Int32} (N : Nat) (l0 : Nat) (l1 : Int32) (l2 : Int32) (l3 : Nat) (h : zH) (r : Int32 × zH) (e : fW_equalsString N l0 l1 l2 l3 h = some r) : zt xs (5) 57 0 [(0, .ref l0), (1, .int l1), (2, .int l2), (3, .ref l3)] [] h 0 0 (zQ cI r) := by
  have hy := mfW_equalsString
  unfold fW_equalsString at e
  replace e := (cond_some e).2
  exact zl hy 4 (pc2 := 4) (lv2 := [(0, .ref l0), (1, .int l1), (2, .int l2), (3, .ref l3)]) (st2 := [.ref l3, .int (l2 - l1)]) rfl <| zx_call hy (as := [.ref l3]) (rest := [.int (l2 - l1)]) (ov := (fun v => some (.int v))) (fun _ => rfl) rfl rfl (Or.inl rfl) rfl rfl (Nat.le_of_ble_eq_true rfl) (Nat.le_of_ble_eq_true rfl) (fun _ e _ => z_rcvT (rfJ_length N l3 h _ e)) (fun _ e => zt_deep (Nat.le_of_ble_eq_true rfl) (sfJ_length N l3 h _ e)) e fun x1 h2 _ e => zx_c hy rfl e (fun _ e => zl hy 2 (pc2 := 15) (lv2 := [(4, .int (Int32.ofInt 0)), (0, .ref l0), (1, .int l1), (2, .int l2), (3, .ref l3)]) (st2 := []) rfl <| zt_sub (z_fc rfl (z_fc rfl (z_fc rfl (z_fc rfl (z_fn))))) <| sfW_equalsString_15 N   N l0 l1 l3 (Int32.ofInt 0) h2 _ e) (fun _ e => zl hy 1 (pc2 := 11) (lv2 := [(0, .ref l0), (1, .int l1), (2, .int l2), (3, .ref l3)]) (st2 := [.int (Int32.ofInt 0)]) rfl <| zx_ret hy (v := .int (Int32.ofInt 0)) rfl rfl (by decide) rfl e)
theorem rfW_equalsString (N : Nat) (l0 : Nat) (l1 : Int32) (l2 : Int32) (l3 : Nat) (h : zH) (r : Int32 × zH) (e : fW_equalsString N l0 l1 l2 l3 h = some r) : fT h l0 4 = true := by
  unfold fW_equalsString at e
  exact (cond_some e).1
/-- LyndonBench$Command.find(LLyndonBench$Word;II)LLyndonBench$Command; -/
theorem mfD_find : z_me 0 zc_0 7 [] (some (.object "LyndonBench$Command")) := ⟨z_me0 rfl, rfl, rfl, rfl⟩
def fD_find_46 (N : Nat) (k11 : Nat → Int32 → Int32 → Nat → Int32 → Int32 → zH → Option (Option Nat × zH)) (l0 : Nat) (l1 : Int32) (l2 : Int32) (l3 : Nat) (l4 : Int32) (l5 : Int32) (h : zH) : Option (Option Nat × zH) := k11 l0 l1 l2 l3 l4 (l5 + Int32.ofInt 1) h
theorem sfD_find_46 {xs : List Int32} (N : Nat) (k11 : Nat → Int32 → Int32 → Nat → Int32 → Int32 → zH → Option (Option Nat × zH))  (hk11 : ∀ (l0 : Nat) (l1 : Int32) (l2 : Int32) (l3 : Nat) (l4 : Int32) (l5 : Int32) (h : zH) (r : Option Nat × zH), k11 l0 l1 l2 l3 l4 l5 h = some r → zt xs (6) 0 11 [(0, .ref l0), (1, .int l1), (2, .int l2), (3, .ref l3), (4, .int l4), (5, .int l5)] [] h 0 0 (zQ cO r)) (l0 : Nat) (l1 : Int32) (l2 : Int32) (l3 : Nat) (l4 : Int32) (l5 : Int32) (h : zH) (r : Option Nat × zH) (e : fD_find_46 N k11 l0 l1 l2 l3 l4 l5 h = some r) : zt xs (6) 0 46 [(0, .ref l0), (1, .int l1), (2, .int l2), (3, .ref l3), (4, .int l4), (5, .int l5)] [] h 0 0 (zQ cO r) := by
  have hy := mfD_find
  unfold fD_find_46 at e
  exact zl hy 2 (pc2 := 11) (lv2 := [(5, .int (l5 + Int32.ofInt 1)), (0, .ref l0), (1, .int l1), (2, .int l2), (3, .ref l3), (4, .int l4)]) (st2 := []) rfl <| zt_sub (z_fc rfl (z_fc rfl (z_fc rfl (z_fc rfl (z_fc rfl (z_fc rfl (z_fn))))))) <| hk11 l0 l1 l2 l3 l4 (l5 + Int32.ofInt 1) h _ e
def fD_find_11 (N : Nat) : Nat → Nat → Int32 → Int32 → Nat → Int32 → Int32 → zH → Option (Option Nat × zH)
  | 0, _, _, _, _, _, _, _ => none
  | n + 1, l0, l1, l2, l3, l4, l5, h => cond (z_cmp .ge l5 l4) (some (none, h)) (b1 (fAR h l3 106 l5) fun x2 => cond (fX h x2) (b1 (fR h x2 51 0) fun x3 => b2 (fW_equalsString N l0 l1 l2 x3 h) fun x4 h5 => cond (z_cmp .eq x4 (Int32.ofInt 0)) (fD_find_46 N (fD_find_11 N n ) l0 l1 l2 l3 l4 l5 h5) (some (some x2, h5))) none)
theorem sfD_find_11 {xs : List Int32} (N : Nat)   : ∀ (n : Nat) (l0 : Nat) (l1 : Int32) (l2 : Int32) (l3 : Nat) (l4 : Int32) (l5 : Int32) (h : zH) (r : Option Nat × zH), fD_find_11 N n  l0 l1 l2 l3 l4 l5 h = some r → zt xs (6) 0 11 [(0, .ref l0), (1, .int l1), (2, .int l2), (3, .ref l3), (4, .int l4), (5, .int l5)] [] h 0 0 (zQ cO r) := by
  have hy := mfD_find
  intro n
  induction n with
  | zero =>
    intro l0 l1 l2 l3 l4 l5 h r e
    rw [fD_find_11] at e
    cases e
  | succ n ih =>
    intro l0 l1 l2 l3 l4 l5 h r e
    rw [fD_find_11] at e
    exact zl hy 2 (pc2 := 15) (lv2 := [(0, .ref l0), (1, .int l1), (2, .int l2), (3, .ref l3), (4, .int l4), (5, .int l5)]) (st2 := [.int l4, .int l5]) rfl <| zx_c hy rfl e (fun _ e => zl hy 1 (pc2 := 53) (lv2 := [(0, .ref l0), (1, .int l1), (2, .int l2), (3, .ref l3), (4, .int l4), (5, .int l5)]) (st2 := [.null]) rfl <| zx_ret hy (v := .null) rfl rfl rfl rfl e) (fun _ e => zl hy 2 (pc2 := 21) (lv2 := [(0, .ref l0), (1, .int l1), (2, .int l2), (3, .ref l3), (4, .int l4), (5, .int l5)]) (st2 := [.int l5, .ref l3]) rfl <| zx_aR hy (Nat.le_of_ble_eq_true rfl) rfl e fun x2 _ e => zl hy 2 (pc2 := 26) (lv2 := [(6, .ref x2), (0, .ref l0), (1, .int l1), (2, .int l2), (3, .ref l3), (4, .int l4), (5, .int l5)]) (st2 := [.ref x2]) rfl <| zx_nullR hy rfl e fun e => zl hy 4 (pc2 := 34) (lv2 := [(6, .ref x2), (0, .ref l0), (1, .int l1), (2, .int l2), (3, .ref l3), (4, .int l4), (5, .int l5)]) (st2 := [.ref x2, .int l2, .int l1, .ref l0]) rfl <| zx_gR hy rfl e fun x3 _ e => zx_call hy (as := [.ref l0, .int l1, .int l2, .ref x3]) (rest := []) (ov := (fun v => some (.int v))) (fun _ => rfl) rfl rfl (Or.inl rfl) rfl rfl (Nat.le_of_ble_eq_true rfl) (Nat.le_of_ble_eq_true rfl) (fun _ e _ => z_rcvT (rfW_equalsString N l0 l1 l2 x3 h _ e)) (fun _ e => zt_deep (Nat.le_of_ble_eq_true rfl) (sfW_equalsString N l0 l1 l2 x3 h _ e)) e fun x4 h5 _ e => zx_c0 hy rfl e (fun _ e => zt_sub (z_fc rfl (z_fc rfl (z_fc rfl (z_fc rfl (z_fc rfl (z_fc rfl (z_fn))))))) <| sfD_find_46 N (fD_find_11 N n ) ih l0 l1 l2 l3 l4 l5 h5 _ e) (fun _ e => zl hy 1 (pc2 := 45) (lv2 := [(6, .ref x2), (0, .ref l0), (1, .int l1), (2, .int l2), (3, .ref l3), (4, .int l4), (5, .int l5)]) (st2 := [.ref x2]) rfl <| zx_ret hy (v := .ref x2) rfl rfl rfl rfl e))
def fD_find (N : Nat) (l0 : Nat) (l1 : Int32) (l2 : Int32) (h : zH) : Option (Option Nat × zH) := b1 (fN h 1000012 106) fun x1 => fD_find_11 N N  l0 l1 l2 1000012 x1 (Int32.ofInt 0) h
theorem sfD_find {xs : List Int32} (N : Nat) (l0 : Nat) (l1 : Int32) (l2 : Int32) (h : zH) (r : Option Nat × zH) (e : fD_find N l0 l1 l2 h = some r) : zt xs (6) 0 0 [(0, .ref l0), (1, .int l1), (2, .int l2)] [] h 0 0 (zQ cO r) := by
  have hy := mfD_find
  unfold fD_find at e
  exact zx_gs hy (v := .ref 1000012) rfl rfl rfl <| zl hy 2 (pc2 := 5) (lv2 := [(3, .ref 1000012), (0, .ref l0), (1, .int l1), (2, .int l2)]) (st2 := [.ref 1000012]) rfl <| zx_len hy (Nat.le_of_ble_eq_true rfl) rfl e fun x1 _ e => zl hy 3 (pc2 := 11) (lv2 := [(5, .int (Int32.ofInt 0)), (4, .int x1), (3, .ref 1000012), (0, .ref l0), (1, .int l1), (2, .int l2)]) (st2 := []) rfl <| zt_sub (z_fc rfl (z_fc rfl (z_fc rfl (z_fc rfl (z_fc rfl (z_fc rfl (z_fn))))))) <| sfD_find_11 N   N l0 l1 l2 1000012 x1 (Int32.ofInt 0) h _ e
/-- LyndonBench$History.forgetOldest()V -/
theorem mfH_forgetOldest : z_me 3 zc_3 3 [] none := ⟨z_me0 rfl, rfl, rfl, rfl⟩
def fH_forgetOldest_18 (N : Nat) : Nat → Nat → Nat → Int32 → zH → Option (Unit × zH)
  | 0, _, _, _, _ => none
  | n + 1, l0, l1, l2, h => b1 (fR h l0 1 0) fun x5 => b1 (fN h x5 105) fun x6 => cond (z_cmp .ge l2 x6) (b1 (fR h l0 1 0) fun x7 => b1 (fR h l0 1 0) fun x8 => b1 (fN h x8 105) fun x9 => cond (fT h l1 (za_elem 105) && Nat.blt l1 1000000) (b1 (fAS h x7 105 (x9 - (Int32.ofInt 1)) (.ref l1)) fun h10 => b1 (fR h10 l0 1 0) fun x11 => b1 (fN h10 x11 105) fun x12 => b1 (fS h10 l0 1 1 (.int (x12 - (Int32.ofInt 1)))) fun h13 => some ((), h13)) none) (b1 (fR h l0 1 0) fun x14 => b1 (fR h l0 1 0) fun x15 => b1 (fAR h x15 105 l2) fun x16 => cond (fT h x16 (za_elem 105) && Nat.blt x16 1000000) (b1 (fAS h x14 105 (l2 - (Int32.ofInt 1)) (.ref x16)) fun h17 => fH_forgetOldest_18 N n  l0 l1 (l2 + Int32.ofInt 1) h17) none)
theorem sfH_forgetOldest_18 {xs : List Int32} (N : Nat)   : ∀ (n : Nat) (l0 : Nat) (l1 : Nat) (l2 : Int32) (h : zH) (r : Unit × zH), fH_forgetOldest_18 N n  l0 l1 l2 h = some r → zt xs (1) 3 18 [(0, .ref l0), (1, .ref l1), (2, .int l2)] [] h 0 0 (zQ cV r) := by
  have hy := mfH_forgetOldest
  intro n
  induction n with
  | zero =>
    intro l0 l1 l2 h r e
    rw [fH_forgetOldest_18] at e
    cases e
  | succ n ih =>
    intro l0 l1 l2 h r e
    rw [fH_forgetOldest_18] at e
    exact zl hy 2 (pc2 := 20) (lv2 := [(0, .ref l0), (1, .ref l1), (2, .int l2)]) (st2 := [.ref l0, .int l2]) rfl <| zx_gR hy rfl e fun x5 _ e => zx_len hy (Nat.le_of_ble_eq_true rfl) rfl e fun x6 _ e => zx_c hy rfl e (fun _ e => zl hy 1 (pc2 := 48) (lv2 := [(0, .ref l0), (1, .ref l1), (2, .int l2)]) (st2 := [.ref l0]) rfl <| zx_gR hy rfl e fun x7 _ e => zl hy 1 (pc2 := 52) (lv2 := [(0, .ref l0), (1, .ref l1), (2, .int l2)]) (st2 := [.ref l0, .ref x7]) rfl <| zx_gR hy rfl e fun x8 _ e => zx_len hy (Nat.le_of_ble_eq_true rfl) rfl e fun x9 _ e => zl hy 3 (pc2 := 59) (lv2 := [(0, .ref l0), (1, .ref l1), (2, .int l2)]) (st2 := [.ref l1, .int (x9 - (Int32.ofInt 1)), .ref x7]) rfl <| zx_sR hy ⟨Nat.le_of_ble_eq_true rfl, Nat.le_of_ble_eq_true rfl⟩ rfl e fun h10 _ e => zl hy 2 (pc2 := 62) (lv2 := [(0, .ref l0), (1, .ref l1), (2, .int l2)]) (st2 := [.ref l0, .ref l0]) rfl <| zx_gR hy rfl e fun x11 _ e => zx_len hy (Nat.le_of_ble_eq_true rfl) rfl e fun x12 _ e => zl hy 2 (pc2 := 68) (lv2 := [(0, .ref l0), (1, .ref l1), (2, .int l2)]) (st2 := [.int (x12 - (Int32.ofInt 1)), .ref l0]) rfl <| zx_pf hy rfl e (rfl) fun h13 _ e => zx_retV hy rfl rfl e) (fun _ e => zl hy 1 (pc2 := 28) (lv2 := [(0, .ref l0), (1, .ref l1), (2, .int l2)]) (st2 := [.ref l0]) rfl <| zx_gR hy rfl e fun x14 _ e => zl hy 4 (pc2 := 35) (lv2 := [(0, .ref l0), (1, .ref l1), (2, .int l2)]) (st2 := [.ref l0, .int (l2 - (Int32.ofInt 1)), .ref x14]) rfl <| zx_gR hy rfl e fun x15 _ e => zl hy 1 (pc2 := 39) (lv2 := [(0, .ref l0), (1, .ref l1), (2, .int l2)]) (st2 := [.int l2, .ref x15, .int (l2 - (Int32.ofInt 1)), .ref x14]) rfl <| zx_aR hy (Nat.le_of_ble_eq_true rfl) rfl e fun x16 _ e => zx_sR hy ⟨Nat.le_of_ble_eq_true rfl, Nat.le_of_ble_eq_true rfl⟩ rfl e fun h17 _ e => zl hy 2 (pc2 := 18) (lv2 := [(2, .int (l2 + Int32.ofInt 1)), (0, .ref l0), (1, .ref l1)]) (st2 := []) rfl <| zt_sub (z_fc rfl (z_fc rfl (z_fc rfl (z_fn)))) <| ih l0 l1 (l2 + Int32.ofInt 1) h17 _ e)
def fH_forgetOldest (N : Nat) (l0 : Nat) (h : zH) : Option (Unit × zH) := cond (fT h l0 1) (b1 (fR h l0 1 0) fun x1 => b1 (fN h x1 105) fun x2 => cond (z_cmp .ne x2 (Int32.ofInt 0)) (b1 (fR h l0 1 0) fun x3 => b1 (fAR h x3 105 (Int32.ofInt 0)) fun x4 => fH_forgetOldest_18 N N  l0 x4 (Int32.ofInt 1) h) (some ((), h))) none
theorem sfH_forgetOldest {xs : List Int32} (N : Nat) (l0 : Nat) (h : zH) (r : Unit × zH) (e : fH_forgetOldest N l0 h = some r) : zt xs (1) 3 0 [(0, .ref l0)] [] h 0 0 (zQ cV r) := by
  have hy := mfH_forgetOldest
  unfold fH_forgetOldest at e
  replace e := (cond_some e).2
  exact zl hy 1 (pc2 := 1) (lv2 := [(0, .ref l0)]) (st2 := [.ref l0]) rfl <| zx_gR hy rfl e fun x1 _ e => zx_len hy (Nat.le_of_ble_eq_true rfl) rfl e fun x2 _ e => zx_c0 hy rfl e (fun _ e => zl hy 1 (pc2 := 10) (lv2 := [(0, .ref l0)]) (st2 := [.ref l0]) rfl <| zx_gR hy rfl e fun x3 _ e => zl hy 1 (pc2 := 14) (lv2 := [(0, .ref l0)]) (st2 := [.int (Int32.ofInt 0), .ref x3]) rfl <| zx_aR hy (Nat.le_of_ble_eq_true rfl) rfl e fun x4 _ e => zl hy 3 (pc2 := 18) (lv2 := [(2, .int (Int32.ofInt 1)), (1, .ref x4), (0, .ref l0)]) (st2 := []) rfl <| zt_sub (z_fc rfl (z_fc rfl (z_fc rfl (z_fn)))) <| sfH_forgetOldest_18 N   N l0 x4 (Int32.ofInt 1) h _ e) (fun _ e => zx_retV hy rfl rfl e)
theorem rfH_forgetOldest (N : Nat) (l0 : Nat) (h : zH) (r : Unit × zH) (e : fH_forgetOldest N l0 h = some r) : fT h l0 1 = true := by
  unfold fH_forgetOldest at e
  exact (cond_some e).1
/-- LyndonBench$Word.clear()V -/
theorem mfW_clear : z_me 45 zc_45 1 [] none := ⟨z_me0 rfl, rfl, rfl, rfl⟩
def fW_clear (N : Nat) (l0 : Nat) (h : zH) : Option (Unit × zH) := cond (fT h l0 4) (b1 (fS h l0 4 1 (.int (Int32.ofInt 0))) fun h1 => some ((), h1)) none
theorem sfW_clear {xs : List Int32} (N : Nat) (l0 : Nat) (h : zH) (r : Unit × zH) (e : fW_clear N l0 h = some r) : zt xs (1) 45 0 [(0, .ref l0)] [] h 0 0 (zQ cV r) := by
  have hy := mfW_clear
  unfold fW_clear at e
  replace e := (cond_some e).2
  exact zl hy 2 (pc2 := 2) (lv2 := [(0, .ref l0)]) (st2 := [.int (Int32.ofInt 0), .ref l0]) rfl <| zx_pf hy rfl e (rfl) fun h1 _ e => zx_retV hy rfl rfl e
theorem rfW_clear (N : Nat) (l0 : Nat) (h : zH) (r : Unit × zH) (e : fW_clear N l0 h = some r) : fT h l0 4 = true := by
  unfold fW_clear at e
  exact (cond_some e).1
/-- LyndonBench$Word.add(I)V -/
theorem mfW_add : z_me 46 zc_46 2 [] none := ⟨z_me0 rfl, rfl, rfl, rfl⟩
def fW_add (N : Nat) (l0 : Nat) (l1 : Int32) (h : zH) : Option (Unit × zH) := cond (fT h l0 4) (b1 (fI h l0 4 1) fun x1 => cond (z_cmp .lt x1 (Int32.ofInt 0)) (some ((), h)) (b1 (fI h l0 4 1) fun x2 => b1 (fR h l0 4 0) fun x3 => b1 (fN h x3 101) fun x4 => cond (z_cmp .ge x2 x4) (some ((), h)) (b1 (fR h l0 4 0) fun x5 => b1 (fI h l0 4 1) fun x6 => b1 (fAS h x5 101 x6 (.int (vp_nar .byte (l1).toInt8.toInt32))) fun h7 => b1 (fI h7 l0 4 1) fun x8 => b1 (fS h7 l0 4 1 (.int (x8 + (Int32.ofInt 1)))) fun h9 => some ((), h9)))) none
theorem sfW_add {xs : List Int32} (N : Nat) (l0 : Nat) (l1 : Int32) (h : zH) (r : Unit × zH) (e : fW_add N l0 l1 h = some r) : zt xs (1) 46 0 [(0, .ref l0), (1, .int l1)] [] h 0 0 (zQ cV r) := by
  have hy := mfW_add
  unfold fW_add at e
  replace e := (cond_some e).2
  exact zl hy 1 (pc2 := 1) (lv2 := [(0, .ref l0), (1, .int l1)]) (st2 := [.ref l0]) rfl <| zx_gI hy rfl e fun x1 _ e => zx_c0 hy rfl e (fun _ e => zx_retV hy rfl rfl e) (fun _ e => zl hy 1 (pc2 := 8) (lv2 := [(0, .ref l0), (1, .int l1)]) (st2 := [.ref l0]) rfl <| zx_gI hy rfl e fun x2 _ e => zl hy 1 (pc2 := 12) (lv2 := [(0, .ref l0), (1, .int l1)]) (st2 := [.ref l0, .int x2]) rfl <| zx_gR hy rfl e fun x3 _ e => zx_len hy (Nat.le_of_ble_eq_true rfl) rfl e fun x4 _ e => zx_c hy rfl e (fun _ e => zx_retV hy rfl rfl e) (fun _ e => zl hy 1 (pc2 := 20) (lv2 := [(0, .ref l0), (1, .int l1)]) (st2 := [.ref l0]) rfl <| zx_gR hy rfl e fun x5 _ e => zl hy 1 (pc2 := 24) (lv2 := [(0, .ref l0), (1, .int l1)]) (st2 := [.ref l0, .ref x5]) rfl <| zx_gI hy rfl e fun x6 _ e => zl hy 2 (pc2 := 29) (lv2 := [(0, .ref l0), (1, .int l1)]) (st2 := [.int (l1).toInt8.toInt32, .int x6, .ref x5]) rfl <| zx_sI hy (j := .bastore) (Or.inr (Or.inl ⟨rfl, rfl, rfl⟩)) rfl e fun h7 _ e => zl hy 2 (pc2 := 32) (lv2 := [(0, .ref l0), (1, .int l1)]) (st2 := [.ref l0, .ref l0]) rfl <| zx_gI hy rfl e fun x8 _ e => zl hy 2 (pc2 := 37) (lv2 := [(0, .ref l0), (1, .int l1)]) (st2 := [.int (x8 + (Int32.ofInt 1)), .ref l0]) rfl <| zx_pf hy rfl e (rfl) fun h9 _ e => zx_retV hy rfl rfl e))
theorem rfW_add (N : Nat) (l0 : Nat) (l1 : Int32) (h : zH) (r : Unit × zH) (e : fW_add N l0 l1 h = some r) : fT h l0 4 = true := by
  unfold fW_add at e
  exact (cond_some e).1
/-- LyndonBench$Word.addPart(LLyndonBench$Word;II)V -/
theorem mfW_addPart : z_me 49 zc_49 5 [] none := ⟨z_me0 rfl, rfl, rfl, rfl⟩
def fW_addPart_3 (N : Nat) : Nat → Nat → Nat → Int32 → Int32 → zH → Option (Unit × zH)
  | 0, _, _, _, _, _ => none
  | n + 1, l0, l1, l3, l4, h => cond (z_cmp .ge l4 l3) (some ((), h)) (b2 (fW_at N l1 l4 h) fun x1 h2 => b2 (fW_add N l0 x1 h2) fun _ h4 => fW_addPart_3 N n  l0 l1 l3 (l4 + Int32.ofInt 1) h4)
theorem sfW_addPart_3 {xs : List Int32} (N : Nat)   : ∀ (n : Nat) (l0 : Nat) (l1 : Nat) (l3 : Int32) (l4 : Int32) (h : zH) (r : Unit × zH), fW_addPart_3 N n  l0 l1 l3 l4 h = some r → zt xs (2) 49 3 [(0, .ref l0), (1, .ref l1), (3, .int l3), (4, .int l4)] [] h 0 0 (zQ cV r) := by
  have hy := mfW_addPart
  intro n
  induction n with
  | zero =>
    intro l0 l1 l3 l4 h r e
    rw [fW_addPart_3] at e
    cases e
  | succ n ih =>
    intro l0 l1 l3 l4 h r e
    rw [fW_addPart_3] at e
    exact zl hy 2 (pc2 := 6) (lv2 := [(0, .ref l0), (1, .ref l1), (3, .int l3), (4, .int l4)]) (st2 := [.int l3, .int l4]) rfl <| zx_c hy rfl e (fun _ e => zx_retV hy rfl rfl e) (fun _ e => zl hy 3 (pc2 := 13) (lv2 := [(0, .ref l0), (1, .ref l1), (3, .int l3), (4, .int l4)]) (st2 := [.int l4, .ref l1, .ref l0]) rfl <| zx_call hy (as := [.ref l1, .int l4]) (rest := [.ref l0]) (ov := (fun v => some (.int v))) (fun _ => rfl) rfl rfl (Or.inl rfl) rfl rfl (Nat.le_of_ble_eq_true rfl) (Nat.le_of_ble_eq_true rfl) (fun _ e _ => z_rcvT (rfW_at N l1 l4 h _ e)) (fun _ e => zt_deep (Nat.le_of_ble_eq_true rfl) (sfW_at N l1 l4 h _ e)) e fun x1 h2 _ e => zx_call hy (as := [.ref l0, .int x1]) (rest := []) (ov := (fun _ => none)) (fun _ => rfl) rfl rfl (Or.inl rfl) rfl rfl (Nat.le_of_ble_eq_true rfl) (Nat.le_of_ble_eq_true rfl) (fun _ e _ => z_rcvT (rfW_add N l0 x1 h2 _ e)) (fun _ e => zt_deep (Nat.le_of_ble_eq_true rfl) (sfW_add N l0 x1 h2 _ e)) e fun _ h4 _ e => zl hy 2 (pc2 := 3) (lv2 := [(4, .int (l4 + Int32.ofInt 1)), (0, .ref l0), (1, .ref l1), (3, .int l3)]) (st2 := []) rfl <| zt_sub (z_fc rfl (z_fc rfl (z_fc rfl (z_fc rfl (z_fn))))) <| ih l0 l1 l3 (l4 + Int32.ofInt 1) h4 _ e)
def fW_addPart (N : Nat) (l0 : Nat) (l1 : Nat) (l2 : Int32) (l3 : Int32) (h : zH) : Option (Unit × zH) := cond (fT h l0 4) (fW_addPart_3 N N  l0 l1 l3 l2 h) none
theorem sfW_addPart {xs : List Int32} (N : Nat) (l0 : Nat) (l1 : Nat) (l2 : Int32) (l3 : Int32) (h : zH) (r : Unit × zH) (e : fW_addPart N l0 l1 l2 l3 h = some r) : zt xs (2) 49 0 [(0, .ref l0), (1, .ref l1), (2, .int l2), (3, .int l3)] [] h 0 0 (zQ cV r) := by
  have hy := mfW_addPart
  unfold fW_addPart at e
  replace e := (cond_some e).2
  exact zl hy 2 (pc2 := 3) (lv2 := [(4, .int l2), (0, .ref l0), (1, .ref l1), (2, .int l2), (3, .int l3)]) (st2 := []) rfl <| zt_sub (z_fc rfl (z_fc rfl (z_fc rfl (z_fc rfl (z_fn))))) <| sfW_addPart_3 N   N l0 l1 l3 l2 h _ e
theorem rfW_addPart (N : Nat) (l0 : Nat) (l1 : Nat) (l2 : Int32) (l3 : Int32) (h : zH) (r : Unit × zH) (e : fW_addPart N l0 l1 l2 l3 h = some r) : fT h l0 4 = true := by
  unfold fW_addPart at e
  exact (cond_some e).1
/-- LyndonBench$Word.copyFrom(LLyndonBench$Word;)V -/
theorem mfW_copyFrom : z_me 51 zc_51 2 [] none := ⟨z_me0 rfl, rfl, rfl, rfl⟩
def fW_copyFrom (N : Nat) (l0 : Nat) (l1 : Nat) (h : zH) : Option (Unit × zH) := cond (fT h l0 4) (b2 (fW_clear N l0 h) fun _ h2 => b1 (fI h2 l1 4 1) fun x3 => b2 (fW_addPart N l0 l1 (Int32.ofInt 0) x3 h2) fun _ h5 => some ((), h5)) none
theorem sfW_copyFrom {xs : List Int32} (N : Nat) (l0 : Nat) (l1 : Nat) (h : zH) (r : Unit × zH) (e : fW_copyFrom N l0 l1 h = some r) : zt xs (3) 51 0 [(0, .ref l0), (1, .ref l1)] [] h 0 0 (zQ cV r) := by
  have hy := mfW_copyFrom
  unfold fW_copyFrom at e
  replace e := (cond_some e).2
  exact zl hy 1 (pc2 := 1) (lv2 := [(0, .ref l0), (1, .ref l1)]) (st2 := [.ref l0]) rfl <| zx_call hy (as := [.ref l0]) (rest := []) (ov := (fun _ => none)) (fun _ => rfl) rfl rfl (Or.inl rfl) rfl rfl (Nat.le_of_ble_eq_true rfl) (Nat.le_of_ble_eq_true rfl) (fun _ e _ => z_rcvT (rfW_clear N l0 h _ e)) (fun _ e => zt_deep (Nat.le_of_ble_eq_true rfl) (sfW_clear N l0 h _ e)) e fun _ h2 _ e => zl hy 4 (pc2 := 8) (lv2 := [(0, .ref l0), (1, .ref l1)]) (st2 := [.ref l1, .int (Int32.ofInt 0), .ref l1, .ref l0]) rfl <| zx_gI hy rfl e fun x3 _ e => zx_call hy (as := [.ref l0, .ref l1, .int (Int32.ofInt 0), .int x3]) (rest := []) (ov := (fun _ => none)) (fun _ => rfl) rfl rfl (Or.inl rfl) rfl rfl (Nat.le_of_ble_eq_true rfl) (Nat.le_of_ble_eq_true rfl) (fun _ e _ => z_rcvT (rfW_addPart N l0 l1 (Int32.ofInt 0) x3 h2 _ e)) (fun _ e => zt_deep (Nat.le_of_ble_eq_true rfl) (sfW_addPart N l0 l1 (Int32.ofInt 0) x3 h2 _ e)) e fun _ h5 _ e => zx_retV hy rfl rfl e
theorem rfW_copyFrom (N : Nat) (l0 : Nat) (l1 : Nat) (h : zH) (r : Unit × zH) (e : fW_copyFrom N l0 l1 h = some r) : fT h l0 4 = true := by
  unfold fW_copyFrom at e
  exact (cond_some e).1
/-- LyndonBench$State.keptAt(I)LLyndonBench$Word; -/
theorem mfS_keptAt : z_me 34 zc_34 2 [] (some (.object "LyndonBench$Word")) := ⟨z_me0 rfl, rfl, rfl, rfl⟩
def fS_keptAt_31 (N : Nat)  (s0 : Option Nat) (h : zH) : Option (Option Nat × zH) := some (s0, h)
theorem sfS_keptAt_31 {xs : List Int32} (N : Nat)   (s0 : Option Nat) (h : zH) (r : Option Nat × zH) (e : fS_keptAt_31 N  s0 h = some r) : zt xs (1) 34 31 [] [va_rf s0] h 0 0 (zQ cO r) := by
  have hy := mfS_keptAt
  unfold fS_keptAt_31 at e
  exact (match s0, e with | none, e => zx_ret hy (v := .null) rfl rfl rfl rfl e | some _, e => zx_ret hy rfl rfl rfl rfl e)
def fS_keptAt_30 (N : Nat)   (h : zH) : Option (Option Nat × zH) := fS_keptAt_31 N  none h
theorem sfS_keptAt_30 {xs : List Int32} (N : Nat)    (h : zH) (r : Option Nat × zH) (e : fS_keptAt_30 N   h = some r) : zt xs (1) 34 30 [] [] h 0 0 (zQ cO r) := by
  have hy := mfS_keptAt
  unfold fS_keptAt_30 at e
  exact zl hy 1 (pc2 := 31) (lv2 := []) (st2 := [.null]) rfl <| zt_sub (z_fn) <| sfS_keptAt_31 N   none h _ e
def fS_keptAt (N : Nat) (l0 : Nat) (l1 : Int32) (h : zH) : Option (Option Nat × zH) := cond (fT h l0 3) (cond (z_cmp .lt l1 (Int32.ofInt 0)) (fS_keptAt_30 N   h) (b1 (fI h l0 3 3) fun x1 => cond (z_cmp .ge l1 x1) (fS_keptAt_30 N   h) (b1 (fR h l0 3 2) fun x2 => b1 (fN h x2 104) fun x3 => cond (z_cmp .ge l1 x3) (fS_keptAt_30 N   h) (b1 (fR h l0 3 2) fun x4 => b1 (fAR h x4 104 l1) fun x5 => fS_keptAt_31 N  (some x5) h)))) none
theorem sfS_keptAt {xs : List Int32} (N : Nat) (l0 : Nat) (l1 : Int32) (h : zH) (r : Option Nat × zH) (e : fS_keptAt N l0 l1 h = some r) : zt xs (1) 34 0 [(0, .ref l0), (1, .int l1)] [] h 0 0 (zQ cO r) := by
  have hy := mfS_keptAt
  unfold fS_keptAt at e
  replace e := (cond_some e).2
  exact zl hy 1 (pc2 := 1) (lv2 := [(0, .ref l0), (1, .int l1)]) (st2 := [.int l1]) rfl <| zx_c0 hy rfl e (fun _ e => zt_sub (z_fn) <| sfS_keptAt_30 N    h _ e) (fun _ e => zl hy 2 (pc2 := 6) (lv2 := [(0, .ref l0), (1, .int l1)]) (st2 := [.ref l0, .int l1]) rfl <| zx_gI hy rfl e fun x1 _ e => zx_c hy rfl e (fun _ e => zt_sub (z_fn) <| sfS_keptAt_30 N    h _ e) (fun _ e => zl hy 2 (pc2 := 14) (lv2 := [(0, .ref l0), (1, .int l1)]) (st2 := [.ref l0, .int l1]) rfl <| zx_gR hy rfl e fun x2 _ e => zx_len hy (Nat.le_of_ble_eq_true rfl) rfl e fun x3 _ e => zx_c hy rfl e (fun _ e => zt_sub (z_fn) <| sfS_keptAt_30 N    h _ e) (fun _ e => zl hy 1 (pc2 := 22) (lv2 := [(0, .ref l0), (1, .int l1)]) (st2 := [.ref l0]) rfl <| zx_gR hy rfl e fun x4 _ e => zl hy 1 (pc2 := 26) (lv2 := [(0, .ref l0), (1, .int l1)]) (st2 := [.int l1, .ref x4]) rfl <| zx_aR hy (Nat.le_of_ble_eq_true rfl) rfl e fun x5 _ e => zl hy 1 (pc2 := 31) (lv2 := [(0, .ref l0), (1, .int l1)]) (st2 := [.ref x5]) rfl <| zt_sub (z_fn) <| sfS_keptAt_31 N   (some x5) h _ e)))
theorem rfS_keptAt (N : Nat) (l0 : Nat) (l1 : Int32) (h : zH) (r : Option Nat × zH) (e : fS_keptAt N l0 l1 h = some r) : fT h l0 3 = true := by
  unfold fS_keptAt at e
  exact (cond_some e).1
/-- LyndonBench$State.keep(LLyndonBench$Word;II)V -/
theorem mfS_keep : z_me 36 zc_36 5 [] none := ⟨z_me0 rfl, rfl, rfl, rfl⟩
def fS_keep (N : Nat) (l0 : Nat) (l1 : Nat) (l2 : Int32) (l3 : Int32) (h : zH) : Option (Unit × zH) := cond (fT h l0 3) (b1 (fI h l0 3 3) fun x1 => cond (z_cmp .lt x1 (Int32.ofInt 0)) (some ((), h)) (b1 (fI h l0 3 3) fun x2 => b1 (fR h l0 3 2) fun x3 => b1 (fN h x3 104) fun x4 => cond (z_cmp .lt x2 x4) (b1 (fR h l0 3 2) fun x5 => b1 (fI h l0 3 3) fun x6 => b1 (fAR h x5 104 x6) fun x7 => cond (fX h x7) (b2 (fW_clear N x7 h) fun _ h9 => b2 (fW_addPart N x7 l1 l2 l3 h9) fun _ h11 => b1 (fI h11 l0 3 3) fun x12 => b1 (fS h11 l0 3 3 (.int (x12 + (Int32.ofInt 1)))) fun h13 => some ((), h13)) none) (some ((), h)))) none
theorem sfS_keep {xs : List Int32} (N : Nat) (l0 : Nat) (l1 : Nat) (l2 : Int32) (l3 : Int32) (h : zH) (r : Unit × zH) (e : fS_keep N l0 l1 l2 l3 h = some r) : zt xs (3) 36 0 [(0, .ref l0), (1, .ref l1), (2, .int l2), (3, .int l3)] [] h 0 0 (zQ cV r) := by
  have hy := mfS_keep
  unfold fS_keep at e
  replace e := (cond_some e).2
  exact zl hy 1 (pc2 := 1) (lv2 := [(0, .ref l0), (1, .ref l1), (2, .int l2), (3, .int l3)]) (st2 := [.ref l0]) rfl <| zx_gI hy rfl e fun x1 _ e => zx_c0 hy rfl e (fun _ e => zx_retV hy rfl rfl e) (fun _ e => zl hy 1 (pc2 := 8) (lv2 := [(0, .ref l0), (1, .ref l1), (2, .int l2), (3, .int l3)]) (st2 := [.ref l0]) rfl <| zx_gI hy rfl e fun x2 _ e => zl hy 1 (pc2 := 12) (lv2 := [(0, .ref l0), (1, .ref l1), (2, .int l2), (3, .int l3)]) (st2 := [.ref l0, .int x2]) rfl <| zx_gR hy rfl e fun x3 _ e => zx_len hy (Nat.le_of_ble_eq_true rfl) rfl e fun x4 _ e => zx_c hy rfl e (fun _ e => zl hy 1 (pc2 := 21) (lv2 := [(0, .ref l0), (1, .ref l1), (2, .int l2), (3, .int l3)]) (st2 := [.ref l0]) rfl <| zx_gR hy rfl e fun x5 _ e => zl hy 1 (pc2 := 25) (lv2 := [(0, .ref l0), (1, .ref l1), (2, .int l2), (3, .int l3)]) (st2 := [.ref l0, .ref x5]) rfl <| zx_gI hy rfl e fun x6 _ e => zx_aR hy (Nat.le_of_ble_eq_true rfl) rfl e fun x7 _ e => zl hy 2 (pc2 := 33) (lv2 := [(4, .ref x7), (0, .ref l0), (1, .ref l1), (2, .int l2), (3, .int l3)]) (st2 := [.ref x7]) rfl <| zx_nullR hy rfl e fun e => zl hy 1 (pc2 := 38) (lv2 := [(4, .ref x7), (0, .ref l0), (1, .ref l1), (2, .int l2), (3, .int l3)]) (st2 := [.ref x7]) rfl <| zx_call hy (as := [.ref x7]) (rest := []) (ov := (fun _ => none)) (fun _ => rfl) rfl rfl (Or.inl rfl) rfl rfl (Nat.le_of_ble_eq_true rfl) (Nat.le_of_ble_eq_true rfl) (fun _ e _ => z_rcvT (rfW_clear N x7 h _ e)) (fun _ e => zt_deep (Nat.le_of_ble_eq_true rfl) (sfW_clear N x7 h _ e)) e fun _ h9 _ e => zl hy 4 (pc2 := 46) (lv2 := [(4, .ref x7), (0, .ref l0), (1, .ref l1), (2, .int l2), (3, .int l3)]) (st2 := [.int l3, .int l2, .ref l1, .ref x7]) rfl <| zx_call hy (as := [.ref x7, .ref l1, .int l2, .int l3]) (rest := []) (ov := (fun _ => none)) (fun _ => rfl) rfl rfl (Or.inl rfl) rfl rfl (Nat.le_of_ble_eq_true rfl) (Nat.le_of_ble_eq_true rfl) (fun _ e _ => z_rcvT (rfW_addPart N x7 l1 l2 l3 h9 _ e)) (fun _ e => zt_deep (Nat.le_of_ble_eq_true rfl) (sfW_addPart N x7 l1 l2 l3 h9 _ e)) e fun _ h11 _ e => zl hy 2 (pc2 := 51) (lv2 := [(4, .ref x7), (0, .ref l0), (1, .ref l1), (2, .int l2), (3, .int l3)]) (st2 := [.ref l0, .ref l0]) rfl <| zx_gI hy rfl e fun x12 _ e => zl hy 2 (pc2 := 56) (lv2 := [(4, .ref x7), (0, .ref l0), (1, .ref l1), (2, .int l2), (3, .int l3)]) (st2 := [.int (x12 + (Int32.ofInt 1)), .ref l0]) rfl <| zx_pf hy rfl e (rfl) fun h13 _ e => zx_retV hy rfl rfl e) (fun _ e => zx_retV hy rfl rfl e))
theorem rfS_keep (N : Nat) (l0 : Nat) (l1 : Nat) (l2 : Int32) (l3 : Int32) (h : zH) (r : Unit × zH) (e : fS_keep N l0 l1 l2 l3 h = some r) : fT h l0 3 = true := by
  unfold fS_keep at e
  exact (cond_some e).1
/-- LyndonBench$State.copyFrom(LLyndonBench$State;)V -/
theorem mfS_copyFrom : z_me 30 zc_30 4 [] none := ⟨z_me0 rfl, rfl, rfl, rfl⟩
def fS_copyFrom_54 (N : Nat) (k26 : Nat → Nat → Int32 → zH → Option (Unit × zH)) (l0 : Nat) (l1 : Nat) (l2 : Int32) (h : zH) : Option (Unit × zH) := k26 l0 l1 (l2 + Int32.ofInt 1) h
theorem sfS_copyFrom_54 {xs : List Int32} (N : Nat) (k26 : Nat → Nat → Int32 → zH → Option (Unit × zH))  (hk26 : ∀ (l0 : Nat) (l1 : Nat) (l2 : Int32) (h : zH) (r : Unit × zH), k26 l0 l1 l2 h = some r → zt xs (4) 30 26 [(0, .ref l0), (1, .ref l1), (2, .int l2)] [] h 0 0 (zQ cV r)) (l0 : Nat) (l1 : Nat) (l2 : Int32) (h : zH) (r : Unit × zH) (e : fS_copyFrom_54 N k26 l0 l1 l2 h = some r) : zt xs (4) 30 54 [(0, .ref l0), (1, .ref l1), (2, .int l2)] [] h 0 0 (zQ cV r) := by
  have hy := mfS_copyFrom
  unfold fS_copyFrom_54 at e
  exact zl hy 2 (pc2 := 26) (lv2 := [(2, .int (l2 + Int32.ofInt 1)), (0, .ref l0), (1, .ref l1)]) (st2 := []) rfl <| zt_sub (z_fc rfl (z_fc rfl (z_fc rfl (z_fn)))) <| hk26 l0 l1 (l2 + Int32.ofInt 1) h _ e
def fS_copyFrom_26 (N : Nat) : Nat → Nat → Nat → Int32 → zH → Option (Unit × zH)
  | 0, _, _, _, _ => none
  | n + 1, l0, l1, l2, h => b1 (fI h l1 3 3) fun x8 => cond (z_cmp .ge l2 x8) (some ((), h)) (b2 (fS_keptAt N l1 l2 h) fun x9 h10 => (match x9 with | none => fS_copyFrom_54 N (fS_copyFrom_26 N n ) l0 l1 l2 h10 | some x11 => cond (fX h10 x11) (b1 (fI h10 x11 4 1) fun x12 => b2 (fS_keep N l0 x11 (Int32.ofInt 0) x12 h10) fun _ h14 => fS_copyFrom_54 N (fS_copyFrom_26 N n ) l0 l1 l2 h14) none))
theorem sfS_copyFrom_26 {xs : List Int32} (N : Nat)   : ∀ (n : Nat) (l0 : Nat) (l1 : Nat) (l2 : Int32) (h : zH) (r : Unit × zH), fS_copyFrom_26 N n  l0 l1 l2 h = some r → zt xs (4) 30 26 [(0, .ref l0), (1, .ref l1), (2, .int l2)] [] h 0 0 (zQ cV r) := by
  have hy := mfS_copyFrom
  intro n
  induction n with
  | zero =>
    intro l0 l1 l2 h r e
    rw [fS_copyFrom_26] at e
    cases e
  | succ n ih =>
    intro l0 l1 l2 h r e
    rw [fS_copyFrom_26] at e
    exact zl hy 2 (pc2 := 28) (lv2 := [(0, .ref l0), (1, .ref l1), (2, .int l2)]) (st2 := [.ref l1, .int l2]) rfl <| zx_gI hy rfl e fun x8 _ e => zx_c hy rfl e (fun _ e => zx_retV hy rfl rfl e) (fun _ e => zl hy 2 (pc2 := 36) (lv2 := [(0, .ref l0), (1, .ref l1), (2, .int l2)]) (st2 := [.int l2, .ref l1]) rfl <| zx_call hy (as := [.ref l1, .int l2]) (rest := []) (ov := (fun v => some (va_rf v))) (fun _ => rfl) rfl rfl (Or.inl rfl) rfl rfl (Nat.le_of_ble_eq_true rfl) (Nat.le_of_ble_eq_true rfl) (fun _ e _ => z_rcvT (rfS_keptAt N l1 l2 h _ e)) (fun _ e => zt_deep (Nat.le_of_ble_eq_true rfl) (sfS_keptAt N l1 l2 h _ e)) e fun x9 h10 _ e => (match x9, e with | none, e => zl hy 2 (pc2 := 41) (lv2 := [(3, .null), (0, .ref l0), (1, .ref l1), (2, .int l2)]) (st2 := [.null]) rfl <| zx_nullN hy rfl <| zt_sub (z_fc rfl (z_fc rfl (z_fc rfl (z_fn)))) <| sfS_copyFrom_54 N (fS_copyFrom_26 N n ) ih l0 l1 l2 h10 _ e | some x11, e => zl hy 2 (pc2 := 41) (lv2 := [(3, .ref x11), (0, .ref l0), (1, .ref l1), (2, .int l2)]) (st2 := [.ref x11]) rfl <| zx_nullR hy rfl e fun e => zl hy 4 (pc2 := 48) (lv2 := [(3, .ref x11), (0, .ref l0), (1, .ref l1), (2, .int l2)]) (st2 := [.ref x11, .int (Int32.ofInt 0), .ref x11, .ref l0]) rfl <| zx_gI hy rfl e fun x12 _ e => zx_call hy (as := [.ref l0, .ref x11, .int (Int32.ofInt 0), .int x12]) (rest := []) (ov := (fun _ => none)) (fun _ => rfl) rfl rfl (Or.inl rfl) rfl rfl (Nat.le_of_ble_eq_true rfl) (Nat.le_of_ble_eq_true rfl) (fun _ e _ => z_rcvT (rfS_keep N l0 x11 (Int32.ofInt 0) x12 h10 _ e)) (fun _ e => zt_deep (Nat.le_of_ble_eq_true rfl) (sfS_keep N l0 x11 (Int32.ofInt 0) x12 h10 _ e)) e fun _ h14 _ e => zt_sub (z_fc rfl (z_fc rfl (z_fc rfl (z_fn)))) <| sfS_copyFrom_54 N (fS_copyFrom_26 N n ) ih l0 l1 l2 h14 _ e))
def fS_copyFrom (N : Nat) (l0 : Nat) (l1 : Nat) (h : zH) : Option (Unit × zH) := cond (fT h l0 3) (b1 (fI h l1 3 0) fun x1 => b1 (fS h l0 3 0 (.int x1)) fun h2 => b1 (fR h2 l0 3 1) fun x3 => b1 (fR h2 l1 3 1) fun x4 => b2 (fW_copyFrom N x3 x4 h2) fun _ h6 => b1 (fS h6 l0 3 3 (.int (Int32.ofInt 0))) fun h7 => fS_copyFrom_26 N N  l0 l1 (Int32.ofInt 0) h7) none
theorem sfS_copyFrom {xs : List Int32} (N : Nat) (l0 : Nat) (l1 : Nat) (h : zH) (r : Unit × zH) (e : fS_copyFrom N l0 l1 h = some r) : zt xs (4) 30 0 [(0, .ref l0), (1, .ref l1)] [] h 0 0 (zQ cV r) := by
  have hy := mfS_copyFrom
  unfold fS_copyFrom at e
  replace e := (cond_some e).2
  exact zl hy 2 (pc2 := 2) (lv2 := [(0, .ref l0), (1, .ref l1)]) (st2 := [.ref l1, .ref l0]) rfl <| zx_gI hy rfl e fun x1 _ e => zx_pf hy rfl e (rfl) fun h2 _ e => zl hy 1 (pc2 := 9) (lv2 := [(0, .ref l0), (1, .ref l1)]) (st2 := [.ref l0]) rfl <| zx_gR hy rfl e fun x3 _ e => zl hy 1 (pc2 := 13) (lv2 := [(0, .ref l0), (1, .ref l1)]) (st2 := [.ref l1, .ref x3]) rfl <| zx_gR hy rfl e fun x4 _ e => zx_call hy (as := [.ref x3, .ref x4]) (rest := []) (ov := (fun _ => none)) (fun _ => rfl) rfl rfl (Or.inl rfl) rfl rfl (Nat.le_of_ble_eq_true rfl) (Nat.le_of_ble_eq_true rfl) (fun _ e _ => z_rcvT (rfW_copyFrom N x3 x4 h2 _ e)) (fun _ e => zt_deep (Nat.le_of_ble_eq_true rfl) (sfW_copyFrom N x3 x4 h2 _ e)) e fun _ h6 _ e => zl hy 2 (pc2 := 21) (lv2 := [(0, .ref l0), (1, .ref l1)]) (st2 := [.int (Int32.ofInt 0), .ref l0]) rfl <| zx_pf hy rfl e (rfl) fun h7 _ e => zl hy 2 (pc2 := 26) (lv2 := [(2, .int (Int32.ofInt 0)), (0, .ref l0), (1, .ref l1)]) (st2 := []) rfl <| zt_sub (z_fc rfl (z_fc rfl (z_fc rfl (z_fn)))) <| sfS_copyFrom_26 N   N l0 l1 (Int32.ofInt 0) h7 _ e
theorem rfS_copyFrom (N : Nat) (l0 : Nat) (l1 : Nat) (h : zH) (r : Unit × zH) (e : fS_copyFrom N l0 l1 h = some r) : fT h l0 3 = true := by
  unfold fS_copyFrom at e
  exact (cond_some e).1
/-- LyndonBench$History.remember(LLyndonBench$State;)V -/
theorem mfH_remember : z_me 2 zc_2 2 [] none := ⟨z_me0 rfl, rfl, rfl, rfl⟩
def fH_remember_16 (N : Nat)  (l0 : Nat) (l1 : Nat) (h : zH) : Option (Unit × zH) := b1 (fI h l0 1 1) fun x4 => cond (z_cmp .lt x4 (Int32.ofInt 0)) (some ((), h)) (b1 (fI h l0 1 1) fun x5 => b1 (fR h l0 1 0) fun x6 => b1 (fN h x6 105) fun x7 => cond (z_cmp .ge x5 x7) (some ((), h)) (b1 (fR h l0 1 0) fun x8 => b1 (fI h l0 1 1) fun x9 => b1 (fAR h x8 105 x9) fun x10 => cond (fX h x10) (b1 (fR h l0 1 0) fun x11 => b1 (fI h l0 1 1) fun x12 => b1 (fAR h x11 105 x12) fun x13 => b2 (fS_copyFrom N x13 l1 h) fun _ h15 => b1 (fI h15 l0 1 1) fun x16 => b1 (fS h15 l0 1 1 (.int (x16 + (Int32.ofInt 1)))) fun h17 => some ((), h17)) none))
theorem sfH_remember_16 {xs : List Int32} (N : Nat)   (l0 : Nat) (l1 : Nat) (h : zH) (r : Unit × zH) (e : fH_remember_16 N  l0 l1 h = some r) : zt xs (5) 2 16 [(0, .ref l0), (1, .ref l1)] [] h 0 0 (zQ cV r) := by
  have hy := mfH_remember
  unfold fH_remember_16 at e
  exact zl hy 1 (pc2 := 17) (lv2 := [(0, .ref l0), (1, .ref l1)]) (st2 := [.ref l0]) rfl <| zx_gI hy rfl e fun x4 _ e => zx_c0 hy rfl e (fun _ e => zx_retV hy rfl rfl e) (fun _ e => zl hy 1 (pc2 := 24) (lv2 := [(0, .ref l0), (1, .ref l1)]) (st2 := [.ref l0]) rfl <| zx_gI hy rfl e fun x5 _ e => zl hy 1 (pc2 := 28) (lv2 := [(0, .ref l0), (1, .ref l1)]) (st2 := [.ref l0, .int x5]) rfl <| zx_gR hy rfl e fun x6 _ e => zx_len hy (Nat.le_of_ble_eq_true rfl) rfl e fun x7 _ e => zx_c hy rfl e (fun _ e => zx_retV hy rfl rfl e) (fun _ e => zl hy 1 (pc2 := 36) (lv2 := [(0, .ref l0), (1, .ref l1)]) (st2 := [.ref l0]) rfl <| zx_gR hy rfl e fun x8 _ e => zl hy 1 (pc2 := 40) (lv2 := [(0, .ref l0), (1, .ref l1)]) (st2 := [.ref l0, .ref x8]) rfl <| zx_gI hy rfl e fun x9 _ e => zx_aR hy (Nat.le_of_ble_eq_true rfl) rfl e fun x10 _ e => zx_nullR hy rfl e fun e => zl hy 1 (pc2 := 48) (lv2 := [(0, .ref l0), (1, .ref l1)]) (st2 := [.ref l0]) rfl <| zx_gR hy rfl e fun x11 _ e => zl hy 1 (pc2 := 52) (lv2 := [(0, .ref l0), (1, .ref l1)]) (st2 := [.ref l0, .ref x11]) rfl <| zx_gI hy rfl e fun x12 _ e => zx_aR hy (Nat.le_of_ble_eq_true rfl) rfl e fun x13 _ e => zl hy 1 (pc2 := 57) (lv2 := [(0, .ref l0), (1, .ref l1)]) (st2 := [.ref l1, .ref x13]) rfl <| zx_call hy (as := [.ref x13, .ref l1]) (rest := []) (ov := (fun _ => none)) (fun _ => rfl) rfl rfl (Or.inl rfl) rfl rfl (Nat.le_of_ble_eq_true rfl) (Nat.le_of_ble_eq_true rfl) (fun _ e _ => z_rcvT (rfS_copyFrom N x13 l1 h _ e)) (fun _ e => zt_deep (Nat.le_of_ble_eq_true rfl) (sfS_copyFrom N x13 l1 h _ e)) e fun _ h15 _ e => zl hy 2 (pc2 := 62) (lv2 := [(0, .ref l0), (1, .ref l1)]) (st2 := [.ref l0, .ref l0]) rfl <| zx_gI hy rfl e fun x16 _ e => zl hy 2 (pc2 := 67) (lv2 := [(0, .ref l0), (1, .ref l1)]) (st2 := [.int (x16 + (Int32.ofInt 1)), .ref l0]) rfl <| zx_pf hy rfl e (rfl) fun h17 _ e => zx_retV hy rfl rfl e))
def fH_remember (N : Nat) (l0 : Nat) (l1 : Nat) (h : zH) : Option (Unit × zH) := cond (fT h l0 1) (b1 (fI h l0 1 1) fun x1 => b1 (fR h l0 1 0) fun x2 => b1 (fN h x2 105) fun x3 => cond (z_cmp .lt x1 x3) (fH_remember_16 N  l0 l1 h) (b2 (fH_forgetOldest N l0 h) fun _ h5 => fH_remember_16 N  l0 l1 h5)) none
theorem sfH_remember {xs : List Int32} (N : Nat) (l0 : Nat) (l1 : Nat) (h : zH) (r : Unit × zH) (e : fH_remember N l0 l1 h = some r) : zt xs (5) 2 0 [(0, .ref l0), (1, .ref l1)] [] h 0 0 (zQ cV r) := by
  have hy := mfH_remember
  unfold fH_remember at e
  replace e := (cond_some e).2
  exact zl hy 1 (pc2 := 1) (lv2 := [(0, .ref l0), (1, .ref l1)]) (st2 := [.ref l0]) rfl <| zx_gI hy rfl e fun x1 _ e => zl hy 1 (pc2 := 5) (lv2 := [(0, .ref l0), (1, .ref l1)]) (st2 := [.ref l0, .int x1]) rfl <| zx_gR hy rfl e fun x2 _ e => zx_len hy (Nat.le_of_ble_eq_true rfl) rfl e fun x3 _ e => zx_c hy rfl e (fun _ e => zt_sub (z_fc rfl (z_fc rfl (z_fn))) <| sfH_remember_16 N   l0 l1 h _ e) (fun _ e => zl hy 1 (pc2 := 13) (lv2 := [(0, .ref l0), (1, .ref l1)]) (st2 := [.ref l0]) rfl <| zx_call hy (as := [.ref l0]) (rest := []) (ov := (fun _ => none)) (fun _ => rfl) rfl rfl (Or.inl rfl) rfl rfl (Nat.le_of_ble_eq_true rfl) (Nat.le_of_ble_eq_true rfl) (fun _ e _ => z_rcvT (rfH_forgetOldest N l0 h _ e)) (fun _ e => zt_deep (Nat.le_of_ble_eq_true rfl) (sfH_forgetOldest N l0 h _ e)) e fun _ h5 _ e => zt_sub (z_fc rfl (z_fc rfl (z_fn))) <| sfH_remember_16 N   l0 l1 h5 _ e)
theorem rfH_remember (N : Nat) (l0 : Nat) (l1 : Nat) (h : zH) (r : Unit × zH) (e : fH_remember N l0 l1 h = some r) : fT h l0 1 = true := by
  unfold fH_remember at e
  exact (cond_some e).1
/-- LyndonBench$History.bringBack(LLyndonBench$State;)Z -/
theorem mfH_bringBack : z_me 4 zc_4 2 [] (some .boolean) := ⟨z_me0 rfl, rfl, rfl, rfl⟩
def fH_bringBack_34 (N : Nat)   (h : zH) : Option (Int32 × zH) := some ((Int32.ofInt 0), h)
theorem sfH_bringBack_34 {xs : List Int32} (N : Nat)    (h : zH) (r : Int32 × zH) (e : fH_bringBack_34 N   h = some r) : zt xs (5) 4 34 [] [] h 0 0 (zQ cI r) := by
  have hy := mfH_bringBack
  unfold fH_bringBack_34 at e
  exact zl hy 1 (pc2 := 35) (lv2 := []) (st2 := [.int (Int32.ofInt 0)]) rfl <| zx_ret hy (v := .int (Int32.ofInt 0)) rfl rfl (by decide) rfl e
def fH_bringBack (N : Nat) (l0 : Nat) (l1 : Nat) (h : zH) : Option (Int32 × zH) := cond (fT h l0 1) (b1 (fI h l0 1 1) fun x1 => cond (z_cmp .lt x1 (Int32.ofInt 1)) (fH_bringBack_34 N   h) (b1 (fI h l0 1 1) fun x2 => b1 (fR h l0 1 0) fun x3 => b1 (fN h x3 105) fun x4 => cond (z_cmp .gt x2 x4) (fH_bringBack_34 N   h) (b1 (fR h l0 1 0) fun x5 => b1 (fI h l0 1 1) fun x6 => b1 (fAR h x5 105 (x6 - (Int32.ofInt 1))) fun x7 => cond (fX h x7) (b1 (fI h l0 1 1) fun x8 => b1 (fS h l0 1 1 (.int (x8 - (Int32.ofInt 1)))) fun h9 => b1 (fR h9 l0 1 0) fun x10 => b1 (fI h9 l0 1 1) fun x11 => b1 (fAR h9 x10 105 x11) fun x12 => b2 (fS_copyFrom N l1 x12 h9) fun _ h14 => some ((Int32.ofInt 1), h14)) none))) none
theorem sfH_bringBack {xs : List Int32} (N : Nat) (l0 : Nat) (l1 : Nat) (h : zH) (r : Int32 × zH) (e : fH_bringBack N l0 l1 h = some r) : zt xs (5) 4 0 [(0, .ref l0), (1, .ref l1)] [] h 0 0 (zQ cI r) := by
  have hy := mfH_bringBack
  unfold fH_bringBack at e
  replace e := (cond_some e).2
  exact zl hy 1 (pc2 := 1) (lv2 := [(0, .ref l0), (1, .ref l1)]) (st2 := [.ref l0]) rfl <| zx_gI hy rfl e fun x1 _ e => zl hy 1 (pc2 := 5) (lv2 := [(0, .ref l0), (1, .ref l1)]) (st2 := [.int (Int32.ofInt 1), .int x1]) rfl <| zx_c hy rfl e (fun _ e => zt_sub (z_fn) <| sfH_bringBack_34 N    h _ e) (fun _ e => zl hy 1 (pc2 := 9) (lv2 := [(0, .ref l0), (1, .ref l1)]) (st2 := [.ref l0]) rfl <| zx_gI hy rfl e fun x2 _ e => zl hy 1 (pc2 := 13) (lv2 := [(0, .ref l0), (1, .ref l1)]) (st2 := [.ref l0, .int x2]) rfl <| zx_gR hy rfl e fun x3 _ e => zx_len hy (Nat.le_of_ble_eq_true rfl) rfl e fun x4 _ e => zx_c hy rfl e (fun _ e => zt_sub (z_fn) <| sfH_bringBack_34 N    h _ e) (fun _ e => zl hy 1 (pc2 := 21) (lv2 := [(0, .ref l0), (1, .ref l1)]) (st2 := [.ref l0]) rfl <| zx_gR hy rfl e fun x5 _ e => zl hy 1 (pc2 := 25) (lv2 := [(0, .ref l0), (1, .ref l1)]) (st2 := [.ref l0, .ref x5]) rfl <| zx_gI hy rfl e fun x6 _ e => zl hy 2 (pc2 := 30) (lv2 := [(0, .ref l0), (1, .ref l1)]) (st2 := [.int (x6 - (Int32.ofInt 1)), .ref x5]) rfl <| zx_aR hy (Nat.le_of_ble_eq_true rfl) rfl e fun x7 _ e => zx_nonnullR hy rfl e fun e => zl hy 2 (pc2 := 38) (lv2 := [(0, .ref l0), (1, .ref l1)]) (st2 := [.ref l0, .ref l0]) rfl <| zx_gI hy rfl e fun x8 _ e => zl hy 2 (pc2 := 43) (lv2 := [(0, .ref l0), (1, .ref l1)]) (st2 := [.int (x8 - (Int32.ofInt 1)), .ref l0]) rfl <| zx_pf hy rfl e (rfl) fun h9 _ e => zl hy 2 (pc2 := 48) (lv2 := [(0, .ref l0), (1, .ref l1)]) (st2 := [.ref l0, .ref l1]) rfl <| zx_gR hy rfl e fun x10 _ e => zl hy 1 (pc2 := 52) (lv2 := [(0, .ref l0), (1, .ref l1)]) (st2 := [.ref l0, .ref x10, .ref l1]) rfl <| zx_gI hy rfl e fun x11 _ e => zx_aR hy (Nat.le_of_ble_eq_true rfl) rfl e fun x12 _ e => zx_call hy (as := [.ref l1, .ref x12]) (rest := []) (ov := (fun _ => none)) (fun _ => rfl) rfl rfl (Or.inl rfl) rfl rfl (Nat.le_of_ble_eq_true rfl) (Nat.le_of_ble_eq_true rfl) (fun _ e _ => z_rcvT (rfS_copyFrom N l1 x12 h9 _ e)) (fun _ e => zt_deep (Nat.le_of_ble_eq_true rfl) (sfS_copyFrom N l1 x12 h9 _ e)) e fun _ h14 _ e => zl hy 1 (pc2 := 60) (lv2 := [(0, .ref l0), (1, .ref l1)]) (st2 := [.int (Int32.ofInt 1)]) rfl <| zx_ret hy (v := .int (Int32.ofInt 1)) rfl rfl (by decide) rfl e))
theorem rfH_bringBack (N : Nat) (l0 : Nat) (l1 : Nat) (h : zH) (r : Int32 × zH) (e : fH_bringBack N l0 l1 h = some r) : fT h l0 1 = true := by
  unfold fH_bringBack at e
  exact (cond_some e).1
/-- LyndonBench$Script.kindOf(I)I -/
theorem mfC_kindOf : z_me 27 zc_27 1 [] (some .int) := ⟨z_me0 rfl, rfl, rfl, rfl⟩
def fC_kindOf_90 (N : Nat)   (h : zH) : Option (Int32 × zH) := some ((Int32.ofInt 6), h)
theorem sfC_kindOf_90 {xs : List Int32} (N : Nat)    (h : zH) (r : Int32 × zH) (e : fC_kindOf_90 N   h = some r) : zt xs (1) 27 90 [] [] h 0 0 (zQ cI r) := by
  have hy := mfC_kindOf
  unfold fC_kindOf_90 at e
  exact zx_bip hy (c := 6) rfl (by decide) <| zx_ret hy rfl rfl rfl rfl e
def fC_kindOf_28 (N : Nat)  (l0 : Int32) (h : zH) : Option (Int32 × zH) := z_lk (l0).toInt (some ((Int32.ofInt 7), h)) ((([(-1, 88), (10, 90), (32, 90), (40, 93), (41, 95), (59, 97)] : List (Int × Nat)).map (·.1)).zip [some ((Int32.ofInt 0), h), fC_kindOf_90 N   h, fC_kindOf_90 N   h, some ((Int32.ofInt 3), h), some ((Int32.ofInt 4), h), some ((Int32.ofInt 5), h)])
theorem sfC_kindOf_28 {xs : List Int32} (N : Nat)   (l0 : Int32) (h : zH) (r : Int32 × zH) (e : fC_kindOf_28 N  l0 h = some r) : zt xs (1) 27 28 [(0, .int l0)] [] h 0 0 (zQ cI r) := by
  have hy := mfC_kindOf
  unfold fC_kindOf_28 at e
  exact zl hy 1 (pc2 := 29) (lv2 := [(0, .int l0)]) (st2 := [.int l0]) rfl <| zx_lsw hy [(-1, 88), (10, 90), (32, 90), (40, 93), (41, 95), (59, 97)] 99 rfl (by decide) (z_lkT rfl _ _ rfl) e (fun e => zx_bip hy (c := 7) rfl (by decide) <| zx_ret hy rfl rfl rfl rfl e) ⟨fun e => zl hy 1 (pc2 := 89) (lv2 := [(0, .int l0)]) (st2 := [.int (Int32.ofInt 0)]) rfl <| zx_ret hy rfl rfl rfl rfl e, ⟨fun e => zt_sub (z_fn) <| sfC_kindOf_90 N    h _ e, ⟨fun e => zt_sub (z_fn) <| sfC_kindOf_90 N    h _ e, ⟨fun e => zl hy 1 (pc2 := 94) (lv2 := [(0, .int l0)]) (st2 := [.int (Int32.ofInt 3)]) rfl <| zx_ret hy rfl rfl rfl rfl e, ⟨fun e => zl hy 1 (pc2 := 96) (lv2 := [(0, .int l0)]) (st2 := [.int (Int32.ofInt 4)]) rfl <| zx_ret hy rfl rfl rfl rfl e, ⟨fun e => zl hy 1 (pc2 := 98) (lv2 := [(0, .int l0)]) (st2 := [.int (Int32.ofInt 5)]) rfl <| zx_ret hy rfl rfl rfl rfl e, trivial⟩⟩⟩⟩⟩⟩
def fC_kindOf_14 (N : Nat)  (l0 : Int32) (h : zH) : Option (Int32 × zH) := cond (z_cmp .lt l0 (Int32.ofInt 48)) (fC_kindOf_28 N  l0 h) (cond (z_cmp .gt l0 (Int32.ofInt 57)) (fC_kindOf_28 N  l0 h) (some ((Int32.ofInt 2), h)))
theorem sfC_kindOf_14 {xs : List Int32} (N : Nat)   (l0 : Int32) (h : zH) (r : Int32 × zH) (e : fC_kindOf_14 N  l0 h = some r) : zt xs (1) 27 14 [(0, .int l0)] [] h 0 0 (zQ cI r) := by
  have hy := mfC_kindOf
  unfold fC_kindOf_14 at e
  exact zl hy 1 (pc2 := 15) (lv2 := [(0, .int l0)]) (st2 := [.int l0]) rfl <| zx_bip hy (c := 48) rfl (by decide) <| zx_c hy rfl e (fun _ e => zt_sub (z_fc rfl (z_fn)) <| sfC_kindOf_28 N   l0 h _ e) (fun _ e => zl hy 1 (pc2 := 21) (lv2 := [(0, .int l0)]) (st2 := [.int l0]) rfl <| zx_bip hy (c := 57) rfl (by decide) <| zx_c hy rfl e (fun _ e => zt_sub (z_fc rfl (z_fn)) <| sfC_kindOf_28 N   l0 h _ e) (fun _ e => zl hy 1 (pc2 := 27) (lv2 := [(0, .int l0)]) (st2 := [.int (Int32.ofInt 2)]) rfl <| zx_ret hy rfl rfl rfl rfl e))
def fC_kindOf (N : Nat) (l0 : Int32) (h : zH) : Option (Int32 × zH) := cond (z_cmp .lt l0 (Int32.ofInt 97)) (fC_kindOf_14 N  l0 h) (cond (z_cmp .gt l0 (Int32.ofInt 122)) (fC_kindOf_14 N  l0 h) (some ((Int32.ofInt 1), h)))
theorem sfC_kindOf {xs : List Int32} (N : Nat) (l0 : Int32) (h : zH) (r : Int32 × zH) (e : fC_kindOf N l0 h = some r) : zt xs (1) 27 0 [(0, .int l0)] [] h 0 0 (zQ cI r) := by
  have hy := mfC_kindOf
  unfold fC_kindOf at e
  exact zl hy 1 (pc2 := 1) (lv2 := [(0, .int l0)]) (st2 := [.int l0]) rfl <| zx_bip hy (c := 97) rfl (by decide) <| zx_c hy rfl e (fun _ e => zt_sub (z_fc rfl (z_fn)) <| sfC_kindOf_14 N   l0 h _ e) (fun _ e => zl hy 1 (pc2 := 7) (lv2 := [(0, .int l0)]) (st2 := [.int l0]) rfl <| zx_bip hy (c := 122) rfl (by decide) <| zx_c hy rfl e (fun _ e => zt_sub (z_fc rfl (z_fn)) <| sfC_kindOf_14 N   l0 h _ e) (fun _ e => zl hy 1 (pc2 := 13) (lv2 := [(0, .int l0)]) (st2 := [.int (Int32.ofInt 1)]) rfl <| zx_ret hy rfl rfl rfl rfl e))
/-- LyndonBench$Script.readNumber()V -/
theorem mfC_readNumber : z_me 26 zc_26 2 [] none := ⟨z_me0 rfl, rfl, rfl, rfl⟩
def fC_readNumber_30 (N : Nat) : Nat → Nat → Int32 → zH → Option (Unit × zH)
  | 0, _, _, _ => none
  | n + 1, l0, l1, h => b1 (fI h l0 2 6) fun x5 => cond (z_cmp .ge l1 x5) (some ((), h)) (b1 (fI h l0 2 7) fun x6 => b1 (fR h l0 2 0) fun x7 => b2 (fW_at N x7 l1 h) fun x8 h9 => b1 (fS h9 l0 2 7 (.int (((x6 * (Int32.ofInt 10)) + x8) - (Int32.ofInt 48)))) fun h10 => fC_readNumber_30 N n  l0 (l1 + Int32.ofInt 1) h10)
theorem sfC_readNumber_30 {xs : List Int32} (N : Nat)   : ∀ (n : Nat) (l0 : Nat) (l1 : Int32) (h : zH) (r : Unit × zH), fC_readNumber_30 N n  l0 l1 h = some r → zt xs (2) 26 30 [(0, .ref l0), (1, .int l1)] [] h 0 0 (zQ cV r) := by
  have hy := mfC_readNumber
  intro n
  induction n with
  | zero =>
    intro l0 l1 h r e
    rw [fC_readNumber_30] at e
    cases e
  | succ n ih =>
    intro l0 l1 h r e
    rw [fC_readNumber_30] at e
    exact zl hy 2 (pc2 := 32) (lv2 := [(0, .ref l0), (1, .int l1)]) (st2 := [.ref l0, .int l1]) rfl <| zx_gI hy rfl e fun x5 _ e => zx_c hy rfl e (fun _ e => zx_retV hy rfl rfl e) (fun _ e => zl hy 2 (pc2 := 40) (lv2 := [(0, .ref l0), (1, .int l1)]) (st2 := [.ref l0, .ref l0]) rfl <| zx_gI hy rfl e fun x6 _ e => zx_bip hy (c := 10) rfl (by decide) <| zl hy 2 (pc2 := 47) (lv2 := [(0, .ref l0), (1, .int l1)]) (st2 := [.ref l0, .int (x6 * (Int32.ofInt 10)), .ref l0]) rfl <| zx_gR hy rfl e fun x7 _ e => zl hy 1 (pc2 := 51) (lv2 := [(0, .ref l0), (1, .int l1)]) (st2 := [.int l1, .ref x7, .int (x6 * (Int32.ofInt 10)), .ref l0]) rfl <| zx_call hy (as := [.ref x7, .int l1]) (rest := [.int (x6 * (Int32.ofInt 10)), .ref l0]) (ov := (fun v => some (.int v))) (fun _ => rfl) rfl rfl (Or.inl rfl) rfl rfl (Nat.le_of_ble_eq_true rfl) (Nat.le_of_ble_eq_true rfl) (fun _ e _ => z_rcvT (rfW_at N x7 l1 h _ e)) (fun _ e => zt_deep (Nat.le_of_ble_eq_true rfl) (sfW_at N x7 l1 h _ e)) e fun x8 h9 _ e => zl hy 1 (pc2 := 55) (lv2 := [(0, .ref l0), (1, .int l1)]) (st2 := [.int ((x6 * (Int32.ofInt 10)) + x8), .ref l0]) rfl <| zx_bip hy (c := 48) rfl (by decide) <| zl hy 1 (pc2 := 58) (lv2 := [(0, .ref l0), (1, .int l1)]) (st2 := [.int (((x6 * (Int32.ofInt 10)) + x8) - (Int32.ofInt 48)), .ref l0]) rfl <| zx_pf hy rfl e (rfl) fun h10 _ e => zl hy 2 (pc2 := 30) (lv2 := [(1, .int (l1 + Int32.ofInt 1)), (0, .ref l0)]) (st2 := []) rfl <| zt_sub (z_fc rfl (z_fc rfl (z_fn))) <| ih l0 (l1 + Int32.ofInt 1) h10 _ e)
def fC_readNumber (N : Nat) (l0 : Nat) (h : zH) : Option (Unit × zH) := cond (fT h l0 2) (b1 (fI h l0 2 6) fun x1 => b1 (fI h l0 2 5) fun x2 => cond (z_cmp .le (x1 - x2) (Int32.ofInt 3)) (b1 (fS h l0 2 7 (.int (Int32.ofInt 0))) fun h3 => b1 (fI h3 l0 2 5) fun x4 => fC_readNumber_30 N N  l0 x4 h3) (b1 (fS h l0 2 4 (.int (Int32.ofInt 7))) fun h5 => some ((), h5))) none
theorem sfC_readNumber {xs : List Int32} (N : Nat) (l0 : Nat) (h : zH) (r : Unit × zH) (e : fC_readNumber N l0 h = some r) : zt xs (2) 26 0 [(0, .ref l0)] [] h 0 0 (zQ cV r) := by
  have hy := mfC_readNumber
  unfold fC_readNumber at e
  replace e := (cond_some e).2
  exact zl hy 1 (pc2 := 1) (lv2 := [(0, .ref l0)]) (st2 := [.ref l0]) rfl <| zx_gI hy rfl e fun x1 _ e => zl hy 1 (pc2 := 5) (lv2 := [(0, .ref l0)]) (st2 := [.ref l0, .int x1]) rfl <| zx_gI hy rfl e fun x2 _ e => zl hy 2 (pc2 := 10) (lv2 := [(0, .ref l0)]) (st2 := [.int (Int32.ofInt 3), .int (x1 - x2)]) rfl <| zx_c hy rfl e (fun _ e => zl hy 2 (pc2 := 22) (lv2 := [(0, .ref l0)]) (st2 := [.int (Int32.ofInt 0), .ref l0]) rfl <| zx_pf hy rfl e (rfl) fun h3 _ e => zl hy 1 (pc2 := 26) (lv2 := [(0, .ref l0)]) (st2 := [.ref l0]) rfl <| zx_gI hy rfl e fun x4 _ e => zl hy 1 (pc2 := 30) (lv2 := [(1, .int x4), (0, .ref l0)]) (st2 := []) rfl <| zt_sub (z_fc rfl (z_fc rfl (z_fn))) <| sfC_readNumber_30 N   N l0 x4 h3 _ e) (fun _ e => zl hy 1 (pc2 := 14) (lv2 := [(0, .ref l0)]) (st2 := [.ref l0]) rfl <| zx_bip hy (c := 7) rfl (by decide) <| zx_pf hy rfl e (rfl) fun h5 _ e => zx_retV hy rfl rfl e)
theorem rfC_readNumber (N : Nat) (l0 : Nat) (h : zH) (r : Unit × zH) (e : fC_readNumber N l0 h = some r) : fT h l0 2 = true := by
  unfold fC_readNumber at e
  exact (cond_some e).1
/-- LyndonBench$Script.readToken()V -/
theorem mfC_readToken : z_me 25 zc_25 1 [] none := ⟨z_me0 rfl, rfl, rfl, rfl⟩
def fC_readToken_153 (N : Nat)  (l0 : Nat) (h : zH) : Option (Unit × zH) := b1 (fI h l0 2 4) fun x18 => cond (z_cmp .ne x18 (Int32.ofInt 2)) (some ((), h)) (b2 (fC_readNumber N l0 h) fun _ h20 => some ((), h20))
theorem sfC_readToken_153 {xs : List Int32} (N : Nat)   (l0 : Nat) (h : zH) (r : Unit × zH) (e : fC_readToken_153 N  l0 h = some r) : zt xs (3) 25 153 [(0, .ref l0)] [] h 0 0 (zQ cV r) := by
  have hy := mfC_readToken
  unfold fC_readToken_153 at e
  exact zl hy 1 (pc2 := 154) (lv2 := [(0, .ref l0)]) (st2 := [.ref l0]) rfl <| zx_gI hy rfl e fun x18 _ e => zl hy 1 (pc2 := 158) (lv2 := [(0, .ref l0)]) (st2 := [.int (Int32.ofInt 2), .int x18]) rfl <| zx_c hy rfl e (fun _ e => zx_retV hy rfl rfl e) (fun _ e => zl hy 1 (pc2 := 162) (lv2 := [(0, .ref l0)]) (st2 := [.ref l0]) rfl <| zx_call hy (as := [.ref l0]) (rest := []) (ov := (fun _ => none)) (fun _ => rfl) rfl rfl (Or.inl rfl) rfl rfl (Nat.le_of_ble_eq_true rfl) (Nat.le_of_ble_eq_true rfl) (fun _ e _ => z_rcvT (rfC_readNumber N l0 h _ e)) (fun _ e => zt_deep (Nat.le_of_ble_eq_true rfl) (sfC_readNumber N l0 h _ e)) e fun _ h20 _ e => zx_retV hy rfl rfl e)
def fC_readToken_105 (N : Nat) : Nat → Nat → zH → Option (Unit × zH)
  | 0, _, _ => none
  | n + 1, l0, h => b1 (fI h l0 2 6) fun x15 => b1 (fR h l0 2 0) fun x16 => b1 (fI h x16 4 1) fun x17 => cond (z_cmp .ge x15 x17) (fC_readToken_153 N  l0 h) (b1 (fR h l0 2 0) fun x18 => b1 (fI h l0 2 6) fun x19 => b2 (fW_at N x18 x19 h) fun x20 h21 => b2 (fC_kindOf N x20 h21) fun x22 h23 => b1 (fI h23 l0 2 4) fun x24 => cond (z_cmp .ne x22 x24) (fC_readToken_153 N  l0 h23) (b1 (fI h23 l0 2 6) fun x25 => b1 (fS h23 l0 2 6 (.int (x25 + (Int32.ofInt 1)))) fun h26 => fC_readToken_105 N n  l0 h26))
theorem sfC_readToken_105 {xs : List Int32} (N : Nat)   : ∀ (n : Nat) (l0 : Nat) (h : zH) (r : Unit × zH), fC_readToken_105 N n  l0 h = some r → zt xs (3) 25 105 [(0, .ref l0)] [] h 0 0 (zQ cV r) := by
  have hy := mfC_readToken
  intro n
  induction n with
  | zero =>
    intro l0 h r e
    rw [fC_readToken_105] at e
    cases e
  | succ n ih =>
    intro l0 h r e
    rw [fC_readToken_105] at e
    exact zl hy 1 (pc2 := 106) (lv2 := [(0, .ref l0)]) (st2 := [.ref l0]) rfl <| zx_gI hy rfl e fun x15 _ e => zl hy 1 (pc2 := 110) (lv2 := [(0, .ref l0)]) (st2 := [.ref l0, .int x15]) rfl <| zx_gR hy rfl e fun x16 _ e => zx_gI hy rfl e fun x17 _ e => zx_c hy rfl e (fun _ e => zt_sub (z_fc rfl (z_fn)) <| sfC_readToken_153 N   l0 h _ e) (fun _ e => zl hy 1 (pc2 := 120) (lv2 := [(0, .ref l0)]) (st2 := [.ref l0]) rfl <| zx_gR hy rfl e fun x18 _ e => zl hy 1 (pc2 := 124) (lv2 := [(0, .ref l0)]) (st2 := [.ref l0, .ref x18]) rfl <| zx_gI hy rfl e fun x19 _ e => zx_call hy (as := [.ref x18, .int x19]) (rest := []) (ov := (fun v => some (.int v))) (fun _ => rfl) rfl rfl (Or.inl rfl) rfl rfl (Nat.le_of_ble_eq_true rfl) (Nat.le_of_ble_eq_true rfl) (fun _ e _ => z_rcvT (rfW_at N x18 x19 h _ e)) (fun _ e => zt_deep (Nat.le_of_ble_eq_true rfl) (sfW_at N x18 x19 h _ e)) e fun x20 h21 _ e => zx_call hy (as := [.int x20]) (rest := []) (ov := (fun v => some (.int v))) (fun _ => rfl) rfl rfl (Or.inr (Or.inl rfl)) rfl rfl (Nat.le_of_ble_eq_true rfl) (Nat.le_of_ble_eq_true rfl) (fun _ _ hz => absurd rfl hz) (fun _ e => zt_deep (Nat.le_of_ble_eq_true rfl) (sfC_kindOf N x20 h21 _ e)) e fun x22 h23 _ e => zl hy 1 (pc2 := 134) (lv2 := [(0, .ref l0)]) (st2 := [.ref l0, .int x22]) rfl <| zx_gI hy rfl e fun x24 _ e => zx_c hy rfl e (fun _ e => zt_sub (z_fc rfl (z_fn)) <| sfC_readToken_153 N   l0 h23 _ e) (fun _ e => zl hy 2 (pc2 := 142) (lv2 := [(0, .ref l0)]) (st2 := [.ref l0, .ref l0]) rfl <| zx_gI hy rfl e fun x25 _ e => zl hy 2 (pc2 := 147) (lv2 := [(0, .ref l0)]) (st2 := [.int (x25 + (Int32.ofInt 1)), .ref l0]) rfl <| zx_pf hy rfl e (rfl) fun h26 _ e => zl hy 1 (pc2 := 105) (lv2 := [(0, .ref l0)]) (st2 := []) rfl <| zt_sub (z_fc rfl (z_fn)) <| ih l0 h26 _ e))
def fC_readToken_89 (N : Nat)  (l0 : Nat) (h : zH) : Option (Unit × zH) := b1 (fI h l0 2 4) fun x14 => cond (z_cmp .eq x14 (Int32.ofInt 1)) (fC_readToken_105 N N  l0 h) (b1 (fI h l0 2 4) fun x15 => cond (z_cmp .ne x15 (Int32.ofInt 2)) (fC_readToken_153 N  l0 h) (fC_readToken_105 N N  l0 h))
theorem sfC_readToken_89 {xs : List Int32} (N : Nat)   (l0 : Nat) (h : zH) (r : Unit × zH) (e : fC_readToken_89 N  l0 h = some r) : zt xs (3) 25 89 [(0, .ref l0)] [] h 0 0 (zQ cV r) := by
  have hy := mfC_readToken
  unfold fC_readToken_89 at e
  exact zl hy 1 (pc2 := 90) (lv2 := [(0, .ref l0)]) (st2 := [.ref l0]) rfl <| zx_gI hy rfl e fun x14 _ e => zl hy 1 (pc2 := 94) (lv2 := [(0, .ref l0)]) (st2 := [.int (Int32.ofInt 1), .int x14]) rfl <| zx_c hy rfl e (fun _ e => zt_sub (z_fc rfl (z_fn)) <| sfC_readToken_105 N   N l0 h _ e) (fun _ e => zl hy 1 (pc2 := 98) (lv2 := [(0, .ref l0)]) (st2 := [.ref l0]) rfl <| zx_gI hy rfl e fun x15 _ e => zl hy 1 (pc2 := 102) (lv2 := [(0, .ref l0)]) (st2 := [.int (Int32.ofInt 2), .int x15]) rfl <| zx_c hy rfl e (fun _ e => zt_sub (z_fc rfl (z_fn)) <| sfC_readToken_153 N   l0 h _ e) (fun _ e => zt_sub (z_fc rfl (z_fn)) <| sfC_readToken_105 N   N l0 h _ e))
def fC_readToken_46 (N : Nat)  (l0 : Nat) (h : zH) : Option (Unit × zH) := b1 (fI h l0 2 6) fun x4 => b1 (fS h l0 2 5 (.int x4)) fun h5 => b1 (fR h5 l0 2 0) fun x6 => b1 (fI h5 l0 2 6) fun x7 => b2 (fW_at N x6 x7 h5) fun x8 h9 => b2 (fC_kindOf N x8 h9) fun x10 h11 => b1 (fS h11 l0 2 4 (.int x10)) fun h12 => b1 (fI h12 l0 2 4) fun x13 => cond (z_cmp .eq x13 (Int32.ofInt 0)) (fC_readToken_89 N  l0 h12) (b1 (fI h12 l0 2 6) fun x14 => b1 (fS h12 l0 2 6 (.int (x14 + (Int32.ofInt 1)))) fun h15 => fC_readToken_89 N  l0 h15)
theorem sfC_readToken_46 {xs : List Int32} (N : Nat)   (l0 : Nat) (h : zH) (r : Unit × zH) (e : fC_readToken_46 N  l0 h = some r) : zt xs (3) 25 46 [(0, .ref l0)] [] h 0 0 (zQ cV r) := by
  have hy := mfC_readToken
  unfold fC_readToken_46 at e
  exact zl hy 2 (pc2 := 48) (lv2 := [(0, .ref l0)]) (st2 := [.ref l0, .ref l0]) rfl <| zx_gI hy rfl e fun x4 _ e => zx_pf hy rfl e (rfl) fun h5 _ e => zl hy 2 (pc2 := 56) (lv2 := [(0, .ref l0)]) (st2 := [.ref l0, .ref l0]) rfl <| zx_gR hy rfl e fun x6 _ e => zl hy 1 (pc2 := 60) (lv2 := [(0, .ref l0)]) (st2 := [.ref l0, .ref x6, .ref l0]) rfl <| zx_gI hy rfl e fun x7 _ e => zx_call hy (as := [.ref x6, .int x7]) (rest := [.ref l0]) (ov := (fun v => some (.int v))) (fun _ => rfl) rfl rfl (Or.inl rfl) rfl rfl (Nat.le_of_ble_eq_true rfl) (Nat.le_of_ble_eq_true rfl) (fun _ e _ => z_rcvT (rfW_at N x6 x7 h5 _ e)) (fun _ e => zt_deep (Nat.le_of_ble_eq_true rfl) (sfW_at N x6 x7 h5 _ e)) e fun x8 h9 _ e => zx_call hy (as := [.int x8]) (rest := [.ref l0]) (ov := (fun v => some (.int v))) (fun _ => rfl) rfl rfl (Or.inr (Or.inl rfl)) rfl rfl (Nat.le_of_ble_eq_true rfl) (Nat.le_of_ble_eq_true rfl) (fun _ _ hz => absurd rfl hz) (fun _ e => zt_deep (Nat.le_of_ble_eq_true rfl) (sfC_kindOf N x8 h9 _ e)) e fun x10 h11 _ e => zx_pf hy rfl e (rfl) fun h12 _ e => zl hy 1 (pc2 := 73) (lv2 := [(0, .ref l0)]) (st2 := [.ref l0]) rfl <| zx_gI hy rfl e fun x13 _ e => zx_c0 hy rfl e (fun _ e => zt_sub (z_fc rfl (z_fn)) <| sfC_readToken_89 N   l0 h12 _ e) (fun _ e => zl hy 2 (pc2 := 81) (lv2 := [(0, .ref l0)]) (st2 := [.ref l0, .ref l0]) rfl <| zx_gI hy rfl e fun x14 _ e => zl hy 2 (pc2 := 86) (lv2 := [(0, .ref l0)]) (st2 := [.int (x14 + (Int32.ofInt 1)), .ref l0]) rfl <| zx_pf hy rfl e (rfl) fun h15 _ e => zt_sub (z_fc rfl (z_fn)) <| sfC_readToken_89 N   l0 h15 _ e)
def fC_readToken_0 (N : Nat) : Nat → Nat → zH → Option (Unit × zH)
  | 0, _, _ => none
  | n + 1, l0, h => b1 (fI h l0 2 6) fun x1 => b1 (fR h l0 2 0) fun x2 => b1 (fI h x2 4 1) fun x3 => cond (z_cmp .ge x1 x3) (fC_readToken_46 N  l0 h) (b1 (fR h l0 2 0) fun x4 => b1 (fI h l0 2 6) fun x5 => b2 (fW_at N x4 x5 h) fun x6 h7 => b2 (fC_kindOf N x6 h7) fun x8 h9 => cond (z_cmp .ne x8 (Int32.ofInt 6)) (fC_readToken_46 N  l0 h9) (b1 (fI h9 l0 2 6) fun x10 => b1 (fS h9 l0 2 6 (.int (x10 + (Int32.ofInt 1)))) fun h11 => fC_readToken_0 N n  l0 h11))
theorem sfC_readToken_0 {xs : List Int32} (N : Nat)   : ∀ (n : Nat) (l0 : Nat) (h : zH) (r : Unit × zH), fC_readToken_0 N n  l0 h = some r → zt xs (3) 25 0 [(0, .ref l0)] [] h 0 0 (zQ cV r) := by
  have hy := mfC_readToken
  intro n
  induction n with
  | zero =>
    intro l0 h r e
    rw [fC_readToken_0] at e
    cases e
  | succ n ih =>
    intro l0 h r e
    rw [fC_readToken_0] at e
    exact zl hy 1 (pc2 := 1) (lv2 := [(0, .ref l0)]) (st2 := [.ref l0]) rfl <| zx_gI hy rfl e fun x1 _ e => zl hy 1 (pc2 := 5) (lv2 := [(0, .ref l0)]) (st2 := [.ref l0, .int x1]) rfl <| zx_gR hy rfl e fun x2 _ e => zx_gI hy rfl e fun x3 _ e => zx_c hy rfl e (fun _ e => zt_sub (z_fc rfl (z_fn)) <| sfC_readToken_46 N   l0 h _ e) (fun _ e => zl hy 1 (pc2 := 15) (lv2 := [(0, .ref l0)]) (st2 := [.ref l0]) rfl <| zx_gR hy rfl e fun x4 _ e => zl hy 1 (pc2 := 19) (lv2 := [(0, .ref l0)]) (st2 := [.ref l0, .ref x4]) rfl <| zx_gI hy rfl e fun x5 _ e => zx_call hy (as := [.ref x4, .int x5]) (rest := []) (ov := (fun v => some (.int v))) (fun _ => rfl) rfl rfl (Or.inl rfl) rfl rfl (Nat.le_of_ble_eq_true rfl) (Nat.le_of_ble_eq_true rfl) (fun _ e _ => z_rcvT (rfW_at N x4 x5 h _ e)) (fun _ e => zt_deep (Nat.le_of_ble_eq_true rfl) (sfW_at N x4 x5 h _ e)) e fun x6 h7 _ e => zx_call hy (as := [.int x6]) (rest := []) (ov := (fun v => some (.int v))) (fun _ => rfl) rfl rfl (Or.inr (Or.inl rfl)) rfl rfl (Nat.le_of_ble_eq_true rfl) (Nat.le_of_ble_eq_true rfl) (fun _ _ hz => absurd rfl hz) (fun _ e => zt_deep (Nat.le_of_ble_eq_true rfl) (sfC_kindOf N x6 h7 _ e)) e fun x8 h9 _ e => zx_bip hy (c := 6) rfl (by decide) <| zx_c hy rfl e (fun _ e => zt_sub (z_fc rfl (z_fn)) <| sfC_readToken_46 N   l0 h9 _ e) (fun _ e => zl hy 2 (pc2 := 35) (lv2 := [(0, .ref l0)]) (st2 := [.ref l0, .ref l0]) rfl <| zx_gI hy rfl e fun x10 _ e => zl hy 2 (pc2 := 40) (lv2 := [(0, .ref l0)]) (st2 := [.int (x10 + (Int32.ofInt 1)), .ref l0]) rfl <| zx_pf hy rfl e (rfl) fun h11 _ e => zl hy 1 (pc2 := 0) (lv2 := [(0, .ref l0)]) (st2 := []) rfl <| zt_sub (z_fc rfl (z_fn)) <| ih l0 h11 _ e))
def fC_readToken (N : Nat) (l0 : Nat) (h : zH) : Option (Unit × zH) := cond (fT h l0 2) (fC_readToken_0 N N  l0 h) none
theorem sfC_readToken {xs : List Int32} (N : Nat) (l0 : Nat) (h : zH) (r : Unit × zH) (e : fC_readToken N l0 h = some r) : zt xs (3) 25 0 [(0, .ref l0)] [] h 0 0 (zQ cV r) := by
  have hy := mfC_readToken
  unfold fC_readToken at e
  replace e := (cond_some e).2
  exact zt_sub (z_fc rfl (z_fn)) <| sfC_readToken_0 N   N l0 h _ e
theorem rfC_readToken (N : Nat) (l0 : Nat) (h : zH) (r : Unit × zH) (e : fC_readToken N l0 h = some r) : fT h l0 2 = true := by
  unfold fC_readToken at e
  exact (cond_some e).1
/-- LyndonBench$Script.fail(I)Z -/
theorem mfC_fail : z_me 24 zc_24 2 [] (some .boolean) := ⟨z_me0 rfl, rfl, rfl, rfl⟩
def fC_fail (N : Nat) (l0 : Nat) (l1 : Int32) (h : zH) : Option (Int32 × zH) := cond (fT h l0 2) (b1 (fS h l0 2 2 (.int l1)) fun h1 => b1 (fI h1 l0 2 5) fun x2 => b1 (fS h1 l0 2 3 (.int x2)) fun h3 => some ((Int32.ofInt 0), h3)) none
theorem sfC_fail {xs : List Int32} (N : Nat) (l0 : Nat) (l1 : Int32) (h : zH) (r : Int32 × zH) (e : fC_fail N l0 l1 h = some r) : zt xs (1) 24 0 [(0, .ref l0), (1, .int l1)] [] h 0 0 (zQ cI r) := by
  have hy := mfC_fail
  unfold fC_fail at e
  replace e := (cond_some e).2
  exact zl hy 2 (pc2 := 2) (lv2 := [(0, .ref l0), (1, .int l1)]) (st2 := [.int l1, .ref l0]) rfl <| zx_pf hy rfl e (rfl) fun h1 _ e => zl hy 2 (pc2 := 7) (lv2 := [(0, .ref l0), (1, .int l1)]) (st2 := [.ref l0, .ref l0]) rfl <| zx_gI hy rfl e fun x2 _ e => zx_pf hy rfl e (rfl) fun h3 _ e => zl hy 1 (pc2 := 14) (lv2 := [(0, .ref l0), (1, .int l1)]) (st2 := [.int (Int32.ofInt 0)]) rfl <| zx_ret hy (v := .int (Int32.ofInt 0)) rfl rfl (by decide) rfl e
theorem rfC_fail (N : Nat) (l0 : Nat) (l1 : Int32) (h : zH) (r : Int32 × zH) (e : fC_fail N l0 l1 h = some r) : fT h l0 2 = true := by
  unfold fC_fail at e
  exact (cond_some e).1
/-- LyndonBench$Script.expectNumber(II)Z -/
theorem mfC_expectNumber : z_me 22 zc_22 3 [] (some .boolean) := ⟨z_me0 rfl, rfl, rfl, rfl⟩
def fC_expectNumber_47 (N : Nat)  (s0 : Int32) (h : zH) : Option (Int32 × zH) := cond (decide (s0 = Int32.ofInt 0) || decide (s0 = Int32.ofInt 1)) (some (s0, h)) none
theorem sfC_expectNumber_47 {xs : List Int32} (N : Nat)   (s0 : Int32) (h : zH) (r : Int32 × zH) (e : fC_expectNumber_47 N  s0 h = some r) : zt xs (4) 22 47 [] [.int s0] h 0 0 (zQ cI r) := by
  have hy := mfC_expectNumber
  unfold fC_expectNumber_47 at e
  exact zx_retB hy rfl rfl e
def fC_expectNumber_42 (N : Nat)   (h : zH) : Option (Int32 × zH) := fC_expectNumber_47 N  (Int32.ofInt 1) h
theorem sfC_expectNumber_42 {xs : List Int32} (N : Nat)    (h : zH) (r : Int32 × zH) (e : fC_expectNumber_42 N   h = some r) : zt xs (4) 22 42 [] [] h 0 0 (zQ cI r) := by
  have hy := mfC_expectNumber
  unfold fC_expectNumber_42 at e
  exact zl hy 2 (pc2 := 47) (lv2 := []) (st2 := [.int (Int32.ofInt 1)]) rfl <| zt_sub (z_fn) <| sfC_expectNumber_47 N   (Int32.ofInt 1) h _ e
def fC_expectNumber_34 (N : Nat)  (l0 : Nat) (h : zH) : Option (Int32 × zH) := b2 (fC_fail N l0 (Int32.ofInt 2) h) fun x5 h6 => cond (z_cmp .eq x5 (Int32.ofInt 0)) (fC_expectNumber_47 N  (Int32.ofInt 0) h6) (fC_expectNumber_42 N   h6)
theorem sfC_expectNumber_34 {xs : List Int32} (N : Nat)   (l0 : Nat) (h : zH) (r : Int32 × zH) (e : fC_expectNumber_34 N  l0 h = some r) : zt xs (4) 22 34 [(0, .ref l0)] [] h 0 0 (zQ cI r) := by
  have hy := mfC_expectNumber
  unfold fC_expectNumber_34 at e
  exact zl hy 2 (pc2 := 36) (lv2 := [(0, .ref l0)]) (st2 := [.int (Int32.ofInt 2), .ref l0]) rfl <| zx_call hy (as := [.ref l0, .int (Int32.ofInt 2)]) (rest := []) (ov := (fun v => some (.int v))) (fun _ => rfl) rfl rfl (Or.inl rfl) rfl rfl (Nat.le_of_ble_eq_true rfl) (Nat.le_of_ble_eq_true rfl) (fun _ e _ => z_rcvT (rfC_fail N l0 (Int32.ofInt 2) h _ e)) (fun _ e => zt_deep (Nat.le_of_ble_eq_true rfl) (sfC_fail N l0 (Int32.ofInt 2) h _ e)) e fun x5 h6 _ e => zx_c0 hy rfl e (fun _ e => zl hy 1 (pc2 := 47) (lv2 := [(0, .ref l0)]) (st2 := [.int (Int32.ofInt 0)]) rfl <| zt_sub (z_fn) <| sfC_expectNumber_47 N   (Int32.ofInt 0) h6 _ e) (fun _ e => zt_sub (z_fn) <| sfC_expectNumber_42 N    h6 _ e)
def fC_expectNumber (N : Nat) (l0 : Nat) (l1 : Int32) (l2 : Int32) (h : zH) : Option (Int32 × zH) := cond (fT h l0 2) (b2 (fC_readToken N l0 h) fun _ h2 => b1 (fI h2 l0 2 4) fun x3 => cond (z_cmp .eq x3 (Int32.ofInt 2)) (b1 (fI h2 l0 2 7) fun x4 => cond (z_cmp .lt x4 l1) (fC_expectNumber_34 N  l0 h2) (b1 (fI h2 l0 2 7) fun x5 => cond (z_cmp .le x5 l2) (fC_expectNumber_42 N   h2) (fC_expectNumber_34 N  l0 h2))) (b2 (fC_fail N l0 (Int32.ofInt 1) h2) fun x6 h7 => cond (decide (x6 = Int32.ofInt 0) || decide (x6 = Int32.ofInt 1)) (some (x6, h7)) none)) none
theorem sfC_expectNumber {xs : List Int32} (N : Nat) (l0 : Nat) (l1 : Int32) (l2 : Int32) (h : zH) (r : Int32 × zH) (e : fC_expectNumber N l0 l1 l2 h = some r) : zt xs (4) 22 0 [(0, .ref l0), (1, .int l1), (2, .int l2)] [] h 0 0 (zQ cI r) := by
  have hy := mfC_expectNumber
  unfold fC_expectNumber at e
  replace e := (cond_some e).2
  exact zl hy 1 (pc2 := 1) (lv2 := [(0, .ref l0), (1, .int l1), (2, .int l2)]) (st2 := [.ref l0]) rfl <| zx_call hy (as := [.ref l0]) (rest := []) (ov := (fun _ => none)) (fun _ => rfl) rfl rfl (Or.inl rfl) rfl rfl (Nat.le_of_ble_eq_true rfl) (Nat.le_of_ble_eq_true rfl) (fun _ e _ => z_rcvT (rfC_readToken N l0 h _ e)) (fun _ e => zt_deep (Nat.le_of_ble_eq_true rfl) (sfC_readToken N l0 h _ e)) e fun _ h2 _ e => zl hy 1 (pc2 := 5) (lv2 := [(0, .ref l0), (1, .int l1), (2, .int l2)]) (st2 := [.ref l0]) rfl <| zx_gI hy rfl e fun x3 _ e => zl hy 1 (pc2 := 9) (lv2 := [(0, .ref l0), (1, .int l1), (2, .int l2)]) (st2 := [.int (Int32.ofInt 2), .int x3]) rfl <| zx_c hy rfl e (fun _ e => zl hy 1 (pc2 := 19) (lv2 := [(0, .ref l0), (1, .int l1), (2, .int l2)]) (st2 := [.ref l0]) rfl <| zx_gI hy rfl e fun x4 _ e => zl hy 1 (pc2 := 23) (lv2 := [(0, .ref l0), (1, .int l1), (2, .int l2)]) (st2 := [.int l1, .int x4]) rfl <| zx_c hy rfl e (fun _ e => zt_sub (z_fc rfl (z_fn)) <| sfC_expectNumber_34 N   l0 h2 _ e) (fun _ e => zl hy 1 (pc2 := 27) (lv2 := [(0, .ref l0), (1, .int l1), (2, .int l2)]) (st2 := [.ref l0]) rfl <| zx_gI hy rfl e fun x5 _ e => zl hy 1 (pc2 := 31) (lv2 := [(0, .ref l0), (1, .int l1), (2, .int l2)]) (st2 := [.int l2, .int x5]) rfl <| zx_c hy rfl e (fun _ e => zt_sub (z_fn) <| sfC_expectNumber_42 N    h2 _ e) (fun _ e => zt_sub (z_fc rfl (z_fn)) <| sfC_expectNumber_34 N   l0 h2 _ e))) (fun _ e => zl hy 2 (pc2 := 14) (lv2 := [(0, .ref l0), (1, .int l1), (2, .int l2)]) (st2 := [.int (Int32.ofInt 1), .ref l0]) rfl <| zx_call hy (as := [.ref l0, .int (Int32.ofInt 1)]) (rest := []) (ov := (fun v => some (.int v))) (fun _ => rfl) rfl rfl (Or.inl rfl) rfl rfl (Nat.le_of_ble_eq_true rfl) (Nat.le_of_ble_eq_true rfl) (fun _ e _ => z_rcvT (rfC_fail N l0 (Int32.ofInt 1) h2 _ e)) (fun _ e => zt_deep (Nat.le_of_ble_eq_true rfl) (sfC_fail N l0 (Int32.ofInt 1) h2 _ e)) e fun x6 h7 _ e => zx_retB hy rfl rfl e)
theorem rfC_expectNumber (N : Nat) (l0 : Nat) (l1 : Int32) (l2 : Int32) (h : zH) (r : Int32 × zH) (e : fC_expectNumber N l0 l1 l2 h = some r) : fT h l0 2 = true := by
  unfold fC_expectNumber at e
  exact (cond_some e).1
/-- LyndonBench$Script.expect(I)Z -/
theorem mfC_expect : z_me 21 zc_21 2 [] (some .boolean) := ⟨z_me0 rfl, rfl, rfl, rfl⟩
def fC_expect_25 (N : Nat)  (s0 : Int32) (h : zH) : Option (Int32 × zH) := cond (decide (s0 = Int32.ofInt 0) || decide (s0 = Int32.ofInt 1)) (some (s0, h)) none
theorem sfC_expect_25 {xs : List Int32} (N : Nat)   (s0 : Int32) (h : zH) (r : Int32 × zH) (e : fC_expect_25 N  s0 h = some r) : zt xs (4) 21 25 [] [.int s0] h 0 0 (zQ cI r) := by
  have hy := mfC_expect
  unfold fC_expect_25 at e
  exact zx_retB hy rfl rfl e
def fC_expect_20 (N : Nat)   (h : zH) : Option (Int32 × zH) := fC_expect_25 N  (Int32.ofInt 1) h
theorem sfC_expect_20 {xs : List Int32} (N : Nat)    (h : zH) (r : Int32 × zH) (e : fC_expect_20 N   h = some r) : zt xs (4) 21 20 [] [] h 0 0 (zQ cI r) := by
  have hy := mfC_expect
  unfold fC_expect_20 at e
  exact zl hy 2 (pc2 := 25) (lv2 := []) (st2 := [.int (Int32.ofInt 1)]) rfl <| zt_sub (z_fn) <| sfC_expect_25 N   (Int32.ofInt 1) h _ e
def fC_expect (N : Nat) (l0 : Nat) (l1 : Int32) (h : zH) : Option (Int32 × zH) := cond (fT h l0 2) (b2 (fC_readToken N l0 h) fun _ h2 => b1 (fI h2 l0 2 4) fun x3 => cond (z_cmp .eq x3 l1) (fC_expect_20 N   h2) (b2 (fC_fail N l0 (Int32.ofInt 1) h2) fun x4 h5 => cond (z_cmp .eq x4 (Int32.ofInt 0)) (fC_expect_25 N  (Int32.ofInt 0) h5) (fC_expect_20 N   h5))) none
theorem sfC_expect {xs : List Int32} (N : Nat) (l0 : Nat) (l1 : Int32) (h : zH) (r : Int32 × zH) (e : fC_expect N l0 l1 h = some r) : zt xs (4) 21 0 [(0, .ref l0), (1, .int l1)] [] h 0 0 (zQ cI r) := by
  have hy := mfC_expect
  unfold fC_expect at e
  replace e := (cond_some e).2
  exact zl hy 1 (pc2 := 1) (lv2 := [(0, .ref l0), (1, .int l1)]) (st2 := [.ref l0]) rfl <| zx_call hy (as := [.ref l0]) (rest := []) (ov := (fun _ => none)) (fun _ => rfl) rfl rfl (Or.inl rfl) rfl rfl (Nat.le_of_ble_eq_true rfl) (Nat.le_of_ble_eq_true rfl) (fun _ e _ => z_rcvT (rfC_readToken N l0 h _ e)) (fun _ e => zt_deep (Nat.le_of_ble_eq_true rfl) (sfC_readToken N l0 h _ e)) e fun _ h2 _ e => zl hy 1 (pc2 := 5) (lv2 := [(0, .ref l0), (1, .int l1)]) (st2 := [.ref l0]) rfl <| zx_gI hy rfl e fun x3 _ e => zl hy 1 (pc2 := 9) (lv2 := [(0, .ref l0), (1, .int l1)]) (st2 := [.int l1, .int x3]) rfl <| zx_c hy rfl e (fun _ e => zt_sub (z_fn) <| sfC_expect_20 N    h2 _ e) (fun _ e => zl hy 2 (pc2 := 14) (lv2 := [(0, .ref l0), (1, .int l1)]) (st2 := [.int (Int32.ofInt 1), .ref l0]) rfl <| zx_call hy (as := [.ref l0, .int (Int32.ofInt 1)]) (rest := []) (ov := (fun v => some (.int v))) (fun _ => rfl) rfl rfl (Or.inl rfl) rfl rfl (Nat.le_of_ble_eq_true rfl) (Nat.le_of_ble_eq_true rfl) (fun _ e _ => z_rcvT (rfC_fail N l0 (Int32.ofInt 1) h2 _ e)) (fun _ e => zt_deep (Nat.le_of_ble_eq_true rfl) (sfC_fail N l0 (Int32.ofInt 1) h2 _ e)) e fun x4 h5 _ e => zx_c0 hy rfl e (fun _ e => zl hy 1 (pc2 := 25) (lv2 := [(0, .ref l0), (1, .int l1)]) (st2 := [.int (Int32.ofInt 0)]) rfl <| zt_sub (z_fn) <| sfC_expect_25 N   (Int32.ofInt 0) h5 _ e) (fun _ e => zt_sub (z_fn) <| sfC_expect_20 N    h5 _ e))
theorem rfC_expect (N : Nat) (l0 : Nat) (l1 : Int32) (h : zH) (r : Int32 × zH) (e : fC_expect N l0 l1 h = some r) : fT h l0 2 = true := by
  unfold fC_expect at e
  exact (cond_some e).1
/-- LyndonBench$State.clear(I)V -/
theorem mfS_clear : z_me 29 zc_29 2 [] none := ⟨z_me0 rfl, rfl, rfl, rfl⟩
def fS_clear (N : Nat) (l0 : Nat) (l1 : Int32) (h : zH) : Option (Unit × zH) := cond (fT h l0 3) (b1 (fS h l0 3 0 (.int l1)) fun h1 => b1 (fR h1 l0 3 1) fun x2 => b2 (fW_clear N x2 h1) fun _ h4 => b1 (fS h4 l0 3 3 (.int (Int32.ofInt 0))) fun h5 => some ((), h5)) none
theorem sfS_clear {xs : List Int32} (N : Nat) (l0 : Nat) (l1 : Int32) (h : zH) (r : Unit × zH) (e : fS_clear N l0 l1 h = some r) : zt xs (2) 29 0 [(0, .ref l0), (1, .int l1)] [] h 0 0 (zQ cV r) := by
  have hy := mfS_clear
  unfold fS_clear at e
  replace e := (cond_some e).2
  exact zl hy 2 (pc2 := 2) (lv2 := [(0, .ref l0), (1, .int l1)]) (st2 := [.int l1, .ref l0]) rfl <| zx_pf hy rfl e (rfl) fun h1 _ e => zl hy 1 (pc2 := 6) (lv2 := [(0, .ref l0), (1, .int l1)]) (st2 := [.ref l0]) rfl <| zx_gR hy rfl e fun x2 _ e => zx_call hy (as := [.ref x2]) (rest := []) (ov := (fun _ => none)) (fun _ => rfl) rfl rfl (Or.inl rfl) rfl rfl (Nat.le_of_ble_eq_true rfl) (Nat.le_of_ble_eq_true rfl) (fun _ e _ => z_rcvT (rfW_clear N x2 h1 _ e)) (fun _ e => zt_deep (Nat.le_of_ble_eq_true rfl) (sfW_clear N x2 h1 _ e)) e fun _ h4 _ e => zl hy 2 (pc2 := 14) (lv2 := [(0, .ref l0), (1, .int l1)]) (st2 := [.int (Int32.ofInt 0), .ref l0]) rfl <| zx_pf hy rfl e (rfl) fun h5 _ e => zx_retV hy rfl rfl e
theorem rfS_clear (N : Nat) (l0 : Nat) (l1 : Int32) (h : zH) (r : Unit × zH) (e : fS_clear N l0 l1 h = some r) : fT h l0 3 = true := by
  unfold fS_clear at e
  exact (cond_some e).1
/-- LyndonBench$Script.runHead()Z -/
theorem mfC_runHead : z_me 7 zc_7 1 [] (some .boolean) := ⟨z_me0 rfl, rfl, rfl, rfl⟩
def fC_runHead_57 (N : Nat)  (l0 : Nat) (h : zH) : Option (Int32 × zH) := b2 (fC_fail N l0 (Int32.ofInt 1) h) fun x9 h10 => cond (decide (x9 = Int32.ofInt 0) || decide (x9 = Int32.ofInt 1)) (some (x9, h10)) none
theorem sfC_runHead_57 {xs : List Int32} (N : Nat)   (l0 : Nat) (h : zH) (r : Int32 × zH) (e : fC_runHead_57 N  l0 h = some r) : zt xs (6) 7 57 [(0, .ref l0)] [] h 0 0 (zQ cI r) := by
  have hy := mfC_runHead
  unfold fC_runHead_57 at e
  exact zl hy 2 (pc2 := 59) (lv2 := [(0, .ref l0)]) (st2 := [.int (Int32.ofInt 1), .ref l0]) rfl <| zx_call hy (as := [.ref l0, .int (Int32.ofInt 1)]) (rest := []) (ov := (fun v => some (.int v))) (fun _ => rfl) rfl rfl (Or.inl rfl) rfl rfl (Nat.le_of_ble_eq_true rfl) (Nat.le_of_ble_eq_true rfl) (fun _ e _ => z_rcvT (rfC_fail N l0 (Int32.ofInt 1) h _ e)) (fun _ e => zt_deep (Nat.le_of_ble_eq_true rfl) (sfC_fail N l0 (Int32.ofInt 1) h _ e)) e fun x9 h10 _ e => zx_retB hy rfl rfl e
def fC_runHead_81 (N : Nat)   (h : zH) : Option (Int32 × zH) := some ((Int32.ofInt 0), h)
theorem sfC_runHead_81 {xs : List Int32} (N : Nat)    (h : zH) (r : Int32 × zH) (e : fC_runHead_81 N   h = some r) : zt xs (6) 7 81 [] [] h 0 0 (zQ cI r) := by
  have hy := mfC_runHead
  unfold fC_runHead_81 at e
  exact zl hy 1 (pc2 := 82) (lv2 := []) (st2 := [.int (Int32.ofInt 0)]) rfl <| zx_ret hy (v := .int (Int32.ofInt 0)) rfl rfl (by decide) rfl e
def fC_runHead (N : Nat) (l0 : Nat) (h : zH) : Option (Int32 × zH) := cond (fT h l0 2) (b1 (fS h l0 2 2 (.int (Int32.ofInt 0))) fun h1 => b1 (fS h1 l0 2 3 (.int (Int32.ofInt (-1)))) fun h2 => b1 (fS h2 l0 2 6 (.int (Int32.ofInt 0))) fun h3 => b1 (fS h3 l0 2 8 (.int (Int32.ofInt 0))) fun h4 => b1 (fS h4 l0 2 9 (.int (Int32.ofInt 0))) fun h5 => b2 (fC_readToken N l0 h5) fun _ h7 => b1 (fI h7 l0 2 4) fun x8 => cond (z_cmp .ne x8 (Int32.ofInt 1)) (fC_runHead_57 N  l0 h7) (b1 (fR h7 l0 2 0) fun x9 => b1 (fI h7 l0 2 5) fun x10 => b1 (fI h7 l0 2 6) fun x11 => b2 (fW_equalsString N x9 x10 x11 1000045 h7) fun x12 h13 => cond (z_cmp .ne x12 (Int32.ofInt 0)) (b2 (fC_expectNumber N l0 (Int32.ofInt 2) (Int32.ofInt 9) h13) fun x14 h15 => cond (z_cmp .eq x14 (Int32.ofInt 0)) (fC_runHead_81 N   h15) (b2 (fC_expect N l0 (Int32.ofInt 5) h15) fun x16 h17 => cond (z_cmp .ne x16 (Int32.ofInt 0)) (b1 (fR h17 l0 2 1) fun x18 => b1 (fI h17 l0 2 7) fun x19 => b2 (fS_clear N x18 x19 h17) fun _ h21 => some ((Int32.ofInt 1), h21)) (fC_runHead_81 N   h17))) (fC_runHead_57 N  l0 h13))) none
theorem sfC_runHead {xs : List Int32} (N : Nat) (l0 : Nat) (h : zH) (r : Int32 × zH) (e : fC_runHead N l0 h = some r) : zt xs (6) 7 0 [(0, .ref l0)] [] h 0 0 (zQ cI r) := by
  have hy := mfC_runHead
  unfold fC_runHead at e
  replace e := (cond_some e).2
  exact zl hy 2 (pc2 := 2) (lv2 := [(0, .ref l0)]) (st2 := [.int (Int32.ofInt 0), .ref l0]) rfl <| zx_pf hy rfl e (rfl) fun h1 _ e => zl hy 2 (pc2 := 7) (lv2 := [(0, .ref l0)]) (st2 := [.int (Int32.ofInt (-1)), .ref l0]) rfl <| zx_pf hy rfl e (rfl) fun h2 _ e => zl hy 2 (pc2 := 12) (lv2 := [(0, .ref l0)]) (st2 := [.int (Int32.ofInt 0), .ref l0]) rfl <| zx_pf hy rfl e (rfl) fun h3 _ e => zl hy 2 (pc2 := 17) (lv2 := [(0, .ref l0)]) (st2 := [.int (Int32.ofInt 0), .ref l0]) rfl <| zx_pf hy rfl e (rfl) fun h4 _ e => zl hy 2 (pc2 := 22) (lv2 := [(0, .ref l0)]) (st2 := [.int (Int32.ofInt 0), .ref l0]) rfl <| zx_pf hy rfl e (rfl) fun h5 _ e => zl hy 1 (pc2 := 26) (lv2 := [(0, .ref l0)]) (st2 := [.ref l0]) rfl <| zx_call hy (as := [.ref l0]) (rest := []) (ov := (fun _ => none)) (fun _ => rfl) rfl rfl (Or.inl rfl) rfl rfl (Nat.le_of_ble_eq_true rfl) (Nat.le_of_ble_eq_true rfl) (fun _ e _ => z_rcvT (rfC_readToken N l0 h5 _ e)) (fun _ e => zt_deep (Nat.le_of_ble_eq_true rfl) (sfC_readToken N l0 h5 _ e)) e fun _ h7 _ e => zl hy 1 (pc2 := 30) (lv2 := [(0, .ref l0)]) (st2 := [.ref l0]) rfl <| zx_gI hy rfl e fun x8 _ e => zl hy 1 (pc2 := 34) (lv2 := [(0, .ref l0)]) (st2 := [.int (Int32.ofInt 1), .int x8]) rfl <| zx_c hy rfl e (fun _ e => zt_sub (z_fc rfl (z_fn)) <| sfC_runHead_57 N   l0 h7 _ e) (fun _ e => zl hy 1 (pc2 := 38) (lv2 := [(0, .ref l0)]) (st2 := [.ref l0]) rfl <| zx_gR hy rfl e fun x9 _ e => zl hy 1 (pc2 := 42) (lv2 := [(0, .ref l0)]) (st2 := [.ref l0, .ref x9]) rfl <| zx_gI hy rfl e fun x10 _ e => zl hy 1 (pc2 := 46) (lv2 := [(0, .ref l0)]) (st2 := [.ref l0, .int x10, .ref x9]) rfl <| zx_gI hy rfl e fun x11 _ e => zx_ldcS hy (q := 1000045) rfl rfl rfl <| zx_call hy (as := [.ref x9, .int x10, .int x11, .ref 1000045]) (rest := []) (ov := (fun v => some (.int v))) (fun _ => rfl) rfl rfl (Or.inl rfl) rfl rfl (Nat.le_of_ble_eq_true rfl) (Nat.le_of_ble_eq_true rfl) (fun _ e _ => z_rcvT (rfW_equalsString N x9 x10 x11 1000045 h7 _ e)) (fun _ e => zt_deep (Nat.le_of_ble_eq_true rfl) (sfW_equalsString N x9 x10 x11 1000045 h7 _ e)) e fun x12 h13 _ e => zx_c0 hy rfl e (fun _ e => zl hy 2 (pc2 := 65) (lv2 := [(0, .ref l0)]) (st2 := [.int (Int32.ofInt 2), .ref l0]) rfl <| zx_bip hy (c := 9) rfl (by decide) <| zx_call hy (as := [.ref l0, .int (Int32.ofInt 2), .int (Int32.ofInt 9)]) (rest := []) (ov := (fun v => some (.int v))) (fun _ => rfl) rfl rfl (Or.inl rfl) rfl rfl (Nat.le_of_ble_eq_true rfl) (Nat.le_of_ble_eq_true rfl) (fun _ e _ => z_rcvT (rfC_expectNumber N l0 (Int32.ofInt 2) (Int32.ofInt 9) h13 _ e)) (fun _ e => zt_deep (Nat.le_of_ble_eq_true rfl) (sfC_expectNumber N l0 (Int32.ofInt 2) (Int32.ofInt 9) h13 _ e)) e fun x14 h15 _ e => zx_c0 hy rfl e (fun _ e => zt_sub (z_fn) <| sfC_runHead_81 N    h15 _ e) (fun _ e => zl hy 2 (pc2 := 75) (lv2 := [(0, .ref l0)]) (st2 := [.int (Int32.ofInt 5), .ref l0]) rfl <| zx_call hy (as := [.ref l0, .int (Int32.ofInt 5)]) (rest := []) (ov := (fun v => some (.int v))) (fun _ => rfl) rfl rfl (Or.inl rfl) rfl rfl (Nat.le_of_ble_eq_true rfl) (Nat.le_of_ble_eq_true rfl) (fun _ e _ => z_rcvT (rfC_expect N l0 (Int32.ofInt 5) h15 _ e)) (fun _ e => zt_deep (Nat.le_of_ble_eq_true rfl) (sfC_expect N l0 (Int32.ofInt 5) h15 _ e)) e fun x16 h17 _ e => zx_c0 hy rfl e (fun _ e => zl hy 1 (pc2 := 84) (lv2 := [(0, .ref l0)]) (st2 := [.ref l0]) rfl <| zx_gR hy rfl e fun x18 _ e => zl hy 1 (pc2 := 88) (lv2 := [(0, .ref l0)]) (st2 := [.ref l0, .ref x18]) rfl <| zx_gI hy rfl e fun x19 _ e => zx_call hy (as := [.ref x18, .int x19]) (rest := []) (ov := (fun _ => none)) (fun _ => rfl) rfl rfl (Or.inl rfl) rfl rfl (Nat.le_of_ble_eq_true rfl) (Nat.le_of_ble_eq_true rfl) (fun _ e _ => z_rcvT (rfS_clear N x18 x19 h17 _ e)) (fun _ e => zt_deep (Nat.le_of_ble_eq_true rfl) (sfS_clear N x18 x19 h17 _ e)) e fun _ h21 _ e => zl hy 1 (pc2 := 95) (lv2 := [(0, .ref l0)]) (st2 := [.int (Int32.ofInt 1)]) rfl <| zx_ret hy (v := .int (Int32.ofInt 1)) rfl rfl (by decide) rfl e) (fun _ e => zt_sub (z_fn) <| sfC_runHead_81 N    h17 _ e))) (fun _ e => zt_sub (z_fc rfl (z_fn)) <| sfC_runHead_57 N   l0 h13 _ e))
theorem rfC_runHead (N : Nat) (l0 : Nat) (h : zH) (r : Int32 × zH) (e : fC_runHead N l0 h = some r) : fT h l0 2 = true := by
  unfold fC_runHead at e
  exact (cond_some e).1
/-- LyndonBench$Script.endRound()Z -/
theorem mfC_endRound : z_me 10 zc_10 2 [] (some .boolean) := ⟨z_me0 rfl, rfl, rfl, rfl⟩
def fC_endRound_29 (N : Nat)  (l0 : Nat) (h : zH) : Option (Int32 × zH) := b2 (fC_fail N l0 (Int32.ofInt 1) h) fun x2 h3 => cond (decide (x2 = Int32.ofInt 0) || decide (x2 = Int32.ofInt 1)) (some (x2, h3)) none
theorem sfC_endRound_29 {xs : List Int32} (N : Nat)   (l0 : Nat) (h : zH) (r : Int32 × zH) (e : fC_endRound_29 N  l0 h = some r) : zt xs (5) 10 29 [(0, .ref l0)] [] h 0 0 (zQ cI r) := by
  have hy := mfC_endRound
  unfold fC_endRound_29 at e
  exact zl hy 2 (pc2 := 31) (lv2 := [(0, .ref l0)]) (st2 := [.int (Int32.ofInt 1), .ref l0]) rfl <| zx_call hy (as := [.ref l0, .int (Int32.ofInt 1)]) (rest := []) (ov := (fun v => some (.int v))) (fun _ => rfl) rfl rfl (Or.inl rfl) rfl rfl (Nat.le_of_ble_eq_true rfl) (Nat.le_of_ble_eq_true rfl) (fun _ e _ => z_rcvT (rfC_fail N l0 (Int32.ofInt 1) h _ e)) (fun _ e => zt_deep (Nat.le_of_ble_eq_true rfl) (sfC_fail N l0 (Int32.ofInt 1) h _ e)) e fun x2 h3 _ e => zx_retB hy rfl rfl e
def fC_endRound (N : Nat) (l0 : Nat) (h : zH) : Option (Int32 × zH) := cond (fT h l0 2) (b1 (fI h l0 2 9) fun x1 => cond (z_cmp .lt (x1 - (Int32.ofInt 1)) (Int32.ofInt 0)) (fC_endRound_29 N  l0 h) (b1 (fR h l0 2 10) fun x2 => b1 (fN h x2 100) fun x3 => cond (z_cmp .ge (x1 - (Int32.ofInt 1)) x3) (fC_endRound_29 N  l0 h) (b1 (fR h l0 2 11) fun x4 => b1 (fN h x4 100) fun x5 => cond (z_cmp .lt (x1 - (Int32.ofInt 1)) x5) (b1 (fR h l0 2 11) fun x6 => b1 (fAI h x6 100 (x1 - (Int32.ofInt 1))) fun x7 => b1 (fAS h x6 100 (x1 - (Int32.ofInt 1)) (.int (x7 - (Int32.ofInt 1)))) fun h8 => b1 (fR h8 l0 2 11) fun x9 => b1 (fAI h8 x9 100 (x1 - (Int32.ofInt 1))) fun x10 => cond (z_cmp .le x10 (Int32.ofInt 0)) (b1 (fS h8 l0 2 9 (.int (x1 - (Int32.ofInt 1)))) fun h11 => b2 (fC_expect N l0 (Int32.ofInt 5) h11) fun x12 h13 => cond (decide (x12 = Int32.ofInt 0) || decide (x12 = Int32.ofInt 1)) (some (x12, h13)) none) (b1 (fR h8 l0 2 10) fun x14 => b1 (fAI h8 x14 100 (x1 - (Int32.ofInt 1))) fun x15 => b1 (fS h8 l0 2 6 (.int x15)) fun h16 => some ((Int32.ofInt 1), h16))) (fC_endRound_29 N  l0 h)))) none
theorem sfC_endRound {xs : List Int32} (N : Nat) (l0 : Nat) (h : zH) (r : Int32 × zH) (e : fC_endRound N l0 h = some r) : zt xs (5) 10 0 [(0, .ref l0)] [] h 0 0 (zQ cI r) := by
  have hy := mfC_endRound
  unfold fC_endRound at e
  replace e := (cond_some e).2
  exact zl hy 1 (pc2 := 1) (lv2 := [(0, .ref l0)]) (st2 := [.ref l0]) rfl <| zx_gI hy rfl e fun x1 _ e => zl hy 4 (pc2 := 8) (lv2 := [(1, .int (x1 - (Int32.ofInt 1))), (0, .ref l0)]) (st2 := [.int (x1 - (Int32.ofInt 1))]) rfl <| zx_c0 hy rfl e (fun _ e => zt_sub (z_fc rfl (z_fn)) <| sfC_endRound_29 N   l0 h _ e) (fun _ e => zl hy 2 (pc2 := 13) (lv2 := [(1, .int (x1 - (Int32.ofInt 1))), (0, .ref l0)]) (st2 := [.ref l0, .int (x1 - (Int32.ofInt 1))]) rfl <| zx_gR hy rfl e fun x2 _ e => zx_len hy (Nat.le_of_ble_eq_true rfl) rfl e fun x3 _ e => zx_c hy rfl e (fun _ e => zt_sub (z_fc rfl (z_fn)) <| sfC_endRound_29 N   l0 h _ e) (fun _ e => zl hy 2 (pc2 := 22) (lv2 := [(1, .int (x1 - (Int32.ofInt 1))), (0, .ref l0)]) (st2 := [.ref l0, .int (x1 - (Int32.ofInt 1))]) rfl <| zx_gR hy rfl e fun x4 _ e => zx_len hy (Nat.le_of_ble_eq_true rfl) rfl e fun x5 _ e => zx_c hy rfl e (fun _ e => zl hy 1 (pc2 := 36) (lv2 := [(1, .int (x1 - (Int32.ofInt 1))), (0, .ref l0)]) (st2 := [.ref l0]) rfl <| zx_gR hy rfl e fun x6 _ e => zl hy 2 (pc2 := 41) (lv2 := [(1, .int (x1 - (Int32.ofInt 1))), (0, .ref l0)]) (st2 := [.int (x1 - (Int32.ofInt 1)), .ref x6, .int (x1 - (Int32.ofInt 1)), .ref x6]) rfl <| zx_aI hy (j := .iaload) (Or.inl ⟨rfl, rfl⟩) rfl e fun x7 _ e => zl hy 2 (pc2 := 44) (lv2 := [(1, .int (x1 - (Int32.ofInt 1))), (0, .ref l0)]) (st2 := [.int (x7 - (Int32.ofInt 1)), .int (x1 - (Int32.ofInt 1)), .ref x6]) rfl <| zx_sI hy (j := .iastore) (Or.inl ⟨rfl, rfl, rfl⟩) rfl e fun h8 _ e => zl hy 1 (pc2 := 46) (lv2 := [(1, .int (x1 - (Int32.ofInt 1))), (0, .ref l0)]) (st2 := [.ref l0]) rfl <| zx_gR hy rfl e fun x9 _ e => zl hy 1 (pc2 := 50) (lv2 := [(1, .int (x1 - (Int32.ofInt 1))), (0, .ref l0)]) (st2 := [.int (x1 - (Int32.ofInt 1)), .ref x9]) rfl <| zx_aI hy (j := .iaload) (Or.inl ⟨rfl, rfl⟩) rfl e fun x10 _ e => zx_c0 hy rfl e (fun _ e => zl hy 2 (pc2 := 68) (lv2 := [(1, .int (x1 - (Int32.ofInt 1))), (0, .ref l0)]) (st2 := [.int (x1 - (Int32.ofInt 1)), .ref l0]) rfl <| zx_pf hy rfl e (rfl) fun h11 _ e => zl hy 2 (pc2 := 73) (lv2 := [(1, .int (x1 - (Int32.ofInt 1))), (0, .ref l0)]) (st2 := [.int (Int32.ofInt 5), .ref l0]) rfl <| zx_call hy (as := [.ref l0, .int (Int32.ofInt 5)]) (rest := []) (ov := (fun v => some (.int v))) (fun _ => rfl) rfl rfl (Or.inl rfl) rfl rfl (Nat.le_of_ble_eq_true rfl) (Nat.le_of_ble_eq_true rfl) (fun _ e _ => z_rcvT (rfC_expect N l0 (Int32.ofInt 5) h11 _ e)) (fun _ e => zt_deep (Nat.le_of_ble_eq_true rfl) (sfC_expect N l0 (Int32.ofInt 5) h11 _ e)) e fun x12 h13 _ e => zx_retB hy rfl rfl e) (fun _ e => zl hy 2 (pc2 := 56) (lv2 := [(1, .int (x1 - (Int32.ofInt 1))), (0, .ref l0)]) (st2 := [.ref l0, .ref l0]) rfl <| zx_gR hy rfl e fun x14 _ e => zl hy 1 (pc2 := 60) (lv2 := [(1, .int (x1 - (Int32.ofInt 1))), (0, .ref l0)]) (st2 := [.int (x1 - (Int32.ofInt 1)), .ref x14, .ref l0]) rfl <| zx_aI hy (j := .iaload) (Or.inl ⟨rfl, rfl⟩) rfl e fun x15 _ e => zx_pf hy rfl e (rfl) fun h16 _ e => zl hy 1 (pc2 := 65) (lv2 := [(1, .int (x1 - (Int32.ofInt 1))), (0, .ref l0)]) (st2 := [.int (Int32.ofInt 1)]) rfl <| zx_ret hy (v := .int (Int32.ofInt 1)) rfl rfl (by decide) rfl e)) (fun _ e => zt_sub (z_fc rfl (z_fn)) <| sfC_endRound_29 N   l0 h _ e)))
theorem rfC_endRound (N : Nat) (l0 : Nat) (h : zH) (r : Int32 × zH) (e : fC_endRound N l0 h = some r) : fT h l0 2 = true := by
  unfold fC_endRound at e
  exact (cond_some e).1
/-- LyndonBench$Script.openRepeat()Z -/
theorem mfC_openRepeat : z_me 9 zc_9 1 [] (some .boolean) := ⟨z_me0 rfl, rfl, rfl, rfl⟩
def fC_openRepeat_31 (N : Nat)  (l0 : Nat) (h : zH) : Option (Int32 × zH) := b2 (fC_fail N l0 (Int32.ofInt 4) h) fun x2 h3 => cond (decide (x2 = Int32.ofInt 0) || decide (x2 = Int32.ofInt 1)) (some (x2, h3)) none
theorem sfC_openRepeat_31 {xs : List Int32} (N : Nat)   (l0 : Nat) (h : zH) (r : Int32 × zH) (e : fC_openRepeat_31 N  l0 h = some r) : zt xs (5) 9 31 [(0, .ref l0)] [] h 0 0 (zQ cI r) := by
  have hy := mfC_openRepeat
  unfold fC_openRepeat_31 at e
  exact zl hy 2 (pc2 := 33) (lv2 := [(0, .ref l0)]) (st2 := [.int (Int32.ofInt 4), .ref l0]) rfl <| zx_call hy (as := [.ref l0, .int (Int32.ofInt 4)]) (rest := []) (ov := (fun v => some (.int v))) (fun _ => rfl) rfl rfl (Or.inl rfl) rfl rfl (Nat.le_of_ble_eq_true rfl) (Nat.le_of_ble_eq_true rfl) (fun _ e _ => z_rcvT (rfC_fail N l0 (Int32.ofInt 4) h _ e)) (fun _ e => zt_deep (Nat.le_of_ble_eq_true rfl) (sfC_fail N l0 (Int32.ofInt 4) h _ e)) e fun x2 h3 _ e => zx_retB hy rfl rfl e
def fC_openRepeat_55 (N : Nat)   (h : zH) : Option (Int32 × zH) := some ((Int32.ofInt 0), h)
theorem sfC_openRepeat_55 {xs : List Int32} (N : Nat)    (h : zH) (r : Int32 × zH) (e : fC_openRepeat_55 N   h = some r) : zt xs (5) 9 55 [] [] h 0 0 (zQ cI r) := by
  have hy := mfC_openRepeat
  unfold fC_openRepeat_55 at e
  exact zl hy 1 (pc2 := 56) (lv2 := []) (st2 := [.int (Int32.ofInt 0)]) rfl <| zx_ret hy (v := .int (Int32.ofInt 0)) rfl rfl (by decide) rfl e
def fC_openRepeat (N : Nat) (l0 : Nat) (h : zH) : Option (Int32 × zH) := cond (fT h l0 2) (b1 (fI h l0 2 9) fun x1 => cond (z_cmp .lt x1 (Int32.ofInt 0)) (fC_openRepeat_31 N  l0 h) (b1 (fI h l0 2 9) fun x2 => b1 (fR h l0 2 10) fun x3 => b1 (fN h x3 100) fun x4 => cond (z_cmp .ge x2 x4) (fC_openRepeat_31 N  l0 h) (b1 (fI h l0 2 9) fun x5 => b1 (fR h l0 2 11) fun x6 => b1 (fN h x6 100) fun x7 => cond (z_cmp .lt x5 x7) (b2 (fC_expectNumber N l0 (Int32.ofInt 1) (Int32.ofInt 20) h) fun x8 h9 => cond (z_cmp .eq x8 (Int32.ofInt 0)) (fC_openRepeat_55 N   h9) (b2 (fC_expect N l0 (Int32.ofInt 3) h9) fun x10 h11 => cond (z_cmp .ne x10 (Int32.ofInt 0)) (b1 (fR h11 l0 2 10) fun x12 => b1 (fI h11 l0 2 9) fun x13 => b1 (fI h11 l0 2 6) fun x14 => b1 (fAS h11 x12 100 x13 (.int x14)) fun h15 => b1 (fR h15 l0 2 11) fun x16 => b1 (fI h15 l0 2 9) fun x17 => b1 (fI h15 l0 2 7) fun x18 => b1 (fAS h15 x16 100 x17 (.int x18)) fun h19 => b1 (fI h19 l0 2 9) fun x20 => b1 (fS h19 l0 2 9 (.int (x20 + (Int32.ofInt 1)))) fun h21 => some ((Int32.ofInt 1), h21)) (fC_openRepeat_55 N   h11))) (fC_openRepeat_31 N  l0 h)))) none
theorem sfC_openRepeat {xs : List Int32} (N : Nat) (l0 : Nat) (h : zH) (r : Int32 × zH) (e : fC_openRepeat N l0 h = some r) : zt xs (5) 9 0 [(0, .ref l0)] [] h 0 0 (zQ cI r) := by
  have hy := mfC_openRepeat
  unfold fC_openRepeat at e
  replace e := (cond_some e).2
  exact zl hy 1 (pc2 := 1) (lv2 := [(0, .ref l0)]) (st2 := [.ref l0]) rfl <| zx_gI hy rfl e fun x1 _ e => zx_c0 hy rfl e (fun _ e => zt_sub (z_fc rfl (z_fn)) <| sfC_openRepeat_31 N   l0 h _ e) (fun _ e => zl hy 1 (pc2 := 8) (lv2 := [(0, .ref l0)]) (st2 := [.ref l0]) rfl <| zx_gI hy rfl e fun x2 _ e => zl hy 1 (pc2 := 12) (lv2 := [(0, .ref l0)]) (st2 := [.ref l0, .int x2]) rfl <| zx_gR hy rfl e fun x3 _ e => zx_len hy (Nat.le_of_ble_eq_true rfl) rfl e fun x4 _ e => zx_c hy rfl e (fun _ e => zt_sub (z_fc rfl (z_fn)) <| sfC_openRepeat_31 N   l0 h _ e) (fun _ e => zl hy 1 (pc2 := 20) (lv2 := [(0, .ref l0)]) (st2 := [.ref l0]) rfl <| zx_gI hy rfl e fun x5 _ e => zl hy 1 (pc2 := 24) (lv2 := [(0, .ref l0)]) (st2 := [.ref l0, .int x5]) rfl <| zx_gR hy rfl e fun x6 _ e => zx_len hy (Nat.le_of_ble_eq_true rfl) rfl e fun x7 _ e => zx_c hy rfl e (fun _ e => zl hy 2 (pc2 := 39) (lv2 := [(0, .ref l0)]) (st2 := [.int (Int32.ofInt 1), .ref l0]) rfl <| zx_bip hy (c := 20) rfl (by decide) <| zx_call hy (as := [.ref l0, .int (Int32.ofInt 1), .int (Int32.ofInt 20)]) (rest := []) (ov := (fun v => some (.int v))) (fun _ => rfl) rfl rfl (Or.inl rfl) rfl rfl (Nat.le_of_ble_eq_true rfl) (Nat.le_of_ble_eq_true rfl) (fun _ e _ => z_rcvT (rfC_expectNumber N l0 (Int32.ofInt 1) (Int32.ofInt 20) h _ e)) (fun _ e => zt_deep (Nat.le_of_ble_eq_true rfl) (sfC_expectNumber N l0 (Int32.ofInt 1) (Int32.ofInt 20) h _ e)) e fun x8 h9 _ e => zx_c0 hy rfl e (fun _ e => zt_sub (z_fn) <| sfC_openRepeat_55 N    h9 _ e) (fun _ e => zl hy 2 (pc2 := 49) (lv2 := [(0, .ref l0)]) (st2 := [.int (Int32.ofInt 3), .ref l0]) rfl <| zx_call hy (as := [.ref l0, .int (Int32.ofInt 3)]) (rest := []) (ov := (fun v => some (.int v))) (fun _ => rfl) rfl rfl (Or.inl rfl) rfl rfl (Nat.le_of_ble_eq_true rfl) (Nat.le_of_ble_eq_true rfl) (fun _ e _ => z_rcvT (rfC_expect N l0 (Int32.ofInt 3) h9 _ e)) (fun _ e => zt_deep (Nat.le_of_ble_eq_true rfl) (sfC_expect N l0 (Int32.ofInt 3) h9 _ e)) e fun x10 h11 _ e => zx_c0 hy rfl e (fun _ e => zl hy 1 (pc2 := 58) (lv2 := [(0, .ref l0)]) (st2 := [.ref l0]) rfl <| zx_gR hy rfl e fun x12 _ e => zl hy 1 (pc2 := 62) (lv2 := [(0, .ref l0)]) (st2 := [.ref l0, .ref x12]) rfl <| zx_gI hy rfl e fun x13 _ e => zl hy 1 (pc2 := 66) (lv2 := [(0, .ref l0)]) (st2 := [.ref l0, .int x13, .ref x12]) rfl <| zx_gI hy rfl e fun x14 _ e => zx_sI hy (j := .iastore) (Or.inl ⟨rfl, rfl, rfl⟩) rfl e fun h15 _ e => zl hy 1 (pc2 := 71) (lv2 := [(0, .ref l0)]) (st2 := [.ref l0]) rfl <| zx_gR hy rfl e fun x16 _ e => zl hy 1 (pc2 := 75) (lv2 := [(0, .ref l0)]) (st2 := [.ref l0, .ref x16]) rfl <| zx_gI hy rfl e fun x17 _ e => zl hy 1 (pc2 := 79) (lv2 := [(0, .ref l0)]) (st2 := [.ref l0, .int x17, .ref x16]) rfl <| zx_gI hy rfl e fun x18 _ e => zx_sI hy (j := .iastore) (Or.inl ⟨rfl, rfl, rfl⟩) rfl e fun h19 _ e => zl hy 2 (pc2 := 85) (lv2 := [(0, .ref l0)]) (st2 := [.ref l0, .ref l0]) rfl <| zx_gI hy rfl e fun x20 _ e => zl hy 2 (pc2 := 90) (lv2 := [(0, .ref l0)]) (st2 := [.int (x20 + (Int32.ofInt 1)), .ref l0]) rfl <| zx_pf hy rfl e (rfl) fun h21 _ e => zl hy 1 (pc2 := 94) (lv2 := [(0, .ref l0)]) (st2 := [.int (Int32.ofInt 1)]) rfl <| zx_ret hy (v := .int (Int32.ofInt 1)) rfl rfl (by decide) rfl e) (fun _ e => zt_sub (z_fn) <| sfC_openRepeat_55 N    h11 _ e))) (fun _ e => zt_sub (z_fc rfl (z_fn)) <| sfC_openRepeat_31 N   l0 h _ e)))
theorem rfC_openRepeat (N : Nat) (l0 : Nat) (h : zH) (r : Int32 × zH) (e : fC_openRepeat N l0 h = some r) : fT h l0 2 = true := by
  unfold fC_openRepeat at e
  exact (cond_some e).1
