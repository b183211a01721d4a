/-! F functions, by program. -/
/-- java/lang/Enum.ordinal()I -/
theorem mfJ_ordinal : z_me 294 zc_294 1 [] (some .int) := ⟨z_me0 rfl, rfl, rfl, rfl⟩
def fJ_ordinal (N : Nat) (l0 : Nat) (h : zH) : Option (Int32 × zH) := cond (fT h l0 51) (b1 (fI h l0 51 1) fun x1 => some (x1, h)) none
theorem sfJ_ordinal {xs : List Int32} (N : Nat) (l0 : Nat) (h : zH) (r : Int32 × zH) (e : fJ_ordinal N l0 h = some r) : zt xs (1) 294 0 [(0, .ref l0)] [] h 0 0 (zQ cI r) := by
  have hy := mfJ_ordinal
  unfold fJ_ordinal at e
  replace e := (cond_some e).2
  exact zl hy 1 (pc2 := 1) (lv2 := [(0, .ref l0)]) (st2 := [.ref l0]) rfl <| zx_gI hy rfl e fun x1 _ e => zx_ret hy rfl rfl rfl rfl e
theorem rfJ_ordinal (N : Nat) (l0 : Nat) (h : zH) (r : Int32 × zH) (e : fJ_ordinal N l0 h = some r) : fT h l0 51 = true := by
  unfold fJ_ordinal at e
  exact (cond_some e).1
/-- LyndonBench$State.isLetter(I)Z -/
theorem mfS_isLetter : z_me 31 zc_31 2 [] (some .boolean) := ⟨z_me0 rfl, rfl, rfl, rfl⟩
def fS_isLetter_22 (N : Nat)  (s0 : Int32) (h : zH) : Option (Int32 × zH) := cond (decide (s0 = Int32.ofInt 0) || decide (s0 = Int32.ofInt 1)) (some (s0, h)) none
theorem sfS_isLetter_22 {xs : List Int32} (N : Nat)   (s0 : Int32) (h : zH) (r : Int32 × zH) (e : fS_isLetter_22 N  s0 h = some r) : zt xs (1) 31 22 [] [.int s0] h 0 0 (zQ cI r) := by
  have hy := mfS_isLetter
  unfold fS_isLetter_22 at e
  exact zx_retB hy rfl rfl e
def fS_isLetter_21 (N : Nat)   (h : zH) : Option (Int32 × zH) := fS_isLetter_22 N  (Int32.ofInt 0) h
theorem sfS_isLetter_21 {xs : List Int32} (N : Nat)    (h : zH) (r : Int32 × zH) (e : fS_isLetter_21 N   h = some r) : zt xs (1) 31 21 [] [] h 0 0 (zQ cI r) := by
  have hy := mfS_isLetter
  unfold fS_isLetter_21 at e
  exact zl hy 1 (pc2 := 22) (lv2 := []) (st2 := [.int (Int32.ofInt 0)]) rfl <| zt_sub (z_fn) <| sfS_isLetter_22 N   (Int32.ofInt 0) h _ e
def fS_isLetter (N : Nat) (l0 : Nat) (l1 : Int32) (h : zH) : Option (Int32 × zH) := cond (fT h l0 3) (cond (z_cmp .lt l1 (Int32.ofInt 97)) (fS_isLetter_21 N   h) (b1 (fI h l0 3 0) fun x1 => cond (z_cmp .ge l1 ((Int32.ofInt 97) + x1)) (fS_isLetter_21 N   h) (fS_isLetter_22 N  (Int32.ofInt 1) h))) none
theorem sfS_isLetter {xs : List Int32} (N : Nat) (l0 : Nat) (l1 : Int32) (h : zH) (r : Int32 × zH) (e : fS_isLetter N l0 l1 h = some r) : zt xs (1) 31 0 [(0, .ref l0), (1, .int l1)] [] h 0 0 (zQ cI r) := by
  have hy := mfS_isLetter
  unfold fS_isLetter at e
  replace e := (cond_some e).2
  exact zl hy 1 (pc2 := 1) (lv2 := [(0, .ref l0), (1, .int l1)]) (st2 := [.int l1]) rfl <| zx_bip hy (c := 97) rfl (by decide) <| zx_c hy rfl e (fun _ e => zt_sub (z_fn) <| sfS_isLetter_21 N    h _ e) (fun _ e => zl hy 1 (pc2 := 7) (lv2 := [(0, .ref l0), (1, .int l1)]) (st2 := [.int l1]) rfl <| zx_bip hy (c := 97) rfl (by decide) <| zl hy 1 (pc2 := 10) (lv2 := [(0, .ref l0), (1, .int l1)]) (st2 := [.ref l0, .int (Int32.ofInt 97), .int l1]) rfl <| zx_gI hy rfl e fun x1 _ e => zl hy 1 (pc2 := 14) (lv2 := [(0, .ref l0), (1, .int l1)]) (st2 := [.int ((Int32.ofInt 97) + x1), .int l1]) rfl <| zx_c hy rfl e (fun _ e => zt_sub (z_fn) <| sfS_isLetter_21 N    h _ e) (fun _ e => zl hy 2 (pc2 := 22) (lv2 := [(0, .ref l0), (1, .int l1)]) (st2 := [.int (Int32.ofInt 1)]) rfl <| zt_sub (z_fn) <| sfS_isLetter_22 N   (Int32.ofInt 1) h _ e))
theorem rfS_isLetter (N : Nat) (l0 : Nat) (l1 : Int32) (h : zH) (r : Int32 × zH) (e : fS_isLetter N l0 l1 h = some r) : fT h l0 3 = true := by
  unfold fS_isLetter at e
  exact (cond_some e).1
/-- LyndonBench$Script.expectEnd(Z)Z -/
theorem mfC_expectEnd : z_me 23 zc_23 2 [] (some .boolean) := ⟨z_me0 rfl, rfl, rfl, rfl⟩
def fC_expectEnd_35 (N : Nat)  (s0 : Int32) (h : zH) : Option (Int32 × zH) := cond (decide (s0 = Int32.ofInt 0) || decide (s0 = Int32.ofInt 1)) (some (s0, h)) none
theorem sfC_expectEnd_35 {xs : List Int32} (N : Nat)   (s0 : Int32) (h : zH) (r : Int32 × zH) (e : fC_expectEnd_35 N  s0 h = some r) : zt xs (4) 23 35 [] [.int s0] h 0 0 (zQ cI r) := by
  have hy := mfC_expectEnd
  unfold fC_expectEnd_35 at e
  exact zx_retB hy rfl rfl e
def fC_expectEnd_30 (N : Nat)   (h : zH) : Option (Int32 × zH) := fC_expectEnd_35 N  (Int32.ofInt 1) h
theorem sfC_expectEnd_30 {xs : List Int32} (N : Nat)    (h : zH) (r : Int32 × zH) (e : fC_expectEnd_30 N   h = some r) : zt xs (4) 23 30 [] [] h 0 0 (zQ cI r) := by
  have hy := mfC_expectEnd
  unfold fC_expectEnd_30 at e
  exact zl hy 2 (pc2 := 35) (lv2 := []) (st2 := [.int (Int32.ofInt 1)]) rfl <| zt_sub (z_fn) <| sfC_expectEnd_35 N   (Int32.ofInt 1) h _ e
def fC_expectEnd (N : Nat) (l0 : Nat) (l1 : Int32) (h : zH) : Option (Int32 × zH) := cond (fT h l0 2) (b2 (fC_readToken N l0 h) fun _ h2 => b1 (fI h2 l0 2 4) fun x3 => cond (z_cmp .eq x3 (Int32.ofInt 5)) (cond (z_cmp .ne l1 (Int32.ofInt 0)) (fC_expectEnd_30 N   h2) (b2 (fC_fail N l0 (Int32.ofInt 3) h2) fun x4 h5 => cond (z_cmp .eq x4 (Int32.ofInt 0)) (fC_expectEnd_35 N  (Int32.ofInt 0) h5) (fC_expectEnd_30 N   h5))) (b2 (fC_fail N l0 (Int32.ofInt 1) h2) fun x6 h7 => cond (decide (x6 = Int32.ofInt 0) || decide (x6 = Int32.ofInt 1)) (some (x6, h7)) none)) none
theorem sfC_expectEnd {xs : List Int32} (N : Nat) (l0 : Nat) (l1 : Int32) (h : zH) (r : Int32 × zH) (e : fC_expectEnd N l0 l1 h = some r) : zt xs (4) 23 0 [(0, .ref l0), (1, .int l1)] [] h 0 0 (zQ cI r) := by
  have hy := mfC_expectEnd
  unfold fC_expectEnd at e
  replace e := (cond_some e).2
  exact zl hy 1 (pc2 := 1) (lv2 := [(0, .ref l0), (1, .int l1)]) (st2 := [.ref l0]) rfl <| zx_call hy (as := [.ref l0]) (rest := []) (ov := (fun _ => none)) (fun _ => rfl) rfl rfl (Or.inl rfl) rfl rfl (Nat.le_of_ble_eq_true rfl) (Nat.le_of_ble_eq_true rfl) (fun _ e _ => z_rcvT (rfC_readToken N l0 h _ e)) (fun _ e => zt_deep (Nat.le_of_ble_eq_true rfl) (sfC_readToken N l0 h _ e)) e fun _ h2 _ e => zl hy 1 (pc2 := 5) (lv2 := [(0, .ref l0), (1, .int l1)]) (st2 := [.ref l0]) rfl <| zx_gI hy rfl e fun x3 _ e => zl hy 1 (pc2 := 9) (lv2 := [(0, .ref l0), (1, .int l1)]) (st2 := [.int (Int32.ofInt 5), .int x3]) rfl <| zx_c hy rfl e (fun _ e => zl hy 1 (pc2 := 19) (lv2 := [(0, .ref l0), (1, .int l1)]) (st2 := [.int l1]) rfl <| zx_c0 hy rfl e (fun _ e => zt_sub (z_fn) <| sfC_expectEnd_30 N    h2 _ e) (fun _ e => zl hy 2 (pc2 := 24) (lv2 := [(0, .ref l0), (1, .int l1)]) (st2 := [.int (Int32.ofInt 3), .ref l0]) rfl <| zx_call hy (as := [.ref l0, .int (Int32.ofInt 3)]) (rest := []) (ov := (fun v => some (.int v))) (fun _ => rfl) rfl rfl (Or.inl rfl) rfl rfl (Nat.le_of_ble_eq_true rfl) (Nat.le_of_ble_eq_true rfl) (fun _ e _ => z_rcvT (rfC_fail N l0 (Int32.ofInt 3) h2 _ e)) (fun _ e => zt_deep (Nat.le_of_ble_eq_true rfl) (sfC_fail N l0 (Int32.ofInt 3) h2 _ e)) e fun x4 h5 _ e => zx_c0 hy rfl e (fun _ e => zl hy 1 (pc2 := 35) (lv2 := [(0, .ref l0), (1, .int l1)]) (st2 := [.int (Int32.ofInt 0)]) rfl <| zt_sub (z_fn) <| sfC_expectEnd_35 N   (Int32.ofInt 0) h5 _ e) (fun _ e => zt_sub (z_fn) <| sfC_expectEnd_30 N    h5 _ e))) (fun _ e => zl hy 2 (pc2 := 14) (lv2 := [(0, .ref l0), (1, .int l1)]) (st2 := [.int (Int32.ofInt 1), .ref l0]) rfl <| zx_call hy (as := [.ref l0, .int (Int32.ofInt 1)]) (rest := []) (ov := (fun v => some (.int v))) (fun _ => rfl) rfl rfl (Or.inl rfl) rfl rfl (Nat.le_of_ble_eq_true rfl) (Nat.le_of_ble_eq_true rfl) (fun _ e _ => z_rcvT (rfC_fail N l0 (Int32.ofInt 1) h2 _ e)) (fun _ e => zt_deep (Nat.le_of_ble_eq_true rfl) (sfC_fail N l0 (Int32.ofInt 1) h2 _ e)) e fun x6 h7 _ e => zx_retB hy rfl rfl e)
theorem rfC_expectEnd (N : Nat) (l0 : Nat) (l1 : Int32) (h : zH) (r : Int32 × zH) (e : fC_expectEnd N l0 l1 h = some r) : fT h l0 2 = true := by
  unfold fC_expectEnd at e
  exact (cond_some e).1
/-- LyndonBench$Word.shortenTo(I)V -/
theorem mfW_shortenTo : z_me 52 zc_52 2 [] none := ⟨z_me0 rfl, rfl, rfl, rfl⟩
def fW_shortenTo (N : Nat) (l0 : Nat) (l1 : Int32) (h : zH) : Option (Unit × zH) := cond (fT h l0 4) (cond (z_cmp .lt l1 (Int32.ofInt 0)) (some ((), h)) (b1 (fI h l0 4 1) fun x1 => cond (z_cmp .ge l1 x1) (some ((), h)) (b1 (fS h l0 4 1 (.int l1)) fun h2 => some ((), h2)))) none
theorem sfW_shortenTo {xs : List Int32} (N : Nat) (l0 : Nat) (l1 : Int32) (h : zH) (r : Unit × zH) (e : fW_shortenTo N l0 l1 h = some r) : zt xs (1) 52 0 [(0, .ref l0), (1, .int l1)] [] h 0 0 (zQ cV r) := by
  have hy := mfW_shortenTo
  unfold fW_shortenTo at e
  replace e := (cond_some e).2
  exact zl hy 1 (pc2 := 1) (lv2 := [(0, .ref l0), (1, .int l1)]) (st2 := [.int l1]) rfl <| zx_c0 hy rfl e (fun _ e => zx_retV hy rfl rfl e) (fun _ e => zl hy 2 (pc2 := 6) (lv2 := [(0, .ref l0), (1, .int l1)]) (st2 := [.ref l0, .int l1]) rfl <| zx_gI hy rfl e fun x1 _ e => zx_c hy rfl e (fun _ e => zx_retV hy rfl rfl e) (fun _ e => zl hy 2 (pc2 := 14) (lv2 := [(0, .ref l0), (1, .int l1)]) (st2 := [.int l1, .ref l0]) rfl <| zx_pf hy rfl e (rfl) fun h2 _ e => zx_retV hy rfl rfl e))
theorem rfW_shortenTo (N : Nat) (l0 : Nat) (l1 : Int32) (h : zH) (r : Unit × zH) (e : fW_shortenTo N l0 l1 h = some r) : fT h l0 4 = true := by
  unfold fW_shortenTo at e
  exact (cond_some e).1
/-- LyndonBench$Script.runText(Z)Z -/
theorem mfC_runText : z_me 11 zc_11 5 [] (some .boolean) := ⟨z_me0 rfl, rfl, rfl, rfl⟩
def fC_runText_97 (N : Nat)  (l0 : Nat) (l2 : Int32) (l3 : Int32) (l4 : Int32) (s0 : Int32) (s1 : Nat) (h : zH) : Option (Int32 × zH) := b2 (fC_expectEnd N s1 s0 h) fun x5 h6 => cond (z_cmp .ne x5 (Int32.ofInt 0)) (b1 (fR h6 l0 2 1) fun x7 => b1 (fR h6 x7 3 1) fun x8 => b2 (fW_shortenTo N x8 l4 h6) fun _ h10 => b1 (fR h10 l0 2 1) fun x11 => b1 (fR h10 x11 3 1) fun x12 => b1 (fR h10 l0 2 0) fun x13 => b2 (fW_addPart N x12 x13 l2 l3 h10) fun _ h15 => some ((Int32.ofInt 1), h15)) (some ((Int32.ofInt 0), h6))
theorem sfC_runText_97 {xs : List Int32} (N : Nat)   (l0 : Nat) (l2 : Int32) (l3 : Int32) (l4 : Int32) (s0 : Int32) (s1 : Nat) (h : zH) (r : Int32 × zH) (e : fC_runText_97 N  l0 l2 l3 l4 s0 s1 h = some r) : zt xs (5) 11 97 [(0, .ref l0), (2, .int l2), (3, .int l3), (4, .int l4)] [.int s0, .ref s1] h 0 0 (zQ cI r) := by
  have hy := mfC_runText
  unfold fC_runText_97 at e
  exact zx_call hy (as := [.ref s1, .int s0]) (rest := []) (ov := (fun v => some (.int v))) (fun _ => rfl) rfl rfl (Or.inl rfl) rfl rfl (Nat.le_of_ble_eq_true rfl) (Nat.le_of_ble_eq_true rfl) (fun _ e _ => z_rcvT (rfC_expectEnd N s1 s0 h _ e)) (fun _ e => zt_deep (Nat.le_of_ble_eq_true rfl) (sfC_expectEnd N s1 s0 h _ e)) e fun x5 h6 _ e => zx_c0 hy rfl e (fun _ e => zl hy 1 (pc2 := 106) (lv2 := [(0, .ref l0), (2, .int l2), (3, .int l3), (4, .int l4)]) (st2 := [.ref l0]) rfl <| zx_gR hy rfl e fun x7 _ e => zx_gR hy rfl e fun x8 _ e => zl hy 1 (pc2 := 114) (lv2 := [(0, .ref l0), (2, .int l2), (3, .int l3), (4, .int l4)]) (st2 := [.int l4, .ref x8]) rfl <| zx_call hy (as := [.ref x8, .int l4]) (rest := []) (ov := (fun _ => none)) (fun _ => rfl) rfl rfl (Or.inl rfl) rfl rfl (Nat.le_of_ble_eq_true rfl) (Nat.le_of_ble_eq_true rfl) (fun _ e _ => z_rcvT (rfW_shortenTo N x8 l4 h6 _ e)) (fun _ e => zt_deep (Nat.le_of_ble_eq_true rfl) (sfW_shortenTo N x8 l4 h6 _ e)) e fun _ h10 _ e => zl hy 1 (pc2 := 118) (lv2 := [(0, .ref l0), (2, .int l2), (3, .int l3), (4, .int l4)]) (st2 := [.ref l0]) rfl <| zx_gR hy rfl e fun x11 _ e => zx_gR hy rfl e fun x12 _ e => zl hy 1 (pc2 := 125) (lv2 := [(0, .ref l0), (2, .int l2), (3, .int l3), (4, .int l4)]) (st2 := [.ref l0, .ref x12]) rfl <| zx_gR hy rfl e fun x13 _ e => zl hy 2 (pc2 := 130) (lv2 := [(0, .ref l0), (2, .int l2), (3, .int l3), (4, .int l4)]) (st2 := [.int l3, .int l2, .ref x13, .ref x12]) rfl <| zx_call hy (as := [.ref x12, .ref x13, .int l2, .int l3]) (rest := []) (ov := (fun _ => none)) (fun _ => rfl) rfl rfl (Or.inl rfl) rfl rfl (Nat.le_of_ble_eq_true rfl) (Nat.le_of_ble_eq_true rfl) (fun _ e _ => z_rcvT (rfW_addPart N x12 x13 l2 l3 h10 _ e)) (fun _ e => zt_deep (Nat.le_of_ble_eq_true rfl) (sfW_addPart N x12 x13 l2 l3 h10 _ e)) e fun _ h15 _ e => zl hy 1 (pc2 := 134) (lv2 := [(0, .ref l0), (2, .int l2), (3, .int l3), (4, .int l4)]) (st2 := [.int (Int32.ofInt 1)]) rfl <| zx_ret hy (v := .int (Int32.ofInt 1)) rfl rfl (by decide) rfl e) (fun _ e => zl hy 1 (pc2 := 104) (lv2 := [(0, .ref l0), (2, .int l2), (3, .int l3), (4, .int l4)]) (st2 := [.int (Int32.ofInt 0)]) rfl <| zx_ret hy (v := .int (Int32.ofInt 0)) rfl rfl (by decide) rfl e)
def fC_runText_78 (N : Nat)  (l0 : Nat) (l2 : Int32) (l3 : Int32) (s0 : Int32) (h : zH) : Option (Int32 × zH) := cond (z_cmp .gt ((s0 + l3) - l2) (Int32.ofInt 120)) (fC_runText_97 N  l0 l2 l3 s0 (Int32.ofInt 0) l0 h) (fC_runText_97 N  l0 l2 l3 s0 (Int32.ofInt 1) l0 h)
theorem sfC_runText_78 {xs : List Int32} (N : Nat)   (l0 : Nat) (l2 : Int32) (l3 : Int32) (s0 : Int32) (h : zH) (r : Int32 × zH) (e : fC_runText_78 N  l0 l2 l3 s0 h = some r) : zt xs (5) 11 78 [(0, .ref l0), (2, .int l2), (3, .int l3)] [.int s0] h 0 0 (zQ cI r) := by
  have hy := mfC_runText
  unfold fC_runText_78 at e
  exact zl hy 7 (pc2 := 87) (lv2 := [(4, .int s0), (0, .ref l0), (2, .int l2), (3, .int l3)]) (st2 := [.int ((s0 + l3) - l2), .ref l0]) rfl <| zx_bip hy (c := 120) rfl (by decide) <| zx_c hy rfl e (fun _ e => zl hy 1 (pc2 := 97) (lv2 := [(4, .int s0), (0, .ref l0), (2, .int l2), (3, .int l3)]) (st2 := [.int (Int32.ofInt 0), .ref l0]) rfl <| zt_sub (z_fc rfl (z_fc rfl (z_fc rfl (z_fc rfl (z_fn))))) <| sfC_runText_97 N   l0 l2 l3 s0 (Int32.ofInt 0) l0 h _ e) (fun _ e => zl hy 2 (pc2 := 97) (lv2 := [(4, .int s0), (0, .ref l0), (2, .int l2), (3, .int l3)]) (st2 := [.int (Int32.ofInt 1), .ref l0]) rfl <| zt_sub (z_fc rfl (z_fc rfl (z_fc rfl (z_fc rfl (z_fn))))) <| sfC_runText_97 N   l0 l2 l3 s0 (Int32.ofInt 1) l0 h _ e)
def fC_runText_23 (N : Nat) : Nat → Nat → Int32 → Int32 → Int32 → Int32 → zH → Option (Int32 × zH)
  | 0, _, _, _, _, _, _ => none
  | n + 1, l0, l1, l2, l3, l4, h => cond (z_cmp .ge l4 l3) (cond (z_cmp .eq l1 (Int32.ofInt 0)) (fC_runText_78 N  l0 l2 l3 (Int32.ofInt 0) h) (b1 (fR h l0 2 1) fun x5 => b1 (fR h x5 3 1) fun x6 => b1 (fI h x6 4 1) fun x7 => fC_runText_78 N  l0 l2 l3 x7 h)) (b1 (fR h l0 2 1) fun x8 => b1 (fR h l0 2 0) fun x9 => b2 (fW_at N x9 l4 h) fun x10 h11 => b2 (fS_isLetter N x8 x10 h11) fun x12 h13 => cond (z_cmp .ne x12 (Int32.ofInt 0)) (fC_runText_23 N n  l0 l1 l2 l3 (l4 + Int32.ofInt 1) h13) (b2 (fC_fail N l0 (Int32.ofInt 2) h13) fun x14 h15 => cond (decide (x14 = Int32.ofInt 0) || decide (x14 = Int32.ofInt 1)) (some (x14, h15)) none))
theorem sfC_runText_23 {xs : List Int32} (N : Nat)   : ∀ (n : Nat) (l0 : Nat) (l1 : Int32) (l2 : Int32) (l3 : Int32) (l4 : Int32) (h : zH) (r : Int32 × zH), fC_runText_23 N n  l0 l1 l2 l3 l4 h = some r → zt xs (5) 11 23 [(0, .ref l0), (1, .int l1), (2, .int l2), (3, .int l3), (4, .int l4)] [] h 0 0 (zQ cI r) := by
  have hy := mfC_runText
  intro n
  induction n with
  | zero =>
    intro l0 l1 l2 l3 l4 h r e
    rw [fC_runText_23] at e
    cases e
  | succ n ih =>
    intro l0 l1 l2 l3 l4 h r e
    rw [fC_runText_23] at e
    exact zl hy 2 (pc2 := 26) (lv2 := [(0, .ref l0), (1, .int l1), (2, .int l2), (3, .int l3), (4, .int l4)]) (st2 := [.int l3, .int l4]) rfl <| zx_c hy rfl e (fun _ e => zl hy 1 (pc2 := 61) (lv2 := [(0, .ref l0), (1, .int l1), (2, .int l2), (3, .int l3), (4, .int l4)]) (st2 := [.int l1]) rfl <| zx_c0 hy rfl e (fun _ e => zl hy 1 (pc2 := 78) (lv2 := [(0, .ref l0), (1, .int l1), (2, .int l2), (3, .int l3), (4, .int l4)]) (st2 := [.int (Int32.ofInt 0)]) rfl <| zt_sub (z_fc rfl (z_fc rfl (z_fc rfl (z_fn)))) <| sfC_runText_78 N   l0 l2 l3 (Int32.ofInt 0) h _ e) (fun _ e => zl hy 1 (pc2 := 65) (lv2 := [(0, .ref l0), (1, .int l1), (2, .int l2), (3, .int l3), (4, .int l4)]) (st2 := [.ref l0]) rfl <| zx_gR hy rfl e fun x5 _ e => zx_gR hy rfl e fun x6 _ e => zx_gI hy rfl e fun x7 _ e => zl hy 1 (pc2 := 78) (lv2 := [(0, .ref l0), (1, .int l1), (2, .int l2), (3, .int l3), (4, .int l4)]) (st2 := [.int x7]) rfl <| zt_sub (z_fc rfl (z_fc rfl (z_fc rfl (z_fn)))) <| sfC_runText_78 N   l0 l2 l3 x7 h _ e)) (fun _ e => zl hy 1 (pc2 := 30) (lv2 := [(0, .ref l0), (1, .int l1), (2, .int l2), (3, .int l3), (4, .int l4)]) (st2 := [.ref l0]) rfl <| zx_gR hy rfl e fun x8 _ e => zl hy 1 (pc2 := 34) (lv2 := [(0, .ref l0), (1, .int l1), (2, .int l2), (3, .int l3), (4, .int l4)]) (st2 := [.ref l0, .ref x8]) rfl <| zx_gR hy rfl e fun x9 _ e => zl hy 1 (pc2 := 39) (lv2 := [(0, .ref l0), (1, .int l1), (2, .int l2), (3, .int l3), (4, .int l4)]) (st2 := [.int l4, .ref x9, .ref x8]) rfl <| zx_call hy (as := [.ref x9, .int l4]) (rest := [.ref x8]) (ov := (fun v => some (.int v))) (fun _ => rfl) rfl rfl (Or.inl rfl) rfl rfl (Nat.le_of_ble_eq_true rfl) (Nat.le_of_ble_eq_true rfl) (fun _ e _ => z_rcvT (rfW_at N x9 l4 h _ e)) (fun _ e => zt_deep (Nat.le_of_ble_eq_true rfl) (sfW_at N x9 l4 h _ e)) e fun x10 h11 _ e => zx_call hy (as := [.ref x8, .int x10]) (rest := []) (ov := (fun v => some (.int v))) (fun _ => rfl) rfl rfl (Or.inl rfl) rfl rfl (Nat.le_of_ble_eq_true rfl) (Nat.le_of_ble_eq_true rfl) (fun _ e _ => z_rcvT (rfS_isLetter N x8 x10 h11 _ e)) (fun _ e => zt_deep (Nat.le_of_ble_eq_true rfl) (sfS_isLetter N x8 x10 h11 _ e)) e fun x12 h13 _ e => zx_c0 hy rfl e (fun _ e => zl hy 2 (pc2 := 23) (lv2 := [(4, .int (l4 + Int32.ofInt 1)), (0, .ref l0), (1, .int l1), (2, .int l2), (3, .int l3)]) (st2 := []) rfl <| zt_sub (z_fc rfl (z_fc rfl (z_fc rfl (z_fc rfl (z_fc rfl (z_fn)))))) <| ih l0 l1 l2 l3 (l4 + Int32.ofInt 1) h13 _ e) (fun _ e => zl hy 2 (pc2 := 50) (lv2 := [(0, .ref l0), (1, .int l1), (2, .int l2), (3, .int l3), (4, .int l4)]) (st2 := [.int (Int32.ofInt 2), .ref l0]) rfl <| zx_call hy (as := [.ref l0, .int (Int32.ofInt 2)]) (rest := []) (ov := (fun v => some (.int v))) (fun _ => rfl) rfl rfl (Or.inl rfl) rfl rfl (Nat.le_of_ble_eq_true rfl) (Nat.le_of_ble_eq_true rfl) (fun _ e _ => z_rcvT (rfC_fail N l0 (Int32.ofInt 2) h13 _ e)) (fun _ e => zt_deep (Nat.le_of_ble_eq_true rfl) (sfC_fail N l0 (Int32.ofInt 2) h13 _ e)) e fun x14 h15 _ e => zx_retB hy rfl rfl e))
def fC_runText (N : Nat) (l0 : Nat) (l1 : Int32) (h : zH) : Option (Int32 × zH) := cond (fT h l0 2) (b2 (fC_expect N l0 (Int32.ofInt 1) h) fun x1 h2 => cond (z_cmp .ne x1 (Int32.ofInt 0)) (b1 (fI h2 l0 2 5) fun x3 => b1 (fI h2 l0 2 6) fun x4 => fC_runText_23 N N  l0 l1 x3 x4 x3 h2) (some ((Int32.ofInt 0), h2))) none
theorem sfC_runText {xs : List Int32} (N : Nat) (l0 : Nat) (l1 : Int32) (h : zH) (r : Int32 × zH) (e : fC_runText N l0 l1 h = some r) : zt xs (5) 11 0 [(0, .ref l0), (1, .int l1)] [] h 0 0 (zQ cI r) := by
  have hy := mfC_runText
  unfold fC_runText at e
  replace e := (cond_some e).2
  exact zl hy 2 (pc2 := 2) (lv2 := [(0, .ref l0), (1, .int l1)]) (st2 := [.int (Int32.ofInt 1), .ref l0]) rfl <| zx_call hy (as := [.ref l0, .int (Int32.ofInt 1)]) (rest := []) (ov := (fun v => some (.int v))) (fun _ => rfl) rfl rfl (Or.inl rfl) rfl rfl (Nat.le_of_ble_eq_true rfl) (Nat.le_of_ble_eq_true rfl) (fun _ e _ => z_rcvT (rfC_expect N l0 (Int32.ofInt 1) h _ e)) (fun _ e => zt_deep (Nat.le_of_ble_eq_true rfl) (sfC_expect N l0 (Int32.ofInt 1) h _ e)) e fun x1 h2 _ e => zx_c0 hy rfl e (fun _ e => zl hy 1 (pc2 := 11) (lv2 := [(0, .ref l0), (1, .int l1)]) (st2 := [.ref l0]) rfl <| zx_gI hy rfl e fun x3 _ e => zl hy 2 (pc2 := 16) (lv2 := [(2, .int x3), (0, .ref l0), (1, .int l1)]) (st2 := [.ref l0]) rfl <| zx_gI hy rfl e fun x4 _ e => zl hy 3 (pc2 := 23) (lv2 := [(4, .int x3), (3, .int x4), (2, .int x3), (0, .ref l0), (1, .int l1)]) (st2 := []) rfl <| zt_sub (z_fc rfl (z_fc rfl (z_fc rfl (z_fc rfl (z_fc rfl (z_fn)))))) <| sfC_runText_23 N   N l0 l1 x3 x4 x3 h2 _ e) (fun _ e => zl hy 1 (pc2 := 9) (lv2 := [(0, .ref l0), (1, .int l1)]) (st2 := [.int (Int32.ofInt 0)]) rfl <| zx_ret hy (v := .int (Int32.ofInt 0)) rfl rfl (by decide) rfl e)
theorem rfC_runText (N : Nat) (l0 : Nat) (l1 : Int32) (h : zH) (r : Int32 × zH) (e : fC_runText N l0 l1 h = some r) : fT h l0 2 = true := by
  unfold fC_runText at e
  exact (cond_some e).1
/-- LyndonBench$Script.runDrop()Z -/
theorem mfC_runDrop : z_me 12 zc_12 1 [] (some .boolean) := ⟨z_me0 rfl, rfl, rfl, rfl⟩
def fC_runDrop_26 (N : Nat)   (h : zH) : Option (Int32 × zH) := some ((Int32.ofInt 0), h)
theorem sfC_runDrop_26 {xs : List Int32} (N : Nat)    (h : zH) (r : Int32 × zH) (e : fC_runDrop_26 N   h = some r) : zt xs (5) 12 26 [] [] h 0 0 (zQ cI r) := by
  have hy := mfC_runDrop
  unfold fC_runDrop_26 at e
  exact zl hy 1 (pc2 := 27) (lv2 := []) (st2 := [.int (Int32.ofInt 0)]) rfl <| zx_ret hy (v := .int (Int32.ofInt 0)) rfl rfl (by decide) rfl e
def fC_runDrop (N : Nat) (l0 : Nat) (h : zH) : Option (Int32 × zH) := cond (fT h l0 2) (b1 (fR h l0 2 1) fun x1 => b1 (fR h x1 3 1) fun x2 => b1 (fI h x2 4 1) fun x3 => b2 (fC_expectNumber N l0 (Int32.ofInt 0) x3 h) fun x4 h5 => cond (z_cmp .eq x4 (Int32.ofInt 0)) (fC_runDrop_26 N   h5) (b2 (fC_expect N l0 (Int32.ofInt 5) h5) fun x6 h7 => cond (z_cmp .ne x6 (Int32.ofInt 0)) (b1 (fR h7 l0 2 1) fun x8 => b1 (fR h7 x8 3 1) fun x9 => b1 (fR h7 l0 2 1) fun x10 => b1 (fR h7 x10 3 1) fun x11 => b1 (fI h7 x11 4 1) fun x12 => b1 (fI h7 l0 2 7) fun x13 => b2 (fW_shortenTo N x9 (x12 - x13) h7) fun _ h15 => some ((Int32.ofInt 1), h15)) (fC_runDrop_26 N   h7))) none
theorem sfC_runDrop {xs : List Int32} (N : Nat) (l0 : Nat) (h : zH) (r : Int32 × zH) (e : fC_runDrop N l0 h = some r) : zt xs (5) 12 0 [(0, .ref l0)] [] h 0 0 (zQ cI r) := by
  have hy := mfC_runDrop
  unfold fC_runDrop at e
  replace e := (cond_some e).2
  exact zl hy 3 (pc2 := 3) (lv2 := [(0, .ref l0)]) (st2 := [.ref l0, .int (Int32.ofInt 0), .ref l0]) rfl <| zx_gR hy rfl e fun x1 _ e => zx_gR hy rfl e fun x2 _ e => zx_gI hy rfl e fun x3 _ e => zx_call hy (as := [.ref l0, .int (Int32.ofInt 0), .int x3]) (rest := []) (ov := (fun v => some (.int v))) (fun _ => rfl) rfl rfl (Or.inl rfl) rfl rfl (Nat.le_of_ble_eq_true rfl) (Nat.le_of_ble_eq_true rfl) (fun _ e _ => z_rcvT (rfC_expectNumber N l0 (Int32.ofInt 0) x3 h _ e)) (fun _ e => zt_deep (Nat.le_of_ble_eq_true rfl) (sfC_expectNumber N l0 (Int32.ofInt 0) x3 h _ e)) e fun x4 h5 _ e => zx_c0 hy rfl e (fun _ e => zt_sub (z_fn) <| sfC_runDrop_26 N    h5 _ e) (fun _ e => zl hy 2 (pc2 := 20) (lv2 := [(0, .ref l0)]) (st2 := [.int (Int32.ofInt 5), .ref l0]) rfl <| zx_call hy (as := [.ref l0, .int (Int32.ofInt 5)]) (rest := []) (ov := (fun v => some (.int v))) (fun _ => rfl) rfl rfl (Or.inl rfl) rfl rfl (Nat.le_of_ble_eq_true rfl) (Nat.le_of_ble_eq_true rfl) (fun _ e _ => z_rcvT (rfC_expect N l0 (Int32.ofInt 5) h5 _ e)) (fun _ e => zt_deep (Nat.le_of_ble_eq_true rfl) (sfC_expect N l0 (Int32.ofInt 5) h5 _ e)) e fun x6 h7 _ e => zx_c0 hy rfl e (fun _ e => zl hy 1 (pc2 := 29) (lv2 := [(0, .ref l0)]) (st2 := [.ref l0]) rfl <| zx_gR hy rfl e fun x8 _ e => zx_gR hy rfl e fun x9 _ e => zl hy 1 (pc2 := 36) (lv2 := [(0, .ref l0)]) (st2 := [.ref l0, .ref x9]) rfl <| zx_gR hy rfl e fun x10 _ e => zx_gR hy rfl e fun x11 _ e => zx_gI hy rfl e fun x12 _ e => zl hy 1 (pc2 := 46) (lv2 := [(0, .ref l0)]) (st2 := [.ref l0, .int x12, .ref x9]) rfl <| zx_gI hy rfl e fun x13 _ e => zl hy 1 (pc2 := 50) (lv2 := [(0, .ref l0)]) (st2 := [.int (x12 - x13), .ref x9]) rfl <| zx_call hy (as := [.ref x9, .int (x12 - x13)]) (rest := []) (ov := (fun _ => none)) (fun _ => rfl) rfl rfl (Or.inl rfl) rfl rfl (Nat.le_of_ble_eq_true rfl) (Nat.le_of_ble_eq_true rfl) (fun _ e _ => z_rcvT (rfW_shortenTo N x9 (x12 - x13) h7 _ e)) (fun _ e => zt_deep (Nat.le_of_ble_eq_true rfl) (sfW_shortenTo N x9 (x12 - x13) h7 _ e)) e fun _ h15 _ e => zl hy 1 (pc2 := 54) (lv2 := [(0, .ref l0)]) (st2 := [.int (Int32.ofInt 1)]) rfl <| zx_ret hy (v := .int (Int32.ofInt 1)) rfl rfl (by decide) rfl e) (fun _ e => zt_sub (z_fn) <| sfC_runDrop_26 N    h7 _ e))
theorem rfC_runDrop (N : Nat) (l0 : Nat) (h : zH) (r : Int32 × zH) (e : fC_runDrop N l0 h = some r) : fT h l0 2 = true := by
  unfold fC_runDrop at e
  exact (cond_some e).1
/-- LyndonBench$Word.put(II)V -/
theorem mfW_put : z_me 44 zc_44 3 [] none := ⟨z_me0 rfl, rfl, rfl, rfl⟩
def fW_put (N : Nat) (l0 : Nat) (l1 : Int32) (l2 : Int32) (h : zH) : Option (Unit × zH) := cond (fT h l0 4) (cond (z_cmp .lt l1 (Int32.ofInt 0)) (some ((), h)) (b1 (fI h l0 4 1) fun x1 => cond (z_cmp .ge l1 x1) (some ((), h)) (b1 (fR h l0 4 0) fun x2 => b1 (fN h x2 101) fun x3 => cond (z_cmp .ge l1 x3) (some ((), h)) (b1 (fR h l0 4 0) fun x4 => b1 (fAS h x4 101 l1 (.int (vp_nar .byte (l2).toInt8.toInt32))) fun h5 => some ((), h5))))) none
theorem sfW_put {xs : List Int32} (N : Nat) (l0 : Nat) (l1 : Int32) (l2 : Int32) (h : zH) (r : Unit × zH) (e : fW_put N l0 l1 l2 h = some r) : zt xs (1) 44 0 [(0, .ref l0), (1, .int l1), (2, .int l2)] [] h 0 0 (zQ cV r) := by
  have hy := mfW_put
  unfold fW_put at e
  replace e := (cond_some e).2
  exact zl hy 1 (pc2 := 1) (lv2 := [(0, .ref l0), (1, .int l1), (2, .int l2)]) (st2 := [.int l1]) rfl <| zx_c0 hy rfl e (fun _ e => zx_retV hy rfl rfl e) (fun _ e => zl hy 2 (pc2 := 6) (lv2 := [(0, .ref l0), (1, .int l1), (2, .int l2)]) (st2 := [.ref l0, .int l1]) rfl <| zx_gI hy rfl e fun x1 _ e => zx_c hy rfl e (fun _ e => zx_retV hy rfl rfl e) (fun _ e => zl hy 2 (pc2 := 14) (lv2 := [(0, .ref l0), (1, .int l1), (2, .int l2)]) (st2 := [.ref l0, .int l1]) rfl <| zx_gR hy rfl e fun x2 _ e => zx_len hy (Nat.le_of_ble_eq_true rfl) rfl e fun x3 _ e => zx_c hy rfl e (fun _ e => zx_retV hy rfl rfl e) (fun _ e => zl hy 1 (pc2 := 22) (lv2 := [(0, .ref l0), (1, .int l1), (2, .int l2)]) (st2 := [.ref l0]) rfl <| zx_gR hy rfl e fun x4 _ e => zl hy 3 (pc2 := 28) (lv2 := [(0, .ref l0), (1, .int l1), (2, .int l2)]) (st2 := [.int (l2).toInt8.toInt32, .int l1, .ref x4]) rfl <| zx_sI hy (j := .bastore) (Or.inr (Or.inl ⟨rfl, rfl, rfl⟩)) rfl e fun h5 _ e => zx_retV hy rfl rfl e)))
theorem rfW_put (N : Nat) (l0 : Nat) (l1 : Int32) (l2 : Int32) (h : zH) (r : Unit × zH) (e : fW_put N l0 l1 l2 h = some r) : fT h l0 4 = true := by
  unfold fW_put at e
  exact (cond_some e).1
/-- LyndonBench$Word.cutTo(II)V -/
theorem mfW_cutTo : z_me 53 zc_53 4 [] none := ⟨z_me0 rfl, rfl, rfl, rfl⟩
def fW_cutTo_2 (N : Nat) : Nat → Nat → Int32 → Int32 → Int32 → zH → Option (Unit × zH)
  | 0, _, _, _, _, _ => none
  | n + 1, l0, l1, l2, l3, h => cond (z_cmp .ge l3 l2) (b2 (fW_shortenTo N l0 (l2 - l1) h) fun _ h2 => some ((), h2)) (b2 (fW_at N l0 l3 h) fun x3 h4 => b2 (fW_put N l0 (l3 - l1) x3 h4) fun _ h6 => fW_cutTo_2 N n  l0 l1 l2 (l3 + Int32.ofInt 1) h6)
theorem sfW_cutTo_2 {xs : List Int32} (N : Nat)   : ∀ (n : Nat) (l0 : Nat) (l1 : Int32) (l2 : Int32) (l3 : Int32) (h : zH) (r : Unit × zH), fW_cutTo_2 N n  l0 l1 l2 l3 h = some r → zt xs (2) 53 2 [(0, .ref l0), (1, .int l1), (2, .int l2), (3, .int l3)] [] h 0 0 (zQ cV r) := by
  have hy := mfW_cutTo
  intro n
  induction n with
  | zero =>
    intro l0 l1 l2 l3 h r e
    rw [fW_cutTo_2] at e
    cases e
  | succ n ih =>
    intro l0 l1 l2 l3 h r e
    rw [fW_cutTo_2] at e
    exact zl hy 2 (pc2 := 4) (lv2 := [(0, .ref l0), (1, .int l1), (2, .int l2), (3, .int l3)]) (st2 := [.int l2, .int l3]) rfl <| zx_c hy rfl e (fun _ e => zl hy 4 (pc2 := 29) (lv2 := [(0, .ref l0), (1, .int l1), (2, .int l2), (3, .int l3)]) (st2 := [.int (l2 - l1), .ref l0]) rfl <| zx_call hy (as := [.ref l0, .int (l2 - l1)]) (rest := []) (ov := (fun _ => none)) (fun _ => rfl) rfl rfl (Or.inl rfl) rfl rfl (Nat.le_of_ble_eq_true rfl) (Nat.le_of_ble_eq_true rfl) (fun _ e _ => z_rcvT (rfW_shortenTo N l0 (l2 - l1) h _ e)) (fun _ e => zt_deep (Nat.le_of_ble_eq_true rfl) (sfW_shortenTo N l0 (l2 - l1) h _ e)) e fun _ h2 _ e => zx_retV hy rfl rfl e) (fun _ e => zl hy 6 (pc2 := 13) (lv2 := [(0, .ref l0), (1, .int l1), (2, .int l2), (3, .int l3)]) (st2 := [.int l3, .ref l0, .int (l3 - l1), .ref l0]) rfl <| zx_call hy (as := [.ref l0, .int l3]) (rest := [.int (l3 - l1), .ref l0]) (ov := (fun v => some (.int v))) (fun _ => rfl) rfl rfl (Or.inl rfl) rfl rfl (Nat.le_of_ble_eq_true rfl) (Nat.le_of_ble_eq_true rfl) (fun _ e _ => z_rcvT (rfW_at N l0 l3 h _ e)) (fun _ e => zt_deep (Nat.le_of_ble_eq_true rfl) (sfW_at N l0 l3 h _ e)) e fun x3 h4 _ e => zx_call hy (as := [.ref l0, .int (l3 - l1), .int x3]) (rest := []) (ov := (fun _ => none)) (fun _ => rfl) rfl rfl (Or.inl rfl) rfl rfl (Nat.le_of_ble_eq_true rfl) (Nat.le_of_ble_eq_true rfl) (fun _ e _ => z_rcvT (rfW_put N l0 (l3 - l1) x3 h4 _ e)) (fun _ e => zt_deep (Nat.le_of_ble_eq_true rfl) (sfW_put N l0 (l3 - l1) x3 h4 _ e)) e fun _ h6 _ e => zl hy 2 (pc2 := 2) (lv2 := [(3, .int (l3 + Int32.ofInt 1)), (0, .ref l0), (1, .int l1), (2, .int l2)]) (st2 := []) rfl <| zt_sub (z_fc rfl (z_fc rfl (z_fc rfl (z_fc rfl (z_fn))))) <| ih l0 l1 l2 (l3 + Int32.ofInt 1) h6 _ e)
def fW_cutTo (N : Nat) (l0 : Nat) (l1 : Int32) (l2 : Int32) (h : zH) : Option (Unit × zH) := cond (fT h l0 4) (fW_cutTo_2 N N  l0 l1 l2 l1 h) none
theorem sfW_cutTo {xs : List Int32} (N : Nat) (l0 : Nat) (l1 : Int32) (l2 : Int32) (h : zH) (r : Unit × zH) (e : fW_cutTo N l0 l1 l2 h = some r) : zt xs (2) 53 0 [(0, .ref l0), (1, .int l1), (2, .int l2)] [] h 0 0 (zQ cV r) := by
  have hy := mfW_cutTo
  unfold fW_cutTo at e
  replace e := (cond_some e).2
  exact zl hy 2 (pc2 := 2) (lv2 := [(3, .int l1), (0, .ref l0), (1, .int l1), (2, .int l2)]) (st2 := []) rfl <| zt_sub (z_fc rfl (z_fc rfl (z_fc rfl (z_fc rfl (z_fn))))) <| sfW_cutTo_2 N   N l0 l1 l2 l1 h _ e
theorem rfW_cutTo (N : Nat) (l0 : Nat) (l1 : Int32) (l2 : Int32) (h : zH) (r : Unit × zH) (e : fW_cutTo N l0 l1 l2 h = some r) : fT h l0 4 = true := by
  unfold fW_cutTo at e
  exact (cond_some e).1
/-- LyndonBench$Script.runPart()Z -/
theorem mfC_runPart : z_me 13 zc_13 2 [] (some .boolean) := ⟨z_me0 rfl, rfl, rfl, rfl⟩
def fC_runPart_44 (N : Nat)   (h : zH) : Option (Int32 × zH) := some ((Int32.ofInt 0), h)
theorem sfC_runPart_44 {xs : List Int32} (N : Nat)    (h : zH) (r : Int32 × zH) (e : fC_runPart_44 N   h = some r) : zt xs (5) 13 44 [] [] h 0 0 (zQ cI r) := by
  have hy := mfC_runPart
  unfold fC_runPart_44 at e
  exact zl hy 1 (pc2 := 45) (lv2 := []) (st2 := [.int (Int32.ofInt 0)]) rfl <| zx_ret hy (v := .int (Int32.ofInt 0)) rfl rfl (by decide) rfl e
def fC_runPart (N : Nat) (l0 : Nat) (h : zH) : Option (Int32 × zH) := cond (fT h l0 2) (b2 (fC_expectNumber N l0 (Int32.ofInt 0) (Int32.ofInt 999) h) fun x1 h2 => cond (z_cmp .ne x1 (Int32.ofInt 0)) (b1 (fI h2 l0 2 7) fun x3 => b1 (fR h2 l0 2 1) fun x4 => b1 (fR h2 x4 3 1) fun x5 => b1 (fI h2 x5 4 1) fun x6 => b2 (fC_expectNumber N l0 x3 x6 h2) fun x7 h8 => cond (z_cmp .eq x7 (Int32.ofInt 0)) (fC_runPart_44 N   h8) (b2 (fC_expect N l0 (Int32.ofInt 5) h8) fun x9 h10 => cond (z_cmp .ne x9 (Int32.ofInt 0)) (b1 (fR h10 l0 2 1) fun x11 => b1 (fR h10 x11 3 1) fun x12 => b1 (fI h10 l0 2 7) fun x13 => b2 (fW_cutTo N x12 x3 x13 h10) fun _ h15 => some ((Int32.ofInt 1), h15)) (fC_runPart_44 N   h10))) (some ((Int32.ofInt 0), h2))) none
theorem sfC_runPart {xs : List Int32} (N : Nat) (l0 : Nat) (h : zH) (r : Int32 × zH) (e : fC_runPart N l0 h = some r) : zt xs (5) 13 0 [(0, .ref l0)] [] h 0 0 (zQ cI r) := by
  have hy := mfC_runPart
  unfold fC_runPart at e
  replace e := (cond_some e).2
  exact zl hy 2 (pc2 := 2) (lv2 := [(0, .ref l0)]) (st2 := [.int (Int32.ofInt 0), .ref l0]) rfl <| zx_sip hy (c := 999) rfl (by decide) <| zx_call hy (as := [.ref l0, .int (Int32.ofInt 0), .int (Int32.ofInt 999)]) (rest := []) (ov := (fun v => some (.int v))) (fun _ => rfl) rfl rfl (Or.inl rfl) rfl rfl (Nat.le_of_ble_eq_true rfl) (Nat.le_of_ble_eq_true rfl) (fun _ e _ => z_rcvT (rfC_expectNumber N l0 (Int32.ofInt 0) (Int32.ofInt 999) h _ e)) (fun _ e => zt_deep (Nat.le_of_ble_eq_true rfl) (sfC_expectNumber N l0 (Int32.ofInt 0) (Int32.ofInt 999) h _ e)) e fun x1 h2 _ e => zx_c0 hy rfl e (fun _ e => zl hy 1 (pc2 := 14) (lv2 := [(0, .ref l0)]) (st2 := [.ref l0]) rfl <| zx_gI hy rfl e fun x3 _ e => zl hy 4 (pc2 := 21) (lv2 := [(1, .int x3), (0, .ref l0)]) (st2 := [.ref l0, .int x3, .ref l0]) rfl <| zx_gR hy rfl e fun x4 _ e => zx_gR hy rfl e fun x5 _ e => zx_gI hy rfl e fun x6 _ e => zx_call hy (as := [.ref l0, .int x3, .int x6]) (rest := []) (ov := (fun v => some (.int v))) (fun _ => rfl) rfl rfl (Or.inl rfl) rfl rfl (Nat.le_of_ble_eq_true rfl) (Nat.le_of_ble_eq_true rfl) (fun _ e _ => z_rcvT (rfC_expectNumber N l0 x3 x6 h2 _ e)) (fun _ e => zt_deep (Nat.le_of_ble_eq_true rfl) (sfC_expectNumber N l0 x3 x6 h2 _ e)) e fun x7 h8 _ e => zx_c0 hy rfl e (fun _ e => zt_sub (z_fn) <| sfC_runPart_44 N    h8 _ e) (fun _ e => zl hy 2 (pc2 := 38) (lv2 := [(1, .int x3), (0, .ref l0)]) (st2 := [.int (Int32.ofInt 5), .ref l0]) rfl <| zx_call hy (as := [.ref l0, .int (Int32.ofInt 5)]) (rest := []) (ov := (fun v => some (.int v))) (fun _ => rfl) rfl rfl (Or.inl rfl) rfl rfl (Nat.le_of_ble_eq_true rfl) (Nat.le_of_ble_eq_true rfl) (fun _ e _ => z_rcvT (rfC_expect N l0 (Int32.ofInt 5) h8 _ e)) (fun _ e => zt_deep (Nat.le_of_ble_eq_true rfl) (sfC_expect N l0 (Int32.ofInt 5) h8 _ e)) e fun x9 h10 _ e => zx_c0 hy rfl e (fun _ e => zl hy 1 (pc2 := 47) (lv2 := [(1, .int x3), (0, .ref l0)]) (st2 := [.ref l0]) rfl <| zx_gR hy rfl e fun x11 _ e => zx_gR hy rfl e fun x12 _ e => zl hy 2 (pc2 := 55) (lv2 := [(1, .int x3), (0, .ref l0)]) (st2 := [.ref l0, .int x3, .ref x12]) rfl <| zx_gI hy rfl e fun x13 _ e => zx_call hy (as := [.ref x12, .int x3, .int x13]) (rest := []) (ov := (fun _ => none)) (fun _ => rfl) rfl rfl (Or.inl rfl) rfl rfl (Nat.le_of_ble_eq_true rfl) (Nat.le_of_ble_eq_true rfl) (fun _ e _ => z_rcvT (rfW_cutTo N x12 x3 x13 h10 _ e)) (fun _ e => zt_deep (Nat.le_of_ble_eq_true rfl) (sfW_cutTo N x12 x3 x13 h10 _ e)) e fun _ h15 _ e => zl hy 1 (pc2 := 62) (lv2 := [(1, .int x3), (0, .ref l0)]) (st2 := [.int (Int32.ofInt 1)]) rfl <| zx_ret hy (v := .int (Int32.ofInt 1)) rfl rfl (by decide) rfl e) (fun _ e => zt_sub (z_fn) <| sfC_runPart_44 N    h10 _ e))) (fun _ e => zl hy 1 (pc2 := 12) (lv2 := [(0, .ref l0)]) (st2 := [.int (Int32.ofInt 0)]) rfl <| zx_ret hy (v := .int (Int32.ofInt 0)) rfl rfl (by decide) rfl e)
theorem rfC_runPart (N : Nat) (l0 : Nat) (h : zH) (r : Int32 × zH) (e : fC_runPart N l0 h = some r) : fT h l0 2 = true := by
  unfold fC_runPart at e
  exact (cond_some e).1
/-- LyndonBench$Word.mirror(II)V -/
theorem mfW_mirror : z_me 54 zc_54 6 [] none := ⟨z_me0 rfl, rfl, rfl, rfl⟩
def fW_mirror_7 (N : Nat) : Nat → Nat → Int32 → Int32 → zH → Option (Unit × zH)
  | 0, _, _, _, _ => none
  | n + 1, l0, l3, l4, h => cond (z_cmp .ge l3 l4) (some ((), h)) (b2 (fW_at N l0 l3 h) fun x1 h2 => b2 (fW_at N l0 l4 h2) fun x3 h4 => b2 (fW_put N l0 l3 x3 h4) fun _ h6 => b2 (fW_put N l0 l4 x1 h6) fun _ h8 => fW_mirror_7 N n  l0 (l3 + Int32.ofInt 1) (l4 + Int32.ofInt (-1)) h8)
theorem sfW_mirror_7 {xs : List Int32} (N : Nat)   : ∀ (n : Nat) (l0 : Nat) (l3 : Int32) (l4 : Int32) (h : zH) (r : Unit × zH), fW_mirror_7 N n  l0 l3 l4 h = some r → zt xs (2) 54 7 [(0, .ref l0), (3, .int l3), (4, .int l4)] [] h 0 0 (zQ cV r) := by
  have hy := mfW_mirror
  intro n
  induction n with
  | zero =>
    intro l0 l3 l4 h r e
    rw [fW_mirror_7] at e
    cases e
  | succ n ih =>
    intro l0 l3 l4 h r e
    rw [fW_mirror_7] at e
    exact zl hy 2 (pc2 := 10) (lv2 := [(0, .ref l0), (3, .int l3), (4, .int l4)]) (st2 := [.int l4, .int l3]) rfl <| zx_c hy rfl e (fun _ e => zx_retV hy rfl rfl e) (fun _ e => zl hy 2 (pc2 := 15) (lv2 := [(0, .ref l0), (3, .int l3), (4, .int l4)]) (st2 := [.int l3, .ref l0]) rfl <| zx_call hy (as := [.ref l0, .int l3]) (rest := []) (ov := (fun v => some (.int v))) (fun _ => rfl) rfl rfl (Or.inl rfl) rfl rfl (Nat.le_of_ble_eq_true rfl) (Nat.le_of_ble_eq_true rfl) (fun _ e _ => z_rcvT (rfW_at N l0 l3 h _ e)) (fun _ e => zt_deep (Nat.le_of_ble_eq_true rfl) (sfW_at N l0 l3 h _ e)) e fun x1 h2 _ e => zl hy 5 (pc2 := 25) (lv2 := [(5, .int x1), (0, .ref l0), (3, .int l3), (4, .int l4)]) (st2 := [.int l4, .ref l0, .int l3, .ref l0]) rfl <| zx_call hy (as := [.ref l0, .int l4]) (rest := [.int l3, .ref l0]) (ov := (fun v => some (.int v))) (fun _ => rfl) rfl rfl (Or.inl rfl) rfl rfl (Nat.le_of_ble_eq_true rfl) (Nat.le_of_ble_eq_true rfl) (fun _ e _ => z_rcvT (rfW_at N l0 l4 h2 _ e)) (fun _ e => zt_deep (Nat.le_of_ble_eq_true rfl) (sfW_at N l0 l4 h2 _ e)) e fun x3 h4 _ e => zx_call hy (as := [.ref l0, .int l3, .int x3]) (rest := []) (ov := (fun _ => none)) (fun _ => rfl) rfl rfl (Or.inl rfl) rfl rfl (Nat.le_of_ble_eq_true rfl) (Nat.le_of_ble_eq_true rfl) (fun _ e _ => z_rcvT (rfW_put N l0 l3 x3 h4 _ e)) (fun _ e => zt_deep (Nat.le_of_ble_eq_true rfl) (sfW_put N l0 l3 x3 h4 _ e)) e fun _ h6 _ e => zl hy 3 (pc2 := 36) (lv2 := [(5, .int x1), (0, .ref l0), (3, .int l3), (4, .int l4)]) (st2 := [.int x1, .int l4, .ref l0]) rfl <| zx_call hy (as := [.ref l0, .int l4, .int x1]) (rest := []) (ov := (fun _ => none)) (fun _ => rfl) rfl rfl (Or.inl rfl) rfl rfl (Nat.le_of_ble_eq_true rfl) (Nat.le_of_ble_eq_true rfl) (fun _ e _ => z_rcvT (rfW_put N l0 l4 x1 h6 _ e)) (fun _ e => zt_deep (Nat.le_of_ble_eq_true rfl) (sfW_put N l0 l4 x1 h6 _ e)) e fun _ h8 _ e => zl hy 3 (pc2 := 7) (lv2 := [(4, .int (l4 + Int32.ofInt (-1))), (3, .int (l3 + Int32.ofInt 1)), (5, .int x1), (0, .ref l0)]) (st2 := []) rfl <| zt_sub (z_fc rfl (z_fc rfl (z_fc rfl (z_fn)))) <| ih l0 (l3 + Int32.ofInt 1) (l4 + Int32.ofInt (-1)) h8 _ e)
def fW_mirror (N : Nat) (l0 : Nat) (l1 : Int32) (l2 : Int32) (h : zH) : Option (Unit × zH) := cond (fT h l0 4) (fW_mirror_7 N N  l0 l1 (l2 - (Int32.ofInt 1)) h) none
theorem sfW_mirror {xs : List Int32} (N : Nat) (l0 : Nat) (l1 : Int32) (l2 : Int32) (h : zH) (r : Unit × zH) (e : fW_mirror N l0 l1 l2 h = some r) : zt xs (2) 54 0 [(0, .ref l0), (1, .int l1), (2, .int l2)] [] h 0 0 (zQ cV r) := by
  have hy := mfW_mirror
  unfold fW_mirror at e
  replace e := (cond_some e).2
  exact zl hy 6 (pc2 := 7) (lv2 := [(4, .int (l2 - (Int32.ofInt 1))), (3, .int l1), (0, .ref l0), (1, .int l1), (2, .int l2)]) (st2 := []) rfl <| zt_sub (z_fc rfl (z_fc rfl (z_fc rfl (z_fn)))) <| sfW_mirror_7 N   N l0 l1 (l2 - (Int32.ofInt 1)) h _ e
theorem rfW_mirror (N : Nat) (l0 : Nat) (l1 : Int32) (l2 : Int32) (h : zH) (r : Unit × zH) (e : fW_mirror N l0 l1 l2 h = some r) : fT h l0 4 = true := by
  unfold fW_mirror at e
  exact (cond_some e).1
/-- LyndonBench$Word.turn(I)V -/
theorem mfW_turn : z_me 55 zc_55 2 [] none := ⟨z_me0 rfl, rfl, rfl, rfl⟩
def fW_turn (N : Nat) (l0 : Nat) (l1 : Int32) (h : zH) : Option (Unit × zH) := cond (fT h l0 4) (b2 (fW_mirror N l0 (Int32.ofInt 0) l1 h) fun _ h2 => b1 (fI h2 l0 4 1) fun x3 => b2 (fW_mirror N l0 l1 x3 h2) fun _ h5 => b1 (fI h5 l0 4 1) fun x6 => b2 (fW_mirror N l0 (Int32.ofInt 0) x6 h5) fun _ h8 => some ((), h8)) none
theorem sfW_turn {xs : List Int32} (N : Nat) (l0 : Nat) (l1 : Int32) (h : zH) (r : Unit × zH) (e : fW_turn N l0 l1 h = some r) : zt xs (3) 55 0 [(0, .ref l0), (1, .int l1)] [] h 0 0 (zQ cV r) := by
  have hy := mfW_turn
  unfold fW_turn at e
  replace e := (cond_some e).2
  exact zl hy 3 (pc2 := 3) (lv2 := [(0, .ref l0), (1, .int l1)]) (st2 := [.int l1, .int (Int32.ofInt 0), .ref l0]) rfl <| zx_call hy (as := [.ref l0, .int (Int32.ofInt 0), .int l1]) (rest := []) (ov := (fun _ => none)) (fun _ => rfl) rfl rfl (Or.inl rfl) rfl rfl (Nat.le_of_ble_eq_true rfl) (Nat.le_of_ble_eq_true rfl) (fun _ e _ => z_rcvT (rfW_mirror N l0 (Int32.ofInt 0) l1 h _ e)) (fun _ e => zt_deep (Nat.le_of_ble_eq_true rfl) (sfW_mirror N l0 (Int32.ofInt 0) l1 h _ e)) e fun _ h2 _ e => zl hy 3 (pc2 := 9) (lv2 := [(0, .ref l0), (1, .int l1)]) (st2 := [.ref l0, .int l1, .ref l0]) rfl <| zx_gI hy rfl e fun x3 _ e => zx_call hy (as := [.ref l0, .int l1, .int x3]) (rest := []) (ov := (fun _ => none)) (fun _ => rfl) rfl rfl (Or.inl rfl) rfl rfl (Nat.le_of_ble_eq_true rfl) (Nat.le_of_ble_eq_true rfl) (fun _ e _ => z_rcvT (rfW_mirror N l0 l1 x3 h2 _ e)) (fun _ e => zt_deep (Nat.le_of_ble_eq_true rfl) (sfW_mirror N l0 l1 x3 h2 _ e)) e fun _ h5 _ e => zl hy 3 (pc2 := 18) (lv2 := [(0, .ref l0), (1, .int l1)]) (st2 := [.ref l0, .int (Int32.ofInt 0), .ref l0]) rfl <| zx_gI hy rfl e fun x6 _ e => zx_call hy (as := [.ref l0, .int (Int32.ofInt 0), .int x6]) (rest := []) (ov := (fun _ => none)) (fun _ => rfl) rfl rfl (Or.inl rfl) rfl rfl (Nat.le_of_ble_eq_true rfl) (Nat.le_of_ble_eq_true rfl) (fun _ e _ => z_rcvT (rfW_mirror N l0 (Int32.ofInt 0) x6 h5 _ e)) (fun _ e => zt_deep (Nat.le_of_ble_eq_true rfl) (sfW_mirror N l0 (Int32.ofInt 0) x6 h5 _ e)) e fun _ h8 _ e => zx_retV hy rfl rfl e
theorem rfW_turn (N : Nat) (l0 : Nat) (l1 : Int32) (h : zH) (r : Unit × zH) (e : fW_turn N l0 l1 h = some r) : fT h l0 4 = true := by
  unfold fW_turn at e
  exact (cond_some e).1
/-- LyndonBench$Script.runRotate()Z -/
theorem mfC_runRotate : z_me 14 zc_14 1 [] (some .boolean) := ⟨z_me0 rfl, rfl, rfl, rfl⟩
def fC_runRotate_26 (N : Nat)   (h : zH) : Option (Int32 × zH) := some ((Int32.ofInt 0), h)
theorem sfC_runRotate_26 {xs : List Int32} (N : Nat)    (h : zH) (r : Int32 × zH) (e : fC_runRotate_26 N   h = some r) : zt xs (5) 14 26 [] [] h 0 0 (zQ cI r) := by
  have hy := mfC_runRotate
  unfold fC_runRotate_26 at e
  exact zl hy 1 (pc2 := 27) (lv2 := []) (st2 := [.int (Int32.ofInt 0)]) rfl <| zx_ret hy (v := .int (Int32.ofInt 0)) rfl rfl (by decide) rfl e
def fC_runRotate (N : Nat) (l0 : Nat) (h : zH) : Option (Int32 × zH) := cond (fT h l0 2) (b1 (fR h l0 2 1) fun x1 => b1 (fR h x1 3 1) fun x2 => b1 (fI h x2 4 1) fun x3 => b2 (fC_expectNumber N l0 (Int32.ofInt 0) x3 h) fun x4 h5 => cond (z_cmp .eq x4 (Int32.ofInt 0)) (fC_runRotate_26 N   h5) (b2 (fC_expect N l0 (Int32.ofInt 5) h5) fun x6 h7 => cond (z_cmp .ne x6 (Int32.ofInt 0)) (b1 (fR h7 l0 2 1) fun x8 => b1 (fR h7 x8 3 1) fun x9 => b1 (fI h7 l0 2 7) fun x10 => b2 (fW_turn N x9 x10 h7) fun _ h12 => some ((Int32.ofInt 1), h12)) (fC_runRotate_26 N   h7))) none
theorem sfC_runRotate {xs : List Int32} (N : Nat) (l0 : Nat) (h : zH) (r : Int32 × zH) (e : fC_runRotate N l0 h = some r) : zt xs (5) 14 0 [(0, .ref l0)] [] h 0 0 (zQ cI r) := by
  have hy := mfC_runRotate
  unfold fC_runRotate at e
  replace e := (cond_some e).2
  exact zl hy 3 (pc2 := 3) (lv2 := [(0, .ref l0)]) (st2 := [.ref l0, .int (Int32.ofInt 0), .ref l0]) rfl <| zx_gR hy rfl e fun x1 _ e => zx_gR hy rfl e fun x2 _ e => zx_gI hy rfl e fun x3 _ e => zx_call hy (as := [.ref l0, .int (Int32.ofInt 0), .int x3]) (rest := []) (ov := (fun v => some (.int v))) (fun _ => rfl) rfl rfl (Or.inl rfl) rfl rfl (Nat.le_of_ble_eq_true rfl) (Nat.le_of_ble_eq_true rfl) (fun _ e _ => z_rcvT (rfC_expectNumber N l0 (Int32.ofInt 0) x3 h _ e)) (fun _ e => zt_deep (Nat.le_of_ble_eq_true rfl) (sfC_expectNumber N l0 (Int32.ofInt 0) x3 h _ e)) e fun x4 h5 _ e => zx_c0 hy rfl e (fun _ e => zt_sub (z_fn) <| sfC_runRotate_26 N    h5 _ e) (fun _ e => zl hy 2 (pc2 := 20) (lv2 := [(0, .ref l0)]) (st2 := [.int (Int32.ofInt 5), .ref l0]) rfl <| zx_call hy (as := [.ref l0, .int (Int32.ofInt 5)]) (rest := []) (ov := (fun v => some (.int v))) (fun _ => rfl) rfl rfl (Or.inl rfl) rfl rfl (Nat.le_of_ble_eq_true rfl) (Nat.le_of_ble_eq_true rfl) (fun _ e _ => z_rcvT (rfC_expect N l0 (Int32.ofInt 5) h5 _ e)) (fun _ e => zt_deep (Nat.le_of_ble_eq_true rfl) (sfC_expect N l0 (Int32.ofInt 5) h5 _ e)) e fun x6 h7 _ e => zx_c0 hy rfl e (fun _ e => zl hy 1 (pc2 := 29) (lv2 := [(0, .ref l0)]) (st2 := [.ref l0]) rfl <| zx_gR hy rfl e fun x8 _ e => zx_gR hy rfl e fun x9 _ e => zl hy 1 (pc2 := 36) (lv2 := [(0, .ref l0)]) (st2 := [.ref l0, .ref x9]) rfl <| zx_gI hy rfl e fun x10 _ e => zx_call hy (as := [.ref x9, .int x10]) (rest := []) (ov := (fun _ => none)) (fun _ => rfl) rfl rfl (Or.inl rfl) rfl rfl (Nat.le_of_ble_eq_true rfl) (Nat.le_of_ble_eq_true rfl) (fun _ e _ => z_rcvT (rfW_turn N x9 x10 h7 _ e)) (fun _ e => zt_deep (Nat.le_of_ble_eq_true rfl) (sfW_turn N x9 x10 h7 _ e)) e fun _ h12 _ e => zl hy 1 (pc2 := 43) (lv2 := [(0, .ref l0)]) (st2 := [.int (Int32.ofInt 1)]) rfl <| zx_ret hy (v := .int (Int32.ofInt 1)) rfl rfl (by decide) rfl e) (fun _ e => zt_sub (z_fn) <| sfC_runRotate_26 N    h7 _ e))
theorem rfC_runRotate (N : Nat) (l0 : Nat) (h : zH) (r : Int32 × zH) (e : fC_runRotate N l0 h = some r) : fT h l0 2 = true := by
  unfold fC_runRotate at e
  exact (cond_some e).1
/-- LyndonBench$Script.runReverse()Z -/
theorem mfC_runReverse : z_me 15 zc_15 1 [] (some .boolean) := ⟨z_me0 rfl, rfl, rfl, rfl⟩
def fC_runReverse (N : Nat) (l0 : Nat) (h : zH) : Option (Int32 × zH) := cond (fT h l0 2) (b2 (fC_expect N l0 (Int32.ofInt 5) h) fun x1 h2 => cond (z_cmp .ne x1 (Int32.ofInt 0)) (b1 (fR h2 l0 2 1) fun x3 => b1 (fR h2 x3 3 1) fun x4 => b1 (fR h2 l0 2 1) fun x5 => b1 (fR h2 x5 3 1) fun x6 => b1 (fI h2 x6 4 1) fun x7 => b2 (fW_mirror N x4 (Int32.ofInt 0) x7 h2) fun _ h9 => some ((Int32.ofInt 1), h9)) (some ((Int32.ofInt 0), h2))) none
theorem sfC_runReverse {xs : List Int32} (N : Nat) (l0 : Nat) (h : zH) (r : Int32 × zH) (e : fC_runReverse N l0 h = some r) : zt xs (5) 15 0 [(0, .ref l0)] [] h 0 0 (zQ cI r) := by
  have hy := mfC_runReverse
  unfold fC_runReverse at e
  replace e := (cond_some e).2
  exact zl hy 2 (pc2 := 2) (lv2 := [(0, .ref l0)]) (st2 := [.int (Int32.ofInt 5), .ref l0]) rfl <| zx_call hy (as := [.ref l0, .int (Int32.ofInt 5)]) (rest := []) (ov := (fun v => some (.int v))) (fun _ => rfl) rfl rfl (Or.inl rfl) rfl rfl (Nat.le_of_ble_eq_true rfl) (Nat.le_of_ble_eq_true rfl) (fun _ e _ => z_rcvT (rfC_expect N l0 (Int32.ofInt 5) h _ e)) (fun _ e => zt_deep (Nat.le_of_ble_eq_true rfl) (sfC_expect N l0 (Int32.ofInt 5) h _ e)) e fun x1 h2 _ e => zx_c0 hy rfl e (fun _ e => zl hy 1 (pc2 := 11) (lv2 := [(0, .ref l0)]) (st2 := [.ref l0]) rfl <| zx_gR hy rfl e fun x3 _ e => zx_gR hy rfl e fun x4 _ e => zl hy 2 (pc2 := 19) (lv2 := [(0, .ref l0)]) (st2 := [.ref l0, .int (Int32.ofInt 0), .ref x4]) rfl <| zx_gR hy rfl e fun x5 _ e => zx_gR hy rfl e fun x6 _ e => zx_gI hy rfl e fun x7 _ e => zx_call hy (as := [.ref x4, .int (Int32.ofInt 0), .int x7]) (rest := []) (ov := (fun _ => none)) (fun _ => rfl) rfl rfl (Or.inl rfl) rfl rfl (Nat.le_of_ble_eq_true rfl) (Nat.le_of_ble_eq_true rfl) (fun _ e _ => z_rcvT (rfW_mirror N x4 (Int32.ofInt 0) x7 h2 _ e)) (fun _ e => zt_deep (Nat.le_of_ble_eq_true rfl) (sfW_mirror N x4 (Int32.ofInt 0) x7 h2 _ e)) e fun _ h9 _ e => zl hy 1 (pc2 := 32) (lv2 := [(0, .ref l0)]) (st2 := [.int (Int32.ofInt 1)]) rfl <| zx_ret hy (v := .int (Int32.ofInt 1)) rfl rfl (by decide) rfl e) (fun _ e => zl hy 1 (pc2 := 9) (lv2 := [(0, .ref l0)]) (st2 := [.int (Int32.ofInt 0)]) rfl <| zx_ret hy (v := .int (Int32.ofInt 0)) rfl rfl (by decide) rfl e)
theorem rfC_runReverse (N : Nat) (l0 : Nat) (h : zH) (r : Int32 × zH) (e : fC_runReverse N l0 h = some r) : fT h l0 2 = true := by
  unfold fC_runReverse at e
  exact (cond_some e).1
/-- LyndonBench$Word.atAround(I)I -/
theorem mfW_atAround : z_me 73 zc_73 2 [] (some .int) := ⟨z_me0 rfl, rfl, rfl, rfl⟩
def fW_atAround_19 (N : Nat)  (s0 : Int32) (s1 : Nat) (h : zH) : Option (Int32 × zH) := b2 (fW_at N s1 s0 h) fun x3 h4 => some (x3, h4)
theorem sfW_atAround_19 {xs : List Int32} (N : Nat)   (s0 : Int32) (s1 : Nat) (h : zH) (r : Int32 × zH) (e : fW_atAround_19 N  s0 s1 h = some r) : zt xs (2) 73 19 [] [.int s0, .ref s1] h 0 0 (zQ cI r) := by
  have hy := mfW_atAround
  unfold fW_atAround_19 at e
  exact zx_call hy (as := [.ref s1, .int s0]) (rest := []) (ov := (fun v => some (.int v))) (fun _ => rfl) rfl rfl (Or.inl rfl) rfl rfl (Nat.le_of_ble_eq_true rfl) (Nat.le_of_ble_eq_true rfl) (fun _ e _ => z_rcvT (rfW_at N s1 s0 h _ e)) (fun _ e => zt_deep (Nat.le_of_ble_eq_true rfl) (sfW_at N s1 s0 h _ e)) e fun x3 h4 _ e => zx_ret hy rfl rfl rfl rfl e
def fW_atAround (N : Nat) (l0 : Nat) (l1 : Int32) (h : zH) : Option (Int32 × zH) := cond (fT h l0 4) (b1 (fI h l0 4 1) fun x1 => cond (z_cmp .ge l1 x1) (b1 (fI h l0 4 1) fun x2 => fW_atAround_19 N  (l1 - x2) l0 h) (fW_atAround_19 N  l1 l0 h)) none
theorem sfW_atAround {xs : List Int32} (N : Nat) (l0 : Nat) (l1 : Int32) (h : zH) (r : Int32 × zH) (e : fW_atAround N l0 l1 h = some r) : zt xs (2) 73 0 [(0, .ref l0), (1, .int l1)] [] h 0 0 (zQ cI r) := by
  have hy := mfW_atAround
  unfold fW_atAround at e
  replace e := (cond_some e).2
  exact zl hy 3 (pc2 := 3) (lv2 := [(0, .ref l0), (1, .int l1)]) (st2 := [.ref l0, .int l1, .ref l0]) rfl <| zx_gI hy rfl e fun x1 _ e => zx_c hy rfl e (fun _ e => zl hy 2 (pc2 := 15) (lv2 := [(0, .ref l0), (1, .int l1)]) (st2 := [.ref l0, .int l1, .ref l0]) rfl <| zx_gI hy rfl e fun x2 _ e => zl hy 1 (pc2 := 19) (lv2 := [(0, .ref l0), (1, .int l1)]) (st2 := [.int (l1 - x2), .ref l0]) rfl <| zt_sub (z_fn) <| sfW_atAround_19 N   (l1 - x2) l0 h _ e) (fun _ e => zl hy 2 (pc2 := 19) (lv2 := [(0, .ref l0), (1, .int l1)]) (st2 := [.int l1, .ref l0]) rfl <| zt_sub (z_fn) <| sfW_atAround_19 N   l1 l0 h _ e)
theorem rfW_atAround (N : Nat) (l0 : Nat) (l1 : Int32) (h : zH) (r : Int32 × zH) (e : fW_atAround N l0 l1 h = some r) : fT h l0 4 = true := by
  unfold fW_atAround at e
  exact (cond_some e).1
/-- LyndonBench$Word.leastTurn()I -/
theorem mfW_leastTurn : z_me 72 zc_72 7 [] (some .int) := ⟨z_me0 rfl, rfl, rfl, rfl⟩
def fW_leastTurn_105 (N : Nat)  (l1 : Int32) (h : zH) : Option (Int32 × zH) := some (l1, h)
theorem sfW_leastTurn_105 {xs : List Int32} (N : Nat)   (l1 : Int32) (h : zH) (r : Int32 × zH) (e : fW_leastTurn_105 N  l1 h = some r) : zt xs (3) 72 105 [(1, .int l1)] [] h 0 0 (zQ cI r) := by
  have hy := mfW_leastTurn
  unfold fW_leastTurn_105 at e
  exact zl hy 1 (pc2 := 106) (lv2 := [(1, .int l1)]) (st2 := [.int l1]) rfl <| zx_ret hy rfl rfl rfl rfl e
def fW_leastTurn_99 (N : Nat) (k9 : Nat → Int32 → Int32 → Int32 → Int32 → zH → Option (Int32 × zH)) (l0 : Nat) (l1 : Int32) (l2 : Int32) (l3 : Int32) (l4 : Int32) (h : zH) : Option (Int32 × zH) := k9 l0 l1 l2 l3 (l4 + Int32.ofInt 1) h
theorem sfW_leastTurn_99 {xs : List Int32} (N : Nat) (k9 : Nat → Int32 → Int32 → Int32 → Int32 → zH → Option (Int32 × zH))  (hk9 : ∀ (l0 : Nat) (l1 : Int32) (l2 : Int32) (l3 : Int32) (l4 : Int32) (h : zH) (r : Int32 × zH), k9 l0 l1 l2 l3 l4 h = some r → zt xs (3) 72 9 [(0, .ref l0), (1, .int l1), (2, .int l2), (3, .int l3), (4, .int l4)] [] h 0 0 (zQ cI r)) (l0 : Nat) (l1 : Int32) (l2 : Int32) (l3 : Int32) (l4 : Int32) (h : zH) (r : Int32 × zH) (e : fW_leastTurn_99 N k9 l0 l1 l2 l3 l4 h = some r) : zt xs (3) 72 99 [(0, .ref l0), (1, .int l1), (2, .int l2), (3, .int l3), (4, .int l4)] [] h 0 0 (zQ cI r) := by
  have hy := mfW_leastTurn
  unfold fW_leastTurn_99 at e
  exact zl hy 2 (pc2 := 9) (lv2 := [(4, .int (l4 + Int32.ofInt 1)), (0, .ref l0), (1, .int l1), (2, .int l2), (3, .int l3)]) (st2 := []) rfl <| zt_sub (z_fc rfl (z_fc rfl (z_fc rfl (z_fc rfl (z_fc rfl (z_fn)))))) <| hk9 l0 l1 l2 l3 (l4 + Int32.ofInt 1) h _ e
def fW_leastTurn_97 (N : Nat) (k9 : Nat → Int32 → Int32 → Int32 → Int32 → zH → Option (Int32 × zH)) (l0 : Nat) (l1 : Int32) (l2 : Int32) (l4 : Int32) (h : zH) : Option (Int32 × zH) := fW_leastTurn_99 N k9 l0 l1 l2 (Int32.ofInt 0) l4 h
theorem sfW_leastTurn_97 {xs : List Int32} (N : Nat) (k9 : Nat → Int32 → Int32 → Int32 → Int32 → zH → Option (Int32 × zH))  (hk9 : ∀ (l0 : Nat) (l1 : Int32) (l2 : Int32) (l3 : Int32) (l4 : Int32) (h : zH) (r : Int32 × zH), k9 l0 l1 l2 l3 l4 h = some r → zt xs (3) 72 9 [(0, .ref l0), (1, .int l1), (2, .int l2), (3, .int l3), (4, .int l4)] [] h 0 0 (zQ cI r)) (l0 : Nat) (l1 : Int32) (l2 : Int32) (l4 : Int32) (h : zH) (r : Int32 × zH) (e : fW_leastTurn_97 N k9 l0 l1 l2 l4 h = some r) : zt xs (3) 72 97 [(0, .ref l0), (1, .int l1), (2, .int l2), (4, .int l4)] [] h 0 0 (zQ cI r) := by
  have hy := mfW_leastTurn
  unfold fW_leastTurn_97 at e
  exact zl hy 2 (pc2 := 99) (lv2 := [(3, .int (Int32.ofInt 0)), (0, .ref l0), (1, .int l1), (2, .int l2), (4, .int l4)]) (st2 := []) rfl <| zt_sub (z_fc rfl (z_fc rfl (z_fc rfl (z_fc rfl (z_fc rfl (z_fn)))))) <| sfW_leastTurn_99 N k9 hk9 l0 l1 l2 (Int32.ofInt 0) l4 h _ e
def fW_leastTurn_9 (N : Nat) : Nat → Nat → Int32 → Int32 → Int32 → Int32 → zH → Option (Int32 × zH)
  | 0, _, _, _, _, _, _ => none
  | n + 1, l0, l1, l2, l3, l4, h => b1 (fI h l0 4 1) fun x1 => cond (z_cmp .ge l4 ((Int32.ofInt 4) * x1)) (fW_leastTurn_105 N  l1 h) (b1 (fI h l0 4 1) fun x2 => cond (z_cmp .ge l2 x2) (fW_leastTurn_105 N  l1 h) (b1 (fI h l0 4 1) fun x3 => cond (z_cmp .ge l3 x3) (fW_leastTurn_105 N  l1 h) (b2 (fW_atAround N l0 (l1 + l3) h) fun x4 h5 => b2 (fW_atAround N l0 (l2 + l3) h5) fun x6 h7 => cond (z_cmp .ne x4 x6) (cond (z_cmp .le x4 x6) (fW_leastTurn_97 N (fW_leastTurn_9 N n ) l0 l1 ((l2 + l3) + (Int32.ofInt 1)) l4 h7) (fW_leastTurn_97 N (fW_leastTurn_9 N n ) l0 (if l2 < ((l1 + l3) + (Int32.ofInt 1)) then ((l1 + l3) + (Int32.ofInt 1)) else l2) ((if l2 < ((l1 + l3) + (Int32.ofInt 1)) then ((l1 + l3) + (Int32.ofInt 1)) else l2) + (Int32.ofInt 1)) l4 h7)) (fW_leastTurn_99 N (fW_leastTurn_9 N n ) l0 l1 l2 (l3 + Int32.ofInt 1) l4 h7))))
theorem sfW_leastTurn_9 {xs : List Int32} (N : Nat)   : ∀ (n : Nat) (l0 : Nat) (l1 : Int32) (l2 : Int32) (l3 : Int32) (l4 : Int32) (h : zH) (r : Int32 × zH), fW_leastTurn_9 N n  l0 l1 l2 l3 l4 h = some r → zt xs (3) 72 9 [(0, .ref l0), (1, .int l1), (2, .int l2), (3, .int l3), (4, .int l4)] [] h 0 0 (zQ cI r) := by
  have hy := mfW_leastTurn
  intro n
  induction n with
  | zero =>
    intro l0 l1 l2 l3 l4 h r e
    rw [fW_leastTurn_9] at e
    cases e
  | succ n ih =>
    intro l0 l1 l2 l3 l4 h r e
    rw [fW_leastTurn_9] at e
    exact zl hy 3 (pc2 := 13) (lv2 := [(0, .ref l0), (1, .int l1), (2, .int l2), (3, .int l3), (4, .int l4)]) (st2 := [.ref l0, .int (Int32.ofInt 4), .int l4]) rfl <| zx_gI hy rfl e fun x1 _ e => zl hy 1 (pc2 := 17) (lv2 := [(0, .ref l0), (1, .int l1), (2, .int l2), (3, .int l3), (4, .int l4)]) (st2 := [.int ((Int32.ofInt 4) * x1), .int l4]) rfl <| zx_c hy rfl e (fun _ e => zt_sub (z_fc rfl (z_fn)) <| sfW_leastTurn_105 N   l1 h _ e) (fun _ e => zl hy 2 (pc2 := 22) (lv2 := [(0, .ref l0), (1, .int l1), (2, .int l2), (3, .int l3), (4, .int l4)]) (st2 := [.ref l0, .int l2]) rfl <| zx_gI hy rfl e fun x2 _ e => zx_c hy rfl e (fun _ e => zt_sub (z_fc rfl (z_fn)) <| sfW_leastTurn_105 N   l1 h _ e) (fun _ e => zl hy 2 (pc2 := 30) (lv2 := [(0, .ref l0), (1, .int l1), (2, .int l2), (3, .int l3), (4, .int l4)]) (st2 := [.ref l0, .int l3]) rfl <| zx_gI hy rfl e fun x3 _ e => zx_c hy rfl e (fun _ e => zt_sub (z_fc rfl (z_fn)) <| sfW_leastTurn_105 N   l1 h _ e) (fun _ e => zl hy 4 (pc2 := 40) (lv2 := [(0, .ref l0), (1, .int l1), (2, .int l2), (3, .int l3), (4, .int l4)]) (st2 := [.int (l1 + l3), .ref l0]) rfl <| zx_call hy (as := [.ref l0, .int (l1 + l3)]) (rest := []) (ov := (fun v => some (.int v))) (fun _ => rfl) rfl rfl (Or.inl rfl) rfl rfl (Nat.le_of_ble_eq_true rfl) (Nat.le_of_ble_eq_true rfl) (fun _ e _ => z_rcvT (rfW_atAround N l0 (l1 + l3) h _ e)) (fun _ e => zt_deep (Nat.le_of_ble_eq_true rfl) (sfW_atAround N l0 (l1 + l3) h _ e)) e fun x4 h5 _ e => zl hy 5 (pc2 := 49) (lv2 := [(5, .int x4), (0, .ref l0), (1, .int l1), (2, .int l2), (3, .int l3), (4, .int l4)]) (st2 := [.int (l2 + l3), .ref l0]) rfl <| zx_call hy (as := [.ref l0, .int (l2 + l3)]) (rest := []) (ov := (fun v => some (.int v))) (fun _ => rfl) rfl rfl (Or.inl rfl) rfl rfl (Nat.le_of_ble_eq_true rfl) (Nat.le_of_ble_eq_true rfl) (fun _ e _ => z_rcvT (rfW_atAround N l0 (l2 + l3) h5 _ e)) (fun _ e => zt_deep (Nat.le_of_ble_eq_true rfl) (sfW_atAround N l0 (l2 + l3) h5 _ e)) e fun x6 h7 _ e => zl hy 3 (pc2 := 58) (lv2 := [(6, .int x6), (5, .int x4), (0, .ref l0), (1, .int l1), (2, .int l2), (3, .int l3), (4, .int l4)]) (st2 := [.int x6, .int x4]) rfl <| zx_c hy rfl e (fun _ e => zl hy 2 (pc2 := 71) (lv2 := [(6, .int x6), (5, .int x4), (0, .ref l0), (1, .int l1), (2, .int l2), (3, .int l3), (4, .int l4)]) (st2 := [.int x6, .int x4]) rfl <| zx_c hy rfl e (fun _ e => zl hy 6 (pc2 := 97) (lv2 := [(2, .int ((l2 + l3) + (Int32.ofInt 1))), (6, .int x6), (5, .int x4), (0, .ref l0), (1, .int l1), (3, .int l3), (4, .int l4)]) (st2 := []) rfl <| zt_sub (z_fc rfl (z_fc rfl (z_fc rfl (z_fc rfl (z_fn))))) <| sfW_leastTurn_97 N (fW_leastTurn_9 N n ) ih l0 l1 ((l2 + l3) + (Int32.ofInt 1)) l4 h7 _ e) (fun _ e => zl hy 6 (pc2 := 80) (lv2 := [(6, .int x6), (5, .int x4), (0, .ref l0), (1, .int l1), (2, .int l2), (3, .int l3), (4, .int l4)]) (st2 := [.int ((l1 + l3) + (Int32.ofInt 1)), .int l2]) rfl <| zx_max hy rfl (Nat.le_of_ble_eq_true rfl) <| zl hy 6 (pc2 := 97) (lv2 := [(2, .int ((if l2 < ((l1 + l3) + (Int32.ofInt 1)) then ((l1 + l3) + (Int32.ofInt 1)) else l2) + (Int32.ofInt 1))), (1, .int (if l2 < ((l1 + l3) + (Int32.ofInt 1)) then ((l1 + l3) + (Int32.ofInt 1)) else l2)), (6, .int x6), (5, .int x4), (0, .ref l0), (3, .int l3), (4, .int l4)]) (st2 := []) rfl <| zt_sub (z_fc rfl (z_fc rfl (z_fc rfl (z_fc rfl (z_fn))))) <| sfW_leastTurn_97 N (fW_leastTurn_9 N n ) ih l0 (if l2 < ((l1 + l3) + (Int32.ofInt 1)) then ((l1 + l3) + (Int32.ofInt 1)) else l2) ((if l2 < ((l1 + l3) + (Int32.ofInt 1)) then ((l1 + l3) + (Int32.ofInt 1)) else l2) + (Int32.ofInt 1)) l4 h7 _ e)) (fun _ e => zl hy 2 (pc2 := 99) (lv2 := [(3, .int (l3 + Int32.ofInt 1)), (6, .int x6), (5, .int x4), (0, .ref l0), (1, .int l1), (2, .int l2), (4, .int l4)]) (st2 := []) rfl <| zt_sub (z_fc rfl (z_fc rfl (z_fc rfl (z_fc rfl (z_fc rfl (z_fn)))))) <| sfW_leastTurn_99 N (fW_leastTurn_9 N n ) ih l0 l1 l2 (l3 + Int32.ofInt 1) l4 h7 _ e))))
def fW_leastTurn (N : Nat) (l0 : Nat) (h : zH) : Option (Int32 × zH) := cond (fT h l0 4) (fW_leastTurn_9 N N  l0 (Int32.ofInt 0) (Int32.ofInt 1) (Int32.ofInt 0) (Int32.ofInt 0) h) none
theorem sfW_leastTurn {xs : List Int32} (N : Nat) (l0 : Nat) (h : zH) (r : Int32 × zH) (e : fW_leastTurn N l0 h = some r) : zt xs (3) 72 0 [(0, .ref l0)] [] h 0 0 (zQ cI r) := by
  have hy := mfW_leastTurn
  unfold fW_leastTurn at e
  replace e := (cond_some e).2
  exact zl hy 8 (pc2 := 9) (lv2 := [(4, .int (Int32.ofInt 0)), (3, .int (Int32.ofInt 0)), (2, .int (Int32.ofInt 1)), (1, .int (Int32.ofInt 0)), (0, .ref l0)]) (st2 := []) rfl <| zt_sub (z_fc rfl (z_fc rfl (z_fc rfl (z_fc rfl (z_fc rfl (z_fn)))))) <| sfW_leastTurn_9 N   N l0 (Int32.ofInt 0) (Int32.ofInt 1) (Int32.ofInt 0) (Int32.ofInt 0) h _ e
theorem rfW_leastTurn (N : Nat) (l0 : Nat) (h : zH) (r : Int32 × zH) (e : fW_leastTurn N l0 h = some r) : fT h l0 4 = true := by
  unfold fW_leastTurn at e
  exact (cond_some e).1
/-- LyndonBench$Script.runLeast()Z -/
theorem mfC_runLeast : z_me 16 zc_16 1 [] (some .boolean) := ⟨z_me0 rfl, rfl, rfl, rfl⟩
def fC_runLeast_19 (N : Nat)  (l0 : Nat) (s0 : Int32) (s1 : Nat) (h : zH) : Option (Int32 × zH) := b2 (fC_expectEnd N s1 s0 h) fun x4 h5 => cond (z_cmp .ne x4 (Int32.ofInt 0)) (b1 (fR h5 l0 2 1) fun x6 => b1 (fR h5 x6 3 1) fun x7 => b1 (fR h5 l0 2 1) fun x8 => b1 (fR h5 x8 3 1) fun x9 => b2 (fW_leastTurn N x9 h5) fun x10 h11 => b2 (fW_turn N x7 x10 h11) fun _ h13 => some ((Int32.ofInt 1), h13)) (some ((Int32.ofInt 0), h5))
theorem sfC_runLeast_19 {xs : List Int32} (N : Nat)   (l0 : Nat) (s0 : Int32) (s1 : Nat) (h : zH) (r : Int32 × zH) (e : fC_runLeast_19 N  l0 s0 s1 h = some r) : zt xs (5) 16 19 [(0, .ref l0)] [.int s0, .ref s1] h 0 0 (zQ cI r) := by
  have hy := mfC_runLeast
  unfold fC_runLeast_19 at e
  exact zx_call hy (as := [.ref s1, .int s0]) (rest := []) (ov := (fun v => some (.int v))) (fun _ => rfl) rfl rfl (Or.inl rfl) rfl rfl (Nat.le_of_ble_eq_true rfl) (Nat.le_of_ble_eq_true rfl) (fun _ e _ => z_rcvT (rfC_expectEnd N s1 s0 h _ e)) (fun _ e => zt_deep (Nat.le_of_ble_eq_true rfl) (sfC_expectEnd N s1 s0 h _ e)) e fun x4 h5 _ e => zx_c0 hy rfl e (fun _ e => zl hy 1 (pc2 := 28) (lv2 := [(0, .ref l0)]) (st2 := [.ref l0]) rfl <| zx_gR hy rfl e fun x6 _ e => zx_gR hy rfl e fun x7 _ e => zl hy 1 (pc2 := 35) (lv2 := [(0, .ref l0)]) (st2 := [.ref l0, .ref x7]) rfl <| zx_gR hy rfl e fun x8 _ e => zx_gR hy rfl e fun x9 _ e => zx_call hy (as := [.ref x9]) (rest := [.ref x7]) (ov := (fun v => some (.int v))) (fun _ => rfl) rfl rfl (Or.inl rfl) rfl rfl (Nat.le_of_ble_eq_true rfl) (Nat.le_of_ble_eq_true rfl) (fun _ e _ => z_rcvT (rfW_leastTurn N x9 h5 _ e)) (fun _ e => zt_deep (Nat.le_of_ble_eq_true rfl) (sfW_leastTurn N x9 h5 _ e)) e fun x10 h11 _ e => zx_call hy (as := [.ref x7, .int x10]) (rest := []) (ov := (fun _ => none)) (fun _ => rfl) rfl rfl (Or.inl rfl) rfl rfl (Nat.le_of_ble_eq_true rfl) (Nat.le_of_ble_eq_true rfl) (fun _ e _ => z_rcvT (rfW_turn N x7 x10 h11 _ e)) (fun _ e => zt_deep (Nat.le_of_ble_eq_true rfl) (sfW_turn N x7 x10 h11 _ e)) e fun _ h13 _ e => zl hy 1 (pc2 := 48) (lv2 := [(0, .ref l0)]) (st2 := [.int (Int32.ofInt 1)]) rfl <| zx_ret hy (v := .int (Int32.ofInt 1)) rfl rfl (by decide) rfl e) (fun _ e => zl hy 1 (pc2 := 26) (lv2 := [(0, .ref l0)]) (st2 := [.int (Int32.ofInt 0)]) rfl <| zx_ret hy (v := .int (Int32.ofInt 0)) rfl rfl (by decide) rfl e)
def fC_runLeast (N : Nat) (l0 : Nat) (h : zH) : Option (Int32 × zH) := cond (fT h l0 2) (b1 (fR h l0 2 1) fun x1 => b1 (fR h x1 3 1) fun x2 => b1 (fI h x2 4 1) fun x3 => cond (z_cmp .le x3 (Int32.ofInt 0)) (fC_runLeast_19 N  l0 (Int32.ofInt 0) l0 h) (fC_runLeast_19 N  l0 (Int32.ofInt 1) l0 h)) none
theorem sfC_runLeast {xs : List Int32} (N : Nat) (l0 : Nat) (h : zH) (r : Int32 × zH) (e : fC_runLeast N l0 h = some r) : zt xs (5) 16 0 [(0, .ref l0)] [] h 0 0 (zQ cI r) := by
  have hy := mfC_runLeast
  unfold fC_runLeast at e
  replace e := (cond_some e).2
  exact zl hy 2 (pc2 := 2) (lv2 := [(0, .ref l0)]) (st2 := [.ref l0, .ref l0]) rfl <| zx_gR hy rfl e fun x1 _ e => zx_gR hy rfl e fun x2 _ e => zx_gI hy rfl e fun x3 _ e => zx_c0 hy rfl e (fun _ e => zl hy 1 (pc2 := 19) (lv2 := [(0, .ref l0)]) (st2 := [.int (Int32.ofInt 0), .ref l0]) rfl <| zt_sub (z_fc rfl (z_fn)) <| sfC_runLeast_19 N   l0 (Int32.ofInt 0) l0 h _ e) (fun _ e => zl hy 2 (pc2 := 19) (lv2 := [(0, .ref l0)]) (st2 := [.int (Int32.ofInt 1), .ref l0]) rfl <| zt_sub (z_fc rfl (z_fn)) <| sfC_runLeast_19 N   l0 (Int32.ofInt 1) l0 h _ e)
theorem rfC_runLeast (N : Nat) (l0 : Nat) (h : zH) (r : Int32 × zH) (e : fC_runLeast N l0 h = some r) : fT h l0 2 = true := by
  unfold fC_runLeast at e
  exact (cond_some e).1
/-- LyndonBench$Word.lyndonEnd(I)I -/
theorem mfW_lyndonEnd : z_me 59 zc_59 4 [] (some .int) := ⟨z_me0 rfl, rfl, rfl, rfl⟩
def fW_lyndonEnd_56 (N : Nat)  (l1 : Int32) (l2 : Int32) (h : zH) : Option (Int32 × zH) := some ((l1 + l2), h)
theorem sfW_lyndonEnd_56 {xs : List Int32} (N : Nat)   (l1 : Int32) (l2 : Int32) (h : zH) (r : Int32 × zH) (e : fW_lyndonEnd_56 N  l1 l2 h = some r) : zt xs (2) 59 56 [(1, .int l1), (2, .int l2)] [] h 0 0 (zQ cI r) := by
  have hy := mfW_lyndonEnd
  unfold fW_lyndonEnd_56 at e
  exact zl hy 3 (pc2 := 59) (lv2 := [(1, .int l1), (2, .int l2)]) (st2 := [.int (l1 + l2)]) rfl <| zx_ret hy rfl rfl rfl rfl e
def fW_lyndonEnd_50 (N : Nat) (k6 : Nat → Int32 → Int32 → Int32 → zH → Option (Int32 × zH)) (l0 : Nat) (l1 : Int32) (l2 : Int32) (l3 : Int32) (h : zH) : Option (Int32 × zH) := k6 l0 l1 l2 (l3 + Int32.ofInt 1) h
theorem sfW_lyndonEnd_50 {xs : List Int32} (N : Nat) (k6 : Nat → Int32 → Int32 → Int32 → zH → Option (Int32 × zH))  (hk6 : ∀ (l0 : Nat) (l1 : Int32) (l2 : Int32) (l3 : Int32) (h : zH) (r : Int32 × zH), k6 l0 l1 l2 l3 h = some r → zt xs (2) 59 6 [(0, .ref l0), (1, .int l1), (2, .int l2), (3, .int l3)] [] h 0 0 (zQ cI r)) (l0 : Nat) (l1 : Int32) (l2 : Int32) (l3 : Int32) (h : zH) (r : Int32 × zH) (e : fW_lyndonEnd_50 N k6 l0 l1 l2 l3 h = some r) : zt xs (2) 59 50 [(0, .ref l0), (1, .int l1), (2, .int l2), (3, .int l3)] [] h 0 0 (zQ cI r) := by
  have hy := mfW_lyndonEnd
  unfold fW_lyndonEnd_50 at e
  exact zl hy 2 (pc2 := 6) (lv2 := [(3, .int (l3 + Int32.ofInt 1)), (0, .ref l0), (1, .int l1), (2, .int l2)]) (st2 := []) rfl <| zt_sub (z_fc rfl (z_fc rfl (z_fc rfl (z_fc rfl (z_fn))))) <| hk6 l0 l1 l2 (l3 + Int32.ofInt 1) h _ e
def fW_lyndonEnd_6 (N : Nat) : Nat → Nat → Int32 → Int32 → Int32 → zH → Option (Int32 × zH)
  | 0, _, _, _, _, _ => none
  | n + 1, l0, l1, l2, l3, h => b1 (fI h l0 4 1) fun x1 => cond (z_cmp .ge l3 x1) (fW_lyndonEnd_56 N  l1 l2 h) (b2 (fW_at N l0 l3 h) fun x2 h3 => b2 (fW_at N l0 (l3 - l2) h3) fun x4 h5 => cond (z_cmp .lt x2 x4) (fW_lyndonEnd_56 N  l1 l2 h5) (b2 (fW_at N l0 l3 h5) fun x6 h7 => b2 (fW_at N l0 (l3 - l2) h7) fun x8 h9 => cond (z_cmp .le x6 x8) (fW_lyndonEnd_50 N (fW_lyndonEnd_6 N n ) l0 l1 l2 l3 h9) (fW_lyndonEnd_50 N (fW_lyndonEnd_6 N n ) l0 l1 ((l3 - l1) + (Int32.ofInt 1)) l3 h9)))
theorem sfW_lyndonEnd_6 {xs : List Int32} (N : Nat)   : ∀ (n : Nat) (l0 : Nat) (l1 : Int32) (l2 : Int32) (l3 : Int32) (h : zH) (r : Int32 × zH), fW_lyndonEnd_6 N n  l0 l1 l2 l3 h = some r → zt xs (2) 59 6 [(0, .ref l0), (1, .int l1), (2, .int l2), (3, .int l3)] [] h 0 0 (zQ cI r) := by
  have hy := mfW_lyndonEnd
  intro n
  induction n with
  | zero =>
    intro l0 l1 l2 l3 h r e
    rw [fW_lyndonEnd_6] at e
    cases e
  | succ n ih =>
    intro l0 l1 l2 l3 h r e
    rw [fW_lyndonEnd_6] at e
    exact zl hy 2 (pc2 := 8) (lv2 := [(0, .ref l0), (1, .int l1), (2, .int l2), (3, .int l3)]) (st2 := [.ref l0, .int l3]) rfl <| zx_gI hy rfl e fun x1 _ e => zx_c hy rfl e (fun _ e => zt_sub (z_fc rfl (z_fc rfl (z_fn))) <| sfW_lyndonEnd_56 N   l1 l2 h _ e) (fun _ e => zl hy 2 (pc2 := 16) (lv2 := [(0, .ref l0), (1, .int l1), (2, .int l2), (3, .int l3)]) (st2 := [.int l3, .ref l0]) rfl <| zx_call hy (as := [.ref l0, .int l3]) (rest := []) (ov := (fun v => some (.int v))) (fun _ => rfl) rfl rfl (Or.inl rfl) rfl rfl (Nat.le_of_ble_eq_true rfl) (Nat.le_of_ble_eq_true rfl) (fun _ e _ => z_rcvT (rfW_at N l0 l3 h _ e)) (fun _ e => zt_deep (Nat.le_of_ble_eq_true rfl) (sfW_at N l0 l3 h _ e)) e fun x2 h3 _ e => zl hy 4 (pc2 := 23) (lv2 := [(0, .ref l0), (1, .int l1), (2, .int l2), (3, .int l3)]) (st2 := [.int (l3 - l2), .ref l0, .int x2]) rfl <| zx_call hy (as := [.ref l0, .int (l3 - l2)]) (rest := [.int x2]) (ov := (fun v => some (.int v))) (fun _ => rfl) rfl rfl (Or.inl rfl) rfl rfl (Nat.le_of_ble_eq_true rfl) (Nat.le_of_ble_eq_true rfl) (fun _ e _ => z_rcvT (rfW_at N l0 (l3 - l2) h3 _ e)) (fun _ e => zt_deep (Nat.le_of_ble_eq_true rfl) (sfW_at N l0 (l3 - l2) h3 _ e)) e fun x4 h5 _ e => zx_c hy rfl e (fun _ e => zt_sub (z_fc rfl (z_fc rfl (z_fn))) <| sfW_lyndonEnd_56 N   l1 l2 h5 _ e) (fun _ e => zl hy 2 (pc2 := 31) (lv2 := [(0, .ref l0), (1, .int l1), (2, .int l2), (3, .int l3)]) (st2 := [.int l3, .ref l0]) rfl <| zx_call hy (as := [.ref l0, .int l3]) (rest := []) (ov := (fun v => some (.int v))) (fun _ => rfl) rfl rfl (Or.inl rfl) rfl rfl (Nat.le_of_ble_eq_true rfl) (Nat.le_of_ble_eq_true rfl) (fun _ e _ => z_rcvT (rfW_at N l0 l3 h5 _ e)) (fun _ e => zt_deep (Nat.le_of_ble_eq_true rfl) (sfW_at N l0 l3 h5 _ e)) e fun x6 h7 _ e => zl hy 4 (pc2 := 38) (lv2 := [(0, .ref l0), (1, .int l1), (2, .int l2), (3, .int l3)]) (st2 := [.int (l3 - l2), .ref l0, .int x6]) rfl <| zx_call hy (as := [.ref l0, .int (l3 - l2)]) (rest := [.int x6]) (ov := (fun v => some (.int v))) (fun _ => rfl) rfl rfl (Or.inl rfl) rfl rfl (Nat.le_of_ble_eq_true rfl) (Nat.le_of_ble_eq_true rfl) (fun _ e _ => z_rcvT (rfW_at N l0 (l3 - l2) h7 _ e)) (fun _ e => zt_deep (Nat.le_of_ble_eq_true rfl) (sfW_at N l0 (l3 - l2) h7 _ e)) e fun x8 h9 _ e => zx_c hy rfl e (fun _ e => zt_sub (z_fc rfl (z_fc rfl (z_fc rfl (z_fc rfl (z_fn))))) <| sfW_lyndonEnd_50 N (fW_lyndonEnd_6 N n ) ih l0 l1 l2 l3 h9 _ e) (fun _ e => zl hy 6 (pc2 := 50) (lv2 := [(2, .int ((l3 - l1) + (Int32.ofInt 1))), (0, .ref l0), (1, .int l1), (3, .int l3)]) (st2 := []) rfl <| zt_sub (z_fc rfl (z_fc rfl (z_fc rfl (z_fc rfl (z_fn))))) <| sfW_lyndonEnd_50 N (fW_lyndonEnd_6 N n ) ih l0 l1 ((l3 - l1) + (Int32.ofInt 1)) l3 h9 _ e)))
def fW_lyndonEnd (N : Nat) (l0 : Nat) (l1 : Int32) (h : zH) : Option (Int32 × zH) := cond (fT h l0 4) (fW_lyndonEnd_6 N N  l0 l1 (Int32.ofInt 1) (l1 + (Int32.ofInt 1)) h) none
theorem sfW_lyndonEnd {xs : List Int32} (N : Nat) (l0 : Nat) (l1 : Int32) (h : zH) (r : Int32 × zH) (e : fW_lyndonEnd N l0 l1 h = some r) : zt xs (2) 59 0 [(0, .ref l0), (1, .int l1)] [] h 0 0 (zQ cI r) := by
  have hy := mfW_lyndonEnd
  unfold fW_lyndonEnd at e
  replace e := (cond_some e).2
  exact zl hy 6 (pc2 := 6) (lv2 := [(3, .int (l1 + (Int32.ofInt 1))), (2, .int (Int32.ofInt 1)), (0, .ref l0), (1, .int l1)]) (st2 := []) rfl <| zt_sub (z_fc rfl (z_fc rfl (z_fc rfl (z_fc rfl (z_fn))))) <| sfW_lyndonEnd_6 N   N l0 l1 (Int32.ofInt 1) (l1 + (Int32.ofInt 1)) h _ e
theorem rfW_lyndonEnd (N : Nat) (l0 : Nat) (l1 : Int32) (h : zH) (r : Int32 × zH) (e : fW_lyndonEnd N l0 l1 h = some r) : fT h l0 4 = true := by
  unfold fW_lyndonEnd at e
  exact (cond_some e).1
/-- LyndonBench$Word.isOneFactor()Z -/
theorem mfW_isOneFactor : z_me 62 zc_62 1 [] (some .boolean) := ⟨z_me0 rfl, rfl, rfl, rfl⟩
def fW_isOneFactor_24 (N : Nat)  (s0 : Int32) (h : zH) : Option (Int32 × zH) := cond (decide (s0 = Int32.ofInt 0) || decide (s0 = Int32.ofInt 1)) (some (s0, h)) none
theorem sfW_isOneFactor_24 {xs : List Int32} (N : Nat)   (s0 : Int32) (h : zH) (r : Int32 × zH) (e : fW_isOneFactor_24 N  s0 h = some r) : zt xs (3) 62 24 [] [.int s0] h 0 0 (zQ cI r) := by
  have hy := mfW_isOneFactor
  unfold fW_isOneFactor_24 at e
  exact zx_retB hy rfl rfl e
def fW_isOneFactor_23 (N : Nat)   (h : zH) : Option (Int32 × zH) := fW_isOneFactor_24 N  (Int32.ofInt 0) h
theorem sfW_isOneFactor_23 {xs : List Int32} (N : Nat)    (h : zH) (r : Int32 × zH) (e : fW_isOneFactor_23 N   h = some r) : zt xs (3) 62 23 [] [] h 0 0 (zQ cI r) := by
  have hy := mfW_isOneFactor
  unfold fW_isOneFactor_23 at e
  exact zl hy 1 (pc2 := 24) (lv2 := []) (st2 := [.int (Int32.ofInt 0)]) rfl <| zt_sub (z_fn) <| sfW_isOneFactor_24 N   (Int32.ofInt 0) h _ e
def fW_isOneFactor (N : Nat) (l0 : Nat) (h : zH) : Option (Int32 × zH) := cond (fT h l0 4) (b1 (fI h l0 4 1) fun x1 => cond (z_cmp .le x1 (Int32.ofInt 0)) (fW_isOneFactor_23 N   h) (b2 (fW_lyndonEnd N l0 (Int32.ofInt 0) h) fun x2 h3 => b1 (fI h3 l0 4 1) fun x4 => cond (z_cmp .ne x2 x4) (fW_isOneFactor_23 N   h3) (fW_isOneFactor_24 N  (Int32.ofInt 1) h3))) none
theorem sfW_isOneFactor {xs : List Int32} (N : Nat) (l0 : Nat) (h : zH) (r : Int32 × zH) (e : fW_isOneFactor N l0 h = some r) : zt xs (3) 62 0 [(0, .ref l0)] [] h 0 0 (zQ cI r) := by
  have hy := mfW_isOneFactor
  unfold fW_isOneFactor at e
  replace e := (cond_some e).2
  exact zl hy 1 (pc2 := 1) (lv2 := [(0, .ref l0)]) (st2 := [.ref l0]) rfl <| zx_gI hy rfl e fun x1 _ e => zx_c0 hy rfl e (fun _ e => zt_sub (z_fn) <| sfW_isOneFactor_23 N    h _ e) (fun _ e => zl hy 2 (pc2 := 9) (lv2 := [(0, .ref l0)]) (st2 := [.int (Int32.ofInt 0), .ref l0]) rfl <| zx_call hy (as := [.ref l0, .int (Int32.ofInt 0)]) (rest := []) (ov := (fun v => some (.int v))) (fun _ => rfl) rfl rfl (Or.inl rfl) rfl rfl (Nat.le_of_ble_eq_true rfl) (Nat.le_of_ble_eq_true rfl) (fun _ e _ => z_rcvT (rfW_lyndonEnd N l0 (Int32.ofInt 0) h _ e)) (fun _ e => zt_deep (Nat.le_of_ble_eq_true rfl) (sfW_lyndonEnd N l0 (Int32.ofInt 0) h _ e)) e fun x2 h3 _ e => zl hy 1 (pc2 := 13) (lv2 := [(0, .ref l0)]) (st2 := [.ref l0, .int x2]) rfl <| zx_gI hy rfl e fun x4 _ e => zx_c hy rfl e (fun _ e => zt_sub (z_fn) <| sfW_isOneFactor_23 N    h3 _ e) (fun _ e => zl hy 2 (pc2 := 24) (lv2 := [(0, .ref l0)]) (st2 := [.int (Int32.ofInt 1)]) rfl <| zt_sub (z_fn) <| sfW_isOneFactor_24 N   (Int32.ofInt 1) h3 _ e))
theorem rfW_isOneFactor (N : Nat) (l0 : Nat) (h : zH) (r : Int32 × zH) (e : fW_isOneFactor N l0 h = some r) : fT h l0 4 = true := by
  unfold fW_isOneFactor at e
  exact (cond_some e).1
/-- LyndonBench$State.greatestLetter()I -/
theorem mfS_greatestLetter : z_me 32 zc_32 1 [] (some .int) := ⟨z_me0 rfl, rfl, rfl, rfl⟩
def fS_greatestLetter (N : Nat) (l0 : Nat) (h : zH) : Option (Int32 × zH) := cond (fT h l0 3) (b1 (fI h l0 3 0) fun x1 => some ((((Int32.ofInt 97) + x1) - (Int32.ofInt 1)), h)) none
theorem sfS_greatestLetter {xs : List Int32} (N : Nat) (l0 : Nat) (h : zH) (r : Int32 × zH) (e : fS_greatestLetter N l0 h = some r) : zt xs (1) 32 0 [(0, .ref l0)] [] h 0 0 (zQ cI r) := by
  have hy := mfS_greatestLetter
  unfold fS_greatestLetter at e
  replace e := (cond_some e).2
  exact zx_bip hy (c := 97) rfl (by decide) <| zl hy 1 (pc2 := 3) (lv2 := [(0, .ref l0)]) (st2 := [.ref l0, .int (Int32.ofInt 97)]) rfl <| zx_gI hy rfl e fun x1 _ e => zl hy 3 (pc2 := 9) (lv2 := [(0, .ref l0)]) (st2 := [.int (((Int32.ofInt 97) + x1) - (Int32.ofInt 1))]) rfl <| zx_ret hy rfl rfl rfl rfl e
theorem rfS_greatestLetter (N : Nat) (l0 : Nat) (h : zH) (r : Int32 × zH) (e : fS_greatestLetter N l0 h = some r) : fT h l0 3 = true := by
  unfold fS_greatestLetter at e
  exact (cond_some e).1
/-- LyndonBench$State.hasNext(I)Z -/
theorem mfS_hasNext : z_me 41 zc_41 2 [] (some .boolean) := ⟨z_me0 rfl, rfl, rfl, rfl⟩
def fS_hasNext_41 (N : Nat)  (s0 : Int32) (h : zH) : Option (Int32 × zH) := cond (decide (s0 = Int32.ofInt 0) || decide (s0 = Int32.ofInt 1)) (some (s0, h)) none
theorem sfS_hasNext_41 {xs : List Int32} (N : Nat)   (s0 : Int32) (h : zH) (r : Int32 × zH) (e : fS_hasNext_41 N  s0 h = some r) : zt xs (4) 41 41 [] [.int s0] h 0 0 (zQ cI r) := by
  have hy := mfS_hasNext
  unfold fS_hasNext_41 at e
  exact zx_retB hy rfl rfl e
def fS_hasNext_40 (N : Nat)   (h : zH) : Option (Int32 × zH) := fS_hasNext_41 N  (Int32.ofInt 0) h
theorem sfS_hasNext_40 {xs : List Int32} (N : Nat)    (h : zH) (r : Int32 × zH) (e : fS_hasNext_40 N   h = some r) : zt xs (4) 41 40 [] [] h 0 0 (zQ cI r) := by
  have hy := mfS_hasNext
  unfold fS_hasNext_40 at e
  exact zl hy 1 (pc2 := 41) (lv2 := []) (st2 := [.int (Int32.ofInt 0)]) rfl <| zt_sub (z_fn) <| sfS_hasNext_41 N   (Int32.ofInt 0) h _ e
def fS_hasNext (N : Nat) (l0 : Nat) (l1 : Int32) (h : zH) : Option (Int32 × zH) := cond (fT h l0 3) (b1 (fR h l0 3 1) fun x1 => b1 (fI h x1 4 1) fun x2 => cond (z_cmp .gt x2 l1) (fS_hasNext_40 N   h) (b1 (fR h l0 3 1) fun x3 => b2 (fW_isOneFactor N x3 h) fun x4 h5 => cond (z_cmp .eq x4 (Int32.ofInt 0)) (fS_hasNext_40 N   h5) (b1 (fR h5 l0 3 1) fun x6 => b2 (fW_at N x6 (Int32.ofInt 0) h5) fun x7 h8 => b2 (fS_greatestLetter N l0 h8) fun x9 h10 => cond (z_cmp .eq x7 x9) (fS_hasNext_40 N   h10) (fS_hasNext_41 N  (Int32.ofInt 1) h10)))) none
theorem sfS_hasNext {xs : List Int32} (N : Nat) (l0 : Nat) (l1 : Int32) (h : zH) (r : Int32 × zH) (e : fS_hasNext N l0 l1 h = some r) : zt xs (4) 41 0 [(0, .ref l0), (1, .int l1)] [] h 0 0 (zQ cI r) := by
  have hy := mfS_hasNext
  unfold fS_hasNext at e
  replace e := (cond_some e).2
  exact zl hy 1 (pc2 := 1) (lv2 := [(0, .ref l0), (1, .int l1)]) (st2 := [.ref l0]) rfl <| zx_gR hy rfl e fun x1 _ e => zx_gI hy rfl e fun x2 _ e => zl hy 1 (pc2 := 8) (lv2 := [(0, .ref l0), (1, .int l1)]) (st2 := [.int l1, .int x2]) rfl <| zx_c hy rfl e (fun _ e => zt_sub (z_fn) <| sfS_hasNext_40 N    h _ e) (fun _ e => zl hy 1 (pc2 := 12) (lv2 := [(0, .ref l0), (1, .int l1)]) (st2 := [.ref l0]) rfl <| zx_gR hy rfl e fun x3 _ e => zx_call hy (as := [.ref x3]) (rest := []) (ov := (fun v => some (.int v))) (fun _ => rfl) rfl rfl (Or.inl rfl) rfl rfl (Nat.le_of_ble_eq_true rfl) (Nat.le_of_ble_eq_true rfl) (fun _ e _ => z_rcvT (rfW_isOneFactor N x3 h _ e)) (fun _ e => zt_deep (Nat.le_of_ble_eq_true rfl) (sfW_isOneFactor N x3 h _ e)) e fun x4 h5 _ e => zx_c0 hy rfl e (fun _ e => zt_sub (z_fn) <| sfS_hasNext_40 N    h5 _ e) (fun _ e => zl hy 1 (pc2 := 22) (lv2 := [(0, .ref l0), (1, .int l1)]) (st2 := [.ref l0]) rfl <| zx_gR hy rfl e fun x6 _ e => zl hy 1 (pc2 := 26) (lv2 := [(0, .ref l0), (1, .int l1)]) (st2 := [.int (Int32.ofInt 0), .ref x6]) rfl <| zx_call hy (as := [.ref x6, .int (Int32.ofInt 0)]) (rest := []) (ov := (fun v => some (.int v))) (fun _ => rfl) rfl rfl (Or.inl rfl) rfl rfl (Nat.le_of_ble_eq_true rfl) (Nat.le_of_ble_eq_true rfl) (fun _ e _ => z_rcvT (rfW_at N x6 (Int32.ofInt 0) h5 _ e)) (fun _ e => zt_deep (Nat.le_of_ble_eq_true rfl) (sfW_at N x6 (Int32.ofInt 0) h5 _ e)) e fun x7 h8 _ e => zl hy 1 (pc2 := 30) (lv2 := [(0, .ref l0), (1, .int l1)]) (st2 := [.ref l0, .int x7]) rfl <| zx_call hy (as := [.ref l0]) (rest := [.int x7]) (ov := (fun v => some (.int v))) (fun _ => rfl) rfl rfl (Or.inl rfl) rfl rfl (Nat.le_of_ble_eq_true rfl) (Nat.le_of_ble_eq_true rfl) (fun _ e _ => z_rcvT (rfS_greatestLetter N l0 h8 _ e)) (fun _ e => zt_deep (Nat.le_of_ble_eq_true rfl) (sfS_greatestLetter N l0 h8 _ e)) e fun x9 h10 _ e => zx_c hy rfl e (fun _ e => zt_sub (z_fn) <| sfS_hasNext_40 N    h10 _ e) (fun _ e => zl hy 2 (pc2 := 41) (lv2 := [(0, .ref l0), (1, .int l1)]) (st2 := [.int (Int32.ofInt 1)]) rfl <| zt_sub (z_fn) <| sfS_hasNext_41 N   (Int32.ofInt 1) h10 _ e)))
theorem rfS_hasNext (N : Nat) (l0 : Nat) (l1 : Int32) (h : zH) (r : Int32 × zH) (e : fS_hasNext N l0 l1 h = some r) : fT h l0 3 = true := by
  unfold fS_hasNext at e
  exact (cond_some e).1
/-- LyndonBench$Word.stepLyndon(II)V -/
theorem mfW_stepLyndon : z_me 75 zc_75 6 [] none := ⟨z_me0 rfl, rfl, rfl, rfl⟩
def fW_stepLyndon_73 (N : Nat)  (l0 : Nat) (l4 : Int32) (h : zH) : Option (Unit × zH) := b2 (fW_shortenTo N l0 (l4 + (Int32.ofInt 1)) h) fun _ h4 => b2 (fW_at N l0 l4 h4) fun x5 h6 => b2 (fW_put N l0 l4 (x5 + (Int32.ofInt 1)) h6) fun _ h8 => some ((), h8)
theorem sfW_stepLyndon_73 {xs : List Int32} (N : Nat)   (l0 : Nat) (l4 : Int32) (h : zH) (r : Unit × zH) (e : fW_stepLyndon_73 N  l0 l4 h = some r) : zt xs (2) 75 73 [(0, .ref l0), (4, .int l4)] [] h 0 0 (zQ cV r) := by
  have hy := mfW_stepLyndon
  unfold fW_stepLyndon_73 at e
  exact zl hy 4 (pc2 := 78) (lv2 := [(0, .ref l0), (4, .int l4)]) (st2 := [.int (l4 + (Int32.ofInt 1)), .ref l0]) rfl <| zx_call hy (as := [.ref l0, .int (l4 + (Int32.ofInt 1))]) (rest := []) (ov := (fun _ => none)) (fun _ => rfl) rfl rfl (Or.inl rfl) rfl rfl (Nat.le_of_ble_eq_true rfl) (Nat.le_of_ble_eq_true rfl) (fun _ e _ => z_rcvT (rfW_shortenTo N l0 (l4 + (Int32.ofInt 1)) h _ e)) (fun _ e => zt_deep (Nat.le_of_ble_eq_true rfl) (sfW_shortenTo N l0 (l4 + (Int32.ofInt 1)) h _ e)) e fun _ h4 _ e => zl hy 4 (pc2 := 87) (lv2 := [(0, .ref l0), (4, .int l4)]) (st2 := [.int l4, .ref l0, .int l4, .ref l0]) rfl <| zx_call hy (as := [.ref l0, .int l4]) (rest := [.int l4, .ref l0]) (ov := (fun v => some (.int v))) (fun _ => rfl) rfl rfl (Or.inl rfl) rfl rfl (Nat.le_of_ble_eq_true rfl) (Nat.le_of_ble_eq_true rfl) (fun _ e _ => z_rcvT (rfW_at N l0 l4 h4 _ e)) (fun _ e => zt_deep (Nat.le_of_ble_eq_true rfl) (sfW_at N l0 l4 h4 _ e)) e fun x5 h6 _ e => zl hy 2 (pc2 := 92) (lv2 := [(0, .ref l0), (4, .int l4)]) (st2 := [.int (x5 + (Int32.ofInt 1)), .int l4, .ref l0]) rfl <| zx_call hy (as := [.ref l0, .int l4, .int (x5 + (Int32.ofInt 1))]) (rest := []) (ov := (fun _ => none)) (fun _ => rfl) rfl rfl (Or.inl rfl) rfl rfl (Nat.le_of_ble_eq_true rfl) (Nat.le_of_ble_eq_true rfl) (fun _ e _ => z_rcvT (rfW_put N l0 l4 (x5 + (Int32.ofInt 1)) h6 _ e)) (fun _ e => zt_deep (Nat.le_of_ble_eq_true rfl) (sfW_put N l0 l4 (x5 + (Int32.ofInt 1)) h6 _ e)) e fun _ h8 _ e => zx_retV hy rfl rfl e
def fW_stepLyndon_48 (N : Nat) : Nat → Nat → Int32 → Int32 → Int32 → Int32 → zH → Option (Unit × zH)
  | 0, _, _, _, _, _, _ => none
  | n + 1, l0, l1, l2, l4, l5, h => cond (z_cmp .ge l5 l1) (fW_stepLyndon_73 N  l0 l4 h) (b2 (fW_at N l0 l4 h) fun x3 h4 => cond (z_cmp .ne x3 l2) (fW_stepLyndon_73 N  l0 l4 h4) (fW_stepLyndon_48 N n  l0 l1 l2 (l4 + Int32.ofInt (-1)) (l5 + Int32.ofInt 1) h4))
theorem sfW_stepLyndon_48 {xs : List Int32} (N : Nat)   : ∀ (n : Nat) (l0 : Nat) (l1 : Int32) (l2 : Int32) (l4 : Int32) (l5 : Int32) (h : zH) (r : Unit × zH), fW_stepLyndon_48 N n  l0 l1 l2 l4 l5 h = some r → zt xs (2) 75 48 [(0, .ref l0), (1, .int l1), (2, .int l2), (4, .int l4), (5, .int l5)] [] h 0 0 (zQ cV r) := by
  have hy := mfW_stepLyndon
  intro n
  induction n with
  | zero =>
    intro l0 l1 l2 l4 l5 h r e
    rw [fW_stepLyndon_48] at e
    cases e
  | succ n ih =>
    intro l0 l1 l2 l4 l5 h r e
    rw [fW_stepLyndon_48] at e
    exact zl hy 2 (pc2 := 51) (lv2 := [(0, .ref l0), (1, .int l1), (2, .int l2), (4, .int l4), (5, .int l5)]) (st2 := [.int l1, .int l5]) rfl <| zx_c hy rfl e (fun _ e => zt_sub (z_fc rfl (z_fc rfl (z_fn))) <| sfW_stepLyndon_73 N   l0 l4 h _ e) (fun _ e => zl hy 2 (pc2 := 57) (lv2 := [(0, .ref l0), (1, .int l1), (2, .int l2), (4, .int l4), (5, .int l5)]) (st2 := [.int l4, .ref l0]) rfl <| zx_call hy (as := [.ref l0, .int l4]) (rest := []) (ov := (fun v => some (.int v))) (fun _ => rfl) rfl rfl (Or.inl rfl) rfl rfl (Nat.le_of_ble_eq_true rfl) (Nat.le_of_ble_eq_true rfl) (fun _ e _ => z_rcvT (rfW_at N l0 l4 h _ e)) (fun _ e => zt_deep (Nat.le_of_ble_eq_true rfl) (sfW_at N l0 l4 h _ e)) e fun x3 h4 _ e => zl hy 1 (pc2 := 61) (lv2 := [(0, .ref l0), (1, .int l1), (2, .int l2), (4, .int l4), (5, .int l5)]) (st2 := [.int l2, .int x3]) rfl <| zx_c hy rfl e (fun _ e => zt_sub (z_fc rfl (z_fc rfl (z_fn))) <| sfW_stepLyndon_73 N   l0 l4 h4 _ e) (fun _ e => zl hy 3 (pc2 := 48) (lv2 := [(5, .int (l5 + Int32.ofInt 1)), (4, .int (l4 + Int32.ofInt (-1))), (0, .ref l0), (1, .int l1), (2, .int l2)]) (st2 := []) rfl <| zt_sub (z_fc rfl (z_fc rfl (z_fc rfl (z_fc rfl (z_fc rfl (z_fn)))))) <| ih l0 l1 l2 (l4 + Int32.ofInt (-1)) (l5 + Int32.ofInt 1) h4 _ e))
def fW_stepLyndon_13 (N : Nat) : Nat → Nat → Int32 → Int32 → Int32 → Int32 → zH → Option (Unit × zH)
  | 0, _, _, _, _, _, _ => none
  | n + 1, l0, l1, l2, l3, l4, h => cond (z_cmp .ge l4 l1) (b1 (fI h l0 4 1) fun x2 => fW_stepLyndon_48 N N  l0 l1 l2 (x2 - (Int32.ofInt 1)) (Int32.ofInt 0) h) (b2 (fW_at N l0 (l4 - l3) h) fun x3 h4 => b2 (fW_add N l0 x3 h4) fun _ h6 => fW_stepLyndon_13 N n  l0 l1 l2 l3 (l4 + Int32.ofInt 1) h6)
theorem sfW_stepLyndon_13 {xs : List Int32} (N : Nat)   : ∀ (n : Nat) (l0 : Nat) (l1 : Int32) (l2 : Int32) (l3 : Int32) (l4 : Int32) (h : zH) (r : Unit × zH), fW_stepLyndon_13 N n  l0 l1 l2 l3 l4 h = some r → zt xs (2) 75 13 [(0, .ref l0), (1, .int l1), (2, .int l2), (3, .int l3), (4, .int l4)] [] h 0 0 (zQ cV r) := by
  have hy := mfW_stepLyndon
  intro n
  induction n with
  | zero =>
    intro l0 l1 l2 l3 l4 h r e
    rw [fW_stepLyndon_13] at e
    cases e
  | succ n ih =>
    intro l0 l1 l2 l3 l4 h r e
    rw [fW_stepLyndon_13] at e
    exact zl hy 2 (pc2 := 16) (lv2 := [(0, .ref l0), (1, .int l1), (2, .int l2), (3, .int l3), (4, .int l4)]) (st2 := [.int l1, .int l4]) rfl <| zx_c hy rfl e (fun _ e => zl hy 1 (pc2 := 38) (lv2 := [(0, .ref l0), (1, .int l1), (2, .int l2), (3, .int l3), (4, .int l4)]) (st2 := [.ref l0]) rfl <| zx_gI hy rfl e fun x2 _ e => zl hy 5 (pc2 := 48) (lv2 := [(5, .int (Int32.ofInt 0)), (4, .int (x2 - (Int32.ofInt 1))), (0, .ref l0), (1, .int l1), (2, .int l2), (3, .int l3)]) (st2 := []) rfl <| zt_sub (z_fc rfl (z_fc rfl (z_fc rfl (z_fc rfl (z_fc rfl (z_fn)))))) <| sfW_stepLyndon_48 N   N l0 l1 l2 (x2 - (Int32.ofInt 1)) (Int32.ofInt 0) h _ e) (fun _ e => zl hy 5 (pc2 := 25) (lv2 := [(0, .ref l0), (1, .int l1), (2, .int l2), (3, .int l3), (4, .int l4)]) (st2 := [.int (l4 - l3), .ref l0, .ref l0]) rfl <| zx_call hy (as := [.ref l0, .int (l4 - l3)]) (rest := [.ref l0]) (ov := (fun v => some (.int v))) (fun _ => rfl) rfl rfl (Or.inl rfl) rfl rfl (Nat.le_of_ble_eq_true rfl) (Nat.le_of_ble_eq_true rfl) (fun _ e _ => z_rcvT (rfW_at N l0 (l4 - l3) h _ e)) (fun _ e => zt_deep (Nat.le_of_ble_eq_true rfl) (sfW_at N l0 (l4 - l3) h _ e)) e fun x3 h4 _ e => zx_call hy (as := [.ref l0, .int x3]) (rest := []) (ov := (fun _ => none)) (fun _ => rfl) rfl rfl (Or.inl rfl) rfl rfl (Nat.le_of_ble_eq_true rfl) (Nat.le_of_ble_eq_true rfl) (fun _ e _ => z_rcvT (rfW_add N l0 x3 h4 _ e)) (fun _ e => zt_deep (Nat.le_of_ble_eq_true rfl) (sfW_add N l0 x3 h4 _ e)) e fun _ h6 _ e => zl hy 2 (pc2 := 13) (lv2 := [(4, .int (l4 + Int32.ofInt 1)), (0, .ref l0), (1, .int l1), (2, .int l2), (3, .int l3)]) (st2 := []) rfl <| zt_sub (z_fc rfl (z_fc rfl (z_fc rfl (z_fc rfl (z_fc rfl (z_fn)))))) <| ih l0 l1 l2 l3 (l4 + Int32.ofInt 1) h6 _ e)
def fW_stepLyndon (N : Nat) (l0 : Nat) (l1 : Int32) (l2 : Int32) (h : zH) : Option (Unit × zH) := cond (fT h l0 4) (b1 (fI h l0 4 1) fun x1 => cond (z_cmp .ne x1 (Int32.ofInt 0)) (fW_stepLyndon_13 N N  l0 l1 l2 x1 x1 h) (some ((), h))) none
theorem sfW_stepLyndon {xs : List Int32} (N : Nat) (l0 : Nat) (l1 : Int32) (l2 : Int32) (h : zH) (r : Unit × zH) (e : fW_stepLyndon N l0 l1 l2 h = some r) : zt xs (2) 75 0 [(0, .ref l0), (1, .int l1), (2, .int l2)] [] h 0 0 (zQ cV r) := by
  have hy := mfW_stepLyndon
  unfold fW_stepLyndon at e
  replace e := (cond_some e).2
  exact zl hy 1 (pc2 := 1) (lv2 := [(0, .ref l0), (1, .int l1), (2, .int l2)]) (st2 := [.ref l0]) rfl <| zx_gI hy rfl e fun x1 _ e => zl hy 2 (pc2 := 6) (lv2 := [(3, .int x1), (0, .ref l0), (1, .int l1), (2, .int l2)]) (st2 := [.int x1]) rfl <| zx_c0 hy rfl e (fun _ e => zl hy 2 (pc2 := 13) (lv2 := [(4, .int x1), (3, .int x1), (0, .ref l0), (1, .int l1), (2, .int l2)]) (st2 := []) rfl <| zt_sub (z_fc rfl (z_fc rfl (z_fc rfl (z_fc rfl (z_fc rfl (z_fn)))))) <| sfW_stepLyndon_13 N   N l0 l1 l2 x1 x1 h _ e) (fun _ e => zx_retV hy rfl rfl e)
theorem rfW_stepLyndon (N : Nat) (l0 : Nat) (l1 : Int32) (l2 : Int32) (h : zH) (r : Unit × zH) (e : fW_stepLyndon N l0 l1 l2 h = some r) : fT h l0 4 = true := by
  unfold fW_stepLyndon at e
  exact (cond_some e).1
/-- LyndonBench$Script.runNext()Z -/
theorem mfC_runNext : z_me 17 zc_17 1 [] (some .boolean) := ⟨z_me0 rfl, rfl, rfl, rfl⟩
def fC_runNext_28 (N : Nat)   (h : zH) : Option (Int32 × zH) := some ((Int32.ofInt 0), h)
theorem sfC_runNext_28 {xs : List Int32} (N : Nat)    (h : zH) (r : Int32 × zH) (e : fC_runNext_28 N   h = some r) : zt xs (5) 17 28 [] [] h 0 0 (zQ cI r) := by
  have hy := mfC_runNext
  unfold fC_runNext_28 at e
  exact zl hy 1 (pc2 := 29) (lv2 := []) (st2 := [.int (Int32.ofInt 0)]) rfl <| zx_ret hy (v := .int (Int32.ofInt 0)) rfl rfl (by decide) rfl e
def fC_runNext (N : Nat) (l0 : Nat) (h : zH) : Option (Int32 × zH) := cond (fT h l0 2) (b2 (fC_expectNumber N l0 (Int32.ofInt 1) (Int32.ofInt 120) h) fun x1 h2 => cond (z_cmp .eq x1 (Int32.ofInt 0)) (fC_runNext_28 N   h2) (b1 (fR h2 l0 2 1) fun x3 => b1 (fI h2 l0 2 7) fun x4 => b2 (fS_hasNext N x3 x4 h2) fun x5 h6 => b2 (fC_expectEnd N l0 x5 h6) fun x7 h8 => cond (z_cmp .ne x7 (Int32.ofInt 0)) (b1 (fR h8 l0 2 1) fun x9 => b1 (fR h8 x9 3 1) fun x10 => b1 (fI h8 l0 2 7) fun x11 => b1 (fR h8 l0 2 1) fun x12 => b2 (fS_greatestLetter N x12 h8) fun x13 h14 => b2 (fW_stepLyndon N x10 x11 x13 h14) fun _ h16 => some ((Int32.ofInt 1), h16)) (fC_runNext_28 N   h8))) none
theorem sfC_runNext {xs : List Int32} (N : Nat) (l0 : Nat) (h : zH) (r : Int32 × zH) (e : fC_runNext N l0 h = some r) : zt xs (5) 17 0 [(0, .ref l0)] [] h 0 0 (zQ cI r) := by
  have hy := mfC_runNext
  unfold fC_runNext at e
  replace e := (cond_some e).2
  exact zl hy 2 (pc2 := 2) (lv2 := [(0, .ref l0)]) (st2 := [.int (Int32.ofInt 1), .ref l0]) rfl <| zx_bip hy (c := 120) rfl (by decide) <| zx_call hy (as := [.ref l0, .int (Int32.ofInt 1), .int (Int32.ofInt 120)]) (rest := []) (ov := (fun v => some (.int v))) (fun _ => rfl) rfl rfl (Or.inl rfl) rfl rfl (Nat.le_of_ble_eq_true rfl) (Nat.le_of_ble_eq_true rfl) (fun _ e _ => z_rcvT (rfC_expectNumber N l0 (Int32.ofInt 1) (Int32.ofInt 120) h _ e)) (fun _ e => zt_deep (Nat.le_of_ble_eq_true rfl) (sfC_expectNumber N l0 (Int32.ofInt 1) (Int32.ofInt 120) h _ e)) e fun x1 h2 _ e => zx_c0 hy rfl e (fun _ e => zt_sub (z_fn) <| sfC_runNext_28 N    h2 _ e) (fun _ e => zl hy 2 (pc2 := 12) (lv2 := [(0, .ref l0)]) (st2 := [.ref l0, .ref l0]) rfl <| zx_gR hy rfl e fun x3 _ e => zl hy 1 (pc2 := 16) (lv2 := [(0, .ref l0)]) (st2 := [.ref l0, .ref x3, .ref l0]) rfl <| zx_gI hy rfl e fun x4 _ e => zx_call hy (as := [.ref x3, .int x4]) (rest := [.ref l0]) (ov := (fun v => some (.int v))) (fun _ => rfl) rfl rfl (Or.inl rfl) rfl rfl (Nat.le_of_ble_eq_true rfl) (Nat.le_of_ble_eq_true rfl) (fun _ e _ => z_rcvT (rfS_hasNext N x3 x4 h2 _ e)) (fun _ e => zt_deep (Nat.le_of_ble_eq_true rfl) (sfS_hasNext N x3 x4 h2 _ e)) e fun x5 h6 _ e => zx_call hy (as := [.ref l0, .int x5]) (rest := []) (ov := (fun v => some (.int v))) (fun _ => rfl) rfl rfl (Or.inl rfl) rfl rfl (Nat.le_of_ble_eq_true rfl) (Nat.le_of_ble_eq_true rfl) (fun _ e _ => z_rcvT (rfC_expectEnd N l0 x5 h6 _ e)) (fun _ e => zt_deep (Nat.le_of_ble_eq_true rfl) (sfC_expectEnd N l0 x5 h6 _ e)) e fun x7 h8 _ e => zx_c0 hy rfl e (fun _ e => zl hy 1 (pc2 := 31) (lv2 := [(0, .ref l0)]) (st2 := [.ref l0]) rfl <| zx_gR hy rfl e fun x9 _ e => zx_gR hy rfl e fun x10 _ e => zl hy 1 (pc2 := 38) (lv2 := [(0, .ref l0)]) (st2 := [.ref l0, .ref x10]) rfl <| zx_gI hy rfl e fun x11 _ e => zl hy 1 (pc2 := 42) (lv2 := [(0, .ref l0)]) (st2 := [.ref l0, .int x11, .ref x10]) rfl <| zx_gR hy rfl e fun x12 _ e => zx_call hy (as := [.ref x12]) (rest := [.int x11, .ref x10]) (ov := (fun v => some (.int v))) (fun _ => rfl) rfl rfl (Or.inl rfl) rfl rfl (Nat.le_of_ble_eq_true rfl) (Nat.le_of_ble_eq_true rfl) (fun _ e _ => z_rcvT (rfS_greatestLetter N x12 h8 _ e)) (fun _ e => zt_deep (Nat.le_of_ble_eq_true rfl) (sfS_greatestLetter N x12 h8 _ e)) e fun x13 h14 _ e => zx_call hy (as := [.ref x10, .int x11, .int x13]) (rest := []) (ov := (fun _ => none)) (fun _ => rfl) rfl rfl (Or.inl rfl) rfl rfl (Nat.le_of_ble_eq_true rfl) (Nat.le_of_ble_eq_true rfl) (fun _ e _ => z_rcvT (rfW_stepLyndon N x10 x11 x13 h14 _ e)) (fun _ e => zt_deep (Nat.le_of_ble_eq_true rfl) (sfW_stepLyndon N x10 x11 x13 h14 _ e)) e fun _ h16 _ e => zl hy 1 (pc2 := 52) (lv2 := [(0, .ref l0)]) (st2 := [.int (Int32.ofInt 1)]) rfl <| zx_ret hy (v := .int (Int32.ofInt 1)) rfl rfl (by decide) rfl e) (fun _ e => zt_sub (z_fn) <| sfC_runNext_28 N    h8 _ e))
theorem rfC_runNext (N : Nat) (l0 : Nat) (h : zH) (r : Int32 × zH) (e : fC_runNext N l0 h = some r) : fT h l0 2 = true := by
  unfold fC_runNext at e
  exact (cond_some e).1
/-- LyndonBench$Word.order(IILLyndonBench$Word;II)I -/
theorem mfW_order : z_me 58 zc_58 11 [] (some .int) := ⟨z_me0 rfl, rfl, rfl, rfl⟩
def fW_order_97 (N : Nat)  (s0 : Int32) (h : zH) : Option (Int32 × zH) := some (s0, h)
theorem sfW_order_97 {xs : List Int32} (N : Nat)   (s0 : Int32) (h : zH) (r : Int32 × zH) (e : fW_order_97 N  s0 h = some r) : zt xs (2) 58 97 [] [.int s0] h 0 0 (zQ cI r) := by
  have hy := mfW_order
  unfold fW_order_97 at e
  exact zx_ret hy rfl rfl rfl rfl e
def fW_order_76 (N : Nat)  (l6 : Int32) (l7 : Int32) (h : zH) : Option (Int32 × zH) := cond (z_cmp .ne l6 l7) (cond (z_cmp .ge l6 l7) (fW_order_97 N  (Int32.ofInt 1) h) (fW_order_97 N  (Int32.ofInt (-1)) h)) (some ((Int32.ofInt 0), h))
theorem sfW_order_76 {xs : List Int32} (N : Nat)   (l6 : Int32) (l7 : Int32) (h : zH) (r : Int32 × zH) (e : fW_order_76 N  l6 l7 h = some r) : zt xs (2) 58 76 [(6, .int l6), (7, .int l7)] [] h 0 0 (zQ cI r) := by
  have hy := mfW_order
  unfold fW_order_76 at e
  exact zl hy 2 (pc2 := 80) (lv2 := [(6, .int l6), (7, .int l7)]) (st2 := [.int l7, .int l6]) rfl <| zx_c hy rfl e (fun _ e => zl hy 2 (pc2 := 89) (lv2 := [(6, .int l6), (7, .int l7)]) (st2 := [.int l7, .int l6]) rfl <| zx_c hy rfl e (fun _ e => zl hy 1 (pc2 := 97) (lv2 := [(6, .int l6), (7, .int l7)]) (st2 := [.int (Int32.ofInt 1)]) rfl <| zt_sub (z_fn) <| sfW_order_97 N   (Int32.ofInt 1) h _ e) (fun _ e => zl hy 2 (pc2 := 97) (lv2 := [(6, .int l6), (7, .int l7)]) (st2 := [.int (Int32.ofInt (-1))]) rfl <| zt_sub (z_fn) <| sfW_order_97 N   (Int32.ofInt (-1)) h _ e)) (fun _ e => zl hy 1 (pc2 := 84) (lv2 := [(6, .int l6), (7, .int l7)]) (st2 := [.int (Int32.ofInt 0)]) rfl <| zx_ret hy rfl rfl rfl rfl e)
def fW_order_69 (N : Nat)  (s0 : Int32) (h : zH) : Option (Int32 × zH) := some (s0, h)
theorem sfW_order_69 {xs : List Int32} (N : Nat)   (s0 : Int32) (h : zH) (r : Int32 × zH) (e : fW_order_69 N  s0 h = some r) : zt xs (2) 58 69 [] [.int s0] h 0 0 (zQ cI r) := by
  have hy := mfW_order
  unfold fW_order_69 at e
  exact zx_ret hy rfl rfl rfl rfl e
def fW_order_15 (N : Nat) : Nat → Nat → Int32 → Nat → Int32 → Int32 → Int32 → Int32 → zH → Option (Int32 × zH)
  | 0, _, _, _, _, _, _, _, _ => none
  | n + 1, l0, l1, l3, l4, l6, l7, l8, h => cond (z_cmp .ge l8 l6) (fW_order_76 N  l6 l7 h) (cond (z_cmp .ge l8 l7) (fW_order_76 N  l6 l7 h) (b2 (fW_at N l0 (l1 + l8) h) fun x1 h2 => b2 (fW_at N l3 (l4 + l8) h2) fun x3 h4 => cond (z_cmp .eq x1 x3) (fW_order_15 N n  l0 l1 l3 l4 l6 l7 (l8 + Int32.ofInt 1) h4) (cond (z_cmp .ge x1 x3) (fW_order_69 N  (Int32.ofInt 1) h4) (fW_order_69 N  (Int32.ofInt (-1)) h4))))
theorem sfW_order_15 {xs : List Int32} (N : Nat)   : ∀ (n : Nat) (l0 : Nat) (l1 : Int32) (l3 : Nat) (l4 : Int32) (l6 : Int32) (l7 : Int32) (l8 : Int32) (h : zH) (r : Int32 × zH), fW_order_15 N n  l0 l1 l3 l4 l6 l7 l8 h = some r → zt xs (2) 58 15 [(0, .ref l0), (1, .int l1), (3, .ref l3), (4, .int l4), (6, .int l6), (7, .int l7), (8, .int l8)] [] h 0 0 (zQ cI r) := by
  have hy := mfW_order
  intro n
  induction n with
  | zero =>
    intro l0 l1 l3 l4 l6 l7 l8 h r e
    rw [fW_order_15] at e
    cases e
  | succ n ih =>
    intro l0 l1 l3 l4 l6 l7 l8 h r e
    rw [fW_order_15] at e
    exact zl hy 2 (pc2 := 19) (lv2 := [(0, .ref l0), (1, .int l1), (3, .ref l3), (4, .int l4), (6, .int l6), (7, .int l7), (8, .int l8)]) (st2 := [.int l6, .int l8]) rfl <| zx_c hy rfl e (fun _ e => zt_sub (z_fc rfl (z_fc rfl (z_fn))) <| sfW_order_76 N   l6 l7 h _ e) (fun _ e => zl hy 2 (pc2 := 26) (lv2 := [(0, .ref l0), (1, .int l1), (3, .ref l3), (4, .int l4), (6, .int l6), (7, .int l7), (8, .int l8)]) (st2 := [.int l7, .int l8]) rfl <| zx_c hy rfl e (fun _ e => zt_sub (z_fc rfl (z_fc rfl (z_fn))) <| sfW_order_76 N   l6 l7 h _ e) (fun _ e => zl hy 4 (pc2 := 34) (lv2 := [(0, .ref l0), (1, .int l1), (3, .ref l3), (4, .int l4), (6, .int l6), (7, .int l7), (8, .int l8)]) (st2 := [.int (l1 + l8), .ref l0]) rfl <| zx_call hy (as := [.ref l0, .int (l1 + l8)]) (rest := []) (ov := (fun v => some (.int v))) (fun _ => rfl) rfl rfl (Or.inl rfl) rfl rfl (Nat.le_of_ble_eq_true rfl) (Nat.le_of_ble_eq_true rfl) (fun _ e _ => z_rcvT (rfW_at N l0 (l1 + l8) h _ e)) (fun _ e => zt_deep (Nat.le_of_ble_eq_true rfl) (sfW_at N l0 (l1 + l8) h _ e)) e fun x1 h2 _ e => zl hy 5 (pc2 := 45) (lv2 := [(9, .int x1), (0, .ref l0), (1, .int l1), (3, .ref l3), (4, .int l4), (6, .int l6), (7, .int l7), (8, .int l8)]) (st2 := [.int (l4 + l8), .ref l3]) rfl <| zx_call hy (as := [.ref l3, .int (l4 + l8)]) (rest := []) (ov := (fun v => some (.int v))) (fun _ => rfl) rfl rfl (Or.inl rfl) rfl rfl (Nat.le_of_ble_eq_true rfl) (Nat.le_of_ble_eq_true rfl) (fun _ e _ => z_rcvT (rfW_at N l3 (l4 + l8) h2 _ e)) (fun _ e => zt_deep (Nat.le_of_ble_eq_true rfl) (sfW_at N l3 (l4 + l8) h2 _ e)) e fun x3 h4 _ e => zl hy 3 (pc2 := 54) (lv2 := [(10, .int x3), (9, .int x1), (0, .ref l0), (1, .int l1), (3, .ref l3), (4, .int l4), (6, .int l6), (7, .int l7), (8, .int l8)]) (st2 := [.int x3, .int x1]) rfl <| zx_c hy rfl e (fun _ e => zl hy 2 (pc2 := 15) (lv2 := [(8, .int (l8 + Int32.ofInt 1)), (10, .int x3), (9, .int x1), (0, .ref l0), (1, .int l1), (3, .ref l3), (4, .int l4), (6, .int l6), (7, .int l7)]) (st2 := []) rfl <| zt_sub (z_fc rfl (z_fc rfl (z_fc rfl (z_fc rfl (z_fc rfl (z_fc rfl (z_fc rfl (z_fn)))))))) <| ih l0 l1 l3 l4 l6 l7 (l8 + Int32.ofInt 1) h4 _ e) (fun _ e => zl hy 2 (pc2 := 61) (lv2 := [(10, .int x3), (9, .int x1), (0, .ref l0), (1, .int l1), (3, .ref l3), (4, .int l4), (6, .int l6), (7, .int l7), (8, .int l8)]) (st2 := [.int x3, .int x1]) rfl <| zx_c hy rfl e (fun _ e => zl hy 1 (pc2 := 69) (lv2 := [(10, .int x3), (9, .int x1), (0, .ref l0), (1, .int l1), (3, .ref l3), (4, .int l4), (6, .int l6), (7, .int l7), (8, .int l8)]) (st2 := [.int (Int32.ofInt 1)]) rfl <| zt_sub (z_fn) <| sfW_order_69 N   (Int32.ofInt 1) h4 _ e) (fun _ e => zl hy 2 (pc2 := 69) (lv2 := [(10, .int x3), (9, .int x1), (0, .ref l0), (1, .int l1), (3, .ref l3), (4, .int l4), (6, .int l6), (7, .int l7), (8, .int l8)]) (st2 := [.int (Int32.ofInt (-1))]) rfl <| zt_sub (z_fn) <| sfW_order_69 N   (Int32.ofInt (-1)) h4 _ e))))
def fW_order (N : Nat) (l0 : Nat) (l1 : Int32) (l2 : Int32) (l3 : Nat) (l4 : Int32) (l5 : Int32) (h : zH) : Option (Int32 × zH) := cond (fT h l0 4) (fW_order_15 N N  l0 l1 l3 l4 (l2 - l1) (l5 - l4) (Int32.ofInt 0) h) none
theorem sfW_order {xs : List Int32} (N : Nat) (l0 : Nat) (l1 : Int32) (l2 : Int32) (l3 : Nat) (l4 : Int32) (l5 : Int32) (h : zH) (r : Int32 × zH) (e : fW_order N l0 l1 l2 l3 l4 l5 h = some r) : zt xs (2) 58 0 [(0, .ref l0), (1, .int l1), (2, .int l2), (3, .ref l3), (4, .int l4), (5, .int l5)] [] h 0 0 (zQ cI r) := by
  have hy := mfW_order
  unfold fW_order at e
  replace e := (cond_some e).2
  exact zl hy 10 (pc2 := 15) (lv2 := [(8, .int (Int32.ofInt 0)), (7, .int (l5 - l4)), (6, .int (l2 - l1)), (0, .ref l0), (1, .int l1), (2, .int l2), (3, .ref l3), (4, .int l4), (5, .int l5)]) (st2 := []) rfl <| zt_sub (z_fc rfl (z_fc rfl (z_fc rfl (z_fc rfl (z_fc rfl (z_fc rfl (z_fc rfl (z_fn)))))))) <| sfW_order_15 N   N l0 l1 l3 l4 (l2 - l1) (l5 - l4) (Int32.ofInt 0) h _ e
theorem rfW_order (N : Nat) (l0 : Nat) (l1 : Int32) (l2 : Int32) (l3 : Nat) (l4 : Int32) (l5 : Int32) (h : zH) (r : Int32 × zH) (e : fW_order N l0 l1 l2 l3 l4 l5 h = some r) : fT h l0 4 = true := by
  unfold fW_order at e
  exact (cond_some e).1
/-- LyndonBench$Word.factorEnd(II)I -/
theorem mfW_factorEnd : z_me 60 zc_60 4 [] (some .int) := ⟨z_me0 rfl, rfl, rfl, rfl⟩
def fW_factorEnd_33 (N : Nat)  (l0 : Nat) (l2 : Int32) (h : zH) : Option (Int32 × zH) := b2 (fW_lyndonEnd N l0 l2 h) fun x1 h2 => some (x1, h2)
theorem sfW_factorEnd_33 {xs : List Int32} (N : Nat)   (l0 : Nat) (l2 : Int32) (h : zH) (r : Int32 × zH) (e : fW_factorEnd_33 N  l0 l2 h = some r) : zt xs (3) 60 33 [(0, .ref l0), (2, .int l2)] [] h 0 0 (zQ cI r) := by
  have hy := mfW_factorEnd
  unfold fW_factorEnd_33 at e
  exact zl hy 2 (pc2 := 35) (lv2 := [(0, .ref l0), (2, .int l2)]) (st2 := [.int l2, .ref l0]) rfl <| zx_call hy (as := [.ref l0, .int l2]) (rest := []) (ov := (fun v => some (.int v))) (fun _ => rfl) rfl rfl (Or.inl rfl) rfl rfl (Nat.le_of_ble_eq_true rfl) (Nat.le_of_ble_eq_true rfl) (fun _ e _ => z_rcvT (rfW_lyndonEnd N l0 l2 h _ e)) (fun _ e => zt_deep (Nat.le_of_ble_eq_true rfl) (sfW_lyndonEnd N l0 l2 h _ e)) e fun x1 h2 _ e => zx_ret hy rfl rfl rfl rfl e
def fW_factorEnd (N : Nat) (l0 : Nat) (l1 : Int32) (l2 : Int32) (h : zH) : Option (Int32 × zH) := cond (fT h l0 4) (cond (z_cmp .le l2 l1) (fW_factorEnd_33 N  l0 l2 h) (b1 (fI h l0 4 1) fun x1 => cond (z_cmp .gt ((l2 + l2) - l1) x1) (fW_factorEnd_33 N  l0 l2 h) (b2 (fW_order N l0 l1 l2 l0 l2 ((l2 + l2) - l1) h) fun x2 h3 => cond (z_cmp .ne x2 (Int32.ofInt 0)) (fW_factorEnd_33 N  l0 l2 h3) (some (((l2 + l2) - l1), h3))))) none
theorem sfW_factorEnd {xs : List Int32} (N : Nat) (l0 : Nat) (l1 : Int32) (l2 : Int32) (h : zH) (r : Int32 × zH) (e : fW_factorEnd N l0 l1 l2 h = some r) : zt xs (3) 60 0 [(0, .ref l0), (1, .int l1), (2, .int l2)] [] h 0 0 (zQ cI r) := by
  have hy := mfW_factorEnd
  unfold fW_factorEnd at e
  replace e := (cond_some e).2
  exact zl hy 8 (pc2 := 8) (lv2 := [(3, .int ((l2 + l2) - l1)), (0, .ref l0), (1, .int l1), (2, .int l2)]) (st2 := [.int l1, .int l2]) rfl <| zx_c hy rfl e (fun _ e => zt_sub (z_fc rfl (z_fc rfl (z_fn))) <| sfW_factorEnd_33 N   l0 l2 h _ e) (fun _ e => zl hy 2 (pc2 := 13) (lv2 := [(3, .int ((l2 + l2) - l1)), (0, .ref l0), (1, .int l1), (2, .int l2)]) (st2 := [.ref l0, .int ((l2 + l2) - l1)]) rfl <| zx_gI hy rfl e fun x1 _ e => zx_c hy rfl e (fun _ e => zt_sub (z_fc rfl (z_fc rfl (z_fn))) <| sfW_factorEnd_33 N   l0 l2 h _ e) (fun _ e => zl hy 6 (pc2 := 25) (lv2 := [(3, .int ((l2 + l2) - l1)), (0, .ref l0), (1, .int l1), (2, .int l2)]) (st2 := [.int ((l2 + l2) - l1), .int l2, .ref l0, .int l2, .int l1, .ref l0]) rfl <| zx_call hy (as := [.ref l0, .int l1, .int l2, .ref l0, .int l2, .int ((l2 + l2) - l1)]) (rest := []) (ov := (fun v => some (.int v))) (fun _ => rfl) rfl rfl (Or.inl rfl) rfl rfl (Nat.le_of_ble_eq_true rfl) (Nat.le_of_ble_eq_true rfl) (fun _ e _ => z_rcvT (rfW_order N l0 l1 l2 l0 l2 ((l2 + l2) - l1) h _ e)) (fun _ e => zt_deep (Nat.le_of_ble_eq_true rfl) (sfW_order N l0 l1 l2 l0 l2 ((l2 + l2) - l1) h _ e)) e fun x2 h3 _ e => zx_c0 hy rfl e (fun _ e => zt_sub (z_fc rfl (z_fc rfl (z_fn))) <| sfW_factorEnd_33 N   l0 l2 h3 _ e) (fun _ e => zl hy 1 (pc2 := 32) (lv2 := [(3, .int ((l2 + l2) - l1)), (0, .ref l0), (1, .int l1), (2, .int l2)]) (st2 := [.int ((l2 + l2) - l1)]) rfl <| zx_ret hy rfl rfl rfl rfl e)))
theorem rfW_factorEnd (N : Nat) (l0 : Nat) (l1 : Int32) (l2 : Int32) (h : zH) (r : Int32 × zH) (e : fW_factorEnd N l0 l1 l2 h = some r) : fT h l0 4 = true := by
  unfold fW_factorEnd at e
  exact (cond_some e).1
/-- LyndonBench$Word.beginOfFactor(I)I -/
theorem mfW_beginOfFactor : z_me 63 zc_63 6 [] (some .int) := ⟨z_me0 rfl, rfl, rfl, rfl⟩
def fW_beginOfFactor_57 (N : Nat)  (s0 : Int32) (h : zH) : Option (Int32 × zH) := some (s0, h)
theorem sfW_beginOfFactor_57 {xs : List Int32} (N : Nat)   (s0 : Int32) (h : zH) (r : Int32 × zH) (e : fW_beginOfFactor_57 N  s0 h = some r) : zt xs (4) 63 57 [] [.int s0] h 0 0 (zQ cI r) := by
  have hy := mfW_beginOfFactor
  unfold fW_beginOfFactor_57 at e
  exact zx_ret hy rfl rfl rfl rfl e
def fW_beginOfFactor_56 (N : Nat)   (h : zH) : Option (Int32 × zH) := fW_beginOfFactor_57 N  (Int32.ofInt (-1)) h
theorem sfW_beginOfFactor_56 {xs : List Int32} (N : Nat)    (h : zH) (r : Int32 × zH) (e : fW_beginOfFactor_56 N   h = some r) : zt xs (4) 63 56 [] [] h 0 0 (zQ cI r) := by
  have hy := mfW_beginOfFactor
  unfold fW_beginOfFactor_56 at e
  exact zl hy 1 (pc2 := 57) (lv2 := []) (st2 := [.int (Int32.ofInt (-1))]) rfl <| zt_sub (z_fn) <| sfW_beginOfFactor_57 N   (Int32.ofInt (-1)) h _ e
def fW_beginOfFactor_40 (N : Nat)  (l0 : Nat) (l1 : Int32) (l3 : Int32) (h : zH) : Option (Int32 × zH) := cond (z_cmp .lt l1 (Int32.ofInt 0)) (fW_beginOfFactor_56 N   h) (b1 (fI h l0 4 1) fun x1 => cond (z_cmp .ge l3 x1) (fW_beginOfFactor_56 N   h) (fW_beginOfFactor_57 N  l3 h))
theorem sfW_beginOfFactor_40 {xs : List Int32} (N : Nat)   (l0 : Nat) (l1 : Int32) (l3 : Int32) (h : zH) (r : Int32 × zH) (e : fW_beginOfFactor_40 N  l0 l1 l3 h = some r) : zt xs (4) 63 40 [(0, .ref l0), (1, .int l1), (3, .int l3)] [] h 0 0 (zQ cI r) := by
  have hy := mfW_beginOfFactor
  unfold fW_beginOfFactor_40 at e
  exact zl hy 1 (pc2 := 41) (lv2 := [(0, .ref l0), (1, .int l1), (3, .int l3)]) (st2 := [.int l1]) rfl <| zx_c0 hy rfl e (fun _ e => zt_sub (z_fn) <| sfW_beginOfFactor_56 N    h _ e) (fun _ e => zl hy 2 (pc2 := 46) (lv2 := [(0, .ref l0), (1, .int l1), (3, .int l3)]) (st2 := [.ref l0, .int l3]) rfl <| zx_gI hy rfl e fun x1 _ e => zx_c hy rfl e (fun _ e => zt_sub (z_fn) <| sfW_beginOfFactor_56 N    h _ e) (fun _ e => zl hy 2 (pc2 := 57) (lv2 := [(0, .ref l0), (1, .int l1), (3, .int l3)]) (st2 := [.int l3]) rfl <| zt_sub (z_fn) <| sfW_beginOfFactor_57 N   l3 h _ e))
def fW_beginOfFactor_7 (N : Nat) : Nat → Nat → Int32 → Int32 → Int32 → Int32 → zH → Option (Int32 × zH)
  | 0, _, _, _, _, _, _ => none
  | n + 1, l0, l1, l2, l3, l4, h => cond (z_cmp .ge l4 l1) (fW_beginOfFactor_40 N  l0 l1 l3 h) (b1 (fI h l0 4 1) fun x1 => cond (z_cmp .ge l3 x1) (fW_beginOfFactor_40 N  l0 l1 l3 h) (b2 (fW_factorEnd N l0 l2 l3 h) fun x2 h3 => fW_beginOfFactor_7 N n  l0 l1 l3 x2 (l4 + Int32.ofInt 1) h3))
theorem sfW_beginOfFactor_7 {xs : List Int32} (N : Nat)   : ∀ (n : Nat) (l0 : Nat) (l1 : Int32) (l2 : Int32) (l3 : Int32) (l4 : Int32) (h : zH) (r : Int32 × zH), fW_beginOfFactor_7 N n  l0 l1 l2 l3 l4 h = some r → zt xs (4) 63 7 [(0, .ref l0), (1, .int l1), (2, .int l2), (3, .int l3), (4, .int l4)] [] h 0 0 (zQ cI r) := by
  have hy := mfW_beginOfFactor
  intro n
  induction n with
  | zero =>
    intro l0 l1 l2 l3 l4 h r e
    rw [fW_beginOfFactor_7] at e
    cases e
  | succ n ih =>
    intro l0 l1 l2 l3 l4 h r e
    rw [fW_beginOfFactor_7] at e
    exact zl hy 2 (pc2 := 10) (lv2 := [(0, .ref l0), (1, .int l1), (2, .int l2), (3, .int l3), (4, .int l4)]) (st2 := [.int l1, .int l4]) rfl <| zx_c hy rfl e (fun _ e => zt_sub (z_fc rfl (z_fc rfl (z_fc rfl (z_fn)))) <| sfW_beginOfFactor_40 N   l0 l1 l3 h _ e) (fun _ e => zl hy 2 (pc2 := 15) (lv2 := [(0, .ref l0), (1, .int l1), (2, .int l2), (3, .int l3), (4, .int l4)]) (st2 := [.ref l0, .int l3]) rfl <| zx_gI hy rfl e fun x1 _ e => zx_c hy rfl e (fun _ e => zt_sub (z_fc rfl (z_fc rfl (z_fc rfl (z_fn)))) <| sfW_beginOfFactor_40 N   l0 l1 l3 h _ e) (fun _ e => zl hy 3 (pc2 := 24) (lv2 := [(0, .ref l0), (1, .int l1), (2, .int l2), (3, .int l3), (4, .int l4)]) (st2 := [.int l3, .int l2, .ref l0]) rfl <| zx_call hy (as := [.ref l0, .int l2, .int l3]) (rest := []) (ov := (fun v => some (.int v))) (fun _ => rfl) rfl rfl (Or.inl rfl) rfl rfl (Nat.le_of_ble_eq_true rfl) (Nat.le_of_ble_eq_true rfl) (fun _ e _ => z_rcvT (rfW_factorEnd N l0 l2 l3 h _ e)) (fun _ e => zt_deep (Nat.le_of_ble_eq_true rfl) (sfW_factorEnd N l0 l2 l3 h _ e)) e fun x2 h3 _ e => zl hy 7 (pc2 := 7) (lv2 := [(4, .int (l4 + Int32.ofInt 1)), (3, .int x2), (2, .int l3), (5, .int x2), (0, .ref l0), (1, .int l1)]) (st2 := []) rfl <| zt_sub (z_fc rfl (z_fc rfl (z_fc rfl (z_fc rfl (z_fc rfl (z_fn)))))) <| ih l0 l1 l3 x2 (l4 + Int32.ofInt 1) h3 _ e))
def fW_beginOfFactor (N : Nat) (l0 : Nat) (l1 : Int32) (h : zH) : Option (Int32 × zH) := cond (fT h l0 4) (fW_beginOfFactor_7 N N  l0 l1 (Int32.ofInt 0) (Int32.ofInt 0) (Int32.ofInt 0) h) none
theorem sfW_beginOfFactor {xs : List Int32} (N : Nat) (l0 : Nat) (l1 : Int32) (h : zH) (r : Int32 × zH) (e : fW_beginOfFactor N l0 l1 h = some r) : zt xs (4) 63 0 [(0, .ref l0), (1, .int l1)] [] h 0 0 (zQ cI r) := by
  have hy := mfW_beginOfFactor
  unfold fW_beginOfFactor at e
  replace e := (cond_some e).2
  exact zl hy 6 (pc2 := 7) (lv2 := [(4, .int (Int32.ofInt 0)), (3, .int (Int32.ofInt 0)), (2, .int (Int32.ofInt 0)), (0, .ref l0), (1, .int l1)]) (st2 := []) rfl <| zt_sub (z_fc rfl (z_fc rfl (z_fc rfl (z_fc rfl (z_fc rfl (z_fn)))))) <| sfW_beginOfFactor_7 N   N l0 l1 (Int32.ofInt 0) (Int32.ofInt 0) (Int32.ofInt 0) h _ e
theorem rfW_beginOfFactor (N : Nat) (l0 : Nat) (l1 : Int32) (h : zH) (r : Int32 × zH) (e : fW_beginOfFactor N l0 l1 h = some r) : fT h l0 4 = true := by
  unfold fW_beginOfFactor at e
  exact (cond_some e).1
/-- LyndonBench$State.canKeep(I)Z -/
theorem mfS_canKeep : z_me 35 zc_35 2 [] (some .boolean) := ⟨z_me0 rfl, rfl, rfl, rfl⟩
def fS_canKeep_25 (N : Nat)  (s0 : Int32) (h : zH) : Option (Int32 × zH) := cond (decide (s0 = Int32.ofInt 0) || decide (s0 = Int32.ofInt 1)) (some (s0, h)) none
theorem sfS_canKeep_25 {xs : List Int32} (N : Nat)   (s0 : Int32) (h : zH) (r : Int32 × zH) (e : fS_canKeep_25 N  s0 h = some r) : zt xs (1) 35 25 [] [.int s0] h 0 0 (zQ cI r) := by
  have hy := mfS_canKeep
  unfold fS_canKeep_25 at e
  exact zx_retB hy rfl rfl e
def fS_canKeep_24 (N : Nat)   (h : zH) : Option (Int32 × zH) := fS_canKeep_25 N  (Int32.ofInt 0) h
theorem sfS_canKeep_24 {xs : List Int32} (N : Nat)    (h : zH) (r : Int32 × zH) (e : fS_canKeep_24 N   h = some r) : zt xs (1) 35 24 [] [] h 0 0 (zQ cI r) := by
  have hy := mfS_canKeep
  unfold fS_canKeep_24 at e
  exact zl hy 1 (pc2 := 25) (lv2 := []) (st2 := [.int (Int32.ofInt 0)]) rfl <| zt_sub (z_fn) <| sfS_canKeep_25 N   (Int32.ofInt 0) h _ e
def fS_canKeep (N : Nat) (l0 : Nat) (l1 : Int32) (h : zH) : Option (Int32 × zH) := cond (fT h l0 3) (cond (z_cmp .lt l1 (Int32.ofInt 1)) (fS_canKeep_24 N   h) (cond (z_cmp .gt l1 (Int32.ofInt 40)) (fS_canKeep_24 N   h) (b1 (fI h l0 3 3) fun x1 => cond (z_cmp .ge x1 (Int32.ofInt 8)) (fS_canKeep_24 N   h) (fS_canKeep_25 N  (Int32.ofInt 1) h)))) none
theorem sfS_canKeep {xs : List Int32} (N : Nat) (l0 : Nat) (l1 : Int32) (h : zH) (r : Int32 × zH) (e : fS_canKeep N l0 l1 h = some r) : zt xs (1) 35 0 [(0, .ref l0), (1, .int l1)] [] h 0 0 (zQ cI r) := by
  have hy := mfS_canKeep
  unfold fS_canKeep at e
  replace e := (cond_some e).2
  exact zl hy 2 (pc2 := 2) (lv2 := [(0, .ref l0), (1, .int l1)]) (st2 := [.int (Int32.ofInt 1), .int l1]) rfl <| zx_c hy rfl e (fun _ e => zt_sub (z_fn) <| sfS_canKeep_24 N    h _ e) (fun _ e => zl hy 1 (pc2 := 6) (lv2 := [(0, .ref l0), (1, .int l1)]) (st2 := [.int l1]) rfl <| zx_bip hy (c := 40) rfl (by decide) <| zx_c hy rfl e (fun _ e => zt_sub (z_fn) <| sfS_canKeep_24 N    h _ e) (fun _ e => zl hy 1 (pc2 := 12) (lv2 := [(0, .ref l0), (1, .int l1)]) (st2 := [.ref l0]) rfl <| zx_gI hy rfl e fun x1 _ e => zx_bip hy (c := 8) rfl (by decide) <| zx_c hy rfl e (fun _ e => zt_sub (z_fn) <| sfS_canKeep_24 N    h _ e) (fun _ e => zl hy 2 (pc2 := 25) (lv2 := [(0, .ref l0), (1, .int l1)]) (st2 := [.int (Int32.ofInt 1)]) rfl <| zt_sub (z_fn) <| sfS_canKeep_25 N   (Int32.ofInt 1) h _ e)))
theorem rfS_canKeep (N : Nat) (l0 : Nat) (l1 : Int32) (h : zH) (r : Int32 × zH) (e : fS_canKeep N l0 l1 h = some r) : fT h l0 3 = true := by
  unfold fS_canKeep at e
  exact (cond_some e).1
/-- LyndonBench$Script.runKeep()Z -/
theorem mfC_runKeep : z_me 18 zc_18 3 [] (some .boolean) := ⟨z_me0 rfl, rfl, rfl, rfl⟩
def fC_runKeep_67 (N : Nat)  (l0 : Nat) (l1 : Int32) (l2 : Int32) (h : zH) : Option (Int32 × zH) := b1 (fI h l0 2 4) fun x7 => cond (z_cmp .eq x7 (Int32.ofInt 5)) (b1 (fR h l0 2 1) fun x8 => b2 (fS_canKeep N x8 (l2 - l1) h) fun x9 h10 => cond (z_cmp .ne x9 (Int32.ofInt 0)) (b1 (fR h10 l0 2 1) fun x11 => b1 (fR h10 l0 2 1) fun x12 => b1 (fR h10 x12 3 1) fun x13 => b2 (fS_keep N x11 x13 l1 l2 h10) fun _ h15 => some ((Int32.ofInt 1), h15)) (b2 (fC_fail N l0 (Int32.ofInt 3) h10) fun x16 h17 => cond (decide (x16 = Int32.ofInt 0) || decide (x16 = Int32.ofInt 1)) (some (x16, h17)) none)) (b2 (fC_fail N l0 (Int32.ofInt 1) h) fun x18 h19 => cond (decide (x18 = Int32.ofInt 0) || decide (x18 = Int32.ofInt 1)) (some (x18, h19)) none)
theorem sfC_runKeep_67 {xs : List Int32} (N : Nat)   (l0 : Nat) (l1 : Int32) (l2 : Int32) (h : zH) (r : Int32 × zH) (e : fC_runKeep_67 N  l0 l1 l2 h = some r) : zt xs (5) 18 67 [(0, .ref l0), (1, .int l1), (2, .int l2)] [] h 0 0 (zQ cI r) := by
  have hy := mfC_runKeep
  unfold fC_runKeep_67 at e
  exact zl hy 1 (pc2 := 68) (lv2 := [(0, .ref l0), (1, .int l1), (2, .int l2)]) (st2 := [.ref l0]) rfl <| zx_gI hy rfl e fun x7 _ e => zl hy 1 (pc2 := 72) (lv2 := [(0, .ref l0), (1, .int l1), (2, .int l2)]) (st2 := [.int (Int32.ofInt 5), .int x7]) rfl <| zx_c hy rfl e (fun _ e => zl hy 1 (pc2 := 82) (lv2 := [(0, .ref l0), (1, .int l1), (2, .int l2)]) (st2 := [.ref l0]) rfl <| zx_gR hy rfl e fun x8 _ e => zl hy 3 (pc2 := 88) (lv2 := [(0, .ref l0), (1, .int l1), (2, .int l2)]) (st2 := [.int (l2 - l1), .ref x8]) rfl <| zx_call hy (as := [.ref x8, .int (l2 - l1)]) (rest := []) (ov := (fun v => some (.int v))) (fun _ => rfl) rfl rfl (Or.inl rfl) rfl rfl (Nat.le_of_ble_eq_true rfl) (Nat.le_of_ble_eq_true rfl) (fun _ e _ => z_rcvT (rfS_canKeep N x8 (l2 - l1) h _ e)) (fun _ e => zt_deep (Nat.le_of_ble_eq_true rfl) (sfS_canKeep N x8 (l2 - l1) h _ e)) e fun x9 h10 _ e => zx_c0 hy rfl e (fun _ e => zl hy 1 (pc2 := 101) (lv2 := [(0, .ref l0), (1, .int l1), (2, .int l2)]) (st2 := [.ref l0]) rfl <| zx_gR hy rfl e fun x11 _ e => zl hy 1 (pc2 := 105) (lv2 := [(0, .ref l0), (1, .int l1), (2, .int l2)]) (st2 := [.ref l0, .ref x11]) rfl <| zx_gR hy rfl e fun x12 _ e => zx_gR hy rfl e fun x13 _ e => zl hy 2 (pc2 := 113) (lv2 := [(0, .ref l0), (1, .int l1), (2, .int l2)]) (st2 := [.int l2, .int l1, .ref x13, .ref x11]) rfl <| zx_call hy (as := [.ref x11, .ref x13, .int l1, .int l2]) (rest := []) (ov := (fun _ => none)) (fun _ => rfl) rfl rfl (Or.inl rfl) rfl rfl (Nat.le_of_ble_eq_true rfl) (Nat.le_of_ble_eq_true rfl) (fun _ e _ => z_rcvT (rfS_keep N x11 x13 l1 l2 h10 _ e)) (fun _ e => zt_deep (Nat.le_of_ble_eq_true rfl) (sfS_keep N x11 x13 l1 l2 h10 _ e)) e fun _ h15 _ e => zl hy 1 (pc2 := 117) (lv2 := [(0, .ref l0), (1, .int l1), (2, .int l2)]) (st2 := [.int (Int32.ofInt 1)]) rfl <| zx_ret hy (v := .int (Int32.ofInt 1)) rfl rfl (by decide) rfl e) (fun _ e => zl hy 2 (pc2 := 96) (lv2 := [(0, .ref l0), (1, .int l1), (2, .int l2)]) (st2 := [.int (Int32.ofInt 3), .ref l0]) rfl <| zx_call hy (as := [.ref l0, .int (Int32.ofInt 3)]) (rest := []) (ov := (fun v => some (.int v))) (fun _ => rfl) rfl rfl (Or.inl rfl) rfl rfl (Nat.le_of_ble_eq_true rfl) (Nat.le_of_ble_eq_true rfl) (fun _ e _ => z_rcvT (rfC_fail N l0 (Int32.ofInt 3) h10 _ e)) (fun _ e => zt_deep (Nat.le_of_ble_eq_true rfl) (sfC_fail N l0 (Int32.ofInt 3) h10 _ e)) e fun x16 h17 _ e => zx_retB hy rfl rfl e)) (fun _ e => zl hy 2 (pc2 := 77) (lv2 := [(0, .ref l0), (1, .int l1), (2, .int l2)]) (st2 := [.int (Int32.ofInt 1), .ref l0]) rfl <| zx_call hy (as := [.ref l0, .int (Int32.ofInt 1)]) (rest := []) (ov := (fun v => some (.int v))) (fun _ => rfl) rfl rfl (Or.inl rfl) rfl rfl (Nat.le_of_ble_eq_true rfl) (Nat.le_of_ble_eq_true rfl) (fun _ e _ => z_rcvT (rfC_fail N l0 (Int32.ofInt 1) h _ e)) (fun _ e => zt_deep (Nat.le_of_ble_eq_true rfl) (sfC_fail N l0 (Int32.ofInt 1) h _ e)) e fun x18 h19 _ e => zx_retB hy rfl rfl e)
def fC_runKeep (N : Nat) (l0 : Nat) (h : zH) : Option (Int32 × zH) := cond (fT h l0 2) (b1 (fR h l0 2 1) fun x1 => b1 (fR h x1 3 1) fun x2 => b1 (fI h x2 4 1) fun x3 => b2 (fC_readToken N l0 h) fun _ h5 => b1 (fI h5 l0 2 4) fun x6 => cond (z_cmp .ne x6 (Int32.ofInt 2)) (fC_runKeep_67 N  l0 (Int32.ofInt 0) x3 h5) (b1 (fR h5 l0 2 1) fun x7 => b1 (fR h5 x7 3 1) fun x8 => b1 (fI h5 l0 2 7) fun x9 => b2 (fW_beginOfFactor N x8 x9 h5) fun x10 h11 => cond (z_cmp .ne x10 (Int32.ofInt (-1))) (b1 (fR h11 l0 2 1) fun x12 => b1 (fR h11 x12 3 1) fun x13 => b2 (fW_lyndonEnd N x13 x10 h11) fun x14 h15 => b2 (fC_readToken N l0 h15) fun _ h17 => fC_runKeep_67 N  l0 x10 x14 h17) (b2 (fC_fail N l0 (Int32.ofInt 2) h11) fun x18 h19 => cond (decide (x18 = Int32.ofInt 0) || decide (x18 = Int32.ofInt 1)) (some (x18, h19)) none))) none
theorem sfC_runKeep {xs : List Int32} (N : Nat) (l0 : Nat) (h : zH) (r : Int32 × zH) (e : fC_runKeep N l0 h = some r) : zt xs (5) 18 0 [(0, .ref l0)] [] h 0 0 (zQ cI r) := by
  have hy := mfC_runKeep
  unfold fC_runKeep at e
  replace e := (cond_some e).2
  exact zl hy 3 (pc2 := 3) (lv2 := [(1, .int (Int32.ofInt 0)), (0, .ref l0)]) (st2 := [.ref l0]) rfl <| zx_gR hy rfl e fun x1 _ e => zx_gR hy rfl e fun x2 _ e => zx_gI hy rfl e fun x3 _ e => zl hy 2 (pc2 := 14) (lv2 := [(2, .int x3), (1, .int (Int32.ofInt 0)), (0, .ref l0)]) (st2 := [.ref l0]) rfl <| zx_call hy (as := [.ref l0]) (rest := []) (ov := (fun _ => none)) (fun _ => rfl) rfl rfl (Or.inl rfl) rfl rfl (Nat.le_of_ble_eq_true rfl) (Nat.le_of_ble_eq_true rfl) (fun _ e _ => z_rcvT (rfC_readToken N l0 h _ e)) (fun _ e => zt_deep (Nat.le_of_ble_eq_true rfl) (sfC_readToken N l0 h _ e)) e fun _ h5 _ e => zl hy 1 (pc2 := 18) (lv2 := [(2, .int x3), (1, .int (Int32.ofInt 0)), (0, .ref l0)]) (st2 := [.ref l0]) rfl <| zx_gI hy rfl e fun x6 _ e => zl hy 1 (pc2 := 22) (lv2 := [(2, .int x3), (1, .int (Int32.ofInt 0)), (0, .ref l0)]) (st2 := [.int (Int32.ofInt 2), .int x6]) rfl <| zx_c hy rfl e (fun _ e => zt_sub (z_fc rfl (z_fc rfl (z_fc rfl (z_fn)))) <| sfC_runKeep_67 N   l0 (Int32.ofInt 0) x3 h5 _ e) (fun _ e => zl hy 1 (pc2 := 26) (lv2 := [(2, .int x3), (1, .int (Int32.ofInt 0)), (0, .ref l0)]) (st2 := [.ref l0]) rfl <| zx_gR hy rfl e fun x7 _ e => zx_gR hy rfl e fun x8 _ e => zl hy 1 (pc2 := 33) (lv2 := [(2, .int x3), (1, .int (Int32.ofInt 0)), (0, .ref l0)]) (st2 := [.ref l0, .ref x8]) rfl <| zx_gI hy rfl e fun x9 _ e => zx_call hy (as := [.ref x8, .int x9]) (rest := []) (ov := (fun v => some (.int v))) (fun _ => rfl) rfl rfl (Or.inl rfl) rfl rfl (Nat.le_of_ble_eq_true rfl) (Nat.le_of_ble_eq_true rfl) (fun _ e _ => z_rcvT (rfW_beginOfFactor N x8 x9 h5 _ e)) (fun _ e => zt_deep (Nat.le_of_ble_eq_true rfl) (sfW_beginOfFactor N x8 x9 h5 _ e)) e fun x10 h11 _ e => zl hy 3 (pc2 := 42) (lv2 := [(1, .int x10), (2, .int x3), (0, .ref l0)]) (st2 := [.int (Int32.ofInt (-1)), .int x10]) rfl <| zx_c hy rfl e (fun _ e => zl hy 1 (pc2 := 52) (lv2 := [(1, .int x10), (2, .int x3), (0, .ref l0)]) (st2 := [.ref l0]) rfl <| zx_gR hy rfl e fun x12 _ e => zx_gR hy rfl e fun x13 _ e => zl hy 1 (pc2 := 59) (lv2 := [(1, .int x10), (2, .int x3), (0, .ref l0)]) (st2 := [.int x10, .ref x13]) rfl <| zx_call hy (as := [.ref x13, .int x10]) (rest := []) (ov := (fun v => some (.int v))) (fun _ => rfl) rfl rfl (Or.inl rfl) rfl rfl (Nat.le_of_ble_eq_true rfl) (Nat.le_of_ble_eq_true rfl) (fun _ e _ => z_rcvT (rfW_lyndonEnd N x13 x10 h11 _ e)) (fun _ e => zt_deep (Nat.le_of_ble_eq_true rfl) (sfW_lyndonEnd N x13 x10 h11 _ e)) e fun x14 h15 _ e => zl hy 2 (pc2 := 64) (lv2 := [(2, .int x14), (1, .int x10), (0, .ref l0)]) (st2 := [.ref l0]) rfl <| zx_call hy (as := [.ref l0]) (rest := []) (ov := (fun _ => none)) (fun _ => rfl) rfl rfl (Or.inl rfl) rfl rfl (Nat.le_of_ble_eq_true rfl) (Nat.le_of_ble_eq_true rfl) (fun _ e _ => z_rcvT (rfC_readToken N l0 h15 _ e)) (fun _ e => zt_deep (Nat.le_of_ble_eq_true rfl) (sfC_readToken N l0 h15 _ e)) e fun _ h17 _ e => zt_sub (z_fc rfl (z_fc rfl (z_fc rfl (z_fn)))) <| sfC_runKeep_67 N   l0 x10 x14 h17 _ e) (fun _ e => zl hy 2 (pc2 := 47) (lv2 := [(1, .int x10), (2, .int x3), (0, .ref l0)]) (st2 := [.int (Int32.ofInt 2), .ref l0]) rfl <| zx_call hy (as := [.ref l0, .int (Int32.ofInt 2)]) (rest := []) (ov := (fun v => some (.int v))) (fun _ => rfl) rfl rfl (Or.inl rfl) rfl rfl (Nat.le_of_ble_eq_true rfl) (Nat.le_of_ble_eq_true rfl) (fun _ e _ => z_rcvT (rfC_fail N l0 (Int32.ofInt 2) h11 _ e)) (fun _ e => zt_deep (Nat.le_of_ble_eq_true rfl) (sfC_fail N l0 (Int32.ofInt 2) h11 _ e)) e fun x18 h19 _ e => zx_retB hy rfl rfl e))
theorem rfC_runKeep (N : Nat) (l0 : Nat) (h : zH) (r : Int32 × zH) (e : fC_runKeep N l0 h = some r) : fT h l0 2 = true := by
  unfold fC_runKeep at e
  exact (cond_some e).1
