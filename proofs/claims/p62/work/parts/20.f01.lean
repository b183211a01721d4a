/-! F functions, by program. -/
/-- java/lang/String.charAt(I)C -/
theorem mfJ_charAt : z_me 79 zc_79 2 [] (some .char) := ⟨rfl, rfl, rfl, rfl⟩
def fJ_charAt (N : Nat) (l0 : Nat) (l1 : Int32) (h : zH) : Option (Int32 × zH) := cond (fT h l0 50) (b2 (fJ_isLatin1 N l0 h) fun x1 h2 => cond (z_cmp .eq x1 (Int32.ofInt 0)) (b1 (fR h2 l0 50 0) fun x3 => none) (b1 (fR h2 l0 50 0) fun x4 => b2 (fJL_charAt N x4 l1 h2) fun x5 h6 => cond (z_rok .ireturn (some .char) (.int x5)) (some (x5, h6)) none)) none
theorem sfJ_charAt {xs : List Int32} (N : Nat) (l0 : Nat) (l1 : Int32) (h : zH) (r : Int32 × zH) (e : fJ_charAt N l0 l1 h = some r) : zt xs (3) 79 0 [(0, .ref l0), (1, .int l1)] [] h 0 0 (zQ cI r) := by
  have hy := mfJ_charAt
  unfold fJ_charAt at e
  replace e := (cond_some e).2
  exact zl hy 1 (pc2 := 1) (lv2 := [(0, .ref l0), (1, .int l1)]) (st2 := [.ref l0]) rfl <| zx_call hy (as := [.ref l0]) (rest := []) (ov := (fun v => some (.int v))) (fun _ => rfl) rfl rfl (Or.inl rfl) rfl rfl (Nat.le_of_ble_eq_true rfl) (Nat.le_of_ble_eq_true rfl) (fun _ e _ => z_rcvT (rfJ_isLatin1 N l0 h _ e)) (fun _ e => zt_deep (Nat.le_of_ble_eq_true rfl) (sfJ_isLatin1 N l0 h _ e)) e fun x1 h2 _ e => zx_c0 hy rfl e (fun _ e => zl hy 1 (pc2 := 17) (lv2 := [(0, .ref l0), (1, .int l1)]) (st2 := [.ref l0]) rfl <| zx_gR hy rfl e fun x3 _ e => (by cases e)) (fun _ e => zl hy 1 (pc2 := 8) (lv2 := [(0, .ref l0), (1, .int l1)]) (st2 := [.ref l0]) rfl <| zx_gR hy rfl e fun x4 _ e => zl hy 1 (pc2 := 12) (lv2 := [(0, .ref l0), (1, .int l1)]) (st2 := [.int l1, .ref x4]) rfl <| zx_call hy (as := [.ref x4, .int l1]) (rest := []) (ov := (fun v => some (.int v))) (fun _ => rfl) rfl rfl (Or.inr (Or.inl rfl)) rfl rfl (Nat.le_of_ble_eq_true rfl) (Nat.le_of_ble_eq_true rfl) (fun _ _ hz => absurd rfl hz) (fun _ e => zt_deep (Nat.le_of_ble_eq_true rfl) (sfJL_charAt N x4 l1 h2 _ e)) e fun x5 h6 _ e => zx_ret hy rfl rfl (cond_some e).1 rfl (cond_some e).2)
theorem rfJ_charAt (N : Nat) (l0 : Nat) (l1 : Int32) (h : zH) (r : Int32 × zH) (e : fJ_charAt N l0 l1 h = some r) : fT h l0 50 = true := by
  unfold fJ_charAt at e
  exact (cond_some e).1
/-- LyndonBench$Word.addString(Ljava/lang/String;)V -/
theorem mfW_addString : z_me 24 zc_24 3 [] none := ⟨rfl, rfl, rfl, rfl⟩
def fW_addString_2 (N : Nat) : Nat → Nat → Nat → Int32 → zH → Option (Unit × zH)
  | 0, _, _, _, _ => none
  | n + 1, l0, l1, l2, h => b2 (fJ_length N l1 h) fun x1 h2 => cond (z_cmp .ge l2 x1) (some ((), h2)) (b2 (fJ_charAt N l1 l2 h2) fun x3 h4 => b2 (fW_add N l0 x3 h4) fun _ h6 => fW_addString_2 N n  l0 l1 (l2 + Int32.ofInt 1) h6)
theorem sfW_addString_2 {xs : List Int32} (N : Nat)   : ∀ (n : Nat) (l0 : Nat) (l1 : Nat) (l2 : Int32) (h : zH) (r : Unit × zH), fW_addString_2 N n  l0 l1 l2 h = some r → zt xs (4) 24 2 [(0, .ref l0), (1, .ref l1), (2, .int l2)] [] h 0 0 (zQ cV r) := by
  have hy := mfW_addString
  intro n
  induction n with
  | zero =>
    intro l0 l1 l2 h r e
    rw [fW_addString_2] at e
    cases e
  | succ n ih =>
    intro l0 l1 l2 h r e
    rw [fW_addString_2] at e
    exact zl hy 2 (pc2 := 4) (lv2 := [(0, .ref l0), (1, .ref l1), (2, .int l2)]) (st2 := [.ref l1, .int l2]) rfl <| zx_call hy (as := [.ref l1]) (rest := [.int l2]) (ov := (fun v => some (.int v))) (fun _ => rfl) rfl rfl (Or.inl rfl) rfl rfl (Nat.le_of_ble_eq_true rfl) (Nat.le_of_ble_eq_true rfl) (fun _ e _ => z_rcvT (rfJ_length N l1 h _ e)) (fun _ e => zt_deep (Nat.le_of_ble_eq_true rfl) (sfJ_length N l1 h _ e)) e fun x1 h2 _ e => zx_c hy rfl e (fun _ e => zx_retV hy rfl rfl e) (fun _ e => zl hy 3 (pc2 := 13) (lv2 := [(0, .ref l0), (1, .ref l1), (2, .int l2)]) (st2 := [.int l2, .ref l1, .ref l0]) rfl <| zx_call hy (as := [.ref l1, .int l2]) (rest := [.ref l0]) (ov := (fun v => some (.int v))) (fun _ => rfl) rfl rfl (Or.inl rfl) rfl rfl (Nat.le_of_ble_eq_true rfl) (Nat.le_of_ble_eq_true rfl) (fun _ e _ => z_rcvT (rfJ_charAt N l1 l2 h2 _ e)) (fun _ e => zt_deep (Nat.le_of_ble_eq_true rfl) (sfJ_charAt N l1 l2 h2 _ e)) e fun x3 h4 _ e => zx_call hy (as := [.ref l0, .int x3]) (rest := []) (ov := (fun _ => none)) (fun _ => rfl) rfl rfl (Or.inl rfl) rfl rfl (Nat.le_of_ble_eq_true rfl) (Nat.le_of_ble_eq_true rfl) (fun _ e _ => z_rcvT (rfW_add N l0 x3 h4 _ e)) (fun _ e => zt_deep (Nat.le_of_ble_eq_true rfl) (sfW_add N l0 x3 h4 _ e)) e fun _ h6 _ e => zl hy 2 (pc2 := 2) (lv2 := [(2, .int (l2 + Int32.ofInt 1)), (0, .ref l0), (1, .ref l1)]) (st2 := []) rfl <| zt_sub (z_fc rfl (z_fc rfl (z_fc rfl (z_fn)))) <| ih l0 l1 (l2 + Int32.ofInt 1) h6 _ e)
def fW_addString (N : Nat) (l0 : Nat) (l1 : Nat) (h : zH) : Option (Unit × zH) := cond (fT h l0 4) (fW_addString_2 N N  l0 l1 (Int32.ofInt 0) h) none
theorem sfW_addString {xs : List Int32} (N : Nat) (l0 : Nat) (l1 : Nat) (h : zH) (r : Unit × zH) (e : fW_addString N l0 l1 h = some r) : zt xs (4) 24 0 [(0, .ref l0), (1, .ref l1)] [] h 0 0 (zQ cV r) := by
  have hy := mfW_addString
  unfold fW_addString at e
  replace e := (cond_some e).2
  exact zl hy 2 (pc2 := 2) (lv2 := [(2, .int (Int32.ofInt 0)), (0, .ref l0), (1, .ref l1)]) (st2 := []) rfl <| zt_sub (z_fc rfl (z_fc rfl (z_fc rfl (z_fn)))) <| sfW_addString_2 N   N l0 l1 (Int32.ofInt 0) h _ e
theorem rfW_addString (N : Nat) (l0 : Nat) (l1 : Nat) (h : zH) (r : Unit × zH) (e : fW_addString N l0 l1 h = some r) : fT h l0 4 = true := by
  unfold fW_addString at e
  exact (cond_some e).1
/-- LyndonBench$Word.shortenTo(I)V -/
theorem mfW_shortenTo : z_me 27 zc_27 2 [] none := ⟨rfl, rfl, rfl, rfl⟩
def fW_shortenTo (N : Nat) (l0 : Nat) (l1 : Int32) (h : zH) : Option (Unit × zH) := cond (fT h l0 4) (cond (z_cmp .lt l1 (Int32.ofInt 0)) (some ((), h)) (b1 (fI h l0 4 1) fun x1 => cond (z_cmp .ge l1 x1) (some ((), h)) (b1 (fS h l0 4 1 (.int l1)) fun h2 => some ((), h2)))) none
theorem sfW_shortenTo {xs : List Int32} (N : Nat) (l0 : Nat) (l1 : Int32) (h : zH) (r : Unit × zH) (e : fW_shortenTo N l0 l1 h = some r) : zt xs (0) 27 0 [(0, .ref l0), (1, .int l1)] [] h 0 0 (zQ cV r) := by
  have hy := mfW_shortenTo
  unfold fW_shortenTo at e
  replace e := (cond_some e).2
  exact zl hy 1 (pc2 := 1) (lv2 := [(0, .ref l0), (1, .int l1)]) (st2 := [.int l1]) rfl <| zx_c0 hy rfl e (fun _ e => zx_retV hy rfl rfl e) (fun _ e => zl hy 2 (pc2 := 6) (lv2 := [(0, .ref l0), (1, .int l1)]) (st2 := [.ref l0, .int l1]) rfl <| zx_gI hy rfl e fun x1 _ e => zx_c hy rfl e (fun _ e => zx_retV hy rfl rfl e) (fun _ e => zl hy 2 (pc2 := 14) (lv2 := [(0, .ref l0), (1, .int l1)]) (st2 := [.int l1, .ref l0]) rfl <| zx_pf hy rfl e (rfl) fun h2 _ e => zx_retV hy rfl rfl e))
theorem rfW_shortenTo (N : Nat) (l0 : Nat) (l1 : Int32) (h : zH) (r : Unit × zH) (e : fW_shortenTo N l0 l1 h = some r) : fT h l0 4 = true := by
  unfold fW_shortenTo at e
  exact (cond_some e).1
/-- LyndonBench$Word.cutTo(II)V -/
theorem mfW_cutTo : z_me 28 zc_28 4 [] none := ⟨rfl, rfl, rfl, rfl⟩
def fW_cutTo_2 (N : Nat) : Nat → Nat → Int32 → Int32 → Int32 → zH → Option (Unit × zH)
  | 0, _, _, _, _, _ => none
  | n + 1, l0, l1, l2, l3, h => cond (z_cmp .ge l3 l2) (b2 (fW_shortenTo N l0 (l2 - l1) h) fun _ h2 => some ((), h2)) (b2 (fW_at N l0 l3 h) fun x3 h4 => b2 (fW_put N l0 (l3 - l1) x3 h4) fun _ h6 => fW_cutTo_2 N n  l0 l1 l2 (l3 + Int32.ofInt 1) h6)
theorem sfW_cutTo_2 {xs : List Int32} (N : Nat)   : ∀ (n : Nat) (l0 : Nat) (l1 : Int32) (l2 : Int32) (l3 : Int32) (h : zH) (r : Unit × zH), fW_cutTo_2 N n  l0 l1 l2 l3 h = some r → zt xs (1) 28 2 [(0, .ref l0), (1, .int l1), (2, .int l2), (3, .int l3)] [] h 0 0 (zQ cV r) := by
  have hy := mfW_cutTo
  intro n
  induction n with
  | zero =>
    intro l0 l1 l2 l3 h r e
    rw [fW_cutTo_2] at e
    cases e
  | succ n ih =>
    intro l0 l1 l2 l3 h r e
    rw [fW_cutTo_2] at e
    exact zl hy 2 (pc2 := 4) (lv2 := [(0, .ref l0), (1, .int l1), (2, .int l2), (3, .int l3)]) (st2 := [.int l2, .int l3]) rfl <| zx_c hy rfl e (fun _ e => zl hy 4 (pc2 := 29) (lv2 := [(0, .ref l0), (1, .int l1), (2, .int l2), (3, .int l3)]) (st2 := [.int (l2 - l1), .ref l0]) rfl <| zx_call hy (as := [.ref l0, .int (l2 - l1)]) (rest := []) (ov := (fun _ => none)) (fun _ => rfl) rfl rfl (Or.inl rfl) rfl rfl (Nat.le_of_ble_eq_true rfl) (Nat.le_of_ble_eq_true rfl) (fun _ e _ => z_rcvT (rfW_shortenTo N l0 (l2 - l1) h _ e)) (fun _ e => zt_deep (Nat.le_of_ble_eq_true rfl) (sfW_shortenTo N l0 (l2 - l1) h _ e)) e fun _ h2 _ e => zx_retV hy rfl rfl e) (fun _ e => zl hy 6 (pc2 := 13) (lv2 := [(0, .ref l0), (1, .int l1), (2, .int l2), (3, .int l3)]) (st2 := [.int l3, .ref l0, .int (l3 - l1), .ref l0]) rfl <| zx_call hy (as := [.ref l0, .int l3]) (rest := [.int (l3 - l1), .ref l0]) (ov := (fun v => some (.int v))) (fun _ => rfl) rfl rfl (Or.inl rfl) rfl rfl (Nat.le_of_ble_eq_true rfl) (Nat.le_of_ble_eq_true rfl) (fun _ e _ => z_rcvT (rfW_at N l0 l3 h _ e)) (fun _ e => zt_deep (Nat.le_of_ble_eq_true rfl) (sfW_at N l0 l3 h _ e)) e fun x3 h4 _ e => zx_call hy (as := [.ref l0, .int (l3 - l1), .int x3]) (rest := []) (ov := (fun _ => none)) (fun _ => rfl) rfl rfl (Or.inl rfl) rfl rfl (Nat.le_of_ble_eq_true rfl) (Nat.le_of_ble_eq_true rfl) (fun _ e _ => z_rcvT (rfW_put N l0 (l3 - l1) x3 h4 _ e)) (fun _ e => zt_deep (Nat.le_of_ble_eq_true rfl) (sfW_put N l0 (l3 - l1) x3 h4 _ e)) e fun _ h6 _ e => zl hy 2 (pc2 := 2) (lv2 := [(3, .int (l3 + Int32.ofInt 1)), (0, .ref l0), (1, .int l1), (2, .int l2)]) (st2 := []) rfl <| zt_sub (z_fc rfl (z_fc rfl (z_fc rfl (z_fc rfl (z_fn))))) <| ih l0 l1 l2 (l3 + Int32.ofInt 1) h6 _ e)
def fW_cutTo (N : Nat) (l0 : Nat) (l1 : Int32) (l2 : Int32) (h : zH) : Option (Unit × zH) := cond (fT h l0 4) (fW_cutTo_2 N N  l0 l1 l2 l1 h) none
theorem sfW_cutTo {xs : List Int32} (N : Nat) (l0 : Nat) (l1 : Int32) (l2 : Int32) (h : zH) (r : Unit × zH) (e : fW_cutTo N l0 l1 l2 h = some r) : zt xs (1) 28 0 [(0, .ref l0), (1, .int l1), (2, .int l2)] [] h 0 0 (zQ cV r) := by
  have hy := mfW_cutTo
  unfold fW_cutTo at e
  replace e := (cond_some e).2
  exact zl hy 2 (pc2 := 2) (lv2 := [(3, .int l1), (0, .ref l0), (1, .int l1), (2, .int l2)]) (st2 := []) rfl <| zt_sub (z_fc rfl (z_fc rfl (z_fc rfl (z_fc rfl (z_fn))))) <| sfW_cutTo_2 N   N l0 l1 l2 l1 h _ e
theorem rfW_cutTo (N : Nat) (l0 : Nat) (l1 : Int32) (l2 : Int32) (h : zH) (r : Unit × zH) (e : fW_cutTo N l0 l1 l2 h = some r) : fT h l0 4 = true := by
  unfold fW_cutTo at e
  exact (cond_some e).1
/-- LyndonBench$Word.mirror(II)V -/
theorem mfW_mirror : z_me 29 zc_29 6 [] none := ⟨rfl, rfl, rfl, rfl⟩
def fW_mirror_7 (N : Nat) : Nat → Nat → Int32 → Int32 → zH → Option (Unit × zH)
  | 0, _, _, _, _ => none
  | n + 1, l0, l3, l4, h => cond (z_cmp .ge l3 l4) (some ((), h)) (b2 (fW_at N l0 l3 h) fun x1 h2 => b2 (fW_at N l0 l4 h2) fun x3 h4 => b2 (fW_put N l0 l3 x3 h4) fun _ h6 => b2 (fW_put N l0 l4 x1 h6) fun _ h8 => fW_mirror_7 N n  l0 (l3 + Int32.ofInt 1) (l4 + Int32.ofInt (-1)) h8)
theorem sfW_mirror_7 {xs : List Int32} (N : Nat)   : ∀ (n : Nat) (l0 : Nat) (l3 : Int32) (l4 : Int32) (h : zH) (r : Unit × zH), fW_mirror_7 N n  l0 l3 l4 h = some r → zt xs (1) 29 7 [(0, .ref l0), (3, .int l3), (4, .int l4)] [] h 0 0 (zQ cV r) := by
  have hy := mfW_mirror
  intro n
  induction n with
  | zero =>
    intro l0 l3 l4 h r e
    rw [fW_mirror_7] at e
    cases e
  | succ n ih =>
    intro l0 l3 l4 h r e
    rw [fW_mirror_7] at e
    exact zl hy 2 (pc2 := 10) (lv2 := [(0, .ref l0), (3, .int l3), (4, .int l4)]) (st2 := [.int l4, .int l3]) rfl <| zx_c hy rfl e (fun _ e => zx_retV hy rfl rfl e) (fun _ e => zl hy 2 (pc2 := 15) (lv2 := [(0, .ref l0), (3, .int l3), (4, .int l4)]) (st2 := [.int l3, .ref l0]) rfl <| zx_call hy (as := [.ref l0, .int l3]) (rest := []) (ov := (fun v => some (.int v))) (fun _ => rfl) rfl rfl (Or.inl rfl) rfl rfl (Nat.le_of_ble_eq_true rfl) (Nat.le_of_ble_eq_true rfl) (fun _ e _ => z_rcvT (rfW_at N l0 l3 h _ e)) (fun _ e => zt_deep (Nat.le_of_ble_eq_true rfl) (sfW_at N l0 l3 h _ e)) e fun x1 h2 _ e => zl hy 5 (pc2 := 25) (lv2 := [(5, .int x1), (0, .ref l0), (3, .int l3), (4, .int l4)]) (st2 := [.int l4, .ref l0, .int l3, .ref l0]) rfl <| zx_call hy (as := [.ref l0, .int l4]) (rest := [.int l3, .ref l0]) (ov := (fun v => some (.int v))) (fun _ => rfl) rfl rfl (Or.inl rfl) rfl rfl (Nat.le_of_ble_eq_true rfl) (Nat.le_of_ble_eq_true rfl) (fun _ e _ => z_rcvT (rfW_at N l0 l4 h2 _ e)) (fun _ e => zt_deep (Nat.le_of_ble_eq_true rfl) (sfW_at N l0 l4 h2 _ e)) e fun x3 h4 _ e => zx_call hy (as := [.ref l0, .int l3, .int x3]) (rest := []) (ov := (fun _ => none)) (fun _ => rfl) rfl rfl (Or.inl rfl) rfl rfl (Nat.le_of_ble_eq_true rfl) (Nat.le_of_ble_eq_true rfl) (fun _ e _ => z_rcvT (rfW_put N l0 l3 x3 h4 _ e)) (fun _ e => zt_deep (Nat.le_of_ble_eq_true rfl) (sfW_put N l0 l3 x3 h4 _ e)) e fun _ h6 _ e => zl hy 3 (pc2 := 36) (lv2 := [(5, .int x1), (0, .ref l0), (3, .int l3), (4, .int l4)]) (st2 := [.int x1, .int l4, .ref l0]) rfl <| zx_call hy (as := [.ref l0, .int l4, .int x1]) (rest := []) (ov := (fun _ => none)) (fun _ => rfl) rfl rfl (Or.inl rfl) rfl rfl (Nat.le_of_ble_eq_true rfl) (Nat.le_of_ble_eq_true rfl) (fun _ e _ => z_rcvT (rfW_put N l0 l4 x1 h6 _ e)) (fun _ e => zt_deep (Nat.le_of_ble_eq_true rfl) (sfW_put N l0 l4 x1 h6 _ e)) e fun _ h8 _ e => zl hy 3 (pc2 := 7) (lv2 := [(4, .int (l4 + Int32.ofInt (-1))), (3, .int (l3 + Int32.ofInt 1)), (5, .int x1), (0, .ref l0)]) (st2 := []) rfl <| zt_sub (z_fc rfl (z_fc rfl (z_fc rfl (z_fn)))) <| ih l0 (l3 + Int32.ofInt 1) (l4 + Int32.ofInt (-1)) h8 _ e)
def fW_mirror (N : Nat) (l0 : Nat) (l1 : Int32) (l2 : Int32) (h : zH) : Option (Unit × zH) := cond (fT h l0 4) (fW_mirror_7 N N  l0 l1 (l2 - (Int32.ofInt 1)) h) none
theorem sfW_mirror {xs : List Int32} (N : Nat) (l0 : Nat) (l1 : Int32) (l2 : Int32) (h : zH) (r : Unit × zH) (e : fW_mirror N l0 l1 l2 h = some r) : zt xs (1) 29 0 [(0, .ref l0), (1, .int l1), (2, .int l2)] [] h 0 0 (zQ cV r) := by
  have hy := mfW_mirror
  unfold fW_mirror at e
  replace e := (cond_some e).2
  exact zl hy 6 (pc2 := 7) (lv2 := [(4, .int (l2 - (Int32.ofInt 1))), (3, .int l1), (0, .ref l0), (1, .int l1), (2, .int l2)]) (st2 := []) rfl <| zt_sub (z_fc rfl (z_fc rfl (z_fc rfl (z_fn)))) <| sfW_mirror_7 N   N l0 l1 (l2 - (Int32.ofInt 1)) h _ e
theorem rfW_mirror (N : Nat) (l0 : Nat) (l1 : Int32) (l2 : Int32) (h : zH) (r : Unit × zH) (e : fW_mirror N l0 l1 l2 h = some r) : fT h l0 4 = true := by
  unfold fW_mirror at e
  exact (cond_some e).1
/-- LyndonBench$Word.turn(I)V -/
theorem mfW_turn : z_me 30 zc_30 2 [] none := ⟨rfl, rfl, rfl, rfl⟩
def fW_turn (N : Nat) (l0 : Nat) (l1 : Int32) (h : zH) : Option (Unit × zH) := cond (fT h l0 4) (b2 (fW_mirror N l0 (Int32.ofInt 0) l1 h) fun _ h2 => b1 (fI h2 l0 4 1) fun x3 => b2 (fW_mirror N l0 l1 x3 h2) fun _ h5 => b1 (fI h5 l0 4 1) fun x6 => b2 (fW_mirror N l0 (Int32.ofInt 0) x6 h5) fun _ h8 => some ((), h8)) none
theorem sfW_turn {xs : List Int32} (N : Nat) (l0 : Nat) (l1 : Int32) (h : zH) (r : Unit × zH) (e : fW_turn N l0 l1 h = some r) : zt xs (2) 30 0 [(0, .ref l0), (1, .int l1)] [] h 0 0 (zQ cV r) := by
  have hy := mfW_turn
  unfold fW_turn at e
  replace e := (cond_some e).2
  exact zl hy 3 (pc2 := 3) (lv2 := [(0, .ref l0), (1, .int l1)]) (st2 := [.int l1, .int (Int32.ofInt 0), .ref l0]) rfl <| zx_call hy (as := [.ref l0, .int (Int32.ofInt 0), .int l1]) (rest := []) (ov := (fun _ => none)) (fun _ => rfl) rfl rfl (Or.inl rfl) rfl rfl (Nat.le_of_ble_eq_true rfl) (Nat.le_of_ble_eq_true rfl) (fun _ e _ => z_rcvT (rfW_mirror N l0 (Int32.ofInt 0) l1 h _ e)) (fun _ e => zt_deep (Nat.le_of_ble_eq_true rfl) (sfW_mirror N l0 (Int32.ofInt 0) l1 h _ e)) e fun _ h2 _ e => zl hy 3 (pc2 := 9) (lv2 := [(0, .ref l0), (1, .int l1)]) (st2 := [.ref l0, .int l1, .ref l0]) rfl <| zx_gI hy rfl e fun x3 _ e => zx_call hy (as := [.ref l0, .int l1, .int x3]) (rest := []) (ov := (fun _ => none)) (fun _ => rfl) rfl rfl (Or.inl rfl) rfl rfl (Nat.le_of_ble_eq_true rfl) (Nat.le_of_ble_eq_true rfl) (fun _ e _ => z_rcvT (rfW_mirror N l0 l1 x3 h2 _ e)) (fun _ e => zt_deep (Nat.le_of_ble_eq_true rfl) (sfW_mirror N l0 l1 x3 h2 _ e)) e fun _ h5 _ e => zl hy 3 (pc2 := 18) (lv2 := [(0, .ref l0), (1, .int l1)]) (st2 := [.ref l0, .int (Int32.ofInt 0), .ref l0]) rfl <| zx_gI hy rfl e fun x6 _ e => zx_call hy (as := [.ref l0, .int (Int32.ofInt 0), .int x6]) (rest := []) (ov := (fun _ => none)) (fun _ => rfl) rfl rfl (Or.inl rfl) rfl rfl (Nat.le_of_ble_eq_true rfl) (Nat.le_of_ble_eq_true rfl) (fun _ e _ => z_rcvT (rfW_mirror N l0 (Int32.ofInt 0) x6 h5 _ e)) (fun _ e => zt_deep (Nat.le_of_ble_eq_true rfl) (sfW_mirror N l0 (Int32.ofInt 0) x6 h5 _ e)) e fun _ h8 _ e => zx_retV hy rfl rfl e
theorem rfW_turn (N : Nat) (l0 : Nat) (l1 : Int32) (h : zH) (r : Unit × zH) (e : fW_turn N l0 l1 h = some r) : fT h l0 4 = true := by
  unfold fW_turn at e
  exact (cond_some e).1
/-- LyndonBench$Word.factorEnd(II)I -/
theorem mfW_factorEnd : z_me 34 zc_34 4 [] (some .int) := ⟨rfl, rfl, rfl, rfl⟩
def fW_factorEnd_33 (N : Nat)  (l0 : Nat) (l2 : Int32) (h : zH) : Option (Int32 × zH) := b2 (fW_lyndonEnd N l0 l2 h) fun x1 h2 => some (x1, h2)
theorem sfW_factorEnd_33 {xs : List Int32} (N : Nat)   (l0 : Nat) (l2 : Int32) (h : zH) (r : Int32 × zH) (e : fW_factorEnd_33 N  l0 l2 h = some r) : zt xs (2) 34 33 [(0, .ref l0), (2, .int l2)] [] h 0 0 (zQ cI r) := by
  have hy := mfW_factorEnd
  unfold fW_factorEnd_33 at e
  exact zl hy 2 (pc2 := 35) (lv2 := [(0, .ref l0), (2, .int l2)]) (st2 := [.int l2, .ref l0]) rfl <| zx_call hy (as := [.ref l0, .int l2]) (rest := []) (ov := (fun v => some (.int v))) (fun _ => rfl) rfl rfl (Or.inl rfl) rfl rfl (Nat.le_of_ble_eq_true rfl) (Nat.le_of_ble_eq_true rfl) (fun _ e _ => z_rcvT (rfW_lyndonEnd N l0 l2 h _ e)) (fun _ e => zt_deep (Nat.le_of_ble_eq_true rfl) (sfW_lyndonEnd N l0 l2 h _ e)) e fun x1 h2 _ e => zx_ret hy rfl rfl rfl rfl e
def fW_factorEnd (N : Nat) (l0 : Nat) (l1 : Int32) (l2 : Int32) (h : zH) : Option (Int32 × zH) := cond (fT h l0 4) (cond (z_cmp .le l2 l1) (fW_factorEnd_33 N  l0 l2 h) (b1 (fI h l0 4 1) fun x1 => cond (z_cmp .gt ((l2 + l2) - l1) x1) (fW_factorEnd_33 N  l0 l2 h) (b2 (fW_order N l0 l1 l2 l0 l2 ((l2 + l2) - l1) h) fun x2 h3 => cond (z_cmp .ne x2 (Int32.ofInt 0)) (fW_factorEnd_33 N  l0 l2 h3) (some (((l2 + l2) - l1), h3))))) none
theorem sfW_factorEnd {xs : List Int32} (N : Nat) (l0 : Nat) (l1 : Int32) (l2 : Int32) (h : zH) (r : Int32 × zH) (e : fW_factorEnd N l0 l1 l2 h = some r) : zt xs (2) 34 0 [(0, .ref l0), (1, .int l1), (2, .int l2)] [] h 0 0 (zQ cI r) := by
  have hy := mfW_factorEnd
  unfold fW_factorEnd at e
  replace e := (cond_some e).2
  exact zl hy 8 (pc2 := 8) (lv2 := [(3, .int ((l2 + l2) - l1)), (0, .ref l0), (1, .int l1), (2, .int l2)]) (st2 := [.int l1, .int l2]) rfl <| zx_c hy rfl e (fun _ e => zt_sub (z_fc rfl (z_fc rfl (z_fn))) <| sfW_factorEnd_33 N   l0 l2 h _ e) (fun _ e => zl hy 2 (pc2 := 13) (lv2 := [(3, .int ((l2 + l2) - l1)), (0, .ref l0), (1, .int l1), (2, .int l2)]) (st2 := [.ref l0, .int ((l2 + l2) - l1)]) rfl <| zx_gI hy rfl e fun x1 _ e => zx_c hy rfl e (fun _ e => zt_sub (z_fc rfl (z_fc rfl (z_fn))) <| sfW_factorEnd_33 N   l0 l2 h _ e) (fun _ e => zl hy 6 (pc2 := 25) (lv2 := [(3, .int ((l2 + l2) - l1)), (0, .ref l0), (1, .int l1), (2, .int l2)]) (st2 := [.int ((l2 + l2) - l1), .int l2, .ref l0, .int l2, .int l1, .ref l0]) rfl <| zx_call hy (as := [.ref l0, .int l1, .int l2, .ref l0, .int l2, .int ((l2 + l2) - l1)]) (rest := []) (ov := (fun v => some (.int v))) (fun _ => rfl) rfl rfl (Or.inl rfl) rfl rfl (Nat.le_of_ble_eq_true rfl) (Nat.le_of_ble_eq_true rfl) (fun _ e _ => z_rcvT (rfW_order N l0 l1 l2 l0 l2 ((l2 + l2) - l1) h _ e)) (fun _ e => zt_deep (Nat.le_of_ble_eq_true rfl) (sfW_order N l0 l1 l2 l0 l2 ((l2 + l2) - l1) h _ e)) e fun x2 h3 _ e => zx_c0 hy rfl e (fun _ e => zt_sub (z_fc rfl (z_fc rfl (z_fn))) <| sfW_factorEnd_33 N   l0 l2 h3 _ e) (fun _ e => zl hy 1 (pc2 := 32) (lv2 := [(3, .int ((l2 + l2) - l1)), (0, .ref l0), (1, .int l1), (2, .int l2)]) (st2 := [.int ((l2 + l2) - l1)]) rfl <| zx_ret hy rfl rfl rfl rfl e)))
theorem rfW_factorEnd (N : Nat) (l0 : Nat) (l1 : Int32) (l2 : Int32) (h : zH) (r : Int32 × zH) (e : fW_factorEnd N l0 l1 l2 h = some r) : fT h l0 4 = true := by
  unfold fW_factorEnd at e
  exact (cond_some e).1
/-- LyndonBench$Word.countFactors()I -/
theorem mfW_countFactors : z_me 35 zc_35 6 [] (some .int) := ⟨rfl, rfl, rfl, rfl⟩
def fW_countFactors_48 (N : Nat)  (l1 : Int32) (h : zH) : Option (Int32 × zH) := some (l1, h)
theorem sfW_countFactors_48 {xs : List Int32} (N : Nat)   (l1 : Int32) (h : zH) (r : Int32 × zH) (e : fW_countFactors_48 N  l1 h = some r) : zt xs (3) 35 48 [(1, .int l1)] [] h 0 0 (zQ cI r) := by
  have hy := mfW_countFactors
  unfold fW_countFactors_48 at e
  exact zl hy 1 (pc2 := 49) (lv2 := [(1, .int l1)]) (st2 := [.int l1]) rfl <| zx_ret hy rfl rfl rfl rfl e
def fW_countFactors_9 (N : Nat) : Nat → Nat → Int32 → Int32 → Int32 → Int32 → zH → Option (Int32 × zH)
  | 0, _, _, _, _, _, _ => none
  | n + 1, l0, l1, l2, l3, l4, h => b1 (fI h l0 4 1) fun x1 => cond (z_cmp .ge l4 x1) (fW_countFactors_48 N  l1 h) (b1 (fI h l0 4 1) fun x2 => cond (z_cmp .ge l3 x2) (fW_countFactors_48 N  l1 h) (b2 (fW_factorEnd N l0 l2 l3 h) fun x3 h4 => fW_countFactors_9 N n  l0 (l1 + Int32.ofInt 1) l3 x3 (l4 + Int32.ofInt 1) h4))
theorem sfW_countFactors_9 {xs : List Int32} (N : Nat)   : ∀ (n : Nat) (l0 : Nat) (l1 : Int32) (l2 : Int32) (l3 : Int32) (l4 : Int32) (h : zH) (r : Int32 × zH), fW_countFactors_9 N n  l0 l1 l2 l3 l4 h = some r → zt xs (3) 35 9 [(0, .ref l0), (1, .int l1), (2, .int l2), (3, .int l3), (4, .int l4)] [] h 0 0 (zQ cI r) := by
  have hy := mfW_countFactors
  intro n
  induction n with
  | zero =>
    intro l0 l1 l2 l3 l4 h r e
    rw [fW_countFactors_9] at e
    cases e
  | succ n ih =>
    intro l0 l1 l2 l3 l4 h r e
    rw [fW_countFactors_9] at e
    exact zl hy 2 (pc2 := 12) (lv2 := [(0, .ref l0), (1, .int l1), (2, .int l2), (3, .int l3), (4, .int l4)]) (st2 := [.ref l0, .int l4]) rfl <| zx_gI hy rfl e fun x1 _ e => zx_c hy rfl e (fun _ e => zt_sub (z_fc rfl (z_fn)) <| sfW_countFactors_48 N   l1 h _ e) (fun _ e => zl hy 2 (pc2 := 20) (lv2 := [(0, .ref l0), (1, .int l1), (2, .int l2), (3, .int l3), (4, .int l4)]) (st2 := [.ref l0, .int l3]) rfl <| zx_gI hy rfl e fun x2 _ e => zx_c hy rfl e (fun _ e => zt_sub (z_fc rfl (z_fn)) <| sfW_countFactors_48 N   l1 h _ e) (fun _ e => zl hy 3 (pc2 := 29) (lv2 := [(0, .ref l0), (1, .int l1), (2, .int l2), (3, .int l3), (4, .int l4)]) (st2 := [.int l3, .int l2, .ref l0]) rfl <| zx_call hy (as := [.ref l0, .int l2, .int l3]) (rest := []) (ov := (fun v => some (.int v))) (fun _ => rfl) rfl rfl (Or.inl rfl) rfl rfl (Nat.le_of_ble_eq_true rfl) (Nat.le_of_ble_eq_true rfl) (fun _ e _ => z_rcvT (rfW_factorEnd N l0 l2 l3 h _ e)) (fun _ e => zt_deep (Nat.le_of_ble_eq_true rfl) (sfW_factorEnd N l0 l2 l3 h _ e)) e fun x3 h4 _ e => zl hy 8 (pc2 := 9) (lv2 := [(4, .int (l4 + Int32.ofInt 1)), (3, .int x3), (2, .int l3), (1, .int (l1 + Int32.ofInt 1)), (5, .int x3), (0, .ref l0)]) (st2 := []) rfl <| zt_sub (z_fc rfl (z_fc rfl (z_fc rfl (z_fc rfl (z_fc rfl (z_fn)))))) <| ih l0 (l1 + Int32.ofInt 1) l3 x3 (l4 + Int32.ofInt 1) h4 _ e))
def fW_countFactors (N : Nat) (l0 : Nat) (h : zH) : Option (Int32 × zH) := cond (fT h l0 4) (fW_countFactors_9 N N  l0 (Int32.ofInt 0) (Int32.ofInt 0) (Int32.ofInt 0) (Int32.ofInt 0) h) none
theorem sfW_countFactors {xs : List Int32} (N : Nat) (l0 : Nat) (h : zH) (r : Int32 × zH) (e : fW_countFactors N l0 h = some r) : zt xs (3) 35 0 [(0, .ref l0)] [] h 0 0 (zQ cI r) := by
  have hy := mfW_countFactors
  unfold fW_countFactors at e
  replace e := (cond_some e).2
  exact zl hy 8 (pc2 := 9) (lv2 := [(4, .int (Int32.ofInt 0)), (3, .int (Int32.ofInt 0)), (2, .int (Int32.ofInt 0)), (1, .int (Int32.ofInt 0)), (0, .ref l0)]) (st2 := []) rfl <| zt_sub (z_fc rfl (z_fc rfl (z_fc rfl (z_fc rfl (z_fc rfl (z_fn)))))) <| sfW_countFactors_9 N   N l0 (Int32.ofInt 0) (Int32.ofInt 0) (Int32.ofInt 0) (Int32.ofInt 0) h _ e
theorem rfW_countFactors (N : Nat) (l0 : Nat) (h : zH) (r : Int32 × zH) (e : fW_countFactors N l0 h = some r) : fT h l0 4 = true := by
  unfold fW_countFactors at e
  exact (cond_some e).1
/-- LyndonBench$Word.beginOfFactor(I)I -/
theorem mfW_beginOfFactor : z_me 37 zc_37 6 [] (some .int) := ⟨rfl, rfl, rfl, rfl⟩
def fW_beginOfFactor_57 (N : Nat)  (s0 : Int32) (h : zH) : Option (Int32 × zH) := some (s0, h)
theorem sfW_beginOfFactor_57 {xs : List Int32} (N : Nat)   (s0 : Int32) (h : zH) (r : Int32 × zH) (e : fW_beginOfFactor_57 N  s0 h = some r) : zt xs (3) 37 57 [] [.int s0] h 0 0 (zQ cI r) := by
  have hy := mfW_beginOfFactor
  unfold fW_beginOfFactor_57 at e
  exact zx_ret hy rfl rfl rfl rfl e
def fW_beginOfFactor_56 (N : Nat)   (h : zH) : Option (Int32 × zH) := fW_beginOfFactor_57 N  (Int32.ofInt (-1)) h
theorem sfW_beginOfFactor_56 {xs : List Int32} (N : Nat)    (h : zH) (r : Int32 × zH) (e : fW_beginOfFactor_56 N   h = some r) : zt xs (3) 37 56 [] [] h 0 0 (zQ cI r) := by
  have hy := mfW_beginOfFactor
  unfold fW_beginOfFactor_56 at e
  exact zl hy 1 (pc2 := 57) (lv2 := []) (st2 := [.int (Int32.ofInt (-1))]) rfl <| zt_sub (z_fn) <| sfW_beginOfFactor_57 N   (Int32.ofInt (-1)) h _ e
def fW_beginOfFactor_40 (N : Nat)  (l0 : Nat) (l1 : Int32) (l3 : Int32) (h : zH) : Option (Int32 × zH) := cond (z_cmp .lt l1 (Int32.ofInt 0)) (fW_beginOfFactor_56 N   h) (b1 (fI h l0 4 1) fun x1 => cond (z_cmp .ge l3 x1) (fW_beginOfFactor_56 N   h) (fW_beginOfFactor_57 N  l3 h))
theorem sfW_beginOfFactor_40 {xs : List Int32} (N : Nat)   (l0 : Nat) (l1 : Int32) (l3 : Int32) (h : zH) (r : Int32 × zH) (e : fW_beginOfFactor_40 N  l0 l1 l3 h = some r) : zt xs (3) 37 40 [(0, .ref l0), (1, .int l1), (3, .int l3)] [] h 0 0 (zQ cI r) := by
  have hy := mfW_beginOfFactor
  unfold fW_beginOfFactor_40 at e
  exact zl hy 1 (pc2 := 41) (lv2 := [(0, .ref l0), (1, .int l1), (3, .int l3)]) (st2 := [.int l1]) rfl <| zx_c0 hy rfl e (fun _ e => zt_sub (z_fn) <| sfW_beginOfFactor_56 N    h _ e) (fun _ e => zl hy 2 (pc2 := 46) (lv2 := [(0, .ref l0), (1, .int l1), (3, .int l3)]) (st2 := [.ref l0, .int l3]) rfl <| zx_gI hy rfl e fun x1 _ e => zx_c hy rfl e (fun _ e => zt_sub (z_fn) <| sfW_beginOfFactor_56 N    h _ e) (fun _ e => zl hy 2 (pc2 := 57) (lv2 := [(0, .ref l0), (1, .int l1), (3, .int l3)]) (st2 := [.int l3]) rfl <| zt_sub (z_fn) <| sfW_beginOfFactor_57 N   l3 h _ e))
def fW_beginOfFactor_7 (N : Nat) : Nat → Nat → Int32 → Int32 → Int32 → Int32 → zH → Option (Int32 × zH)
  | 0, _, _, _, _, _, _ => none
  | n + 1, l0, l1, l2, l3, l4, h => cond (z_cmp .ge l4 l1) (fW_beginOfFactor_40 N  l0 l1 l3 h) (b1 (fI h l0 4 1) fun x1 => cond (z_cmp .ge l3 x1) (fW_beginOfFactor_40 N  l0 l1 l3 h) (b2 (fW_factorEnd N l0 l2 l3 h) fun x2 h3 => fW_beginOfFactor_7 N n  l0 l1 l3 x2 (l4 + Int32.ofInt 1) h3))
theorem sfW_beginOfFactor_7 {xs : List Int32} (N : Nat)   : ∀ (n : Nat) (l0 : Nat) (l1 : Int32) (l2 : Int32) (l3 : Int32) (l4 : Int32) (h : zH) (r : Int32 × zH), fW_beginOfFactor_7 N n  l0 l1 l2 l3 l4 h = some r → zt xs (3) 37 7 [(0, .ref l0), (1, .int l1), (2, .int l2), (3, .int l3), (4, .int l4)] [] h 0 0 (zQ cI r) := by
  have hy := mfW_beginOfFactor
  intro n
  induction n with
  | zero =>
    intro l0 l1 l2 l3 l4 h r e
    rw [fW_beginOfFactor_7] at e
    cases e
  | succ n ih =>
    intro l0 l1 l2 l3 l4 h r e
    rw [fW_beginOfFactor_7] at e
    exact zl hy 2 (pc2 := 10) (lv2 := [(0, .ref l0), (1, .int l1), (2, .int l2), (3, .int l3), (4, .int l4)]) (st2 := [.int l1, .int l4]) rfl <| zx_c hy rfl e (fun _ e => zt_sub (z_fc rfl (z_fc rfl (z_fc rfl (z_fn)))) <| sfW_beginOfFactor_40 N   l0 l1 l3 h _ e) (fun _ e => zl hy 2 (pc2 := 15) (lv2 := [(0, .ref l0), (1, .int l1), (2, .int l2), (3, .int l3), (4, .int l4)]) (st2 := [.ref l0, .int l3]) rfl <| zx_gI hy rfl e fun x1 _ e => zx_c hy rfl e (fun _ e => zt_sub (z_fc rfl (z_fc rfl (z_fc rfl (z_fn)))) <| sfW_beginOfFactor_40 N   l0 l1 l3 h _ e) (fun _ e => zl hy 3 (pc2 := 24) (lv2 := [(0, .ref l0), (1, .int l1), (2, .int l2), (3, .int l3), (4, .int l4)]) (st2 := [.int l3, .int l2, .ref l0]) rfl <| zx_call hy (as := [.ref l0, .int l2, .int l3]) (rest := []) (ov := (fun v => some (.int v))) (fun _ => rfl) rfl rfl (Or.inl rfl) rfl rfl (Nat.le_of_ble_eq_true rfl) (Nat.le_of_ble_eq_true rfl) (fun _ e _ => z_rcvT (rfW_factorEnd N l0 l2 l3 h _ e)) (fun _ e => zt_deep (Nat.le_of_ble_eq_true rfl) (sfW_factorEnd N l0 l2 l3 h _ e)) e fun x2 h3 _ e => zl hy 7 (pc2 := 7) (lv2 := [(4, .int (l4 + Int32.ofInt 1)), (3, .int x2), (2, .int l3), (5, .int x2), (0, .ref l0), (1, .int l1)]) (st2 := []) rfl <| zt_sub (z_fc rfl (z_fc rfl (z_fc rfl (z_fc rfl (z_fc rfl (z_fn)))))) <| ih l0 l1 l3 x2 (l4 + Int32.ofInt 1) h3 _ e))
def fW_beginOfFactor (N : Nat) (l0 : Nat) (l1 : Int32) (h : zH) : Option (Int32 × zH) := cond (fT h l0 4) (fW_beginOfFactor_7 N N  l0 l1 (Int32.ofInt 0) (Int32.ofInt 0) (Int32.ofInt 0) h) none
theorem sfW_beginOfFactor {xs : List Int32} (N : Nat) (l0 : Nat) (l1 : Int32) (h : zH) (r : Int32 × zH) (e : fW_beginOfFactor N l0 l1 h = some r) : zt xs (3) 37 0 [(0, .ref l0), (1, .int l1)] [] h 0 0 (zQ cI r) := by
  have hy := mfW_beginOfFactor
  unfold fW_beginOfFactor at e
  replace e := (cond_some e).2
  exact zl hy 6 (pc2 := 7) (lv2 := [(4, .int (Int32.ofInt 0)), (3, .int (Int32.ofInt 0)), (2, .int (Int32.ofInt 0)), (0, .ref l0), (1, .int l1)]) (st2 := []) rfl <| zt_sub (z_fc rfl (z_fc rfl (z_fc rfl (z_fc rfl (z_fc rfl (z_fn)))))) <| sfW_beginOfFactor_7 N   N l0 l1 (Int32.ofInt 0) (Int32.ofInt 0) (Int32.ofInt 0) h _ e
theorem rfW_beginOfFactor (N : Nat) (l0 : Nat) (l1 : Int32) (h : zH) (r : Int32 × zH) (e : fW_beginOfFactor N l0 l1 h = some r) : fT h l0 4 = true := by
  unfold fW_beginOfFactor at e
  exact (cond_some e).1
/-- LyndonBench$Word.factorWith(I)I -/
theorem mfW_factorWith : z_me 38 zc_38 7 [] (some .int) := ⟨rfl, rfl, rfl, rfl⟩
def fW_factorWith_12 (N : Nat)   (h : zH) : Option (Int32 × zH) := some ((Int32.ofInt (-1)), h)
theorem sfW_factorWith_12 {xs : List Int32} (N : Nat)    (h : zH) (r : Int32 × zH) (e : fW_factorWith_12 N   h = some r) : zt xs (3) 38 12 [] [] h 0 0 (zQ cI r) := by
  have hy := mfW_factorWith
  unfold fW_factorWith_12 at e
  exact zl hy 1 (pc2 := 13) (lv2 := []) (st2 := [.int (Int32.ofInt (-1))]) rfl <| zx_ret hy rfl rfl rfl rfl e
def fW_factorWith_64 (N : Nat)  (l2 : Int32) (h : zH) : Option (Int32 × zH) := some (l2, h)
theorem sfW_factorWith_64 {xs : List Int32} (N : Nat)   (l2 : Int32) (h : zH) (r : Int32 × zH) (e : fW_factorWith_64 N  l2 h = some r) : zt xs (3) 38 64 [(2, .int l2)] [] h 0 0 (zQ cI r) := by
  have hy := mfW_factorWith
  unfold fW_factorWith_64 at e
  exact zl hy 1 (pc2 := 65) (lv2 := [(2, .int l2)]) (st2 := [.int l2]) rfl <| zx_ret hy rfl rfl rfl rfl e
def fW_factorWith_24 (N : Nat) : Nat → Nat → Int32 → Int32 → Int32 → Int32 → Int32 → zH → Option (Int32 × zH)
  | 0, _, _, _, _, _, _, _ => none
  | n + 1, l0, l1, l2, l3, l4, l5, h => b1 (fI h l0 4 1) fun x2 => cond (z_cmp .ge l5 x2) (fW_factorWith_64 N  l2 h) (cond (z_cmp .gt l4 l1) (fW_factorWith_64 N  l2 h) (b2 (fW_factorEnd N l0 l3 l4 h) fun x3 h4 => fW_factorWith_24 N n  l0 l1 l5 l4 x3 (l5 + Int32.ofInt 1) h4))
theorem sfW_factorWith_24 {xs : List Int32} (N : Nat)   : ∀ (n : Nat) (l0 : Nat) (l1 : Int32) (l2 : Int32) (l3 : Int32) (l4 : Int32) (l5 : Int32) (h : zH) (r : Int32 × zH), fW_factorWith_24 N n  l0 l1 l2 l3 l4 l5 h = some r → zt xs (3) 38 24 [(0, .ref l0), (1, .int l1), (2, .int l2), (3, .int l3), (4, .int l4), (5, .int l5)] [] h 0 0 (zQ cI r) := by
  have hy := mfW_factorWith
  intro n
  induction n with
  | zero =>
    intro l0 l1 l2 l3 l4 l5 h r e
    rw [fW_factorWith_24] at e
    cases e
  | succ n ih =>
    intro l0 l1 l2 l3 l4 l5 h r e
    rw [fW_factorWith_24] at e
    exact zl hy 2 (pc2 := 27) (lv2 := [(0, .ref l0), (1, .int l1), (2, .int l2), (3, .int l3), (4, .int l4), (5, .int l5)]) (st2 := [.ref l0, .int l5]) rfl <| zx_gI hy rfl e fun x2 _ e => zx_c hy rfl e (fun _ e => zt_sub (z_fc rfl (z_fn)) <| sfW_factorWith_64 N   l2 h _ e) (fun _ e => zl hy 2 (pc2 := 36) (lv2 := [(0, .ref l0), (1, .int l1), (2, .int l2), (3, .int l3), (4, .int l4), (5, .int l5)]) (st2 := [.int l1, .int l4]) rfl <| zx_c hy rfl e (fun _ e => zt_sub (z_fc rfl (z_fn)) <| sfW_factorWith_64 N   l2 h _ e) (fun _ e => zl hy 3 (pc2 := 43) (lv2 := [(0, .ref l0), (1, .int l1), (2, .int l2), (3, .int l3), (4, .int l4), (5, .int l5)]) (st2 := [.int l4, .int l3, .ref l0]) rfl <| zx_call hy (as := [.ref l0, .int l3, .int l4]) (rest := []) (ov := (fun v => some (.int v))) (fun _ => rfl) rfl rfl (Or.inl rfl) rfl rfl (Nat.le_of_ble_eq_true rfl) (Nat.le_of_ble_eq_true rfl) (fun _ e _ => z_rcvT (rfW_factorEnd N l0 l3 l4 h _ e)) (fun _ e => zt_deep (Nat.le_of_ble_eq_true rfl) (sfW_factorEnd N l0 l3 l4 h _ e)) e fun x3 h4 _ e => zl hy 9 (pc2 := 24) (lv2 := [(5, .int (l5 + Int32.ofInt 1)), (4, .int x3), (3, .int l4), (2, .int l5), (6, .int x3), (0, .ref l0), (1, .int l1)]) (st2 := []) rfl <| zt_sub (z_fc rfl (z_fc rfl (z_fc rfl (z_fc rfl (z_fc rfl (z_fc rfl (z_fn))))))) <| ih l0 l1 l5 l4 x3 (l5 + Int32.ofInt 1) h4 _ e))
def fW_factorWith (N : Nat) (l0 : Nat) (l1 : Int32) (h : zH) : Option (Int32 × zH) := cond (fT h l0 4) (cond (z_cmp .lt l1 (Int32.ofInt 0)) (fW_factorWith_12 N   h) (b1 (fI h l0 4 1) fun x1 => cond (z_cmp .lt l1 x1) (fW_factorWith_24 N N  l0 l1 (Int32.ofInt (-1)) (Int32.ofInt 0) (Int32.ofInt 0) (Int32.ofInt 0) h) (fW_factorWith_12 N   h))) none
theorem sfW_factorWith {xs : List Int32} (N : Nat) (l0 : Nat) (l1 : Int32) (h : zH) (r : Int32 × zH) (e : fW_factorWith N l0 l1 h = some r) : zt xs (3) 38 0 [(0, .ref l0), (1, .int l1)] [] h 0 0 (zQ cI r) := by
  have hy := mfW_factorWith
  unfold fW_factorWith at e
  replace e := (cond_some e).2
  exact zl hy 1 (pc2 := 1) (lv2 := [(0, .ref l0), (1, .int l1)]) (st2 := [.int l1]) rfl <| zx_c0 hy rfl e (fun _ e => zt_sub (z_fn) <| sfW_factorWith_12 N    h _ e) (fun _ e => zl hy 2 (pc2 := 6) (lv2 := [(0, .ref l0), (1, .int l1)]) (st2 := [.ref l0, .int l1]) rfl <| zx_gI hy rfl e fun x1 _ e => zx_c hy rfl e (fun _ e => zl hy 8 (pc2 := 24) (lv2 := [(5, .int (Int32.ofInt 0)), (4, .int (Int32.ofInt 0)), (3, .int (Int32.ofInt 0)), (2, .int (Int32.ofInt (-1))), (0, .ref l0), (1, .int l1)]) (st2 := []) rfl <| zt_sub (z_fc rfl (z_fc rfl (z_fc rfl (z_fc rfl (z_fc rfl (z_fc rfl (z_fn))))))) <| sfW_factorWith_24 N   N l0 l1 (Int32.ofInt (-1)) (Int32.ofInt 0) (Int32.ofInt 0) (Int32.ofInt 0) h _ e) (fun _ e => zt_sub (z_fn) <| sfW_factorWith_12 N    h _ e))
theorem rfW_factorWith (N : Nat) (l0 : Nat) (l1 : Int32) (h : zH) (r : Int32 × zH) (e : fW_factorWith N l0 l1 h = some r) : fT h l0 4 = true := by
  unfold fW_factorWith at e
  exact (cond_some e).1
/-- LyndonBench$Word.isLyndonPart(II)Z -/
theorem mfW_isLyndonPart : z_me 39 zc_39 4 [] (some .boolean) := ⟨rfl, rfl, rfl, rfl⟩
def fW_isLyndonPart_39 (N : Nat)  (s0 : Int32) (h : zH) : Option (Int32 × zH) := cond (decide (s0 = Int32.ofInt 0) || decide (s0 = Int32.ofInt 1)) (some (s0, h)) none
theorem sfW_isLyndonPart_39 {xs : List Int32} (N : Nat)   (s0 : Int32) (h : zH) (r : Int32 × zH) (e : fW_isLyndonPart_39 N  s0 h = some r) : zt xs (2) 39 39 [] [.int s0] h 0 0 (zQ cI r) := by
  have hy := mfW_isLyndonPart
  unfold fW_isLyndonPart_39 at e
  exact zx_retB hy rfl rfl e
def fW_isLyndonPart_4 (N : Nat) : Nat → Nat → Int32 → Int32 → Int32 → zH → Option (Int32 × zH)
  | 0, _, _, _, _, _ => none
  | n + 1, l0, l1, l2, l3, h => cond (z_cmp .ge l3 l2) (cond (z_cmp .ge l1 l2) (fW_isLyndonPart_39 N  (Int32.ofInt 0) h) (fW_isLyndonPart_39 N  (Int32.ofInt 1) h)) (b2 (fW_order N l0 l1 l2 l0 l3 l2 h) fun x1 h2 => cond (z_cmp .lt x1 (Int32.ofInt 0)) (fW_isLyndonPart_4 N n  l0 l1 l2 (l3 + Int32.ofInt 1) h2) (some ((Int32.ofInt 0), h2)))
theorem sfW_isLyndonPart_4 {xs : List Int32} (N : Nat)   : ∀ (n : Nat) (l0 : Nat) (l1 : Int32) (l2 : Int32) (l3 : Int32) (h : zH) (r : Int32 × zH), fW_isLyndonPart_4 N n  l0 l1 l2 l3 h = some r → zt xs (2) 39 4 [(0, .ref l0), (1, .int l1), (2, .int l2), (3, .int l3)] [] h 0 0 (zQ cI r) := by
  have hy := mfW_isLyndonPart
  intro n
  induction n with
  | zero =>
    intro l0 l1 l2 l3 h r e
    rw [fW_isLyndonPart_4] at e
    cases e
  | succ n ih =>
    intro l0 l1 l2 l3 h r e
    rw [fW_isLyndonPart_4] at e
    exact zl hy 2 (pc2 := 6) (lv2 := [(0, .ref l0), (1, .int l1), (2, .int l2), (3, .int l3)]) (st2 := [.int l2, .int l3]) rfl <| zx_c hy rfl e (fun _ e => zl hy 2 (pc2 := 31) (lv2 := [(0, .ref l0), (1, .int l1), (2, .int l2), (3, .int l3)]) (st2 := [.int l2, .int l1]) rfl <| zx_c hy rfl e (fun _ e => zl hy 1 (pc2 := 39) (lv2 := [(0, .ref l0), (1, .int l1), (2, .int l2), (3, .int l3)]) (st2 := [.int (Int32.ofInt 0)]) rfl <| zt_sub (z_fn) <| sfW_isLyndonPart_39 N   (Int32.ofInt 0) h _ e) (fun _ e => zl hy 2 (pc2 := 39) (lv2 := [(0, .ref l0), (1, .int l1), (2, .int l2), (3, .int l3)]) (st2 := [.int (Int32.ofInt 1)]) rfl <| zt_sub (z_fn) <| sfW_isLyndonPart_39 N   (Int32.ofInt 1) h _ e)) (fun _ e => zl hy 6 (pc2 := 15) (lv2 := [(0, .ref l0), (1, .int l1), (2, .int l2), (3, .int l3)]) (st2 := [.int l2, .int l3, .ref l0, .int l2, .int l1, .ref l0]) rfl <| zx_call hy (as := [.ref l0, .int l1, .int l2, .ref l0, .int l3, .int l2]) (rest := []) (ov := (fun v => some (.int v))) (fun _ => rfl) rfl rfl (Or.inl rfl) rfl rfl (Nat.le_of_ble_eq_true rfl) (Nat.le_of_ble_eq_true rfl) (fun _ e _ => z_rcvT (rfW_order N l0 l1 l2 l0 l3 l2 h _ e)) (fun _ e => zt_deep (Nat.le_of_ble_eq_true rfl) (sfW_order N l0 l1 l2 l0 l3 l2 h _ e)) e fun x1 h2 _ e => zx_c0 hy rfl e (fun _ e => zl hy 2 (pc2 := 4) (lv2 := [(3, .int (l3 + Int32.ofInt 1)), (0, .ref l0), (1, .int l1), (2, .int l2)]) (st2 := []) rfl <| zt_sub (z_fc rfl (z_fc rfl (z_fc rfl (z_fc rfl (z_fn))))) <| ih l0 l1 l2 (l3 + Int32.ofInt 1) h2 _ e) (fun _ e => zl hy 1 (pc2 := 22) (lv2 := [(0, .ref l0), (1, .int l1), (2, .int l2), (3, .int l3)]) (st2 := [.int (Int32.ofInt 0)]) rfl <| zx_ret hy (v := .int (Int32.ofInt 0)) rfl rfl (by decide) rfl e))
def fW_isLyndonPart (N : Nat) (l0 : Nat) (l1 : Int32) (l2 : Int32) (h : zH) : Option (Int32 × zH) := cond (fT h l0 4) (fW_isLyndonPart_4 N N  l0 l1 l2 (l1 + (Int32.ofInt 1)) h) none
theorem sfW_isLyndonPart {xs : List Int32} (N : Nat) (l0 : Nat) (l1 : Int32) (l2 : Int32) (h : zH) (r : Int32 × zH) (e : fW_isLyndonPart N l0 l1 l2 h = some r) : zt xs (2) 39 0 [(0, .ref l0), (1, .int l1), (2, .int l2)] [] h 0 0 (zQ cI r) := by
  have hy := mfW_isLyndonPart
  unfold fW_isLyndonPart at e
  replace e := (cond_some e).2
  exact zl hy 4 (pc2 := 4) (lv2 := [(3, .int (l1 + (Int32.ofInt 1))), (0, .ref l0), (1, .int l1), (2, .int l2)]) (st2 := []) rfl <| zt_sub (z_fc rfl (z_fc rfl (z_fc rfl (z_fc rfl (z_fn))))) <| sfW_isLyndonPart_4 N   N l0 l1 l2 (l1 + (Int32.ofInt 1)) h _ e
theorem rfW_isLyndonPart (N : Nat) (l0 : Nat) (l1 : Int32) (l2 : Int32) (h : zH) (r : Int32 × zH) (e : fW_isLyndonPart N l0 l1 l2 h = some r) : fT h l0 4 = true := by
  unfold fW_isLyndonPart at e
  exact (cond_some e).1
/-- LyndonBench$Word.atAround(I)I -/
theorem mfW_atAround : z_me 41 zc_41 2 [] (some .int) := ⟨rfl, rfl, rfl, rfl⟩
def fW_atAround_19 (N : Nat)  (s0 : Int32) (s1 : Nat) (h : zH) : Option (Int32 × zH) := b2 (fW_at N s1 s0 h) fun x3 h4 => some (x3, h4)
theorem sfW_atAround_19 {xs : List Int32} (N : Nat)   (s0 : Int32) (s1 : Nat) (h : zH) (r : Int32 × zH) (e : fW_atAround_19 N  s0 s1 h = some r) : zt xs (1) 41 19 [] [.int s0, .ref s1] h 0 0 (zQ cI r) := by
  have hy := mfW_atAround
  unfold fW_atAround_19 at e
  exact zx_call hy (as := [.ref s1, .int s0]) (rest := []) (ov := (fun v => some (.int v))) (fun _ => rfl) rfl rfl (Or.inl rfl) rfl rfl (Nat.le_of_ble_eq_true rfl) (Nat.le_of_ble_eq_true rfl) (fun _ e _ => z_rcvT (rfW_at N s1 s0 h _ e)) (fun _ e => zt_deep (Nat.le_of_ble_eq_true rfl) (sfW_at N s1 s0 h _ e)) e fun x3 h4 _ e => zx_ret hy rfl rfl rfl rfl e
def fW_atAround (N : Nat) (l0 : Nat) (l1 : Int32) (h : zH) : Option (Int32 × zH) := cond (fT h l0 4) (b1 (fI h l0 4 1) fun x1 => cond (z_cmp .ge l1 x1) (b1 (fI h l0 4 1) fun x2 => fW_atAround_19 N  (l1 - x2) l0 h) (fW_atAround_19 N  l1 l0 h)) none
theorem sfW_atAround {xs : List Int32} (N : Nat) (l0 : Nat) (l1 : Int32) (h : zH) (r : Int32 × zH) (e : fW_atAround N l0 l1 h = some r) : zt xs (1) 41 0 [(0, .ref l0), (1, .int l1)] [] h 0 0 (zQ cI r) := by
  have hy := mfW_atAround
  unfold fW_atAround at e
  replace e := (cond_some e).2
  exact zl hy 3 (pc2 := 3) (lv2 := [(0, .ref l0), (1, .int l1)]) (st2 := [.ref l0, .int l1, .ref l0]) rfl <| zx_gI hy rfl e fun x1 _ e => zx_c hy rfl e (fun _ e => zl hy 2 (pc2 := 15) (lv2 := [(0, .ref l0), (1, .int l1)]) (st2 := [.ref l0, .int l1, .ref l0]) rfl <| zx_gI hy rfl e fun x2 _ e => zl hy 1 (pc2 := 19) (lv2 := [(0, .ref l0), (1, .int l1)]) (st2 := [.int (l1 - x2), .ref l0]) rfl <| zt_sub (z_fn) <| sfW_atAround_19 N   (l1 - x2) l0 h _ e) (fun _ e => zl hy 2 (pc2 := 19) (lv2 := [(0, .ref l0), (1, .int l1)]) (st2 := [.int l1, .ref l0]) rfl <| zt_sub (z_fn) <| sfW_atAround_19 N   l1 l0 h _ e)
theorem rfW_atAround (N : Nat) (l0 : Nat) (l1 : Int32) (h : zH) (r : Int32 × zH) (e : fW_atAround N l0 l1 h = some r) : fT h l0 4 = true := by
  unfold fW_atAround at e
  exact (cond_some e).1
/-- LyndonBench$Word.leastTurn()I -/
theorem mfW_leastTurn : z_me 40 zc_40 7 [] (some .int) := ⟨rfl, rfl, rfl, rfl⟩
def fW_leastTurn_105 (N : Nat)  (l1 : Int32) (h : zH) : Option (Int32 × zH) := some (l1, h)
theorem sfW_leastTurn_105 {xs : List Int32} (N : Nat)   (l1 : Int32) (h : zH) (r : Int32 × zH) (e : fW_leastTurn_105 N  l1 h = some r) : zt xs (2) 40 105 [(1, .int l1)] [] h 0 0 (zQ cI r) := by
  have hy := mfW_leastTurn
  unfold fW_leastTurn_105 at e
  exact zl hy 1 (pc2 := 106) (lv2 := [(1, .int l1)]) (st2 := [.int l1]) rfl <| zx_ret hy rfl rfl rfl rfl e
def fW_leastTurn_99 (N : Nat) (k9 : Nat → Int32 → Int32 → Int32 → Int32 → zH → Option (Int32 × zH)) (l0 : Nat) (l1 : Int32) (l2 : Int32) (l3 : Int32) (l4 : Int32) (h : zH) : Option (Int32 × zH) := k9 l0 l1 l2 l3 (l4 + Int32.ofInt 1) h
theorem sfW_leastTurn_99 {xs : List Int32} (N : Nat) (k9 : Nat → Int32 → Int32 → Int32 → Int32 → zH → Option (Int32 × zH))  (hk9 : ∀ (l0 : Nat) (l1 : Int32) (l2 : Int32) (l3 : Int32) (l4 : Int32) (h : zH) (r : Int32 × zH), k9 l0 l1 l2 l3 l4 h = some r → zt xs (2) 40 9 [(0, .ref l0), (1, .int l1), (2, .int l2), (3, .int l3), (4, .int l4)] [] h 0 0 (zQ cI r)) (l0 : Nat) (l1 : Int32) (l2 : Int32) (l3 : Int32) (l4 : Int32) (h : zH) (r : Int32 × zH) (e : fW_leastTurn_99 N k9 l0 l1 l2 l3 l4 h = some r) : zt xs (2) 40 99 [(0, .ref l0), (1, .int l1), (2, .int l2), (3, .int l3), (4, .int l4)] [] h 0 0 (zQ cI r) := by
  have hy := mfW_leastTurn
  unfold fW_leastTurn_99 at e
  exact zl hy 2 (pc2 := 9) (lv2 := [(4, .int (l4 + Int32.ofInt 1)), (0, .ref l0), (1, .int l1), (2, .int l2), (3, .int l3)]) (st2 := []) rfl <| zt_sub (z_fc rfl (z_fc rfl (z_fc rfl (z_fc rfl (z_fc rfl (z_fn)))))) <| hk9 l0 l1 l2 l3 (l4 + Int32.ofInt 1) h _ e
def fW_leastTurn_97 (N : Nat) (k9 : Nat → Int32 → Int32 → Int32 → Int32 → zH → Option (Int32 × zH)) (l0 : Nat) (l1 : Int32) (l2 : Int32) (l4 : Int32) (h : zH) : Option (Int32 × zH) := fW_leastTurn_99 N k9 l0 l1 l2 (Int32.ofInt 0) l4 h
theorem sfW_leastTurn_97 {xs : List Int32} (N : Nat) (k9 : Nat → Int32 → Int32 → Int32 → Int32 → zH → Option (Int32 × zH))  (hk9 : ∀ (l0 : Nat) (l1 : Int32) (l2 : Int32) (l3 : Int32) (l4 : Int32) (h : zH) (r : Int32 × zH), k9 l0 l1 l2 l3 l4 h = some r → zt xs (2) 40 9 [(0, .ref l0), (1, .int l1), (2, .int l2), (3, .int l3), (4, .int l4)] [] h 0 0 (zQ cI r)) (l0 : Nat) (l1 : Int32) (l2 : Int32) (l4 : Int32) (h : zH) (r : Int32 × zH) (e : fW_leastTurn_97 N k9 l0 l1 l2 l4 h = some r) : zt xs (2) 40 97 [(0, .ref l0), (1, .int l1), (2, .int l2), (4, .int l4)] [] h 0 0 (zQ cI r) := by
  have hy := mfW_leastTurn
  unfold fW_leastTurn_97 at e
  exact zl hy 2 (pc2 := 99) (lv2 := [(3, .int (Int32.ofInt 0)), (0, .ref l0), (1, .int l1), (2, .int l2), (4, .int l4)]) (st2 := []) rfl <| zt_sub (z_fc rfl (z_fc rfl (z_fc rfl (z_fc rfl (z_fc rfl (z_fn)))))) <| sfW_leastTurn_99 N k9 hk9 l0 l1 l2 (Int32.ofInt 0) l4 h _ e
def fW_leastTurn_9 (N : Nat) : Nat → Nat → Int32 → Int32 → Int32 → Int32 → zH → Option (Int32 × zH)
  | 0, _, _, _, _, _, _ => none
  | n + 1, l0, l1, l2, l3, l4, h => b1 (fI h l0 4 1) fun x1 => cond (z_cmp .ge l4 ((Int32.ofInt 4) * x1)) (fW_leastTurn_105 N  l1 h) (b1 (fI h l0 4 1) fun x2 => cond (z_cmp .ge l2 x2) (fW_leastTurn_105 N  l1 h) (b1 (fI h l0 4 1) fun x3 => cond (z_cmp .ge l3 x3) (fW_leastTurn_105 N  l1 h) (b2 (fW_atAround N l0 (l1 + l3) h) fun x4 h5 => b2 (fW_atAround N l0 (l2 + l3) h5) fun x6 h7 => cond (z_cmp .ne x4 x6) (cond (z_cmp .le x4 x6) (fW_leastTurn_97 N (fW_leastTurn_9 N n ) l0 l1 ((l2 + l3) + (Int32.ofInt 1)) l4 h7) (fW_leastTurn_97 N (fW_leastTurn_9 N n ) l0 (if l2 < ((l1 + l3) + (Int32.ofInt 1)) then ((l1 + l3) + (Int32.ofInt 1)) else l2) ((if l2 < ((l1 + l3) + (Int32.ofInt 1)) then ((l1 + l3) + (Int32.ofInt 1)) else l2) + (Int32.ofInt 1)) l4 h7)) (fW_leastTurn_99 N (fW_leastTurn_9 N n ) l0 l1 l2 (l3 + Int32.ofInt 1) l4 h7))))
theorem sfW_leastTurn_9 {xs : List Int32} (N : Nat)   : ∀ (n : Nat) (l0 : Nat) (l1 : Int32) (l2 : Int32) (l3 : Int32) (l4 : Int32) (h : zH) (r : Int32 × zH), fW_leastTurn_9 N n  l0 l1 l2 l3 l4 h = some r → zt xs (2) 40 9 [(0, .ref l0), (1, .int l1), (2, .int l2), (3, .int l3), (4, .int l4)] [] h 0 0 (zQ cI r) := by
  have hy := mfW_leastTurn
  intro n
  induction n with
  | zero =>
    intro l0 l1 l2 l3 l4 h r e
    rw [fW_leastTurn_9] at e
    cases e
  | succ n ih =>
    intro l0 l1 l2 l3 l4 h r e
    rw [fW_leastTurn_9] at e
    exact zl hy 3 (pc2 := 13) (lv2 := [(0, .ref l0), (1, .int l1), (2, .int l2), (3, .int l3), (4, .int l4)]) (st2 := [.ref l0, .int (Int32.ofInt 4), .int l4]) rfl <| zx_gI hy rfl e fun x1 _ e => zl hy 1 (pc2 := 17) (lv2 := [(0, .ref l0), (1, .int l1), (2, .int l2), (3, .int l3), (4, .int l4)]) (st2 := [.int ((Int32.ofInt 4) * x1), .int l4]) rfl <| zx_c hy rfl e (fun _ e => zt_sub (z_fc rfl (z_fn)) <| sfW_leastTurn_105 N   l1 h _ e) (fun _ e => zl hy 2 (pc2 := 22) (lv2 := [(0, .ref l0), (1, .int l1), (2, .int l2), (3, .int l3), (4, .int l4)]) (st2 := [.ref l0, .int l2]) rfl <| zx_gI hy rfl e fun x2 _ e => zx_c hy rfl e (fun _ e => zt_sub (z_fc rfl (z_fn)) <| sfW_leastTurn_105 N   l1 h _ e) (fun _ e => zl hy 2 (pc2 := 30) (lv2 := [(0, .ref l0), (1, .int l1), (2, .int l2), (3, .int l3), (4, .int l4)]) (st2 := [.ref l0, .int l3]) rfl <| zx_gI hy rfl e fun x3 _ e => zx_c hy rfl e (fun _ e => zt_sub (z_fc rfl (z_fn)) <| sfW_leastTurn_105 N   l1 h _ e) (fun _ e => zl hy 4 (pc2 := 40) (lv2 := [(0, .ref l0), (1, .int l1), (2, .int l2), (3, .int l3), (4, .int l4)]) (st2 := [.int (l1 + l3), .ref l0]) rfl <| zx_call hy (as := [.ref l0, .int (l1 + l3)]) (rest := []) (ov := (fun v => some (.int v))) (fun _ => rfl) rfl rfl (Or.inl rfl) rfl rfl (Nat.le_of_ble_eq_true rfl) (Nat.le_of_ble_eq_true rfl) (fun _ e _ => z_rcvT (rfW_atAround N l0 (l1 + l3) h _ e)) (fun _ e => zt_deep (Nat.le_of_ble_eq_true rfl) (sfW_atAround N l0 (l1 + l3) h _ e)) e fun x4 h5 _ e => zl hy 5 (pc2 := 49) (lv2 := [(5, .int x4), (0, .ref l0), (1, .int l1), (2, .int l2), (3, .int l3), (4, .int l4)]) (st2 := [.int (l2 + l3), .ref l0]) rfl <| zx_call hy (as := [.ref l0, .int (l2 + l3)]) (rest := []) (ov := (fun v => some (.int v))) (fun _ => rfl) rfl rfl (Or.inl rfl) rfl rfl (Nat.le_of_ble_eq_true rfl) (Nat.le_of_ble_eq_true rfl) (fun _ e _ => z_rcvT (rfW_atAround N l0 (l2 + l3) h5 _ e)) (fun _ e => zt_deep (Nat.le_of_ble_eq_true rfl) (sfW_atAround N l0 (l2 + l3) h5 _ e)) e fun x6 h7 _ e => zl hy 3 (pc2 := 58) (lv2 := [(6, .int x6), (5, .int x4), (0, .ref l0), (1, .int l1), (2, .int l2), (3, .int l3), (4, .int l4)]) (st2 := [.int x6, .int x4]) rfl <| zx_c hy rfl e (fun _ e => zl hy 2 (pc2 := 71) (lv2 := [(6, .int x6), (5, .int x4), (0, .ref l0), (1, .int l1), (2, .int l2), (3, .int l3), (4, .int l4)]) (st2 := [.int x6, .int x4]) rfl <| zx_c hy rfl e (fun _ e => zl hy 6 (pc2 := 97) (lv2 := [(2, .int ((l2 + l3) + (Int32.ofInt 1))), (6, .int x6), (5, .int x4), (0, .ref l0), (1, .int l1), (3, .int l3), (4, .int l4)]) (st2 := []) rfl <| zt_sub (z_fc rfl (z_fc rfl (z_fc rfl (z_fc rfl (z_fn))))) <| sfW_leastTurn_97 N (fW_leastTurn_9 N n ) ih l0 l1 ((l2 + l3) + (Int32.ofInt 1)) l4 h7 _ e) (fun _ e => zl hy 6 (pc2 := 80) (lv2 := [(6, .int x6), (5, .int x4), (0, .ref l0), (1, .int l1), (2, .int l2), (3, .int l3), (4, .int l4)]) (st2 := [.int ((l1 + l3) + (Int32.ofInt 1)), .int l2]) rfl <| zx_max hy rfl (Nat.le_of_ble_eq_true rfl) <| zl hy 6 (pc2 := 97) (lv2 := [(2, .int ((if l2 < ((l1 + l3) + (Int32.ofInt 1)) then ((l1 + l3) + (Int32.ofInt 1)) else l2) + (Int32.ofInt 1))), (1, .int (if l2 < ((l1 + l3) + (Int32.ofInt 1)) then ((l1 + l3) + (Int32.ofInt 1)) else l2)), (6, .int x6), (5, .int x4), (0, .ref l0), (3, .int l3), (4, .int l4)]) (st2 := []) rfl <| zt_sub (z_fc rfl (z_fc rfl (z_fc rfl (z_fc rfl (z_fn))))) <| sfW_leastTurn_97 N (fW_leastTurn_9 N n ) ih l0 (if l2 < ((l1 + l3) + (Int32.ofInt 1)) then ((l1 + l3) + (Int32.ofInt 1)) else l2) ((if l2 < ((l1 + l3) + (Int32.ofInt 1)) then ((l1 + l3) + (Int32.ofInt 1)) else l2) + (Int32.ofInt 1)) l4 h7 _ e)) (fun _ e => zl hy 2 (pc2 := 99) (lv2 := [(3, .int (l3 + Int32.ofInt 1)), (6, .int x6), (5, .int x4), (0, .ref l0), (1, .int l1), (2, .int l2), (4, .int l4)]) (st2 := []) rfl <| zt_sub (z_fc rfl (z_fc rfl (z_fc rfl (z_fc rfl (z_fc rfl (z_fn)))))) <| sfW_leastTurn_99 N (fW_leastTurn_9 N n ) ih l0 l1 l2 (l3 + Int32.ofInt 1) l4 h7 _ e))))
def fW_leastTurn (N : Nat) (l0 : Nat) (h : zH) : Option (Int32 × zH) := cond (fT h l0 4) (fW_leastTurn_9 N N  l0 (Int32.ofInt 0) (Int32.ofInt 1) (Int32.ofInt 0) (Int32.ofInt 0) h) none
theorem sfW_leastTurn {xs : List Int32} (N : Nat) (l0 : Nat) (h : zH) (r : Int32 × zH) (e : fW_leastTurn N l0 h = some r) : zt xs (2) 40 0 [(0, .ref l0)] [] h 0 0 (zQ cI r) := by
  have hy := mfW_leastTurn
  unfold fW_leastTurn at e
  replace e := (cond_some e).2
  exact zl hy 8 (pc2 := 9) (lv2 := [(4, .int (Int32.ofInt 0)), (3, .int (Int32.ofInt 0)), (2, .int (Int32.ofInt 1)), (1, .int (Int32.ofInt 0)), (0, .ref l0)]) (st2 := []) rfl <| zt_sub (z_fc rfl (z_fc rfl (z_fc rfl (z_fc rfl (z_fc rfl (z_fn)))))) <| sfW_leastTurn_9 N   N l0 (Int32.ofInt 0) (Int32.ofInt 1) (Int32.ofInt 0) (Int32.ofInt 0) h _ e
theorem rfW_leastTurn (N : Nat) (l0 : Nat) (h : zH) (r : Int32 × zH) (e : fW_leastTurn N l0 h = some r) : fT h l0 4 = true := by
  unfold fW_leastTurn at e
  exact (cond_some e).1
/-- LyndonBench$Word.extremeEnding(I)I -/
theorem mfW_extremeEnding : z_me 42 zc_42 4 [] (some .int) := ⟨rfl, rfl, rfl, rfl⟩
def fW_extremeEnding_57 (N : Nat)  (s0 : Int32) (h : zH) : Option (Int32 × zH) := some (s0, h)
theorem sfW_extremeEnding_57 {xs : List Int32} (N : Nat)   (s0 : Int32) (h : zH) (r : Int32 × zH) (e : fW_extremeEnding_57 N  s0 h = some r) : zt xs (2) 42 57 [] [.int s0] h 0 0 (zQ cI r) := by
  have hy := mfW_extremeEnding
  unfold fW_extremeEnding_57 at e
  exact zx_ret hy rfl rfl rfl rfl e
def fW_extremeEnding_39 (N : Nat) (k14 : Nat → Int32 → Int32 → Int32 → zH → Option (Int32 × zH)) (l0 : Nat) (l1 : Int32) (l2 : Int32) (l3 : Int32) (h : zH) : Option (Int32 × zH) := k14 l0 l1 l2 (l3 + Int32.ofInt (-1)) h
theorem sfW_extremeEnding_39 {xs : List Int32} (N : Nat) (k14 : Nat → Int32 → Int32 → Int32 → zH → Option (Int32 × zH))  (hk14 : ∀ (l0 : Nat) (l1 : Int32) (l2 : Int32) (l3 : Int32) (h : zH) (r : Int32 × zH), k14 l0 l1 l2 l3 h = some r → zt xs (2) 42 14 [(0, .ref l0), (1, .int l1), (2, .int l2), (3, .int l3)] [] h 0 0 (zQ cI r)) (l0 : Nat) (l1 : Int32) (l2 : Int32) (l3 : Int32) (h : zH) (r : Int32 × zH) (e : fW_extremeEnding_39 N k14 l0 l1 l2 l3 h = some r) : zt xs (2) 42 39 [(0, .ref l0), (1, .int l1), (2, .int l2), (3, .int l3)] [] h 0 0 (zQ cI r) := by
  have hy := mfW_extremeEnding
  unfold fW_extremeEnding_39 at e
  exact zl hy 2 (pc2 := 14) (lv2 := [(3, .int (l3 + Int32.ofInt (-1))), (0, .ref l0), (1, .int l1), (2, .int l2)]) (st2 := []) rfl <| zt_sub (z_fc rfl (z_fc rfl (z_fc rfl (z_fc rfl (z_fn))))) <| hk14 l0 l1 l2 (l3 + Int32.ofInt (-1)) h _ e
def fW_extremeEnding_14 (N : Nat) : Nat → Nat → Int32 → Int32 → Int32 → zH → Option (Int32 × zH)
  | 0, _, _, _, _, _ => none
  | n + 1, l0, l1, l2, l3, h => cond (z_cmp .lt l3 (Int32.ofInt 0)) (b1 (fI h l0 4 1) fun x3 => cond (z_cmp .ne x3 (Int32.ofInt 0)) (fW_extremeEnding_57 N  l2 h) (fW_extremeEnding_57 N  (Int32.ofInt (-1)) h)) (b1 (fI h l0 4 1) fun x4 => b1 (fI h l0 4 1) fun x5 => b2 (fW_order N l0 l3 x4 l0 l2 x5 h) fun x6 h7 => cond (z_cmp .ne x6 l1) (fW_extremeEnding_39 N (fW_extremeEnding_14 N n ) l0 l1 l2 l3 h7) (fW_extremeEnding_39 N (fW_extremeEnding_14 N n ) l0 l1 l3 l3 h7))
theorem sfW_extremeEnding_14 {xs : List Int32} (N : Nat)   : ∀ (n : Nat) (l0 : Nat) (l1 : Int32) (l2 : Int32) (l3 : Int32) (h : zH) (r : Int32 × zH), fW_extremeEnding_14 N n  l0 l1 l2 l3 h = some r → zt xs (2) 42 14 [(0, .ref l0), (1, .int l1), (2, .int l2), (3, .int l3)] [] h 0 0 (zQ cI r) := by
  have hy := mfW_extremeEnding
  intro n
  induction n with
  | zero =>
    intro l0 l1 l2 l3 h r e
    rw [fW_extremeEnding_14] at e
    cases e
  | succ n ih =>
    intro l0 l1 l2 l3 h r e
    rw [fW_extremeEnding_14] at e
    exact zl hy 1 (pc2 := 15) (lv2 := [(0, .ref l0), (1, .int l1), (2, .int l2), (3, .int l3)]) (st2 := [.int l3]) rfl <| zx_c0 hy rfl e (fun _ e => zl hy 1 (pc2 := 46) (lv2 := [(0, .ref l0), (1, .int l1), (2, .int l2), (3, .int l3)]) (st2 := [.ref l0]) rfl <| zx_gI hy rfl e fun x3 _ e => zx_c0 hy rfl e (fun _ e => zl hy 1 (pc2 := 57) (lv2 := [(0, .ref l0), (1, .int l1), (2, .int l2), (3, .int l3)]) (st2 := [.int l2]) rfl <| zt_sub (z_fn) <| sfW_extremeEnding_57 N   l2 h _ e) (fun _ e => zl hy 2 (pc2 := 57) (lv2 := [(0, .ref l0), (1, .int l1), (2, .int l2), (3, .int l3)]) (st2 := [.int (Int32.ofInt (-1))]) rfl <| zt_sub (z_fn) <| sfW_extremeEnding_57 N   (Int32.ofInt (-1)) h _ e)) (fun _ e => zl hy 3 (pc2 := 21) (lv2 := [(0, .ref l0), (1, .int l1), (2, .int l2), (3, .int l3)]) (st2 := [.ref l0, .int l3, .ref l0]) rfl <| zx_gI hy rfl e fun x4 _ e => zl hy 3 (pc2 := 27) (lv2 := [(0, .ref l0), (1, .int l1), (2, .int l2), (3, .int l3)]) (st2 := [.ref l0, .int l2, .ref l0, .int x4, .int l3, .ref l0]) rfl <| zx_gI hy rfl e fun x5 _ e => zx_call hy (as := [.ref l0, .int l3, .int x4, .ref l0, .int l2, .int x5]) (rest := []) (ov := (fun v => some (.int v))) (fun _ => rfl) rfl rfl (Or.inl rfl) rfl rfl (Nat.le_of_ble_eq_true rfl) (Nat.le_of_ble_eq_true rfl) (fun _ e _ => z_rcvT (rfW_order N l0 l3 x4 l0 l2 x5 h _ e)) (fun _ e => zt_deep (Nat.le_of_ble_eq_true rfl) (sfW_order N l0 l3 x4 l0 l2 x5 h _ e)) e fun x6 h7 _ e => zl hy 1 (pc2 := 34) (lv2 := [(0, .ref l0), (1, .int l1), (2, .int l2), (3, .int l3)]) (st2 := [.int l1, .int x6]) rfl <| zx_c hy rfl e (fun _ e => zt_sub (z_fc rfl (z_fc rfl (z_fc rfl (z_fc rfl (z_fn))))) <| sfW_extremeEnding_39 N (fW_extremeEnding_14 N n ) ih l0 l1 l2 l3 h7 _ e) (fun _ e => zl hy 2 (pc2 := 39) (lv2 := [(2, .int l3), (0, .ref l0), (1, .int l1), (3, .int l3)]) (st2 := []) rfl <| zt_sub (z_fc rfl (z_fc rfl (z_fc rfl (z_fc rfl (z_fn))))) <| sfW_extremeEnding_39 N (fW_extremeEnding_14 N n ) ih l0 l1 l3 l3 h7 _ e))
def fW_extremeEnding (N : Nat) (l0 : Nat) (l1 : Int32) (h : zH) : Option (Int32 × zH) := cond (fT h l0 4) (b1 (fI h l0 4 1) fun x1 => b1 (fI h l0 4 1) fun x2 => fW_extremeEnding_14 N N  l0 l1 (x1 - (Int32.ofInt 1)) (x2 - (Int32.ofInt 2)) h) none
theorem sfW_extremeEnding {xs : List Int32} (N : Nat) (l0 : Nat) (l1 : Int32) (h : zH) (r : Int32 × zH) (e : fW_extremeEnding N l0 l1 h = some r) : zt xs (2) 42 0 [(0, .ref l0), (1, .int l1)] [] h 0 0 (zQ cI r) := by
  have hy := mfW_extremeEnding
  unfold fW_extremeEnding at e
  replace e := (cond_some e).2
  exact zl hy 1 (pc2 := 1) (lv2 := [(0, .ref l0), (1, .int l1)]) (st2 := [.ref l0]) rfl <| zx_gI hy rfl e fun x1 _ e => zl hy 4 (pc2 := 8) (lv2 := [(2, .int (x1 - (Int32.ofInt 1))), (0, .ref l0), (1, .int l1)]) (st2 := [.ref l0]) rfl <| zx_gI hy rfl e fun x2 _ e => zl hy 3 (pc2 := 14) (lv2 := [(3, .int (x2 - (Int32.ofInt 2))), (2, .int (x1 - (Int32.ofInt 1))), (0, .ref l0), (1, .int l1)]) (st2 := []) rfl <| zt_sub (z_fc rfl (z_fc rfl (z_fc rfl (z_fc rfl (z_fn))))) <| sfW_extremeEnding_14 N   N l0 l1 (x1 - (Int32.ofInt 1)) (x2 - (Int32.ofInt 2)) h _ e
theorem rfW_extremeEnding (N : Nat) (l0 : Nat) (l1 : Int32) (h : zH) (r : Int32 × zH) (e : fW_extremeEnding N l0 l1 h = some r) : fT h l0 4 = true := by
  unfold fW_extremeEnding at e
  exact (cond_some e).1
/-- LyndonBench$Word.stepLyndon(II)V -/
theorem mfW_stepLyndon : z_me 43 zc_43 6 [] none := ⟨rfl, rfl, rfl, rfl⟩
def fW_stepLyndon_73 (N : Nat)  (l0 : Nat) (l4 : Int32) (h : zH) : Option (Unit × zH) := b2 (fW_shortenTo N l0 (l4 + (Int32.ofInt 1)) h) fun _ h4 => b2 (fW_at N l0 l4 h4) fun x5 h6 => b2 (fW_put N l0 l4 (x5 + (Int32.ofInt 1)) h6) fun _ h8 => some ((), h8)
theorem sfW_stepLyndon_73 {xs : List Int32} (N : Nat)   (l0 : Nat) (l4 : Int32) (h : zH) (r : Unit × zH) (e : fW_stepLyndon_73 N  l0 l4 h = some r) : zt xs (1) 43 73 [(0, .ref l0), (4, .int l4)] [] h 0 0 (zQ cV r) := by
  have hy := mfW_stepLyndon
  unfold fW_stepLyndon_73 at e
  exact zl hy 4 (pc2 := 78) (lv2 := [(0, .ref l0), (4, .int l4)]) (st2 := [.int (l4 + (Int32.ofInt 1)), .ref l0]) rfl <| zx_call hy (as := [.ref l0, .int (l4 + (Int32.ofInt 1))]) (rest := []) (ov := (fun _ => none)) (fun _ => rfl) rfl rfl (Or.inl rfl) rfl rfl (Nat.le_of_ble_eq_true rfl) (Nat.le_of_ble_eq_true rfl) (fun _ e _ => z_rcvT (rfW_shortenTo N l0 (l4 + (Int32.ofInt 1)) h _ e)) (fun _ e => zt_deep (Nat.le_of_ble_eq_true rfl) (sfW_shortenTo N l0 (l4 + (Int32.ofInt 1)) h _ e)) e fun _ h4 _ e => zl hy 4 (pc2 := 87) (lv2 := [(0, .ref l0), (4, .int l4)]) (st2 := [.int l4, .ref l0, .int l4, .ref l0]) rfl <| zx_call hy (as := [.ref l0, .int l4]) (rest := [.int l4, .ref l0]) (ov := (fun v => some (.int v))) (fun _ => rfl) rfl rfl (Or.inl rfl) rfl rfl (Nat.le_of_ble_eq_true rfl) (Nat.le_of_ble_eq_true rfl) (fun _ e _ => z_rcvT (rfW_at N l0 l4 h4 _ e)) (fun _ e => zt_deep (Nat.le_of_ble_eq_true rfl) (sfW_at N l0 l4 h4 _ e)) e fun x5 h6 _ e => zl hy 2 (pc2 := 92) (lv2 := [(0, .ref l0), (4, .int l4)]) (st2 := [.int (x5 + (Int32.ofInt 1)), .int l4, .ref l0]) rfl <| zx_call hy (as := [.ref l0, .int l4, .int (x5 + (Int32.ofInt 1))]) (rest := []) (ov := (fun _ => none)) (fun _ => rfl) rfl rfl (Or.inl rfl) rfl rfl (Nat.le_of_ble_eq_true rfl) (Nat.le_of_ble_eq_true rfl) (fun _ e _ => z_rcvT (rfW_put N l0 l4 (x5 + (Int32.ofInt 1)) h6 _ e)) (fun _ e => zt_deep (Nat.le_of_ble_eq_true rfl) (sfW_put N l0 l4 (x5 + (Int32.ofInt 1)) h6 _ e)) e fun _ h8 _ e => zx_retV hy rfl rfl e
def fW_stepLyndon_48 (N : Nat) : Nat → Nat → Int32 → Int32 → Int32 → Int32 → zH → Option (Unit × zH)
  | 0, _, _, _, _, _, _ => none
  | n + 1, l0, l1, l2, l4, l5, h => cond (z_cmp .ge l5 l1) (fW_stepLyndon_73 N  l0 l4 h) (b2 (fW_at N l0 l4 h) fun x3 h4 => cond (z_cmp .ne x3 l2) (fW_stepLyndon_73 N  l0 l4 h4) (fW_stepLyndon_48 N n  l0 l1 l2 (l4 + Int32.ofInt (-1)) (l5 + Int32.ofInt 1) h4))
theorem sfW_stepLyndon_48 {xs : List Int32} (N : Nat)   : ∀ (n : Nat) (l0 : Nat) (l1 : Int32) (l2 : Int32) (l4 : Int32) (l5 : Int32) (h : zH) (r : Unit × zH), fW_stepLyndon_48 N n  l0 l1 l2 l4 l5 h = some r → zt xs (1) 43 48 [(0, .ref l0), (1, .int l1), (2, .int l2), (4, .int l4), (5, .int l5)] [] h 0 0 (zQ cV r) := by
  have hy := mfW_stepLyndon
  intro n
  induction n with
  | zero =>
    intro l0 l1 l2 l4 l5 h r e
    rw [fW_stepLyndon_48] at e
    cases e
  | succ n ih =>
    intro l0 l1 l2 l4 l5 h r e
    rw [fW_stepLyndon_48] at e
    exact zl hy 2 (pc2 := 51) (lv2 := [(0, .ref l0), (1, .int l1), (2, .int l2), (4, .int l4), (5, .int l5)]) (st2 := [.int l1, .int l5]) rfl <| zx_c hy rfl e (fun _ e => zt_sub (z_fc rfl (z_fc rfl (z_fn))) <| sfW_stepLyndon_73 N   l0 l4 h _ e) (fun _ e => zl hy 2 (pc2 := 57) (lv2 := [(0, .ref l0), (1, .int l1), (2, .int l2), (4, .int l4), (5, .int l5)]) (st2 := [.int l4, .ref l0]) rfl <| zx_call hy (as := [.ref l0, .int l4]) (rest := []) (ov := (fun v => some (.int v))) (fun _ => rfl) rfl rfl (Or.inl rfl) rfl rfl (Nat.le_of_ble_eq_true rfl) (Nat.le_of_ble_eq_true rfl) (fun _ e _ => z_rcvT (rfW_at N l0 l4 h _ e)) (fun _ e => zt_deep (Nat.le_of_ble_eq_true rfl) (sfW_at N l0 l4 h _ e)) e fun x3 h4 _ e => zl hy 1 (pc2 := 61) (lv2 := [(0, .ref l0), (1, .int l1), (2, .int l2), (4, .int l4), (5, .int l5)]) (st2 := [.int l2, .int x3]) rfl <| zx_c hy rfl e (fun _ e => zt_sub (z_fc rfl (z_fc rfl (z_fn))) <| sfW_stepLyndon_73 N   l0 l4 h4 _ e) (fun _ e => zl hy 3 (pc2 := 48) (lv2 := [(5, .int (l5 + Int32.ofInt 1)), (4, .int (l4 + Int32.ofInt (-1))), (0, .ref l0), (1, .int l1), (2, .int l2)]) (st2 := []) rfl <| zt_sub (z_fc rfl (z_fc rfl (z_fc rfl (z_fc rfl (z_fc rfl (z_fn)))))) <| ih l0 l1 l2 (l4 + Int32.ofInt (-1)) (l5 + Int32.ofInt 1) h4 _ e))
def fW_stepLyndon_13 (N : Nat) : Nat → Nat → Int32 → Int32 → Int32 → Int32 → zH → Option (Unit × zH)
  | 0, _, _, _, _, _, _ => none
  | n + 1, l0, l1, l2, l3, l4, h => cond (z_cmp .ge l4 l1) (b1 (fI h l0 4 1) fun x2 => fW_stepLyndon_48 N N  l0 l1 l2 (x2 - (Int32.ofInt 1)) (Int32.ofInt 0) h) (b2 (fW_at N l0 (l4 - l3) h) fun x3 h4 => b2 (fW_add N l0 x3 h4) fun _ h6 => fW_stepLyndon_13 N n  l0 l1 l2 l3 (l4 + Int32.ofInt 1) h6)
theorem sfW_stepLyndon_13 {xs : List Int32} (N : Nat)   : ∀ (n : Nat) (l0 : Nat) (l1 : Int32) (l2 : Int32) (l3 : Int32) (l4 : Int32) (h : zH) (r : Unit × zH), fW_stepLyndon_13 N n  l0 l1 l2 l3 l4 h = some r → zt xs (1) 43 13 [(0, .ref l0), (1, .int l1), (2, .int l2), (3, .int l3), (4, .int l4)] [] h 0 0 (zQ cV r) := by
  have hy := mfW_stepLyndon
  intro n
  induction n with
  | zero =>
    intro l0 l1 l2 l3 l4 h r e
    rw [fW_stepLyndon_13] at e
    cases e
  | succ n ih =>
    intro l0 l1 l2 l3 l4 h r e
    rw [fW_stepLyndon_13] at e
    exact zl hy 2 (pc2 := 16) (lv2 := [(0, .ref l0), (1, .int l1), (2, .int l2), (3, .int l3), (4, .int l4)]) (st2 := [.int l1, .int l4]) rfl <| zx_c hy rfl e (fun _ e => zl hy 1 (pc2 := 38) (lv2 := [(0, .ref l0), (1, .int l1), (2, .int l2), (3, .int l3), (4, .int l4)]) (st2 := [.ref l0]) rfl <| zx_gI hy rfl e fun x2 _ e => zl hy 5 (pc2 := 48) (lv2 := [(5, .int (Int32.ofInt 0)), (4, .int (x2 - (Int32.ofInt 1))), (0, .ref l0), (1, .int l1), (2, .int l2), (3, .int l3)]) (st2 := []) rfl <| zt_sub (z_fc rfl (z_fc rfl (z_fc rfl (z_fc rfl (z_fc rfl (z_fn)))))) <| sfW_stepLyndon_48 N   N l0 l1 l2 (x2 - (Int32.ofInt 1)) (Int32.ofInt 0) h _ e) (fun _ e => zl hy 5 (pc2 := 25) (lv2 := [(0, .ref l0), (1, .int l1), (2, .int l2), (3, .int l3), (4, .int l4)]) (st2 := [.int (l4 - l3), .ref l0, .ref l0]) rfl <| zx_call hy (as := [.ref l0, .int (l4 - l3)]) (rest := [.ref l0]) (ov := (fun v => some (.int v))) (fun _ => rfl) rfl rfl (Or.inl rfl) rfl rfl (Nat.le_of_ble_eq_true rfl) (Nat.le_of_ble_eq_true rfl) (fun _ e _ => z_rcvT (rfW_at N l0 (l4 - l3) h _ e)) (fun _ e => zt_deep (Nat.le_of_ble_eq_true rfl) (sfW_at N l0 (l4 - l3) h _ e)) e fun x3 h4 _ e => zx_call hy (as := [.ref l0, .int x3]) (rest := []) (ov := (fun _ => none)) (fun _ => rfl) rfl rfl (Or.inl rfl) rfl rfl (Nat.le_of_ble_eq_true rfl) (Nat.le_of_ble_eq_true rfl) (fun _ e _ => z_rcvT (rfW_add N l0 x3 h4 _ e)) (fun _ e => zt_deep (Nat.le_of_ble_eq_true rfl) (sfW_add N l0 x3 h4 _ e)) e fun _ h6 _ e => zl hy 2 (pc2 := 13) (lv2 := [(4, .int (l4 + Int32.ofInt 1)), (0, .ref l0), (1, .int l1), (2, .int l2), (3, .int l3)]) (st2 := []) rfl <| zt_sub (z_fc rfl (z_fc rfl (z_fc rfl (z_fc rfl (z_fc rfl (z_fn)))))) <| ih l0 l1 l2 l3 (l4 + Int32.ofInt 1) h6 _ e)
def fW_stepLyndon (N : Nat) (l0 : Nat) (l1 : Int32) (l2 : Int32) (h : zH) : Option (Unit × zH) := cond (fT h l0 4) (b1 (fI h l0 4 1) fun x1 => cond (z_cmp .ne x1 (Int32.ofInt 0)) (fW_stepLyndon_13 N N  l0 l1 l2 x1 x1 h) (some ((), h))) none
theorem sfW_stepLyndon {xs : List Int32} (N : Nat) (l0 : Nat) (l1 : Int32) (l2 : Int32) (h : zH) (r : Unit × zH) (e : fW_stepLyndon N l0 l1 l2 h = some r) : zt xs (1) 43 0 [(0, .ref l0), (1, .int l1), (2, .int l2)] [] h 0 0 (zQ cV r) := by
  have hy := mfW_stepLyndon
  unfold fW_stepLyndon at e
  replace e := (cond_some e).2
  exact zl hy 1 (pc2 := 1) (lv2 := [(0, .ref l0), (1, .int l1), (2, .int l2)]) (st2 := [.ref l0]) rfl <| zx_gI hy rfl e fun x1 _ e => zl hy 2 (pc2 := 6) (lv2 := [(3, .int x1), (0, .ref l0), (1, .int l1), (2, .int l2)]) (st2 := [.int x1]) rfl <| zx_c0 hy rfl e (fun _ e => zl hy 2 (pc2 := 13) (lv2 := [(4, .int x1), (3, .int x1), (0, .ref l0), (1, .int l1), (2, .int l2)]) (st2 := []) rfl <| zt_sub (z_fc rfl (z_fc rfl (z_fc rfl (z_fc rfl (z_fc rfl (z_fn)))))) <| sfW_stepLyndon_13 N   N l0 l1 l2 x1 x1 h _ e) (fun _ e => zx_retV hy rfl rfl e)
theorem rfW_stepLyndon (N : Nat) (l0 : Nat) (l1 : Int32) (l2 : Int32) (h : zH) (r : Unit × zH) (e : fW_stepLyndon N l0 l1 l2 h = some r) : fT h l0 4 = true := by
  unfold fW_stepLyndon at e
  exact (cond_some e).1
/-- LyndonBench.setLetters(I)I -/
theorem mfB_setLetters : z_me 45 zc_45 3 [] (some .int) := ⟨rfl, rfl, rfl, rfl⟩
def fB_setLetters_11 (N : Nat)   (h : zH) : Option ((Int32 ⊕ Nat) × zH) := some (Sum.inr 0, h)
theorem sfB_setLetters_11 {xs : List Int32} (N : Nat)    (h : zH) (r : (Int32 ⊕ Nat) × zH) (e : fB_setLetters_11 N   h = some r) : zt xs (5) 45 11 [] [] h 0 0 (zQ (cX cI) r) := by
  have hy := mfB_setLetters
  unfold fB_setLetters_11 at e
  exact zx_thr hy rfl (Nat.le_of_ble_eq_true rfl) e
def fB_setLetters (N : Nat) (l0 : Nat) (l1 : Int32) (h : zH) : Option ((Int32 ⊕ Nat) × zH) := cond (fT h l0 0) (cond (z_cmp .lt l1 (Int32.ofInt 2)) (fB_setLetters_11 N   h) (cond (z_cmp .le l1 (Int32.ofInt 9)) (b1 (fR h l0 0 0) fun x1 => b2 (fS_fitsLetters N x1 l1 h) fun x2 h3 => cond (z_cmp .ne x2 (Int32.ofInt 0)) (b1 (fR h3 l0 0 1) fun x4 => b1 (fR h3 l0 0 0) fun x5 => b2 (fH_remember N x4 x5 h3) fun _ h7 => b1 (fR h7 l0 0 0) fun x8 => b1 (fI h7 x8 3 0) fun x9 => b1 (fR h7 l0 0 0) fun x10 => b1 (fS h7 x10 3 0 (.int l1)) fun h11 => some (Sum.inl x9, h11)) (some (Sum.inr 1, h3))) (fB_setLetters_11 N   h))) none
theorem sfB_setLetters {xs : List Int32} (N : Nat) (l0 : Nat) (l1 : Int32) (h : zH) (r : (Int32 ⊕ Nat) × zH) (e : fB_setLetters N l0 l1 h = some r) : zt xs (5) 45 0 [(0, .ref l0), (1, .int l1)] [] h 0 0 (zQ (cX cI) r) := by
  have hy := mfB_setLetters
  unfold fB_setLetters at e
  replace e := (cond_some e).2
  exact zl hy 2 (pc2 := 2) (lv2 := [(0, .ref l0), (1, .int l1)]) (st2 := [.int (Int32.ofInt 2), .int l1]) rfl <| zx_c hy rfl e (fun _ e => zt_sub (z_fn) <| sfB_setLetters_11 N    h _ e) (fun _ e => zl hy 1 (pc2 := 6) (lv2 := [(0, .ref l0), (1, .int l1)]) (st2 := [.int l1]) rfl <| zx_bip hy (c := 9) rfl (by decide) <| zx_c hy rfl e (fun _ e => zl hy 1 (pc2 := 22) (lv2 := [(0, .ref l0), (1, .int l1)]) (st2 := [.ref l0]) rfl <| zx_gR hy rfl e fun x1 _ e => zl hy 1 (pc2 := 26) (lv2 := [(0, .ref l0), (1, .int l1)]) (st2 := [.int l1, .ref x1]) rfl <| zx_call hy (as := [.ref x1, .int l1]) (rest := []) (ov := (fun v => some (.int v))) (fun _ => rfl) rfl rfl (Or.inl rfl) rfl rfl (Nat.le_of_ble_eq_true rfl) (Nat.le_of_ble_eq_true rfl) (fun _ e _ => z_rcvT (rfS_fitsLetters N x1 l1 h _ e)) (fun _ e => zt_deep (Nat.le_of_ble_eq_true rfl) (sfS_fitsLetters N x1 l1 h _ e)) e fun x2 h3 _ e => zx_c0 hy rfl e (fun _ e => zl hy 1 (pc2 := 43) (lv2 := [(0, .ref l0), (1, .int l1)]) (st2 := [.ref l0]) rfl <| zx_gR hy rfl e fun x4 _ e => zl hy 1 (pc2 := 47) (lv2 := [(0, .ref l0), (1, .int l1)]) (st2 := [.ref l0, .ref x4]) rfl <| zx_gR hy rfl e fun x5 _ e => zx_call hy (as := [.ref x4, .ref x5]) (rest := []) (ov := (fun _ => none)) (fun _ => rfl) rfl rfl (Or.inl rfl) rfl rfl (Nat.le_of_ble_eq_true rfl) (Nat.le_of_ble_eq_true rfl) (fun _ e _ => z_rcvT (rfH_remember N x4 x5 h3 _ e)) (fun _ e => zt_deep (Nat.le_of_ble_eq_true rfl) (sfH_remember N x4 x5 h3 _ e)) e fun _ h7 _ e => zl hy 1 (pc2 := 54) (lv2 := [(0, .ref l0), (1, .int l1)]) (st2 := [.ref l0]) rfl <| zx_gR hy rfl e fun x8 _ e => zx_gI hy rfl e fun x9 _ e => zl hy 2 (pc2 := 62) (lv2 := [(2, .int x9), (0, .ref l0), (1, .int l1)]) (st2 := [.ref l0]) rfl <| zx_gR hy rfl e fun x10 _ e => zl hy 1 (pc2 := 66) (lv2 := [(2, .int x9), (0, .ref l0), (1, .int l1)]) (st2 := [.int l1, .ref x10]) rfl <| zx_pf hy rfl e (rfl) fun h11 _ e => zl hy 1 (pc2 := 70) (lv2 := [(2, .int x9), (0, .ref l0), (1, .int l1)]) (st2 := [.int x9]) rfl <| zx_ret hy rfl rfl rfl rfl e) (fun _ e => zx_thr hy rfl (Nat.le_of_ble_eq_true rfl) e)) (fun _ e => zt_sub (z_fn) <| sfB_setLetters_11 N    h _ e))
theorem rfB_setLetters (N : Nat) (l0 : Nat) (l1 : Int32) (h : zH) (r : (Int32 ⊕ Nat) × zH) (e : fB_setLetters N l0 l1 h = some r) : fT h l0 0 = true := by
  unfold fB_setLetters at e
  exact (cond_some e).1
/-- LyndonBench.checkLetter(I)V -/
theorem mfB_checkLetter : z_me 73 zc_73 2 [] none := ⟨rfl, rfl, rfl, rfl⟩
def fB_checkLetter (N : Nat) (l0 : Nat) (l1 : Int32) (h : zH) : Option ((Unit ⊕ Nat) × zH) := cond (fT h l0 0) (b1 (fR h l0 0 0) fun x1 => b2 (fS_isLetter N x1 l1 h) fun x2 h3 => cond (z_cmp .ne x2 (Int32.ofInt 0)) (some (Sum.inl (), h3)) (some (Sum.inr 0, h3))) none
theorem sfB_checkLetter {xs : List Int32} (N : Nat) (l0 : Nat) (l1 : Int32) (h : zH) (r : (Unit ⊕ Nat) × zH) (e : fB_checkLetter N l0 l1 h = some r) : zt xs (1) 73 0 [(0, .ref l0), (1, .int l1)] [] h 0 0 (zQ (cX cV) r) := by
  have hy := mfB_checkLetter
  unfold fB_checkLetter at e
  replace e := (cond_some e).2
  exact zl hy 1 (pc2 := 1) (lv2 := [(0, .ref l0), (1, .int l1)]) (st2 := [.ref l0]) rfl <| zx_gR hy rfl e fun x1 _ e => zl hy 1 (pc2 := 5) (lv2 := [(0, .ref l0), (1, .int l1)]) (st2 := [.int l1, .ref x1]) rfl <| zx_call hy (as := [.ref x1, .int l1]) (rest := []) (ov := (fun v => some (.int v))) (fun _ => rfl) rfl rfl (Or.inl rfl) rfl rfl (Nat.le_of_ble_eq_true rfl) (Nat.le_of_ble_eq_true rfl) (fun _ e _ => z_rcvT (rfS_isLetter N x1 l1 h _ e)) (fun _ e => zt_deep (Nat.le_of_ble_eq_true rfl) (sfS_isLetter N x1 l1 h _ e)) e fun x2 h3 _ e => zx_c0 hy rfl e (fun _ e => zx_retVX hy rfl rfl e) (fun _ e => zx_thr hy rfl (Nat.le_of_ble_eq_true rfl) e)
theorem rfB_checkLetter (N : Nat) (l0 : Nat) (l1 : Int32) (h : zH) (r : (Unit ⊕ Nat) × zH) (e : fB_checkLetter N l0 l1 h = some r) : fT h l0 0 = true := by
  unfold fB_checkLetter at e
  exact (cond_some e).1
/-- LyndonBench.appendLetter(I)I -/
theorem mfB_appendLetter : z_me 46 zc_46 2 [] (some .int) := ⟨rfl, rfl, rfl, rfl⟩
def fB_appendLetter (N : Nat) (l0 : Nat) (l1 : Int32) (h : zH) : Option ((Int32 ⊕ Nat) × zH) := cond (fT h l0 0) (bX (fB_checkLetter N l0 l1 h) fun _ h2 => b1 (fR h2 l0 0 0) fun x3 => b1 (fR h2 x3 3 1) fun x4 => b1 (fI h2 x4 4 1) fun x5 => cond (z_cmp .lt x5 (Int32.ofInt 120)) (b1 (fR h2 l0 0 1) fun x6 => b1 (fR h2 l0 0 0) fun x7 => b2 (fH_remember N x6 x7 h2) fun _ h9 => b1 (fR h9 l0 0 0) fun x10 => b1 (fR h9 x10 3 1) fun x11 => b2 (fW_add N x11 l1 h9) fun _ h13 => b1 (fR h13 l0 0 0) fun x14 => b1 (fR h13 x14 3 1) fun x15 => b2 (fW_countFactors N x15 h13) fun x16 h17 => some (Sum.inl x16, h17)) (some (Sum.inr 1, h2))) none
theorem sfB_appendLetter {xs : List Int32} (N : Nat) (l0 : Nat) (l1 : Int32) (h : zH) (r : (Int32 ⊕ Nat) × zH) (e : fB_appendLetter N l0 l1 h = some r) : zt xs (5) 46 0 [(0, .ref l0), (1, .int l1)] [] h 0 0 (zQ (cX cI) r) := by
  have hy := mfB_appendLetter
  unfold fB_appendLetter at e
  replace e := (cond_some e).2
  exact zl hy 2 (pc2 := 2) (lv2 := [(0, .ref l0), (1, .int l1)]) (st2 := [.int l1, .ref l0]) rfl <| zx_callX hy (as := [.ref l0, .int l1]) (rest := []) (ov := (fun _ => none)) (fun _ => rfl) rfl rfl (Or.inl rfl) rfl rfl (Nat.le_of_ble_eq_true rfl) (Nat.le_of_ble_eq_true rfl) (fun _ e _ => z_rcvT (rfB_checkLetter N l0 l1 h _ e)) (fun _ e => zt_deep (Nat.le_of_ble_eq_true rfl) (sfB_checkLetter N l0 l1 h _ e)) e fun _ h2 _ e => zl hy 1 (pc2 := 6) (lv2 := [(0, .ref l0), (1, .int l1)]) (st2 := [.ref l0]) rfl <| zx_gR hy rfl e fun x3 _ e => zx_gR hy rfl e fun x4 _ e => zx_gI hy rfl e fun x5 _ e => zx_bip hy (c := 120) rfl (by decide) <| zx_c hy rfl e (fun _ e => zl hy 1 (pc2 := 31) (lv2 := [(0, .ref l0), (1, .int l1)]) (st2 := [.ref l0]) rfl <| zx_gR hy rfl e fun x6 _ e => zl hy 1 (pc2 := 35) (lv2 := [(0, .ref l0), (1, .int l1)]) (st2 := [.ref l0, .ref x6]) rfl <| zx_gR hy rfl e fun x7 _ e => zx_call hy (as := [.ref x6, .ref x7]) (rest := []) (ov := (fun _ => none)) (fun _ => rfl) rfl rfl (Or.inl rfl) rfl rfl (Nat.le_of_ble_eq_true rfl) (Nat.le_of_ble_eq_true rfl) (fun _ e _ => z_rcvT (rfH_remember N x6 x7 h2 _ e)) (fun _ e => zt_deep (Nat.le_of_ble_eq_true rfl) (sfH_remember N x6 x7 h2 _ e)) e fun _ h9 _ e => zl hy 1 (pc2 := 42) (lv2 := [(0, .ref l0), (1, .int l1)]) (st2 := [.ref l0]) rfl <| zx_gR hy rfl e fun x10 _ e => zx_gR hy rfl e fun x11 _ e => zl hy 1 (pc2 := 49) (lv2 := [(0, .ref l0), (1, .int l1)]) (st2 := [.int l1, .ref x11]) rfl <| zx_call hy (as := [.ref x11, .int l1]) (rest := []) (ov := (fun _ => none)) (fun _ => rfl) rfl rfl (Or.inl rfl) rfl rfl (Nat.le_of_ble_eq_true rfl) (Nat.le_of_ble_eq_true rfl) (fun _ e _ => z_rcvT (rfW_add N x11 l1 h9 _ e)) (fun _ e => zt_deep (Nat.le_of_ble_eq_true rfl) (sfW_add N x11 l1 h9 _ e)) e fun _ h13 _ e => zl hy 1 (pc2 := 53) (lv2 := [(0, .ref l0), (1, .int l1)]) (st2 := [.ref l0]) rfl <| zx_gR hy rfl e fun x14 _ e => zx_gR hy rfl e fun x15 _ e => zx_call hy (as := [.ref x15]) (rest := []) (ov := (fun v => some (.int v))) (fun _ => rfl) rfl rfl (Or.inl rfl) rfl rfl (Nat.le_of_ble_eq_true rfl) (Nat.le_of_ble_eq_true rfl) (fun _ e _ => z_rcvT (rfW_countFactors N x15 h13 _ e)) (fun _ e => zt_deep (Nat.le_of_ble_eq_true rfl) (sfW_countFactors N x15 h13 _ e)) e fun x16 h17 _ e => zx_ret hy rfl rfl rfl rfl e) (fun _ e => zx_thr hy rfl (Nat.le_of_ble_eq_true rfl) e)
theorem rfB_appendLetter (N : Nat) (l0 : Nat) (l1 : Int32) (h : zH) (r : (Int32 ⊕ Nat) × zH) (e : fB_appendLetter N l0 l1 h = some r) : fT h l0 0 = true := by
  unfold fB_appendLetter at e
  exact (cond_some e).1
/-- LyndonBench.checkCount(I)V -/
theorem mfB_checkCount : z_me 74 zc_74 2 [] none := ⟨rfl, rfl, rfl, rfl⟩
def fB_checkCount_18 (N : Nat)   (h : zH) : Option ((Unit ⊕ Nat) × zH) := some (Sum.inr 0, h)
theorem sfB_checkCount_18 {xs : List Int32} (N : Nat)    (h : zH) (r : (Unit ⊕ Nat) × zH) (e : fB_checkCount_18 N   h = some r) : zt xs (0) 74 18 [] [] h 0 0 (zQ (cX cV) r) := by
  have hy := mfB_checkCount
  unfold fB_checkCount_18 at e
  exact zx_thr hy rfl (Nat.le_of_ble_eq_true rfl) e
def fB_checkCount (N : Nat) (l0 : Nat) (l1 : Int32) (h : zH) : Option ((Unit ⊕ Nat) × zH) := cond (fT h l0 0) (cond (z_cmp .lt l1 (Int32.ofInt 0)) (fB_checkCount_18 N   h) (b1 (fR h l0 0 0) fun x1 => b1 (fR h x1 3 1) fun x2 => b1 (fI h x2 4 1) fun x3 => cond (z_cmp .le l1 x3) (some (Sum.inl (), h)) (fB_checkCount_18 N   h))) none
theorem sfB_checkCount {xs : List Int32} (N : Nat) (l0 : Nat) (l1 : Int32) (h : zH) (r : (Unit ⊕ Nat) × zH) (e : fB_checkCount N l0 l1 h = some r) : zt xs (0) 74 0 [(0, .ref l0), (1, .int l1)] [] h 0 0 (zQ (cX cV) r) := by
  have hy := mfB_checkCount
  unfold fB_checkCount at e
  replace e := (cond_some e).2
  exact zl hy 1 (pc2 := 1) (lv2 := [(0, .ref l0), (1, .int l1)]) (st2 := [.int l1]) rfl <| zx_c0 hy rfl e (fun _ e => zt_sub (z_fn) <| sfB_checkCount_18 N    h _ e) (fun _ e => zl hy 2 (pc2 := 6) (lv2 := [(0, .ref l0), (1, .int l1)]) (st2 := [.ref l0, .int l1]) rfl <| zx_gR hy rfl e fun x1 _ e => zx_gR hy rfl e fun x2 _ e => zx_gI hy rfl e fun x3 _ e => zx_c hy rfl e (fun _ e => zx_retVX hy rfl rfl e) (fun _ e => zt_sub (z_fn) <| sfB_checkCount_18 N    h _ e))
theorem rfB_checkCount (N : Nat) (l0 : Nat) (l1 : Int32) (h : zH) (r : (Unit ⊕ Nat) × zH) (e : fB_checkCount N l0 l1 h = some r) : fT h l0 0 = true := by
  unfold fB_checkCount at e
  exact (cond_some e).1
/-- LyndonBench.dropLast(I)I -/
theorem mfB_dropLast : z_me 47 zc_47 2 [] (some .int) := ⟨rfl, rfl, rfl, rfl⟩
def fB_dropLast (N : Nat) (l0 : Nat) (l1 : Int32) (h : zH) : Option ((Int32 ⊕ Nat) × zH) := cond (fT h l0 0) (bX (fB_checkCount N l0 l1 h) fun _ h2 => b1 (fR h2 l0 0 1) fun x3 => b1 (fR h2 l0 0 0) fun x4 => b2 (fH_remember N x3 x4 h2) fun _ h6 => b1 (fR h6 l0 0 0) fun x7 => b1 (fR h6 x7 3 1) fun x8 => b1 (fR h6 l0 0 0) fun x9 => b1 (fR h6 x9 3 1) fun x10 => b1 (fI h6 x10 4 1) fun x11 => b2 (fW_shortenTo N x8 (x11 - l1) h6) fun _ h13 => b1 (fR h13 l0 0 0) fun x14 => b1 (fR h13 x14 3 1) fun x15 => b2 (fW_countFactors N x15 h13) fun x16 h17 => some (Sum.inl x16, h17)) none
theorem sfB_dropLast {xs : List Int32} (N : Nat) (l0 : Nat) (l1 : Int32) (h : zH) (r : (Int32 ⊕ Nat) × zH) (e : fB_dropLast N l0 l1 h = some r) : zt xs (5) 47 0 [(0, .ref l0), (1, .int l1)] [] h 0 0 (zQ (cX cI) r) := by
  have hy := mfB_dropLast
  unfold fB_dropLast at e
  replace e := (cond_some e).2
  exact zl hy 2 (pc2 := 2) (lv2 := [(0, .ref l0), (1, .int l1)]) (st2 := [.int l1, .ref l0]) rfl <| zx_callX hy (as := [.ref l0, .int l1]) (rest := []) (ov := (fun _ => none)) (fun _ => rfl) rfl rfl (Or.inl rfl) rfl rfl (Nat.le_of_ble_eq_true rfl) (Nat.le_of_ble_eq_true rfl) (fun _ e _ => z_rcvT (rfB_checkCount N l0 l1 h _ e)) (fun _ e => zt_deep (Nat.le_of_ble_eq_true rfl) (sfB_checkCount N l0 l1 h _ e)) e fun _ h2 _ e => zl hy 1 (pc2 := 6) (lv2 := [(0, .ref l0), (1, .int l1)]) (st2 := [.ref l0]) rfl <| zx_gR hy rfl e fun x3 _ e => zl hy 1 (pc2 := 10) (lv2 := [(0, .ref l0), (1, .int l1)]) (st2 := [.ref l0, .ref x3]) rfl <| zx_gR hy rfl e fun x4 _ e => zx_call hy (as := [.ref x3, .ref x4]) (rest := []) (ov := (fun _ => none)) (fun _ => rfl) rfl rfl (Or.inl rfl) rfl rfl (Nat.le_of_ble_eq_true rfl) (Nat.le_of_ble_eq_true rfl) (fun _ e _ => z_rcvT (rfH_remember N x3 x4 h2 _ e)) (fun _ e => zt_deep (Nat.le_of_ble_eq_true rfl) (sfH_remember N x3 x4 h2 _ e)) e fun _ h6 _ e => zl hy 1 (pc2 := 17) (lv2 := [(0, .ref l0), (1, .int l1)]) (st2 := [.ref l0]) rfl <| zx_gR hy rfl e fun x7 _ e => zx_gR hy rfl e fun x8 _ e => zl hy 1 (pc2 := 24) (lv2 := [(0, .ref l0), (1, .int l1)]) (st2 := [.ref l0, .ref x8]) rfl <| zx_gR hy rfl e fun x9 _ e => zx_gR hy rfl e fun x10 _ e => zx_gI hy rfl e fun x11 _ e => zl hy 2 (pc2 := 35) (lv2 := [(0, .ref l0), (1, .int l1)]) (st2 := [.int (x11 - l1), .ref x8]) rfl <| zx_call hy (as := [.ref x8, .int (x11 - l1)]) (rest := []) (ov := (fun _ => none)) (fun _ => rfl) rfl rfl (Or.inl rfl) rfl rfl (Nat.le_of_ble_eq_true rfl) (Nat.le_of_ble_eq_true rfl) (fun _ e _ => z_rcvT (rfW_shortenTo N x8 (x11 - l1) h6 _ e)) (fun _ e => zt_deep (Nat.le_of_ble_eq_true rfl) (sfW_shortenTo N x8 (x11 - l1) h6 _ e)) e fun _ h13 _ e => zl hy 1 (pc2 := 39) (lv2 := [(0, .ref l0), (1, .int l1)]) (st2 := [.ref l0]) rfl <| zx_gR hy rfl e fun x14 _ e => zx_gR hy rfl e fun x15 _ e => zx_call hy (as := [.ref x15]) (rest := []) (ov := (fun v => some (.int v))) (fun _ => rfl) rfl rfl (Or.inl rfl) rfl rfl (Nat.le_of_ble_eq_true rfl) (Nat.le_of_ble_eq_true rfl) (fun _ e _ => z_rcvT (rfW_countFactors N x15 h13 _ e)) (fun _ e => zt_deep (Nat.le_of_ble_eq_true rfl) (sfW_countFactors N x15 h13 _ e)) e fun x16 h17 _ e => zx_ret hy rfl rfl rfl rfl e
theorem rfB_dropLast (N : Nat) (l0 : Nat) (l1 : Int32) (h : zH) (r : (Int32 ⊕ Nat) × zH) (e : fB_dropLast N l0 l1 h = some r) : fT h l0 0 = true := by
  unfold fB_dropLast at e
  exact (cond_some e).1
/-- LyndonBench.checkPart(II)V -/
theorem mfB_checkPart : z_me 75 zc_75 3 [] none := ⟨rfl, rfl, rfl, rfl⟩
def fB_checkPart_23 (N : Nat)   (h : zH) : Option ((Unit ⊕ Nat) × zH) := some (Sum.inr 0, h)
theorem sfB_checkPart_23 {xs : List Int32} (N : Nat)    (h : zH) (r : (Unit ⊕ Nat) × zH) (e : fB_checkPart_23 N   h = some r) : zt xs (0) 75 23 [] [] h 0 0 (zQ (cX cV) r) := by
  have hy := mfB_checkPart
  unfold fB_checkPart_23 at e
  exact zx_thr hy rfl (Nat.le_of_ble_eq_true rfl) e
def fB_checkPart (N : Nat) (l0 : Nat) (l1 : Int32) (l2 : Int32) (h : zH) : Option ((Unit ⊕ Nat) × zH) := cond (fT h l0 0) (cond (z_cmp .lt l1 (Int32.ofInt 0)) (fB_checkPart_23 N   h) (cond (z_cmp .lt l2 l1) (fB_checkPart_23 N   h) (b1 (fR h l0 0 0) fun x1 => b1 (fR h x1 3 1) fun x2 => b1 (fI h x2 4 1) fun x3 => cond (z_cmp .le l2 x3) (some (Sum.inl (), h)) (fB_checkPart_23 N   h)))) none
theorem sfB_checkPart {xs : List Int32} (N : Nat) (l0 : Nat) (l1 : Int32) (l2 : Int32) (h : zH) (r : (Unit ⊕ Nat) × zH) (e : fB_checkPart N l0 l1 l2 h = some r) : zt xs (0) 75 0 [(0, .ref l0), (1, .int l1), (2, .int l2)] [] h 0 0 (zQ (cX cV) r) := by
  have hy := mfB_checkPart
  unfold fB_checkPart at e
  replace e := (cond_some e).2
  exact zl hy 1 (pc2 := 1) (lv2 := [(0, .ref l0), (1, .int l1), (2, .int l2)]) (st2 := [.int l1]) rfl <| zx_c0 hy rfl e (fun _ e => zt_sub (z_fn) <| sfB_checkPart_23 N    h _ e) (fun _ e => zl hy 2 (pc2 := 6) (lv2 := [(0, .ref l0), (1, .int l1), (2, .int l2)]) (st2 := [.int l1, .int l2]) rfl <| zx_c hy rfl e (fun _ e => zt_sub (z_fn) <| sfB_checkPart_23 N    h _ e) (fun _ e => zl hy 2 (pc2 := 11) (lv2 := [(0, .ref l0), (1, .int l1), (2, .int l2)]) (st2 := [.ref l0, .int l2]) rfl <| zx_gR hy rfl e fun x1 _ e => zx_gR hy rfl e fun x2 _ e => zx_gI hy rfl e fun x3 _ e => zx_c hy rfl e (fun _ e => zx_retVX hy rfl rfl e) (fun _ e => zt_sub (z_fn) <| sfB_checkPart_23 N    h _ e)))
theorem rfB_checkPart (N : Nat) (l0 : Nat) (l1 : Int32) (l2 : Int32) (h : zH) (r : (Unit ⊕ Nat) × zH) (e : fB_checkPart N l0 l1 l2 h = some r) : fT h l0 0 = true := by
  unfold fB_checkPart at e
  exact (cond_some e).1
/-- LyndonBench.cutPart(II)I -/
theorem mfB_cutPart : z_me 48 zc_48 3 [] (some .int) := ⟨rfl, rfl, rfl, rfl⟩
def fB_cutPart (N : Nat) (l0 : Nat) (l1 : Int32) (l2 : Int32) (h : zH) : Option ((Int32 ⊕ Nat) × zH) := cond (fT h l0 0) (bX (fB_checkPart N l0 l1 l2 h) fun _ h2 => b1 (fR h2 l0 0 1) fun x3 => b1 (fR h2 l0 0 0) fun x4 => b2 (fH_remember N x3 x4 h2) fun _ h6 => b1 (fR h6 l0 0 0) fun x7 => b1 (fR h6 x7 3 1) fun x8 => b2 (fW_cutTo N x8 l1 l2 h6) fun _ h10 => b1 (fR h10 l0 0 0) fun x11 => b1 (fR h10 x11 3 1) fun x12 => b1 (fI h10 x12 4 1) fun x13 => some (Sum.inl x13, h10)) none
theorem sfB_cutPart {xs : List Int32} (N : Nat) (l0 : Nat) (l1 : Int32) (l2 : Int32) (h : zH) (r : (Int32 ⊕ Nat) × zH) (e : fB_cutPart N l0 l1 l2 h = some r) : zt xs (5) 48 0 [(0, .ref l0), (1, .int l1), (2, .int l2)] [] h 0 0 (zQ (cX cI) r) := by
  have hy := mfB_cutPart
  unfold fB_cutPart at e
  replace e := (cond_some e).2
  exact zl hy 3 (pc2 := 3) (lv2 := [(0, .ref l0), (1, .int l1), (2, .int l2)]) (st2 := [.int l2, .int l1, .ref l0]) rfl <| zx_callX hy (as := [.ref l0, .int l1, .int l2]) (rest := []) (ov := (fun _ => none)) (fun _ => rfl) rfl rfl (Or.inl rfl) rfl rfl (Nat.le_of_ble_eq_true rfl) (Nat.le_of_ble_eq_true rfl) (fun _ e _ => z_rcvT (rfB_checkPart N l0 l1 l2 h _ e)) (fun _ e => zt_deep (Nat.le_of_ble_eq_true rfl) (sfB_checkPart N l0 l1 l2 h _ e)) e fun _ h2 _ e => zl hy 1 (pc2 := 7) (lv2 := [(0, .ref l0), (1, .int l1), (2, .int l2)]) (st2 := [.ref l0]) rfl <| zx_gR hy rfl e fun x3 _ e => zl hy 1 (pc2 := 11) (lv2 := [(0, .ref l0), (1, .int l1), (2, .int l2)]) (st2 := [.ref l0, .ref x3]) rfl <| zx_gR hy rfl e fun x4 _ e => zx_call hy (as := [.ref x3, .ref x4]) (rest := []) (ov := (fun _ => none)) (fun _ => rfl) rfl rfl (Or.inl rfl) rfl rfl (Nat.le_of_ble_eq_true rfl) (Nat.le_of_ble_eq_true rfl) (fun _ e _ => z_rcvT (rfH_remember N x3 x4 h2 _ e)) (fun _ e => zt_deep (Nat.le_of_ble_eq_true rfl) (sfH_remember N x3 x4 h2 _ e)) e fun _ h6 _ e => zl hy 1 (pc2 := 18) (lv2 := [(0, .ref l0), (1, .int l1), (2, .int l2)]) (st2 := [.ref l0]) rfl <| zx_gR hy rfl e fun x7 _ e => zx_gR hy rfl e fun x8 _ e => zl hy 2 (pc2 := 26) (lv2 := [(0, .ref l0), (1, .int l1), (2, .int l2)]) (st2 := [.int l2, .int l1, .ref x8]) rfl <| zx_call hy (as := [.ref x8, .int l1, .int l2]) (rest := []) (ov := (fun _ => none)) (fun _ => rfl) rfl rfl (Or.inl rfl) rfl rfl (Nat.le_of_ble_eq_true rfl) (Nat.le_of_ble_eq_true rfl) (fun _ e _ => z_rcvT (rfW_cutTo N x8 l1 l2 h6 _ e)) (fun _ e => zt_deep (Nat.le_of_ble_eq_true rfl) (sfW_cutTo N x8 l1 l2 h6 _ e)) e fun _ h10 _ e => zl hy 1 (pc2 := 30) (lv2 := [(0, .ref l0), (1, .int l1), (2, .int l2)]) (st2 := [.ref l0]) rfl <| zx_gR hy rfl e fun x11 _ e => zx_gR hy rfl e fun x12 _ e => zx_gI hy rfl e fun x13 _ e => zx_ret hy rfl rfl rfl rfl e
theorem rfB_cutPart (N : Nat) (l0 : Nat) (l1 : Int32) (l2 : Int32) (h : zH) (r : (Int32 ⊕ Nat) × zH) (e : fB_cutPart N l0 l1 l2 h = some r) : fT h l0 0 = true := by
  unfold fB_cutPart at e
  exact (cond_some e).1
/-- LyndonBench.rotate(I)I -/
theorem mfB_rotate : z_me 49 zc_49 2 [] (some .int) := ⟨rfl, rfl, rfl, rfl⟩
def fB_rotate (N : Nat) (l0 : Nat) (l1 : Int32) (h : zH) : Option ((Int32 ⊕ Nat) × zH) := cond (fT h l0 0) (bX (fB_checkCount N l0 l1 h) fun _ h2 => b1 (fR h2 l0 0 1) fun x3 => b1 (fR h2 l0 0 0) fun x4 => b2 (fH_remember N x3 x4 h2) fun _ h6 => b1 (fR h6 l0 0 0) fun x7 => b1 (fR h6 x7 3 1) fun x8 => b2 (fW_turn N x8 l1 h6) fun _ h10 => b1 (fR h10 l0 0 0) fun x11 => b1 (fR h10 x11 3 1) fun x12 => b2 (fW_countFactors N x12 h10) fun x13 h14 => some (Sum.inl x13, h14)) none
theorem sfB_rotate {xs : List Int32} (N : Nat) (l0 : Nat) (l1 : Int32) (h : zH) (r : (Int32 ⊕ Nat) × zH) (e : fB_rotate N l0 l1 h = some r) : zt xs (5) 49 0 [(0, .ref l0), (1, .int l1)] [] h 0 0 (zQ (cX cI) r) := by
  have hy := mfB_rotate
  unfold fB_rotate at e
  replace e := (cond_some e).2
  exact zl hy 2 (pc2 := 2) (lv2 := [(0, .ref l0), (1, .int l1)]) (st2 := [.int l1, .ref l0]) rfl <| zx_callX hy (as := [.ref l0, .int l1]) (rest := []) (ov := (fun _ => none)) (fun _ => rfl) rfl rfl (Or.inl rfl) rfl rfl (Nat.le_of_ble_eq_true rfl) (Nat.le_of_ble_eq_true rfl) (fun _ e _ => z_rcvT (rfB_checkCount N l0 l1 h _ e)) (fun _ e => zt_deep (Nat.le_of_ble_eq_true rfl) (sfB_checkCount N l0 l1 h _ e)) e fun _ h2 _ e => zl hy 1 (pc2 := 6) (lv2 := [(0, .ref l0), (1, .int l1)]) (st2 := [.ref l0]) rfl <| zx_gR hy rfl e fun x3 _ e => zl hy 1 (pc2 := 10) (lv2 := [(0, .ref l0), (1, .int l1)]) (st2 := [.ref l0, .ref x3]) rfl <| zx_gR hy rfl e fun x4 _ e => zx_call hy (as := [.ref x3, .ref x4]) (rest := []) (ov := (fun _ => none)) (fun _ => rfl) rfl rfl (Or.inl rfl) rfl rfl (Nat.le_of_ble_eq_true rfl) (Nat.le_of_ble_eq_true rfl) (fun _ e _ => z_rcvT (rfH_remember N x3 x4 h2 _ e)) (fun _ e => zt_deep (Nat.le_of_ble_eq_true rfl) (sfH_remember N x3 x4 h2 _ e)) e fun _ h6 _ e => zl hy 1 (pc2 := 17) (lv2 := [(0, .ref l0), (1, .int l1)]) (st2 := [.ref l0]) rfl <| zx_gR hy rfl e fun x7 _ e => zx_gR hy rfl e fun x8 _ e => zl hy 1 (pc2 := 24) (lv2 := [(0, .ref l0), (1, .int l1)]) (st2 := [.int l1, .ref x8]) rfl <| zx_call hy (as := [.ref x8, .int l1]) (rest := []) (ov := (fun _ => none)) (fun _ => rfl) rfl rfl (Or.inl rfl) rfl rfl (Nat.le_of_ble_eq_true rfl) (Nat.le_of_ble_eq_true rfl) (fun _ e _ => z_rcvT (rfW_turn N x8 l1 h6 _ e)) (fun _ e => zt_deep (Nat.le_of_ble_eq_true rfl) (sfW_turn N x8 l1 h6 _ e)) e fun _ h10 _ e => zl hy 1 (pc2 := 28) (lv2 := [(0, .ref l0), (1, .int l1)]) (st2 := [.ref l0]) rfl <| zx_gR hy rfl e fun x11 _ e => zx_gR hy rfl e fun x12 _ e => zx_call hy (as := [.ref x12]) (rest := []) (ov := (fun v => some (.int v))) (fun _ => rfl) rfl rfl (Or.inl rfl) rfl rfl (Nat.le_of_ble_eq_true rfl) (Nat.le_of_ble_eq_true rfl) (fun _ e _ => z_rcvT (rfW_countFactors N x12 h10 _ e)) (fun _ e => zt_deep (Nat.le_of_ble_eq_true rfl) (sfW_countFactors N x12 h10 _ e)) e fun x13 h14 _ e => zx_ret hy rfl rfl rfl rfl e
theorem rfB_rotate (N : Nat) (l0 : Nat) (l1 : Int32) (h : zH) (r : (Int32 ⊕ Nat) × zH) (e : fB_rotate N l0 l1 h = some r) : fT h l0 0 = true := by
  unfold fB_rotate at e
  exact (cond_some e).1
/-- LyndonBench.reverse()I -/
theorem mfB_reverse : z_me 50 zc_50 1 [] (some .int) := ⟨rfl, rfl, rfl, rfl⟩
def fB_reverse (N : Nat) (l0 : Nat) (h : zH) : Option (Int32 × zH) := cond (fT h l0 0) (b1 (fR h l0 0 1) fun x1 => b1 (fR h l0 0 0) fun x2 => b2 (fH_remember N x1 x2 h) fun _ h4 => b1 (fR h4 l0 0 0) fun x5 => b1 (fR h4 x5 3 1) fun x6 => b1 (fR h4 l0 0 0) fun x7 => b1 (fR h4 x7 3 1) fun x8 => b1 (fI h4 x8 4 1) fun x9 => b2 (fW_mirror N x6 (Int32.ofInt 0) x9 h4) fun _ h11 => b1 (fR h11 l0 0 0) fun x12 => b1 (fR h11 x12 3 1) fun x13 => b2 (fW_countFactors N x13 h11) fun x14 h15 => some (x14, h15)) none
theorem sfB_reverse {xs : List Int32} (N : Nat) (l0 : Nat) (h : zH) (r : Int32 × zH) (e : fB_reverse N l0 h = some r) : zt xs (5) 50 0 [(0, .ref l0)] [] h 0 0 (zQ cI r) := by
  have hy := mfB_reverse
  unfold fB_reverse at e
  replace e := (cond_some e).2
  exact zl hy 1 (pc2 := 1) (lv2 := [(0, .ref l0)]) (st2 := [.ref l0]) rfl <| zx_gR hy rfl e fun x1 _ e => zl hy 1 (pc2 := 5) (lv2 := [(0, .ref l0)]) (st2 := [.ref l0, .ref x1]) rfl <| zx_gR hy rfl e fun x2 _ e => zx_call hy (as := [.ref x1, .ref x2]) (rest := []) (ov := (fun _ => none)) (fun _ => rfl) rfl rfl (Or.inl rfl) rfl rfl (Nat.le_of_ble_eq_true rfl) (Nat.le_of_ble_eq_true rfl) (fun _ e _ => z_rcvT (rfH_remember N x1 x2 h _ e)) (fun _ e => zt_deep (Nat.le_of_ble_eq_true rfl) (sfH_remember N x1 x2 h _ e)) e fun _ h4 _ e => zl hy 1 (pc2 := 12) (lv2 := [(0, .ref l0)]) (st2 := [.ref l0]) rfl <| zx_gR hy rfl e fun x5 _ e => zx_gR hy rfl e fun x6 _ e => zl hy 2 (pc2 := 20) (lv2 := [(0, .ref l0)]) (st2 := [.ref l0, .int (Int32.ofInt 0), .ref x6]) rfl <| zx_gR hy rfl e fun x7 _ e => zx_gR hy rfl e fun x8 _ e => zx_gI hy rfl e fun x9 _ e => zx_call hy (as := [.ref x6, .int (Int32.ofInt 0), .int x9]) (rest := []) (ov := (fun _ => none)) (fun _ => rfl) rfl rfl (Or.inl rfl) rfl rfl (Nat.le_of_ble_eq_true rfl) (Nat.le_of_ble_eq_true rfl) (fun _ e _ => z_rcvT (rfW_mirror N x6 (Int32.ofInt 0) x9 h4 _ e)) (fun _ e => zt_deep (Nat.le_of_ble_eq_true rfl) (sfW_mirror N x6 (Int32.ofInt 0) x9 h4 _ e)) e fun _ h11 _ e => zl hy 1 (pc2 := 33) (lv2 := [(0, .ref l0)]) (st2 := [.ref l0]) rfl <| zx_gR hy rfl e fun x12 _ e => zx_gR hy rfl e fun x13 _ e => zx_call hy (as := [.ref x13]) (rest := []) (ov := (fun v => some (.int v))) (fun _ => rfl) rfl rfl (Or.inl rfl) rfl rfl (Nat.le_of_ble_eq_true rfl) (Nat.le_of_ble_eq_true rfl) (fun _ e _ => z_rcvT (rfW_countFactors N x13 h11 _ e)) (fun _ e => zt_deep (Nat.le_of_ble_eq_true rfl) (sfW_countFactors N x13 h11 _ e)) e fun x14 h15 _ e => zx_ret hy rfl rfl rfl rfl e
theorem rfB_reverse (N : Nat) (l0 : Nat) (h : zH) (r : Int32 × zH) (e : fB_reverse N l0 h = some r) : fT h l0 0 = true := by
  unfold fB_reverse at e
  exact (cond_some e).1
/-- LyndonBench.rotateToLeast()I -/
theorem mfB_rotateToLeast : z_me 51 zc_51 2 [] (some .int) := ⟨rfl, rfl, rfl, rfl⟩
def fB_rotateToLeast (N : Nat) (l0 : Nat) (h : zH) : Option ((Int32 ⊕ Nat) × zH) := cond (fT h l0 0) (b1 (fR h l0 0 0) fun x1 => b1 (fR h x1 3 1) fun x2 => b1 (fI h x2 4 1) fun x3 => cond (z_cmp .ne x3 (Int32.ofInt 0)) (b1 (fR h l0 0 1) fun x4 => b1 (fR h l0 0 0) fun x5 => b2 (fH_remember N x4 x5 h) fun _ h7 => b1 (fR h7 l0 0 0) fun x8 => b1 (fR h7 x8 3 1) fun x9 => b2 (fW_leastTurn N x9 h7) fun x10 h11 => b1 (fR h11 l0 0 0) fun x12 => b1 (fR h11 x12 3 1) fun x13 => b2 (fW_turn N x13 x10 h11) fun _ h15 => some (Sum.inl x10, h15)) (some (Sum.inr 1, h))) none
theorem sfB_rotateToLeast {xs : List Int32} (N : Nat) (l0 : Nat) (h : zH) (r : (Int32 ⊕ Nat) × zH) (e : fB_rotateToLeast N l0 h = some r) : zt xs (5) 51 0 [(0, .ref l0)] [] h 0 0 (zQ (cX cI) r) := by
  have hy := mfB_rotateToLeast
  unfold fB_rotateToLeast at e
  replace e := (cond_some e).2
  exact zl hy 1 (pc2 := 1) (lv2 := [(0, .ref l0)]) (st2 := [.ref l0]) rfl <| zx_gR hy rfl e fun x1 _ e => zx_gR hy rfl e fun x2 _ e => zx_gI hy rfl e fun x3 _ e => zx_c0 hy rfl e (fun _ e => zl hy 1 (pc2 := 24) (lv2 := [(0, .ref l0)]) (st2 := [.ref l0]) rfl <| zx_gR hy rfl e fun x4 _ e => zl hy 1 (pc2 := 28) (lv2 := [(0, .ref l0)]) (st2 := [.ref l0, .ref x4]) rfl <| zx_gR hy rfl e fun x5 _ e => zx_call hy (as := [.ref x4, .ref x5]) (rest := []) (ov := (fun _ => none)) (fun _ => rfl) rfl rfl (Or.inl rfl) rfl rfl (Nat.le_of_ble_eq_true rfl) (Nat.le_of_ble_eq_true rfl) (fun _ e _ => z_rcvT (rfH_remember N x4 x5 h _ e)) (fun _ e => zt_deep (Nat.le_of_ble_eq_true rfl) (sfH_remember N x4 x5 h _ e)) e fun _ h7 _ e => zl hy 1 (pc2 := 35) (lv2 := [(0, .ref l0)]) (st2 := [.ref l0]) rfl <| zx_gR hy rfl e fun x8 _ e => zx_gR hy rfl e fun x9 _ e => zx_call hy (as := [.ref x9]) (rest := []) (ov := (fun v => some (.int v))) (fun _ => rfl) rfl rfl (Or.inl rfl) rfl rfl (Nat.le_of_ble_eq_true rfl) (Nat.le_of_ble_eq_true rfl) (fun _ e _ => z_rcvT (rfW_leastTurn N x9 h7 _ e)) (fun _ e => zt_deep (Nat.le_of_ble_eq_true rfl) (sfW_leastTurn N x9 h7 _ e)) e fun x10 h11 _ e => zl hy 2 (pc2 := 46) (lv2 := [(1, .int x10), (0, .ref l0)]) (st2 := [.ref l0]) rfl <| zx_gR hy rfl e fun x12 _ e => zx_gR hy rfl e fun x13 _ e => zl hy 1 (pc2 := 53) (lv2 := [(1, .int x10), (0, .ref l0)]) (st2 := [.int x10, .ref x13]) rfl <| zx_call hy (as := [.ref x13, .int x10]) (rest := []) (ov := (fun _ => none)) (fun _ => rfl) rfl rfl (Or.inl rfl) rfl rfl (Nat.le_of_ble_eq_true rfl) (Nat.le_of_ble_eq_true rfl) (fun _ e _ => z_rcvT (rfW_turn N x13 x10 h11 _ e)) (fun _ e => zt_deep (Nat.le_of_ble_eq_true rfl) (sfW_turn N x13 x10 h11 _ e)) e fun _ h15 _ e => zl hy 1 (pc2 := 57) (lv2 := [(1, .int x10), (0, .ref l0)]) (st2 := [.int x10]) rfl <| zx_ret hy rfl rfl rfl rfl e) (fun _ e => zx_thr hy rfl (Nat.le_of_ble_eq_true rfl) e)
theorem rfB_rotateToLeast (N : Nat) (l0 : Nat) (h : zH) (r : (Int32 ⊕ Nat) × zH) (e : fB_rotateToLeast N l0 h = some r) : fT h l0 0 = true := by
  unfold fB_rotateToLeast at e
  exact (cond_some e).1
/-- LyndonBench.nextLyndon(I)I -/
theorem mfB_nextLyndon : z_me 52 zc_52 2 [] (some .int) := ⟨rfl, rfl, rfl, rfl⟩
def fB_nextLyndon_11 (N : Nat)   (h : zH) : Option ((Int32 ⊕ Nat) × zH) := some (Sum.inr 0, h)
theorem sfB_nextLyndon_11 {xs : List Int32} (N : Nat)    (h : zH) (r : (Int32 ⊕ Nat) × zH) (e : fB_nextLyndon_11 N   h = some r) : zt xs (5) 52 11 [] [] h 0 0 (zQ (cX cI) r) := by
  have hy := mfB_nextLyndon
  unfold fB_nextLyndon_11 at e
  exact zx_thr hy rfl (Nat.le_of_ble_eq_true rfl) e
def fB_nextLyndon (N : Nat) (l0 : Nat) (l1 : Int32) (h : zH) : Option ((Int32 ⊕ Nat) × zH) := cond (fT h l0 0) (cond (z_cmp .lt l1 (Int32.ofInt 1)) (fB_nextLyndon_11 N   h) (cond (z_cmp .le l1 (Int32.ofInt 120)) (b1 (fR h l0 0 0) fun x1 => b2 (fS_hasNext N x1 l1 h) fun x2 h3 => cond (z_cmp .ne x2 (Int32.ofInt 0)) (b1 (fR h3 l0 0 1) fun x4 => b1 (fR h3 l0 0 0) fun x5 => b2 (fH_remember N x4 x5 h3) fun _ h7 => b1 (fR h7 l0 0 0) fun x8 => b1 (fR h7 x8 3 1) fun x9 => b1 (fR h7 l0 0 0) fun x10 => b2 (fS_greatestLetter N x10 h7) fun x11 h12 => b2 (fW_stepLyndon N x9 l1 x11 h12) fun _ h14 => b1 (fR h14 l0 0 0) fun x15 => b1 (fR h14 x15 3 1) fun x16 => b1 (fI h14 x16 4 1) fun x17 => some (Sum.inl x17, h14)) (some (Sum.inr 1, h3))) (fB_nextLyndon_11 N   h))) none
theorem sfB_nextLyndon {xs : List Int32} (N : Nat) (l0 : Nat) (l1 : Int32) (h : zH) (r : (Int32 ⊕ Nat) × zH) (e : fB_nextLyndon N l0 l1 h = some r) : zt xs (5) 52 0 [(0, .ref l0), (1, .int l1)] [] h 0 0 (zQ (cX cI) r) := by
  have hy := mfB_nextLyndon
  unfold fB_nextLyndon at e
  replace e := (cond_some e).2
  exact zl hy 2 (pc2 := 2) (lv2 := [(0, .ref l0), (1, .int l1)]) (st2 := [.int (Int32.ofInt 1), .int l1]) rfl <| zx_c hy rfl e (fun _ e => zt_sub (z_fn) <| sfB_nextLyndon_11 N    h _ e) (fun _ e => zl hy 1 (pc2 := 6) (lv2 := [(0, .ref l0), (1, .int l1)]) (st2 := [.int l1]) rfl <| zx_bip hy (c := 120) rfl (by decide) <| zx_c hy rfl e (fun _ e => zl hy 1 (pc2 := 22) (lv2 := [(0, .ref l0), (1, .int l1)]) (st2 := [.ref l0]) rfl <| zx_gR hy rfl e fun x1 _ e => zl hy 1 (pc2 := 26) (lv2 := [(0, .ref l0), (1, .int l1)]) (st2 := [.int l1, .ref x1]) rfl <| zx_call hy (as := [.ref x1, .int l1]) (rest := []) (ov := (fun v => some (.int v))) (fun _ => rfl) rfl rfl (Or.inl rfl) rfl rfl (Nat.le_of_ble_eq_true rfl) (Nat.le_of_ble_eq_true rfl) (fun _ e _ => z_rcvT (rfS_hasNext N x1 l1 h _ e)) (fun _ e => zt_deep (Nat.le_of_ble_eq_true rfl) (sfS_hasNext N x1 l1 h _ e)) e fun x2 h3 _ e => zx_c0 hy rfl e (fun _ e => zl hy 1 (pc2 := 43) (lv2 := [(0, .ref l0), (1, .int l1)]) (st2 := [.ref l0]) rfl <| zx_gR hy rfl e fun x4 _ e => zl hy 1 (pc2 := 47) (lv2 := [(0, .ref l0), (1, .int l1)]) (st2 := [.ref l0, .ref x4]) rfl <| zx_gR hy rfl e fun x5 _ e => zx_call hy (as := [.ref x4, .ref x5]) (rest := []) (ov := (fun _ => none)) (fun _ => rfl) rfl rfl (Or.inl rfl) rfl rfl (Nat.le_of_ble_eq_true rfl) (Nat.le_of_ble_eq_true rfl) (fun _ e _ => z_rcvT (rfH_remember N x4 x5 h3 _ e)) (fun _ e => zt_deep (Nat.le_of_ble_eq_true rfl) (sfH_remember N x4 x5 h3 _ e)) e fun _ h7 _ e => zl hy 1 (pc2 := 54) (lv2 := [(0, .ref l0), (1, .int l1)]) (st2 := [.ref l0]) rfl <| zx_gR hy rfl e fun x8 _ e => zx_gR hy rfl e fun x9 _ e => zl hy 2 (pc2 := 62) (lv2 := [(0, .ref l0), (1, .int l1)]) (st2 := [.ref l0, .int l1, .ref x9]) rfl <| zx_gR hy rfl e fun x10 _ e => zx_call hy (as := [.ref x10]) (rest := [.int l1, .ref x9]) (ov := (fun v => some (.int v))) (fun _ => rfl) rfl rfl (Or.inl rfl) rfl rfl (Nat.le_of_ble_eq_true rfl) (Nat.le_of_ble_eq_true rfl) (fun _ e _ => z_rcvT (rfS_greatestLetter N x10 h7 _ e)) (fun _ e => zt_deep (Nat.le_of_ble_eq_true rfl) (sfS_greatestLetter N x10 h7 _ e)) e fun x11 h12 _ e => zx_call hy (as := [.ref x9, .int l1, .int x11]) (rest := []) (ov := (fun _ => none)) (fun _ => rfl) rfl rfl (Or.inl rfl) rfl rfl (Nat.le_of_ble_eq_true rfl) (Nat.le_of_ble_eq_true rfl) (fun _ e _ => z_rcvT (rfW_stepLyndon N x9 l1 x11 h12 _ e)) (fun _ e => zt_deep (Nat.le_of_ble_eq_true rfl) (sfW_stepLyndon N x9 l1 x11 h12 _ e)) e fun _ h14 _ e => zl hy 1 (pc2 := 72) (lv2 := [(0, .ref l0), (1, .int l1)]) (st2 := [.ref l0]) rfl <| zx_gR hy rfl e fun x15 _ e => zx_gR hy rfl e fun x16 _ e => zx_gI hy rfl e fun x17 _ e => zx_ret hy rfl rfl rfl rfl e) (fun _ e => zx_thr hy rfl (Nat.le_of_ble_eq_true rfl) e)) (fun _ e => zt_sub (z_fn) <| sfB_nextLyndon_11 N    h _ e))
theorem rfB_nextLyndon (N : Nat) (l0 : Nat) (l1 : Int32) (h : zH) (r : (Int32 ⊕ Nat) × zH) (e : fB_nextLyndon N l0 l1 h = some r) : fT h l0 0 = true := by
  unfold fB_nextLyndon at e
  exact (cond_some e).1
/-- LyndonBench.checkedBegin(I)I -/
theorem mfB_checkedBegin : z_me 76 zc_76 3 [] (some .int) := ⟨rfl, rfl, rfl, rfl⟩
def fB_checkedBegin (N : Nat) (l0 : Nat) (l1 : Int32) (h : zH) : Option ((Int32 ⊕ Nat) × zH) := cond (fT h l0 0) (b1 (fR h l0 0 0) fun x1 => b1 (fR h x1 3 1) fun x2 => b2 (fW_beginOfFactor N x2 l1 h) fun x3 h4 => cond (z_cmp .ne x3 (Int32.ofInt (-1))) (some (Sum.inl x3, h4)) (some (Sum.inr 2, h4))) none
theorem sfB_checkedBegin {xs : List Int32} (N : Nat) (l0 : Nat) (l1 : Int32) (h : zH) (r : (Int32 ⊕ Nat) × zH) (e : fB_checkedBegin N l0 l1 h = some r) : zt xs (4) 76 0 [(0, .ref l0), (1, .int l1)] [] h 0 0 (zQ (cX cI) r) := by
  have hy := mfB_checkedBegin
  unfold fB_checkedBegin at e
  replace e := (cond_some e).2
  exact zl hy 1 (pc2 := 1) (lv2 := [(0, .ref l0), (1, .int l1)]) (st2 := [.ref l0]) rfl <| zx_gR hy rfl e fun x1 _ e => zx_gR hy rfl e fun x2 _ e => zl hy 1 (pc2 := 8) (lv2 := [(0, .ref l0), (1, .int l1)]) (st2 := [.int l1, .ref x2]) rfl <| zx_call hy (as := [.ref x2, .int l1]) (rest := []) (ov := (fun v => some (.int v))) (fun _ => rfl) rfl rfl (Or.inl rfl) rfl rfl (Nat.le_of_ble_eq_true rfl) (Nat.le_of_ble_eq_true rfl) (fun _ e _ => z_rcvT (rfW_beginOfFactor N x2 l1 h _ e)) (fun _ e => zt_deep (Nat.le_of_ble_eq_true rfl) (sfW_beginOfFactor N x2 l1 h _ e)) e fun x3 h4 _ e => zl hy 3 (pc2 := 14) (lv2 := [(2, .int x3), (0, .ref l0), (1, .int l1)]) (st2 := [.int (Int32.ofInt (-1)), .int x3]) rfl <| zx_c hy rfl e (fun _ e => zl hy 1 (pc2 := 29) (lv2 := [(2, .int x3), (0, .ref l0), (1, .int l1)]) (st2 := [.int x3]) rfl <| zx_ret hy rfl rfl rfl rfl e) (fun _ e => zx_thr hy rfl (Nat.le_of_ble_eq_true rfl) e)
theorem rfB_checkedBegin (N : Nat) (l0 : Nat) (l1 : Int32) (h : zH) (r : (Int32 ⊕ Nat) × zH) (e : fB_checkedBegin N l0 l1 h = some r) : fT h l0 0 = true := by
  unfold fB_checkedBegin at e
  exact (cond_some e).1
/-- LyndonBench.keepFactor(I)I -/
theorem mfB_keepFactor : z_me 53 zc_53 4 [] (some .int) := ⟨rfl, rfl, rfl, rfl⟩
def fB_keepFactor (N : Nat) (l0 : Nat) (l1 : Int32) (h : zH) : Option ((Int32 ⊕ Nat) × zH) := cond (fT h l0 0) (bX (fB_checkedBegin N l0 l1 h) fun x1 h2 => b1 (fR h2 l0 0 0) fun x3 => b1 (fR h2 x3 3 1) fun x4 => b2 (fW_lyndonEnd N x4 x1 h2) fun x5 h6 => b1 (fR h6 l0 0 0) fun x7 => b2 (fS_canKeep N x7 (x5 - x1) h6) fun x8 h9 => cond (z_cmp .ne x8 (Int32.ofInt 0)) (b1 (fR h9 l0 0 1) fun x10 => b1 (fR h9 l0 0 0) fun x11 => b2 (fH_remember N x10 x11 h9) fun _ h13 => b1 (fR h13 l0 0 0) fun x14 => b1 (fR h13 l0 0 0) fun x15 => b1 (fR h13 x15 3 1) fun x16 => b2 (fS_keep N x14 x16 x1 x5 h13) fun _ h18 => b1 (fR h18 l0 0 0) fun x19 => b1 (fI h18 x19 3 3) fun x20 => some (Sum.inl x20, h18)) (some (Sum.inr 1, h9))) none
theorem sfB_keepFactor {xs : List Int32} (N : Nat) (l0 : Nat) (l1 : Int32) (h : zH) (r : (Int32 ⊕ Nat) × zH) (e : fB_keepFactor N l0 l1 h = some r) : zt xs (5) 53 0 [(0, .ref l0), (1, .int l1)] [] h 0 0 (zQ (cX cI) r) := by
  have hy := mfB_keepFactor
  unfold fB_keepFactor at e
  replace e := (cond_some e).2
  exact zl hy 2 (pc2 := 2) (lv2 := [(0, .ref l0), (1, .int l1)]) (st2 := [.int l1, .ref l0]) rfl <| zx_callX hy (as := [.ref l0, .int l1]) (rest := []) (ov := (fun v => some (.int v))) (fun _ => rfl) rfl rfl (Or.inl rfl) rfl rfl (Nat.le_of_ble_eq_true rfl) (Nat.le_of_ble_eq_true rfl) (fun _ e _ => z_rcvT (rfB_checkedBegin N l0 l1 h _ e)) (fun _ e => zt_deep (Nat.le_of_ble_eq_true rfl) (sfB_checkedBegin N l0 l1 h _ e)) e fun x1 h2 _ e => zl hy 2 (pc2 := 7) (lv2 := [(2, .int x1), (0, .ref l0), (1, .int l1)]) (st2 := [.ref l0]) rfl <| zx_gR hy rfl e fun x3 _ e => zx_gR hy rfl e fun x4 _ e => zl hy 1 (pc2 := 14) (lv2 := [(2, .int x1), (0, .ref l0), (1, .int l1)]) (st2 := [.int x1, .ref x4]) rfl <| zx_call hy (as := [.ref x4, .int x1]) (rest := []) (ov := (fun v => some (.int v))) (fun _ => rfl) rfl rfl (Or.inl rfl) rfl rfl (Nat.le_of_ble_eq_true rfl) (Nat.le_of_ble_eq_true rfl) (fun _ e _ => z_rcvT (rfW_lyndonEnd N x4 x1 h2 _ e)) (fun _ e => zt_deep (Nat.le_of_ble_eq_true rfl) (sfW_lyndonEnd N x4 x1 h2 _ e)) e fun x5 h6 _ e => zl hy 2 (pc2 := 19) (lv2 := [(3, .int x5), (2, .int x1), (0, .ref l0), (1, .int l1)]) (st2 := [.ref l0]) rfl <| zx_gR hy rfl e fun x7 _ e => zl hy 3 (pc2 := 25) (lv2 := [(3, .int x5), (2, .int x1), (0, .ref l0), (1, .int l1)]) (st2 := [.int (x5 - x1), .ref x7]) rfl <| zx_call hy (as := [.ref x7, .int (x5 - x1)]) (rest := []) (ov := (fun v => some (.int v))) (fun _ => rfl) rfl rfl (Or.inl rfl) rfl rfl (Nat.le_of_ble_eq_true rfl) (Nat.le_of_ble_eq_true rfl) (fun _ e _ => z_rcvT (rfS_canKeep N x7 (x5 - x1) h6 _ e)) (fun _ e => zt_deep (Nat.le_of_ble_eq_true rfl) (sfS_canKeep N x7 (x5 - x1) h6 _ e)) e fun x8 h9 _ e => zx_c0 hy rfl e (fun _ e => zl hy 1 (pc2 := 42) (lv2 := [(3, .int x5), (2, .int x1), (0, .ref l0), (1, .int l1)]) (st2 := [.ref l0]) rfl <| zx_gR hy rfl e fun x10 _ e => zl hy 1 (pc2 := 46) (lv2 := [(3, .int x5), (2, .int x1), (0, .ref l0), (1, .int l1)]) (st2 := [.ref l0, .ref x10]) rfl <| zx_gR hy rfl e fun x11 _ e => zx_call hy (as := [.ref x10, .ref x11]) (rest := []) (ov := (fun _ => none)) (fun _ => rfl) rfl rfl (Or.inl rfl) rfl rfl (Nat.le_of_ble_eq_true rfl) (Nat.le_of_ble_eq_true rfl) (fun _ e _ => z_rcvT (rfH_remember N x10 x11 h9 _ e)) (fun _ e => zt_deep (Nat.le_of_ble_eq_true rfl) (sfH_remember N x10 x11 h9 _ e)) e fun _ h13 _ e => zl hy 1 (pc2 := 53) (lv2 := [(3, .int x5), (2, .int x1), (0, .ref l0), (1, .int l1)]) (st2 := [.ref l0]) rfl <| zx_gR hy rfl e fun x14 _ e => zl hy 1 (pc2 := 57) (lv2 := [(3, .int x5), (2, .int x1), (0, .ref l0), (1, .int l1)]) (st2 := [.ref l0, .ref x14]) rfl <| zx_gR hy rfl e fun x15 _ e => zx_gR hy rfl e fun x16 _ e => zl hy 2 (pc2 := 65) (lv2 := [(3, .int x5), (2, .int x1), (0, .ref l0), (1, .int l1)]) (st2 := [.int x5, .int x1, .ref x16, .ref x14]) rfl <| zx_call hy (as := [.ref x14, .ref x16, .int x1, .int x5]) (rest := []) (ov := (fun _ => none)) (fun _ => rfl) rfl rfl (Or.inl rfl) rfl rfl (Nat.le_of_ble_eq_true rfl) (Nat.le_of_ble_eq_true rfl) (fun _ e _ => z_rcvT (rfS_keep N x14 x16 x1 x5 h13 _ e)) (fun _ e => zt_deep (Nat.le_of_ble_eq_true rfl) (sfS_keep N x14 x16 x1 x5 h13 _ e)) e fun _ h18 _ e => zl hy 1 (pc2 := 69) (lv2 := [(3, .int x5), (2, .int x1), (0, .ref l0), (1, .int l1)]) (st2 := [.ref l0]) rfl <| zx_gR hy rfl e fun x19 _ e => zx_gI hy rfl e fun x20 _ e => zx_ret hy rfl rfl rfl rfl e) (fun _ e => zx_thr hy rfl (Nat.le_of_ble_eq_true rfl) e)
theorem rfB_keepFactor (N : Nat) (l0 : Nat) (l1 : Int32) (h : zH) (r : (Int32 ⊕ Nat) × zH) (e : fB_keepFactor N l0 l1 h = some r) : fT h l0 0 = true := by
  unfold fB_keepFactor at e
  exact (cond_some e).1
/-- LyndonBench.keepText()I -/
theorem mfB_keepText : z_me 54 zc_54 1 [] (some .int) := ⟨rfl, rfl, rfl, rfl⟩
def fB_keepText (N : Nat) (l0 : Nat) (h : zH) : Option ((Int32 ⊕ Nat) × zH) := cond (fT h l0 0) (b1 (fR h l0 0 0) fun x1 => b1 (fR h l0 0 0) fun x2 => b1 (fR h x2 3 1) fun x3 => b1 (fI h x3 4 1) fun x4 => b2 (fS_canKeep N x1 x4 h) fun x5 h6 => cond (z_cmp .ne x5 (Int32.ofInt 0)) (b1 (fR h6 l0 0 1) fun x7 => b1 (fR h6 l0 0 0) fun x8 => b2 (fH_remember N x7 x8 h6) fun _ h10 => b1 (fR h10 l0 0 0) fun x11 => b1 (fR h10 l0 0 0) fun x12 => b1 (fR h10 x12 3 1) fun x13 => b1 (fR h10 l0 0 0) fun x14 => b1 (fR h10 x14 3 1) fun x15 => b1 (fI h10 x15 4 1) fun x16 => b2 (fS_keep N x11 x13 (Int32.ofInt 0) x16 h10) fun _ h18 => b1 (fR h18 l0 0 0) fun x19 => b1 (fI h18 x19 3 3) fun x20 => some (Sum.inl x20, h18)) (some (Sum.inr 1, h6))) none
theorem sfB_keepText {xs : List Int32} (N : Nat) (l0 : Nat) (h : zH) (r : (Int32 ⊕ Nat) × zH) (e : fB_keepText N l0 h = some r) : zt xs (5) 54 0 [(0, .ref l0)] [] h 0 0 (zQ (cX cI) r) := by
  have hy := mfB_keepText
  unfold fB_keepText at e
  replace e := (cond_some e).2
  exact zl hy 1 (pc2 := 1) (lv2 := [(0, .ref l0)]) (st2 := [.ref l0]) rfl <| zx_gR hy rfl e fun x1 _ e => zl hy 1 (pc2 := 5) (lv2 := [(0, .ref l0)]) (st2 := [.ref l0, .ref x1]) rfl <| zx_gR hy rfl e fun x2 _ e => zx_gR hy rfl e fun x3 _ e => zx_gI hy rfl e fun x4 _ e => zx_call hy (as := [.ref x1, .int x4]) (rest := []) (ov := (fun v => some (.int v))) (fun _ => rfl) rfl rfl (Or.inl rfl) rfl rfl (Nat.le_of_ble_eq_true rfl) (Nat.le_of_ble_eq_true rfl) (fun _ e _ => z_rcvT (rfS_canKeep N x1 x4 h _ e)) (fun _ e => zt_deep (Nat.le_of_ble_eq_true rfl) (sfS_canKeep N x1 x4 h _ e)) e fun x5 h6 _ e => zx_c0 hy rfl e (fun _ e => zl hy 1 (pc2 := 31) (lv2 := [(0, .ref l0)]) (st2 := [.ref l0]) rfl <| zx_gR hy rfl e fun x7 _ e => zl hy 1 (pc2 := 35) (lv2 := [(0, .ref l0)]) (st2 := [.ref l0, .ref x7]) rfl <| zx_gR hy rfl e fun x8 _ e => zx_call hy (as := [.ref x7, .ref x8]) (rest := []) (ov := (fun _ => none)) (fun _ => rfl) rfl rfl (Or.inl rfl) rfl rfl (Nat.le_of_ble_eq_true rfl) (Nat.le_of_ble_eq_true rfl) (fun _ e _ => z_rcvT (rfH_remember N x7 x8 h6 _ e)) (fun _ e => zt_deep (Nat.le_of_ble_eq_true rfl) (sfH_remember N x7 x8 h6 _ e)) e fun _ h10 _ e => zl hy 1 (pc2 := 42) (lv2 := [(0, .ref l0)]) (st2 := [.ref l0]) rfl <| zx_gR hy rfl e fun x11 _ e => zl hy 1 (pc2 := 46) (lv2 := [(0, .ref l0)]) (st2 := [.ref l0, .ref x11]) rfl <| zx_gR hy rfl e fun x12 _ e => zx_gR hy rfl e fun x13 _ e => zl hy 2 (pc2 := 54) (lv2 := [(0, .ref l0)]) (st2 := [.ref l0, .int (Int32.ofInt 0), .ref x13, .ref x11]) rfl <| zx_gR hy rfl e fun x14 _ e => zx_gR hy rfl e fun x15 _ e => zx_gI hy rfl e fun x16 _ e => zx_call hy (as := [.ref x11, .ref x13, .int (Int32.ofInt 0), .int x16]) (rest := []) (ov := (fun _ => none)) (fun _ => rfl) rfl rfl (Or.inl rfl) rfl rfl (Nat.le_of_ble_eq_true rfl) (Nat.le_of_ble_eq_true rfl) (fun _ e _ => z_rcvT (rfS_keep N x11 x13 (Int32.ofInt 0) x16 h10 _ e)) (fun _ e => zt_deep (Nat.le_of_ble_eq_true rfl) (sfS_keep N x11 x13 (Int32.ofInt 0) x16 h10 _ e)) e fun _ h18 _ e => zl hy 1 (pc2 := 67) (lv2 := [(0, .ref l0)]) (st2 := [.ref l0]) rfl <| zx_gR hy rfl e fun x19 _ e => zx_gI hy rfl e fun x20 _ e => zx_ret hy rfl rfl rfl rfl e) (fun _ e => zx_thr hy rfl (Nat.le_of_ble_eq_true rfl) e)
theorem rfB_keepText (N : Nat) (l0 : Nat) (h : zH) (r : (Int32 ⊕ Nat) × zH) (e : fB_keepText N l0 h = some r) : fT h l0 0 = true := by
  unfold fB_keepText at e
  exact (cond_some e).1
